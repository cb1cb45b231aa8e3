/-! Float.floatToIntBits, by hand -/
theorem dJxf58ca_isNaN_12338_0 : decode cJxf58ca_isNaN_12338 0 = .ok (.fload_n 0, 1) := by decide +kernel
theorem dJxf58ca_isNaN_12338_1 : decode cJxf58ca_isNaN_12338 1 = .ok (.fload_n 0, 1) := by decide +kernel
theorem dJxf58ca_isNaN_12338_2 : decode cJxf58ca_isNaN_12338 2 = .ok (.fcmp .l, 1) := by decide +kernel
theorem dJxf58ca_isNaN_12338_3 : decode cJxf58ca_isNaN_12338 3 = .ok (.ifCond .eq 7, 3) := by decide +kernel
theorem dJxf58ca_isNaN_12338_6 : decode cJxf58ca_isNaN_12338 6 = .ok (.iconst 1, 1) := by decide +kernel
theorem dJxf58ca_isNaN_12338_7 : decode cJxf58ca_isNaN_12338 7 = .ok (.goto 4, 3) := by decide +kernel
theorem dJxf58ca_isNaN_12338_10 : decode cJxf58ca_isNaN_12338 10 = .ok (.iconst 0, 1) := by decide +kernel
theorem dJxf58ca_isNaN_12338_11 : decode cJxf58ca_isNaN_12338 11 = .ok (.ireturn, 1) := by decide +kernel
theorem ggJxf58ca_floatToIntBits_5c35a_Jxf58ca_isNaN_12338 : GoodIn wsJxf58ca_floatToIntBits_5c35a wsJxf58ca_isNaN_12338 := goodIn_r _ [9] (by decide +kernel) (by decide +kernel)
theorem gJxf58ca_floatToIntBits_5c35a_Jxf58ca_isNaN_12338 : GoodIn wsJxf58ca_floatToIntBits_5c35a (va_wsS RJxf58ca 59 yJxf58ca_isNaN_12338 wsJxf58ca_isNaN_12338) := goodIn_app (goodIn_of _ (by decide +kernel)) ggJxf58ca_floatToIntBits_5c35a_Jxf58ca_isNaN_12338
theorem dJxf58ca_floatToIntBits_5c35a_0 : decode cJxf58ca_floatToIntBits_5c35a 0 = .ok (.fload_n 0, 1) := by decide +kernel
theorem dJxf58ca_floatToIntBits_5c35a_1 : decode cJxf58ca_floatToIntBits_5c35a 1 = .ok (.invokestatic 59, 3) := by decide +kernel
theorem dJxf58ca_floatToIntBits_5c35a_4 : decode cJxf58ca_floatToIntBits_5c35a 4 = .ok (.ifCond .ne 8, 3) := by decide +kernel
theorem dJxf58ca_floatToIntBits_5c35a_7 : decode cJxf58ca_floatToIntBits_5c35a 7 = .ok (.fload_n 0, 1) := by decide +kernel
theorem dJxf58ca_floatToIntBits_5c35a_8 : decode cJxf58ca_floatToIntBits_5c35a 8 = .ok (.invokestatic 74, 3) := by decide +kernel
theorem dJxf58ca_floatToIntBits_5c35a_11 : decode cJxf58ca_floatToIntBits_5c35a 11 = .ok (.ireturn, 1) := by decide +kernel
theorem dJxf58ca_floatToIntBits_5c35a_12 : decode cJxf58ca_floatToIntBits_5c35a 12 = .ok (.ldc 77, 2) := by decide +kernel
theorem dJxf58ca_floatToIntBits_5c35a_14 : decode cJxf58ca_floatToIntBits_5c35a 14 = .ok (.ireturn, 1) := by decide +kernel
/-- x_met for a method of a class some of whose methods are run otherwise -/
theorem x_metF {l : Launch} {y : MethodName} {ws ws' : List Cond} {rm : Room} {g : GT} {w : WT} {av : List Value} {Qc : Array Value → State → Outcome → State → Prop} {mc ms : Nat} {cc : ByteArray} {maxL : Nat} {ret : Option FieldType} (hy : plainFor y = true) (hw : ws = Cond.code y cc maxL ret :: ws') (hlen : (lg_sl av).length ≤ maxL)
    (body : ∀ (p : Program) (e : Env) (s : State) (m : MethodId) (below : List Frame) (meth : Method) (c : Code), p.tables.exec = Jvm.exec → c.code = cc → meth.sig.returnType = ret → c.maxLocals = maxL → (∀ w ∈ ws, w.before av.toArray s = true) → s.vm.findClass y.cls = some m.cls → meth.locks = false → wK g s → World g w s.heap → va_S (gA g) s.heap s.heap [] → ∀ ls : Array Slot, lv_has ls maxL (lv_args 0 av) → W p l e rm s m av.toArray below meth c s.heap [] 0 0 (MQ below Qc av.toArray s mc ms (gA g)) (F0 m 0 ls [])) : Met l y ws rm (cPre g w av) Qc mc ms (gA g) := by
  refine va_MetF (cc := cc) (maxL := maxL) (ret := ret) hy hw ?_
  intro p e s m args below meth c s₁ B hml hv
  obtain ⟨rfl, hK, hW⟩ := hv
  have hl := lv_entry av hlen
  rw [lg_entry_eq]
  generalize (lg_sl av ++ List.replicate (maxL - (lg_sl av).length) Slot.unset).toArray = ls at hl ⊢
  exact body p e s m below meth c B.exec B.bytes B.returns hml (atoms_spec (ws := ws) B.pre) (findClass_of_methodNamed B.named) B.notSynchronized hK hW va_S.rf ls hl
abbrev rm_isNaN : Room := { frames := 0, cells := 0, slots := 0, locals := 0 }
abbrev rm_fbits : Room := { frames := 1, cells := 0, slots := 0, locals := 40 }
set_option maxRecDepth 100000 in
set_option maxHeartbeats 4000000 in
theorem ct_isNaN (l : Launch) (g : GT) (w : WT) (x : UInt32) (h : FP.fcmp x x = some .eq) : Met l yJxf58ca_isNaN_12338 wsJxf58ca_isNaN_12338 rm_isNaN (cPre g w [.float x]) (cQi g 0 w) 0 0 (gA g) := by
  refine x_metF (by decide +kernel) rfl (Nat.le_of_ble_eq_true rfl) ?_
  intro p e s m below meth c hx hb hr hml hts hown hlocks hK hW hS ls hl
  have hl : lv_has ls 1 [(0, .float x)] := hl
  refine lv_fload_n hx hb dJxf58ca_isNaN_12338_0 rfl (lv_at hl 0 rfl) ?_
  refine lv_fload_n hx hb dJxf58ca_isNaN_12338_1 rfl (lv_at hl 0 rfl) ?_
  refine lv_fcmp hx hb dJxf58ca_isNaN_12338_2 ?_
  rw [h]
  refine lv_if_eq (tgt := 10) hx hb dJxf58ca_isNaN_12338_3 (by decide) (fun hc => ?_) (fun hc => ?_)
  · refine lv_iconst (v := 0) hx hb dJxf58ca_isNaN_12338_10 (by decide) ?_
    exact x_zret hx hb hr hlocks hK hW hS (Or.inl rfl) rfl dJxf58ca_isNaN_12338_11
  · exact absurd rfl hc
set_option maxRecDepth 100000 in
set_option maxHeartbeats 4000000 in
theorem ct_fbits (l : Launch) (g : GT) (w : WT) (x : UInt32) (h : FP.fcmp x x = some .eq) {q : Int32} (he : q = fbits x) : Met l yJxf58ca_floatToIntBits_5c35a wsJxf58ca_floatToIntBits_5c35a rm_fbits (cPre g w [.float x]) (cQi g q w) 0 0 (gA g) := by
  refine x_metF (by decide +kernel) rfl (Nat.le_of_ble_eq_true rfl) ?_
  intro p e s m below meth c hx hb hr hml hts hown hlocks hK hW hS ls hl
  have hown : s.vm.findClass RJxf58ca = some m.cls := hown
  have hl : lv_has ls 1 [(0, .float x)] := hl
  refine lv_fload_n hx hb dJxf58ca_floatToIntBits_5c35a_0 rfl (lv_at hl 0 rfl) ?_
  refine x_ci0 (x_rS ⟨hx, hb, hml, hown, hts⟩ (ct_isNaN l g w x h) (va_cwS 1 hts gJxf58ca_floatToIntBits_5c35a_Jxf58ca_isNaN_12338 rfl rfl rfl (by decide +kernel) ⟨Nat.le_of_ble_eq_true rfl, Nat.le_of_ble_eq_true rfl⟩) hK hW hS rfl hl.1 (rest := []) rfl (Nat.le_of_ble_eq_true rfl) dJxf58ca_floatToIntBits_5c35a_1 ⟨Nat.le_of_ble_eq_true rfl, Nat.le_of_ble_eq_true rfl⟩) hS (fun H locs hW hS => ?_)
  refine lv_if_ne (tgt := 12) hx hb dJxf58ca_floatToIntBits_5c35a_4 (by decide) (fun hc => ?_) (fun hc => ?_)
  · exact absurd rfl hc
  · refine lv_fload_n hx hb dJxf58ca_floatToIntBits_5c35a_7 rfl (lv_at hl 0 rfl) ?_
    refine vn_f2i hx hb (hml.trans hl.1.symm) hown (hts (.methodLink RJxf58ca 74 ⟨"java/lang/Float", "floatToRawIntBits", "(F)I"⟩) (by decide +kernel)) (hts (.native ⟨"java/lang/Float", "floatToRawIntBits", "(F)I"⟩) (by decide +kernel)) (hts (.static ⟨"java/lang/Float", "floatToRawIntBits", "(F)I"⟩) (by decide +kernel)) (hts (.initialized "java/lang/Float") (by decide +kernel)) (Nat.le_of_ble_eq_true rfl) (Nat.le_of_ble_eq_true rfl) dJxf58ca_floatToIntBits_5c35a_8 ?_
    subst he
    exact x_iret hx hb hr hlocks hK hW hS rfl dJxf58ca_floatToIntBits_5c35a_11
