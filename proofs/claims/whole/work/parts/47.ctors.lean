/-! constructors: lists of cells, with the heap's size -/
abbrev rB (a z : Nat) : Nat → Prop := fun q => q = a ∨ z ≤ q
theorem va_S_wk {A B : Nat → Prop} {H0 H : Heap} {locs : List Loc} (h : va_S A H0 H locs) (hAB : ∀ q, A q → B q) : va_S B H0 H locs := ⟨h.1, fun q h1 h2 => h.2.1 q h1 (fun x => h2 (hAB q x)), fun l hl => hAB _ (h.2.2 l hl)⟩
theorem rB_g {g : GT} {a z : Nat} (ha : g.1 ≤ a) (hz : a < z) : ∀ q, rB a z q → gA g q := by
  intro q h
  rcases h with rfl | h
  · exact ha
  · show g.1 ≤ q
    omega
abbrev rPre (g : GT) (H0 : Heap) (av : List Value) : Array Value → State → Prop := va_Pc av (fun U => wK g U ∧ U.heap = H0)
abbrev rQv (g : GT) (A : Nat → Prop) (CP : Heap → Prop) : Array Value → State → Outcome → State → Prop := va_Qv (fun (_ : Unit) => True) (fun _ t => wK g t ∧ CP t.heap) A
theorem wK_call {g : GT} {U : State} (h : wK g U) (f : JFrame) (mk : List Frame) (a : Array Value) : True := trivial
theorem r_blind {g : GT} {H0 : Heap} {av : List Value} : FrameBlind (rPre g H0 av) := fun a U f mk q => ⟨q.1, ⟨va_K.moved (u := U) (U := U.calling f mk a) (Vm.Alike.refl U.vm) q.2.1.1, vk_S.moved (u := U) (U := U.calling f mk a) (Vm.Alike.refl U.vm) q.2.1.2.1, fun n hn => vk_R.same (u := U) (U := U.calling f mk a) rfl (q.2.1.2.2.1 n hn), va_Z.moved (u := U) (U := U.calling f mk a) (Vm.Alike.refl U.vm) q.2.1.2.2.2.1, va_Zq.moved (u := U) (U := U.calling f mk a) (Vm.Alike.refl U.vm) q.2.1.2.2.2.2.1, va_AO.moved (u := U) (U := U.calling f mk a) (Vm.Alike.refl U.vm) q.2.1.2.2.2.2.2.1, va_AO.moved (u := U) (U := U.calling f mk a) (Vm.Alike.refl U.vm) q.2.1.2.2.2.2.2.2.1, va_AO.moved (u := U) (U := U.calling f mk a) (Vm.Alike.refl U.vm) q.2.1.2.2.2.2.2.2.2.1, va_AO.moved (u := U) (U := U.calling f mk a) (Vm.Alike.refl U.vm) q.2.1.2.2.2.2.2.2.2.2.1, fun n hn => va_Nw.same rfl (u := U) (U := U.calling f mk a) rfl (q.2.1.2.2.2.2.2.2.2.2.2 n hn)⟩, q.2.2⟩
section RROWS
variable {p : Program} {l : Launch} {e : Env} {R : Room} {s : State} {m : MethodId} {args : Array Value} {below : List Frame} {meth : Method} {c : Code} {H H0 : Heap} {locs : List Loc} {cells slots : Nat} {Q : State → Prop} {pc : Nat} {ls : Array Slot} {rest st0 : List Value} {cc : ByteArray} {g : GT} {A : Nat → Prop} {ws : va_W} {z : Nat}
theorem r_met {y : MethodName} {wl ws' : List Cond} {rm : Room} {av : List Value} {Qc : Array Value → State → Outcome → State → Prop} {mc ms maxL : Nat} {ret : Option FieldType} {fr : Addr → Prop} (hy : plainName y.cls = true) (hw : wl = Cond.code y cc maxL ret :: ws') (hlen : (lg_sl av).length ≤ maxL)
    (body : ∀ (p : Program) (e : Env) (s : State) (m : MethodId) (below : List Frame) (meth : Method) (c : Code), p.tables.exec = Jvm.exec → c.code = cc → meth.sig.returnType = ret → c.maxLocals = maxL → (∀ w ∈ wl, w.before av.toArray s = true) → s.vm.findClass y.cls = some m.cls → meth.locks = false → meth.name = y.name → wK g s → s.heap = H0 → ∀ ls : Array Slot, lv_has ls maxL (lv_args 0 av) → W p l e rm s m av.toArray below meth c s.heap [] 0 0 (MQ below Qc av.toArray s mc ms fr) (F0 m 0 ls [])) : Met l y wl rm (rPre g H0 av) Qc mc ms fr := by
  refine Met.ofW (cc := cc) (maxL := maxL) (ret := ret) hy hw ?_
  intro p e s m args below meth c s₁ B hml hv
  obtain ⟨rfl, hK, hH⟩ := hv
  have hl := lv_entry av hlen
  rw [lg_entry_eq]
  generalize (lg_sl av ++ List.replicate (maxL - (lg_sl av).length) Slot.unset).toArray = ls at hl ⊢
  exact body p e s m below meth c B.exec B.bytes B.returns hml (atoms_spec (ws := wl) B.pre) (findClass_of_methodNamed B.named) B.notSynchronized (name_of_methodNamed B.named B.method).1 hK hH ls hl
theorem rl_push {D : va_G} {H1 : Heap} {e' : va_E} (hP : va_P D vwCl ws H) (hz : H.size = z) (o1 : ∀ q : Nat, q < H.size → H1[q]? = H[q]?) (he : va_at D vwCl (z, e') H1) : va_P D vwCl (ws ++ [(z, e')]) H1 := by
  refine (hP.kept (fun k x hx => o1 x.1 ((hP k x hx).lt))).app (fun k x hx => ?_)
  have hz : k < 1 := (List.getElem?_eq_some_iff.mp hx).1
  rw [show k = 0 by omega] at hx
  cases hx
  exact he
theorem rl_S {H1 : Heap} (hS : va_S A H0 H locs) (hz1 : H.size ≤ H1.size) (o1 : ∀ q : Nat, q < H.size → H1[q]? = H[q]?) : va_S A H0 H1 locs := ⟨Nat.le_trans hS.1 hz1, fun x h1 h2 => (o1 x (Nat.lt_of_lt_of_le h1 hS.1)).trans (hS.2.1 x h1 h2), hS.2.2⟩
theorem rl_newa (hexec : p.tables.exec = Jvm.exec) (hb : c.code = cc) {atype : ArrayType} (harr : (Cond.arrayClass (newarray.typeOf atype)).before args s = true) {ty : FieldType} (hty : newarray.typeOf atype = ty) (hP : va_P (gD g) vwCl ws H) (hD : va_D A ws) (hS : va_S A H0 H locs) (hz : H.size = z) (hAz : A z) {cA : ClassId} (hra : s.vm.findClass ("[" ++ ty.toString) = some cA)
    {n : Int32} {N' : Nat} {a0 : vp_A} (ha : ∀ cA : ClassId, vp_cell cA a0 = arrV cA N' (fun _ => defaultValue ty)) (hn : ¬ n < 0) (hN : n.toNatClampNeg = N') (hbytes : N' * componentBytes ty ≤ 536870912) (hcells : cells + 1 ≤ R.cells) (hslots : slots + N' ≤ R.slots) (hdg : decode cc pc = .ok (.newarray atype, 2))
    (kk : ∀ H1 : Heap, H1.size = z + 1 → va_P (gD g) vwCl (ws ++ [(z, .inl (cA, a0))]) H1 → va_D A (ws ++ [(z, .inl (cA, a0))]) → va_S A H0 H1 locs → W p l e R s m args below meth c H1 locs (cells + 1) (slots + N') Q (F0 m (pc + 2) ls (.ref z :: rest))) : W p l e R s m args below meth c H locs cells slots Q (F0 m pc ls (.int n :: rest)) := by
  subst hty
  subst hz
  refine va_newaK hexec hb harr rfl hdg rfl hn hN hbytes hcells hslots rfl fun H1 cA' e1 z1 o1 hAr hNm => ?_
  have hc : cA' = cA := Option.some.inj (hNm.symm.trans hra)
  subst hc
  refine kk H1 z1 (rl_push hP rfl o1 ?_) (hD.push hP rfl hAz) (rl_S hS (by omega) o1)
  show H1[H.size]? = some (vp_cell _ _)
  rw [ha]
  exact e1
theorem rl_newq (hexec : p.tables.exec = Jvm.exec) (hb : c.code = cc) {own C : String} {index : Nat} (hown : s.vm.findClass own = some m.cls) (hclink : (Cond.classLink own index C).before args s = true) (hover : va_AO C s) (hP : va_P (gD g) vwCl ws H) (hD : va_D A ws) (hS : va_S A H0 H locs) (hz : H.size = z) (hAz : A z) {cA : ClassId} (hra : va_RA s cA (.object C))
    {n : Int32} {N' : Nat} (hn : ¬ n < 0) (hN : n.toNatClampNeg = N') (hbytes : N' * 4 ≤ 536870912) (hcells : cells + 1 ≤ R.cells) (hslots : slots + N' ≤ R.slots) (hdg : decode cc pc = .ok (.anewarray index, 3))
    (kk : ∀ H1 : Heap, H1.size = z + 1 → va_P (gD g) vwCl (ws ++ [(z, .inl (cA, N', .inr (.inr (.inr (.inr (fun _ => none))))))]) H1 → va_D A (ws ++ [(z, .inl (cA, N', .inr (.inr (.inr (.inr (fun _ => none))))))]) → va_S A H0 H1 locs → W p l e R s m args below meth c H1 locs (cells + 1) (slots + N') Q (F0 m (pc + 3) ls (.ref z :: rest))) : W p l e R s m args below meth c H locs cells slots Q (F0 m pc ls (.int n :: rest)) := by
  subst hN
  subst hz
  refine W.anew hexec hb hown hclink (va_AO.use hover) rfl hdg rfl hn hbytes hcells hslots fun cA' kA comp f1 f2 f3 f4 => ?_
  have hc : cA' = cA := by
    obtain ⟨_, _, -, -, -, h4⟩ := hra
    exact Option.some.inj (f1.symm.trans h4)
  subst hc
  generalize hH1 : H.push ({ cls := cA', slots := Array.replicate n.toNatClampNeg .null, vm := .none } : Cell) = H1
  have z1 : H1.size = H.size + 1 := by rw [← hH1, Array.size_push]
  have e1 : H1[H.size]? = some (arrV cA' n.toNatClampNeg (fun _ => .null)) := by rw [← hH1, Array.getElem?_push_size, ← arrV_new]
  have o1 : ∀ q : Nat, q < H.size → H1[q]? = H[q]? := fun q hq => by rw [← hH1, Array.getElem?_push, if_neg (Nat.ne_of_lt hq)]
  refine kk H1 z1 (rl_push hP rfl o1 ?_) (hD.push hP rfl hAz) (rl_S hS (by omega) o1)
  show H1[H.size]? = some (vp_cell _ _)
  rw [vp_cell_q]
  exact e1
theorem rl_new (hexec : p.tables.exec = Jvm.exec) (hb : c.code = cc) {own C : String} {T : u_T} {N ci index : Nat} {Ts : List Cond} (hts : ∀ w ∈ Ts, w.before args s = true) (hin : ∀ w ∈ u_ws C T N, w ∈ Ts) (ty : Nat → FieldType) (hty : ∀ k, k < N → parseFieldDescriptor (T k).2.2.1 = some (ty k)) (hown : s.vm.findClass own = some m.cls) (hcl : (Cond.classLink own index C).before args s = true) (hinst : (Cond.instantiable C N).before args s = true) (hini : (Cond.initialized C).before args s = true)
    (hK : wK g s) (hP : va_P (gD g) vwCl ws H) (hD : va_D A ws) (hS : va_S A H0 H locs) (hz : H.size = z) (hAz : A z) (hc : vwCl[ci]? = some (C, T, N)) {fs : List Value} (hfs : ∀ j, j < N → defaultValue (ty j) = vp_V fs j) (hcells : cells + 1 ≤ R.cells) (hslots : slots + N ≤ R.slots) (hdg : decode cc pc = .ok (.new index, 3))
    (kk : ∀ H1 : Heap, H1.size = z + 1 → (∀ q : Nat, q < z → H1[q]? = H[q]?) → va_P (gD g) vwCl (ws ++ [(z, .inr (ci, fs))]) H1 → va_D A (ws ++ [(z, .inr (ci, fs))]) → va_S A H0 H1 locs → W p l e R s m args below meth c H1 locs (cells + 1) (slots + N) Q (F0 m (pc + 3) ls (.ref z :: rest))) : W p l e R s m args below meth c H locs cells slots Q (F0 m pc ls rest) := by
  have hKn := hK.1.1 ci _ hc
  subst hz
  refine W.newcK hexec hb hown hcl hinst hini rfl hdg hcells hslots hKn.2.1 rfl fun H1 kC hkC e1 z1 o1 => ?_
  exact kk H1 z1 o1 (rl_push hP rfl o1 ⟨_, hc, (u_born ty hts hin hKn hkC e1 hty).to hfs⟩) (hD.push hP rfl hAz) (rl_S hS (by omega) o1)
theorem rl_putF (hexec : p.tables.exec = Jvm.exec) (hb : c.code = cc) {own C : String} {T : u_T} {N ci index : Nat} {Ts : List Cond} (hts : ∀ w ∈ Ts, w.before args s = true) (hin : ∀ w ∈ u_ws C T N, w ∈ Ts) (ty0 : Nat → FieldType) (hty : ∀ k, k < N → parseFieldDescriptor (T k).2.2.1 = some (ty0 k)) (hnm : ∀ a, a < N → ∀ b, b < N → a ≠ b → (T a).2.1 ≠ (T b).2.1) (hown : s.vm.findClass own = some m.cls) (hK : wK g s) (hP : va_P (gD g) vwCl ws H) (hD : va_D A ws) (hS0 : va_S A H0 H locs) (hz : H.size = z) (q0 : Nat) {a : Nat} {fs : List Value} (he : ws[q0]? = some (a, .inr (ci, fs))) (hc : vwCl[ci]? = some (C, T, N)) (k : Nat) (hk : k < N) (hlink : (Cond.fieldLink own index (T k).1 (T k).2.1 (T k).2.2.1).before args s = true) (hfin : (T k).2.2.2 = true) (hin2 : meth.name = "<init>") (hdecl : (T k).1 = own) {ty : FieldType} {v : Value} (hd : parseFieldDescriptor (T k).2.2.1 = some ty) (hn : narrow ty v = v) (hfit : fits ty v = true) (hl : k < fs.length)
    (hdg : decode cc pc = .ok (.putfield index, 3)) (kk : ∀ (H1 : Heap) (locs1 : List Loc), H1.size = z → va_P (gD g) vwCl (ws.set q0 (a, .inr (ci, fs.set k v))) H1 → va_D A (ws.set q0 (a, .inr (ci, fs.set k v))) → va_S A H0 H1 locs1 → W p l e R s m args below meth c H1 locs1 cells slots Q (F0 m (pc + 3) ls rest)) : W p l e R s m args below meth c H locs cells slots Q (F0 m pc ls (v :: .ref a :: rest)) := by
  have hap := va_apart (own := own) hts hin ty0 hty hnm hK.1 hc
  obtain ⟨r, h1, cell, q1, q2, q3, q4⟩ := hP q0 _ he
  have hr : r = (C, T, N) := Option.some.inj (h1.symm.trans hc)
  subst hr
  obtain ⟨hS, hfc, kC, hkC, hkind⟩ := hK.1.1 ci _ hc
  obtain ⟨cf, kf, fi, f, hi, hsl⟩ := hS k hk
  have hlay := hts _ (hin _ (u_in_lay hk))
  unfold u_lay at hlay
  rw [if_pos hfin] at hlay
  have hst := (u_facts hfc hkC (u_lays hts hin hk) hi).1
  have hcf : m.cls = cf := by
    obtain ⟨_, _, c', _, _, _, -, -, hf', -, -, -, hown2, -⟩ := Cond.laysFinal_spec hlay
    have e1 : c' = cf := by have := hi.symm.trans hf'; simp at this; exact this.1.symm
    rw [hdecl] at hown2
    rw [← e1]; exact Option.some.inj (hown.symm.trans hown2)
  have h6 := u_fits hfc hkC hkind (Or.inr hlay) hi hd hn hfit
  refine W.putFinK hexec hb hown hlink hi hst hcf hin2 (by rw [q2]; exact h6) q1 q3 (by rw [hsl]; exact k2_hasslot (q4 k hk)) rfl rfl hdg fun H' e1 e2 e3 => ?_
  rw [hsl] at e1 ⊢
  exact kk H' _ (e2.trans hz) (hP.set hD he ⟨_, hc, t_OB.to (V := updV (vp_V fs) k v) ⟨_, e1, q2, q3, t_set q4 hap hk v⟩ (fun j _ => vp_updV_set hl v j)⟩ e3) (hD.set he) (hS0.put e2 e3 (hD.2 q0 _ he))
theorem rl_put (hexec : p.tables.exec = Jvm.exec) (hb : c.code = cc) {own C : String} {T : u_T} {N ci index : Nat} {Ts : List Cond} (hts : ∀ w ∈ Ts, w.before args s = true) (hin : ∀ w ∈ u_ws C T N, w ∈ Ts) (ty0 : Nat → FieldType) (hty : ∀ k, k < N → parseFieldDescriptor (T k).2.2.1 = some (ty0 k)) (hnm : ∀ a, a < N → ∀ b, b < N → a ≠ b → (T a).2.1 ≠ (T b).2.1) (hown : s.vm.findClass own = some m.cls) (hK : wK g s) (hP : va_P (gD g) vwCl ws H) (hD : va_D A ws) (hS0 : va_S A H0 H locs) (hz : H.size = z) (q0 : Nat) {a : Nat} {fs : List Value} (he : ws[q0]? = some (a, .inr (ci, fs))) (hc : vwCl[ci]? = some (C, T, N)) (k : Nat) (hk : k < N) (hlink : (Cond.fieldLink own index (T k).1 (T k).2.1 (T k).2.2.1).before args s = true) (hfin : (T k).2.2.2 = false) {ty : FieldType} {v : Value} (hd : parseFieldDescriptor (T k).2.2.1 = some ty) (hn : narrow ty v = v) (hfit : fits ty v = true) (hl : k < fs.length)
    (hdg : decode cc pc = .ok (.putfield index, 3)) (kk : ∀ (H1 : Heap) (locs1 : List Loc), H1.size = z → va_P (gD g) vwCl (ws.set q0 (a, .inr (ci, fs.set k v))) H1 → va_D A (ws.set q0 (a, .inr (ci, fs.set k v))) → va_S A H0 H1 locs1 → W p l e R s m args below meth c H1 locs1 cells slots Q (F0 m (pc + 3) ls rest)) : W p l e R s m args below meth c H locs cells slots Q (F0 m pc ls (v :: .ref a :: rest)) := by
  have hap := va_apart (own := own) hts hin ty0 hty hnm hK.1 hc
  obtain ⟨r, h1, cell, q1, q2, q3, q4⟩ := hP q0 _ he
  have hr : r = (C, T, N) := Option.some.inj (h1.symm.trans hc)
  subst hr
  obtain ⟨hS, hfc, kC, hkC, hkind⟩ := hK.1.1 ci _ hc
  obtain ⟨cf, kf, fi, f, hi, hsl⟩ := hS k hk
  have hlay := hts _ (hin _ (u_in_lay hk))
  unfold u_lay at hlay
  rw [if_neg (by rw [hfin]; decide)] at hlay
  have hst := (u_facts hfc hkC (u_lays hts hin hk) hi).1
  have h6 := u_store hfc hkC hkind hlay hi hd hn hfit
  refine W.putK hexec hb (f := f) ⟨hown, hlink, ⟨_, _, _, hi⟩, hst⟩ (by rw [q2]; exact h6) q1 q3 (by rw [hsl]; exact k2_hasslot (q4 k hk)) rfl rfl hdg fun H' e1 e2 e3 => ?_
  rw [hsl] at e1 ⊢
  exact kk H' _ (e2.trans hz) (hP.set hD he ⟨_, hc, t_OB.to (V := updV (vp_V fs) k v) ⟨_, e1, q2, q3, t_set q4 hap hk v⟩ (fun j _ => vp_updV_set hl v j)⟩ e3) (hD.set he) (hS0.put e2 e3 (hD.2 q0 _ he))
theorem rl_aast (hexec : p.tables.exec = Jvm.exec) (hb : c.code = cc) (hK : wK g s) (hP : va_P (gD g) vwCl ws H) (hD : va_D A ws) (hS : va_S A H0 H locs) (hz : H.size = z) (q0 qk ci : Nat) {a : Nat} {cA : ClassId} {r : vw_C} {n v : Nat} {vs : List Value} {f : Nat → Option Nat} (ha : ws[q0]? = some (a, .inl (cA, n, .inr (.inr (.inr (.inr f)))))) (hra : va_RA s cA (.object r.1)) (hv : ws[qk]? = some (v, .inr (ci, vs))) (hc : vwCl[ci]? = some r) {i : Int32} (hin : vp_in i n) (hdg : decode cc pc = .ok (.aastore, 1))
    (kk : ∀ (H1 : Heap) (locs1 : List Loc), H1.size = z → va_P (gD g) vwCl (ws.set q0 (a, .inl (cA, n, .inr (.inr (.inr (.inr (va_up f i.toNatClampNeg (some v)))))))) H1 → va_D A (ws.set q0 (a, .inl (cA, n, .inr (.inr (.inr (.inr (va_up f i.toNatClampNeg (some v)))))))) → va_S A H0 H1 locs1 → W p l e R s m args below meth c H1 locs1 cells slots Q (F0 m (pc + 1) ls rest)) : W p l e R s m args below meth c H locs cells slots Q (F0 m pc ls (.ref v :: .int i :: .ref a :: rest)) := by
  have hlt : i.toNatClampNeg < n := x_lt hin
  have h0 : ¬ i < 0 := fun q => hin (Or.inl q)
  obtain ⟨r', hr', cellV, g1, g2, g3, -⟩ := hP qk _ hv
  have hcls := (hK.1.1 ci r hc).2
  obtain ⟨kA, comp, k1, k2, k3, -⟩ := hra
  have hcomp : comp = (gD g).1 ci := Option.some.inj (k3.symm.trans hcls.1)
  subst hcomp
  obtain ⟨kC, hkC, -⟩ := hcls.2
  refine W.aast hexec hb (hP q0 _ ha) (fun q h => by cases h) (fun h => by cases h) k1 k2 rfl hkC ⟨h0, by show _ < (arrV _ _ _).slots.size; rw [arrV_size]; exact hlt⟩ g1 (fun q h => by rw [g3] at h; cases h) (by rw [g2]; exact hkC) (by rw [g2]; exact va_assign hcls) rfl rfl hdg fun H1 e z oq => ?_
  refine kk H1 _ (z.trans hz) (hP.set hD ha ?_ oq) (hD.set ha) (hS.put z oq (hD.2 q0 _ ha))
  show H1[a]? = some (vp_cell _ _)
  rw [e, vp_cell_q, vp_cell_q, arrV_store]
  congr 2
  funext q
  by_cases hq : q = i.toNatClampNeg
  · subst hq
    simp [updV, va_up, va_rf]
  · simp [updV, va_up, hq]
theorem r_vret {CP : Heap → Prop} (hexec : p.tables.exec = Jvm.exec) (hb : c.code = cc) (hr : meth.sig.returnType = none) (hlocks : meth.locks = false) (hK : wK g s) (hS : va_S A s.heap H locs) (hAg : ∀ q, A q → gA g q) (hC : CP H) (hdg : decode cc pc = .ok (.return_, 1)) : W p l e R s m args below meth c H locs cells slots (MQ below (rQv g A CP) args s cells slots A) (F0 m pc ls []) :=
  W.vret hexec hb hr (fun t ht hWm => ⟨⟨(), rfl, trivial, hK.to (va_S_wk hS hAg) ht hWm, by rw [ht]; exact hC⟩, hS.F ht⟩) hS.2.2 hdg hlocks
end RROWS

theorem dX0_init_0 : decode cX0_init 0 = .ok (.aload_n 0, 1) := by decide +kernel
theorem dX0_init_1 : decode cX0_init 1 = .ok (.invokespecial 1, 3) := by decide +kernel
theorem dX0_init_4 : decode cX0_init 4 = .ok (.return_, 1) := by decide +kernel
abbrev rm_X0_init : Room := { frames := 1, cells := 0, slots := 0, locals := 12 }
set_option maxRecDepth 100000 in
set_option maxHeartbeats 4000000 in
theorem rc_X0_init (l : Launch) (g : GT) (H0 : Heap) (a z : Nat) (hz : H0.size = z) (ha : a < z) (hg : g.1 ≤ a) (hP0 : va_P (gD g) vwCl [(a, .inr (0, [.int 0, .int 0, .int 0]))] H0) : Met l yX0_init wsX0_init rm_X0_init (rPre g H0 [.ref a]) (rQv g (rB a z) (fun H => H.size = z ∧ va_P (gD g) vwCl [(a, .inr (0, [.int 0, .int 0, .int 0]))] H)) 0 0 (rB a z) := by
  have hAz0 : True := trivial
  refine r_met (by decide) rfl (Nat.le_of_ble_eq_true rfl) ?_
  intro p e s m below meth c hx hb hr hml hts hown hlocks hin hK hH ls hl
  have hown : s.vm.findClass RX0 = some m.cls := hown
  have hin : meth.name = "<init>" := hin
  have hl : lv_has ls 1 [(0, .ref a)] := hl
  subst hH
  have hAg := rB_g (g := g) hg ha
  have hAz : ∀ q, z ≤ q → rB a z q := fun q h => Or.inr h
  have hP := hP0
  have hD : va_D (rB a z) [(a, .inr (0, [.int 0, .int 0, .int 0]))] := ⟨fun i j x y h1 h2 _ => by
    have z1 : i < 1 := (List.getElem?_eq_some_iff.mp h1).1
    have z2 : j < 1 := (List.getElem?_eq_some_iff.mp h2).1
    omega, fun k q h => by
    have z1 : k < 1 := (List.getElem?_eq_some_iff.mp h).1
    rw [show k = 0 by omega] at h
    cases h
    exact Or.inl rfl⟩
  have hS : va_S (rB a z) s.heap s.heap [] := va_S.rf
  refine lv_aload_n hx hb dX0_init_0 rfl (lv_at hl 0 rfl) ?_
  refine W.objInit hx hb hown (hts (.methodLink RX0 1 objectInit) (by decide +kernel)) (hts (.instanceMethod objectInit) (by decide +kernel)) (hts (.code objectInit ⟨#[0xb1]⟩ 1 none) (by decide +kernel)) rfl (by rw [hml]; exact hl.1) rfl dX0_init_1 (Nat.le_of_ble_eq_true rfl) (Nat.le_of_ble_eq_true rfl) ?_
  refine W.eq (g2 := F0 m 4 ls []) rfl ?_
  refine W.widen (k := 0) (n := 0) (by decide) (by decide) ?_
  exact r_vret hx hb hr hlocks hK hS hAg ⟨hz, hP⟩ dX0_init_4
theorem dX6_init_0 : decode cX6_init 0 = .ok (.aload_n 0, 1) := by decide +kernel
theorem dX6_init_1 : decode cX6_init 1 = .ok (.invokespecial 1, 3) := by decide +kernel
theorem dX6_init_4 : decode cX6_init 4 = .ok (.return_, 1) := by decide +kernel
abbrev rm_X6_init : Room := { frames := 1, cells := 0, slots := 0, locals := 12 }
set_option maxRecDepth 100000 in
set_option maxHeartbeats 4000000 in
theorem rc_X6_init (l : Launch) (g : GT) (H0 : Heap) (a z : Nat) (hz : H0.size = z) (ha : a < z) (hg : g.1 ≤ a) (hP0 : va_P (gD g) vwCl [(a, .inr (6, [.int 0, .int 0, .int 0, .int 0, .int 0, .int 0, .int 0]))] H0) : Met l yX6_init wsX6_init rm_X6_init (rPre g H0 [.ref a]) (rQv g (rB a z) (fun H => H.size = z ∧ va_P (gD g) vwCl [(a, .inr (6, [.int 0, .int 0, .int 0, .int 0, .int 0, .int 0, .int 0]))] H)) 0 0 (rB a z) := by
  have hAz0 : True := trivial
  refine r_met (by decide) rfl (Nat.le_of_ble_eq_true rfl) ?_
  intro p e s m below meth c hx hb hr hml hts hown hlocks hin hK hH ls hl
  have hown : s.vm.findClass RX6 = some m.cls := hown
  have hin : meth.name = "<init>" := hin
  have hl : lv_has ls 1 [(0, .ref a)] := hl
  subst hH
  have hAg := rB_g (g := g) hg ha
  have hAz : ∀ q, z ≤ q → rB a z q := fun q h => Or.inr h
  have hP := hP0
  have hD : va_D (rB a z) [(a, .inr (6, [.int 0, .int 0, .int 0, .int 0, .int 0, .int 0, .int 0]))] := ⟨fun i j x y h1 h2 _ => by
    have z1 : i < 1 := (List.getElem?_eq_some_iff.mp h1).1
    have z2 : j < 1 := (List.getElem?_eq_some_iff.mp h2).1
    omega, fun k q h => by
    have z1 : k < 1 := (List.getElem?_eq_some_iff.mp h).1
    rw [show k = 0 by omega] at h
    cases h
    exact Or.inl rfl⟩
  have hS : va_S (rB a z) s.heap s.heap [] := va_S.rf
  refine lv_aload_n hx hb dX6_init_0 rfl (lv_at hl 0 rfl) ?_
  refine W.objInit hx hb hown (hts (.methodLink RX6 1 objectInit) (by decide +kernel)) (hts (.instanceMethod objectInit) (by decide +kernel)) (hts (.code objectInit ⟨#[0xb1]⟩ 1 none) (by decide +kernel)) rfl (by rw [hml]; exact hl.1) rfl dX6_init_1 (Nat.le_of_ble_eq_true rfl) (Nat.le_of_ble_eq_true rfl) ?_
  refine W.eq (g2 := F0 m 4 ls []) rfl ?_
  refine W.widen (k := 0) (n := 0) (by decide) (by decide) ?_
  exact r_vret hx hb hr hlocks hK hS hAg ⟨hz, hP⟩ dX6_init_4
theorem dX3_init_0 : decode cX3_init 0 = .ok (.aload_n 0, 1) := by decide +kernel
theorem dX3_init_1 : decode cX3_init 1 = .ok (.invokespecial 3, 3) := by decide +kernel
theorem dX3_init_4 : decode cX3_init 4 = .ok (.aload_n 0, 1) := by decide +kernel
theorem dX3_init_5 : decode cX3_init 5 = .ok (.bipush 8, 2) := by decide +kernel
theorem dX3_init_7 : decode cX3_init 7 = .ok (.newarray .int, 2) := by decide +kernel
theorem dX3_init_9 : decode cX3_init 9 = .ok (.putfield 9, 3) := by decide +kernel
theorem dX3_init_12 : decode cX3_init 12 = .ok (.aload_n 0, 1) := by decide +kernel
theorem dX3_init_13 : decode cX3_init 13 = .ok (.bipush 8, 2) := by decide +kernel
theorem dX3_init_15 : decode cX3_init 15 = .ok (.newarray .int, 2) := by decide +kernel
theorem dX3_init_17 : decode cX3_init 17 = .ok (.putfield 15, 3) := by decide +kernel
theorem dX3_init_20 : decode cX3_init 20 = .ok (.aload_n 0, 1) := by decide +kernel
theorem dX3_init_21 : decode cX3_init 21 = .ok (.bipush 10, 2) := by decide +kernel
theorem dX3_init_23 : decode cX3_init 23 = .ok (.newarray .int, 2) := by decide +kernel
theorem dX3_init_25 : decode cX3_init 25 = .ok (.putfield 18, 3) := by decide +kernel
theorem dX3_init_28 : decode cX3_init 28 = .ok (.return_, 1) := by decide +kernel
abbrev rm_X3_init : Room := { frames := 1, cells := 3, slots := 26, locals := 12 }
set_option maxRecDepth 100000 in
set_option maxHeartbeats 4000000 in
theorem rc_X3_init (l : Launch) (g : GT) (H0 : Heap) (a z : Nat) (hz : H0.size = z) (ha : a < z) (hg : g.1 ≤ a) (hP0 : va_P (gD g) vwCl [(a, .inr (3, [.int 0, .int 0, .int 0, .int 0, .int 0, .int 0, .null, .null, .null]))] H0) : Met l yX3_init wsX3_init rm_X3_init (rPre g H0 [.ref a]) (rQv g (rB a z) (fun H => H.size = z + 3 ∧ va_P (gD g) vwCl [(a, .inr (3, [.int 0, .int 0, .int 0, .int 0, .int 0, .int 0, .ref z, .ref (z + 1), .ref (z + 2)])), (z, .inl (gy g 1, 8, .inl (fun _ => 0))), ((z + 1), .inl (gy g 1, 8, .inl (fun _ => 0))), ((z + 2), .inl (gy g 1, 10, .inl (fun _ => 0)))] H)) 3 26 (rB a z) := by
  have i_3 : ∀ w ∈ u_ws RX3 TX3 9, w ∈ wsX3_init := by decide +kernel
  refine r_met (by decide) rfl (Nat.le_of_ble_eq_true rfl) ?_
  intro p e s m below meth c hx hb hr hml hts hown hlocks hin hK hH ls hl
  have hown : s.vm.findClass RX3 = some m.cls := hown
  have hin : meth.name = "<init>" := hin
  have hl : lv_has ls 1 [(0, .ref a)] := hl
  subst hH
  have hAg := rB_g (g := g) hg ha
  have hAz : ∀ q, z ≤ q → rB a z q := fun q h => Or.inr h
  have hP := hP0
  have hD : va_D (rB a z) [(a, .inr (3, [.int 0, .int 0, .int 0, .int 0, .int 0, .int 0, .null, .null, .null]))] := ⟨fun i j x y h1 h2 _ => by
    have z1 : i < 1 := (List.getElem?_eq_some_iff.mp h1).1
    have z2 : j < 1 := (List.getElem?_eq_some_iff.mp h2).1
    omega, fun k q h => by
    have z1 : k < 1 := (List.getElem?_eq_some_iff.mp h).1
    rw [show k = 0 by omega] at h
    cases h
    exact Or.inl rfl⟩
  have hS : va_S (rB a z) s.heap s.heap [] := va_S.rf
  refine lv_aload_n hx hb dX3_init_0 rfl (lv_at hl 0 rfl) ?_
  refine W.objInit hx hb hown (hts (.methodLink RX3 3 objectInit) (by decide +kernel)) (hts (.instanceMethod objectInit) (by decide +kernel)) (hts (.code objectInit ⟨#[0xb1]⟩ 1 none) (by decide +kernel)) rfl (by rw [hml]; exact hl.1) rfl dX3_init_1 (Nat.le_of_ble_eq_true rfl) (Nat.le_of_ble_eq_true rfl) ?_
  refine W.eq (g2 := F0 m 4 ls []) rfl ?_
  refine lv_aload_n hx hb dX3_init_4 rfl (lv_at hl 0 rfl) ?_
  refine lv_bipush (v := 8) hx hb dX3_init_5 (by decide) ?_
  refine rl_newa (atype := .int) (a0 := (8, .inl (fun _ => 0))) (N' := 8) hx hb (hts (.arrayClass .int) (by decide +kernel)) rfl hP hD hS hz (hAz _ (by omega)) (hK.1.2 1 _ rfl).2 (fun _ => rfl) (by decide) (by decide) (by decide) (Nat.le_of_ble_eq_true rfl) (Nat.le_of_ble_eq_true rfl) dX3_init_7 (fun H hz hP hD hS => ?_)
  have hP : va_P (gD g) vwCl [(a, .inr (3, [.int 0, .int 0, .int 0, .int 0, .int 0, .int 0, .null, .null, .null])), (z, .inl (gy g 1, 8, .inl (fun _ => 0)))] H := hP
  have hD : va_D (rB a z) [(a, .inr (3, [.int 0, .int 0, .int 0, .int 0, .int 0, .int 0, .null, .null, .null])), (z, .inl (gy g 1, 8, .inl (fun _ => 0)))] := hD
  refine rl_putF (ty := .array .int) hx hb hts i_3 tyX3 tyX3_ok nmX3 hown hK hP hD hS hz 0 rfl rfl 6 (by decide) (hts (.fieldLink RX3 9 "OpticalJukebox$Platter" "sessionStarts" "[I") (by decide +kernel)) rfl hin rfl (by decide +kernel) rfl rfl (Nat.le_of_ble_eq_true rfl) dX3_init_9 (fun H locs hz hP hD hS => ?_)
  have hP : va_P (gD g) vwCl [(a, .inr (3, [.int 0, .int 0, .int 0, .int 0, .int 0, .int 0, .ref z, .null, .null])), (z, .inl (gy g 1, 8, .inl (fun _ => 0)))] H := hP
  have hD : va_D (rB a z) [(a, .inr (3, [.int 0, .int 0, .int 0, .int 0, .int 0, .int 0, .ref z, .null, .null])), (z, .inl (gy g 1, 8, .inl (fun _ => 0)))] := hD
  refine lv_aload_n hx hb dX3_init_12 rfl (lv_at hl 0 rfl) ?_
  refine lv_bipush (v := 8) hx hb dX3_init_13 (by decide) ?_
  refine rl_newa (atype := .int) (a0 := (8, .inl (fun _ => 0))) (N' := 8) hx hb (hts (.arrayClass .int) (by decide +kernel)) rfl hP hD hS hz (hAz _ (by omega)) (hK.1.2 1 _ rfl).2 (fun _ => rfl) (by decide) (by decide) (by decide) (Nat.le_of_ble_eq_true rfl) (Nat.le_of_ble_eq_true rfl) dX3_init_15 (fun H hz hP hD hS => ?_)
  have hP : va_P (gD g) vwCl [(a, .inr (3, [.int 0, .int 0, .int 0, .int 0, .int 0, .int 0, .ref z, .null, .null])), (z, .inl (gy g 1, 8, .inl (fun _ => 0))), ((z + 1), .inl (gy g 1, 8, .inl (fun _ => 0)))] H := hP
  have hD : va_D (rB a z) [(a, .inr (3, [.int 0, .int 0, .int 0, .int 0, .int 0, .int 0, .ref z, .null, .null])), (z, .inl (gy g 1, 8, .inl (fun _ => 0))), ((z + 1), .inl (gy g 1, 8, .inl (fun _ => 0)))] := hD
  refine rl_putF (ty := .array .int) hx hb hts i_3 tyX3 tyX3_ok nmX3 hown hK hP hD hS hz 0 rfl rfl 7 (by decide) (hts (.fieldLink RX3 15 "OpticalJukebox$Platter" "sessionSizes" "[I") (by decide +kernel)) rfl hin rfl (by decide +kernel) rfl rfl (Nat.le_of_ble_eq_true rfl) dX3_init_17 (fun H locs hz hP hD hS => ?_)
  have hP : va_P (gD g) vwCl [(a, .inr (3, [.int 0, .int 0, .int 0, .int 0, .int 0, .int 0, .ref z, .ref (z + 1), .null])), (z, .inl (gy g 1, 8, .inl (fun _ => 0))), ((z + 1), .inl (gy g 1, 8, .inl (fun _ => 0)))] H := hP
  have hD : va_D (rB a z) [(a, .inr (3, [.int 0, .int 0, .int 0, .int 0, .int 0, .int 0, .ref z, .ref (z + 1), .null])), (z, .inl (gy g 1, 8, .inl (fun _ => 0))), ((z + 1), .inl (gy g 1, 8, .inl (fun _ => 0)))] := hD
  refine lv_aload_n hx hb dX3_init_20 rfl (lv_at hl 0 rfl) ?_
  refine lv_bipush (v := 10) hx hb dX3_init_21 (by decide) ?_
  refine rl_newa (atype := .int) (a0 := (10, .inl (fun _ => 0))) (N' := 10) hx hb (hts (.arrayClass .int) (by decide +kernel)) rfl hP hD hS hz (hAz _ (by omega)) (hK.1.2 1 _ rfl).2 (fun _ => rfl) (by decide) (by decide) (by decide) (Nat.le_of_ble_eq_true rfl) (Nat.le_of_ble_eq_true rfl) dX3_init_23 (fun H hz hP hD hS => ?_)
  have hP : va_P (gD g) vwCl [(a, .inr (3, [.int 0, .int 0, .int 0, .int 0, .int 0, .int 0, .ref z, .ref (z + 1), .null])), (z, .inl (gy g 1, 8, .inl (fun _ => 0))), ((z + 1), .inl (gy g 1, 8, .inl (fun _ => 0))), ((z + 2), .inl (gy g 1, 10, .inl (fun _ => 0)))] H := hP
  have hD : va_D (rB a z) [(a, .inr (3, [.int 0, .int 0, .int 0, .int 0, .int 0, .int 0, .ref z, .ref (z + 1), .null])), (z, .inl (gy g 1, 8, .inl (fun _ => 0))), ((z + 1), .inl (gy g 1, 8, .inl (fun _ => 0))), ((z + 2), .inl (gy g 1, 10, .inl (fun _ => 0)))] := hD
  refine rl_putF (ty := .array .int) hx hb hts i_3 tyX3 tyX3_ok nmX3 hown hK hP hD hS hz 0 rfl rfl 8 (by decide) (hts (.fieldLink RX3 18 "OpticalJukebox$Platter" "badBits" "[I") (by decide +kernel)) rfl hin rfl (by decide +kernel) rfl rfl (Nat.le_of_ble_eq_true rfl) dX3_init_25 (fun H locs hz hP hD hS => ?_)
  have hP : va_P (gD g) vwCl [(a, .inr (3, [.int 0, .int 0, .int 0, .int 0, .int 0, .int 0, .ref z, .ref (z + 1), .ref (z + 2)])), (z, .inl (gy g 1, 8, .inl (fun _ => 0))), ((z + 1), .inl (gy g 1, 8, .inl (fun _ => 0))), ((z + 2), .inl (gy g 1, 10, .inl (fun _ => 0)))] H := hP
  have hD : va_D (rB a z) [(a, .inr (3, [.int 0, .int 0, .int 0, .int 0, .int 0, .int 0, .ref z, .ref (z + 1), .ref (z + 2)])), (z, .inl (gy g 1, 8, .inl (fun _ => 0))), ((z + 1), .inl (gy g 1, 8, .inl (fun _ => 0))), ((z + 2), .inl (gy g 1, 10, .inl (fun _ => 0)))] := hD
  refine W.widen (k := 3) (n := 26) (by decide) (by decide) ?_
  exact r_vret hx hb hr hlocks hK hS hAg ⟨hz, hP⟩ dX3_init_28
theorem dX1_init_0 : decode cX1_init 0 = .ok (.aload_n 0, 1) := by decide +kernel
theorem dX1_init_1 : decode cX1_init 1 = .ok (.invokespecial 3, 3) := by decide +kernel
theorem dX1_init_4 : decode cX1_init 4 = .ok (.aload_n 0, 1) := by decide +kernel
theorem dX1_init_5 : decode cX1_init 5 = .ok (.bipush 16, 2) := by decide +kernel
theorem dX1_init_7 : decode cX1_init 7 = .ok (.anewarray 9, 3) := by decide +kernel
theorem dX1_init_10 : decode cX1_init 10 = .ok (.putfield 11, 3) := by decide +kernel
theorem dX1_init_13 : decode cX1_init 13 = .ok (.return_, 1) := by decide +kernel
abbrev rm_X1_init : Room := { frames := 1, cells := 1, slots := 16, locals := 12 }
set_option maxRecDepth 100000 in
set_option maxHeartbeats 4000000 in
theorem rc_X1_init (l : Launch) (g : GT) (H0 : Heap) (a z : Nat) (hz : H0.size = z) (ha : a < z) (hg : g.1 ≤ a) (hP0 : va_P (gD g) vwCl [(a, .inr (1, [.null, .int 0, .int 0]))] H0) : Met l yX1_init wsX1_init rm_X1_init (rPre g H0 [.ref a]) (rQv g (rB a z) (fun H => H.size = z + 1 ∧ va_P (gD g) vwCl [(a, .inr (1, [.ref z, .int 0, .int 0])), (z, .inl (gy g 6, 16, .inr (.inr (.inr (.inr (fun _ => none))))))] H)) 1 16 (rB a z) := by
  have i_1 : ∀ w ∈ u_ws RX1 TX1 3, w ∈ wsX1_init := by decide +kernel
  refine r_met (by decide) rfl (Nat.le_of_ble_eq_true rfl) ?_
  intro p e s m below meth c hx hb hr hml hts hown hlocks hin hK hH ls hl
  have hown : s.vm.findClass RX1 = some m.cls := hown
  have hin : meth.name = "<init>" := hin
  have hl : lv_has ls 1 [(0, .ref a)] := hl
  subst hH
  have hAg := rB_g (g := g) hg ha
  have hAz : ∀ q, z ≤ q → rB a z q := fun q h => Or.inr h
  have hP := hP0
  have hD : va_D (rB a z) [(a, .inr (1, [.null, .int 0, .int 0]))] := ⟨fun i j x y h1 h2 _ => by
    have z1 : i < 1 := (List.getElem?_eq_some_iff.mp h1).1
    have z2 : j < 1 := (List.getElem?_eq_some_iff.mp h2).1
    omega, fun k q h => by
    have z1 : k < 1 := (List.getElem?_eq_some_iff.mp h).1
    rw [show k = 0 by omega] at h
    cases h
    exact Or.inl rfl⟩
  have hS : va_S (rB a z) s.heap s.heap [] := va_S.rf
  refine lv_aload_n hx hb dX1_init_0 rfl (lv_at hl 0 rfl) ?_
  refine W.objInit hx hb hown (hts (.methodLink RX1 3 objectInit) (by decide +kernel)) (hts (.instanceMethod objectInit) (by decide +kernel)) (hts (.code objectInit ⟨#[0xb1]⟩ 1 none) (by decide +kernel)) rfl (by rw [hml]; exact hl.1) rfl dX1_init_1 (Nat.le_of_ble_eq_true rfl) (Nat.le_of_ble_eq_true rfl) ?_
  refine W.eq (g2 := F0 m 4 ls []) rfl ?_
  refine lv_aload_n hx hb dX1_init_4 rfl (lv_at hl 0 rfl) ?_
  refine lv_bipush (v := 16) hx hb dX1_init_5 (by decide) ?_
  refine rl_newq (N' := 16) hx hb hown (hts (.classLink RX1 9 RX4) (by decide +kernel)) hK.2.2.2.2.2.2.2.2.1 hP hD hS hz (hAz _ (by omega)) (hK.1.2 6 _ rfl).2 (by decide) (by decide) (by decide) (Nat.le_of_ble_eq_true rfl) (Nat.le_of_ble_eq_true rfl) dX1_init_7 (fun H hz hP hD hS => ?_)
  have hP : va_P (gD g) vwCl [(a, .inr (1, [.null, .int 0, .int 0])), (z, .inl (gy g 6, 16, .inr (.inr (.inr (.inr (fun _ => none))))))] H := hP
  have hD : va_D (rB a z) [(a, .inr (1, [.null, .int 0, .int 0])), (z, .inl (gy g 6, 16, .inr (.inr (.inr (.inr (fun _ => none))))))] := hD
  refine rl_putF (ty := .array (.object "OpticalJukebox$State")) hx hb hts i_1 tyX1 tyX1_ok nmX1 hown hK hP hD hS hz 0 rfl rfl 0 (by decide) (hts (.fieldLink RX1 11 "OpticalJukebox$History" "states" "[LOpticalJukebox$State;") (by decide +kernel)) rfl hin rfl (by decide +kernel) rfl rfl (Nat.le_of_ble_eq_true rfl) dX1_init_10 (fun H locs hz hP hD hS => ?_)
  have hP : va_P (gD g) vwCl [(a, .inr (1, [.ref z, .int 0, .int 0])), (z, .inl (gy g 6, 16, .inr (.inr (.inr (.inr (fun _ => none))))))] H := hP
  have hD : va_D (rB a z) [(a, .inr (1, [.ref z, .int 0, .int 0])), (z, .inl (gy g 6, 16, .inr (.inr (.inr (.inr (fun _ => none))))))] := hD
  refine W.widen (k := 1) (n := 16) (by decide) (by decide) ?_
  exact r_vret hx hb hr hlocks hK hS hAg ⟨hz, hP⟩ dX1_init_13
theorem dX2_init_0 : decode cX2_init 0 = .ok (.aload_n 0, 1) := by decide +kernel
theorem dX2_init_1 : decode cX2_init 1 = .ok (.invokespecial 3, 3) := by decide +kernel
theorem dX2_init_4 : decode cX2_init 4 = .ok (.aload_n 0, 1) := by decide +kernel
theorem dX2_init_5 : decode cX2_init 5 = .ok (.sipush 10240, 3) := by decide +kernel
theorem dX2_init_8 : decode cX2_init 8 = .ok (.newarray .int, 2) := by decide +kernel
theorem dX2_init_10 : decode cX2_init 10 = .ok (.putfield 9, 3) := by decide +kernel
theorem dX2_init_13 : decode cX2_init 13 = .ok (.aload_n 0, 1) := by decide +kernel
theorem dX2_init_14 : decode cX2_init 14 = .ok (.bipush 100, 2) := by decide +kernel
theorem dX2_init_16 : decode cX2_init 16 = .ok (.newarray .int, 2) := by decide +kernel
theorem dX2_init_18 : decode cX2_init 18 = .ok (.putfield 15, 3) := by decide +kernel
theorem dX2_init_21 : decode cX2_init 21 = .ok (.aload_n 0, 1) := by decide +kernel
theorem dX2_init_22 : decode cX2_init 22 = .ok (.bipush 10, 2) := by decide +kernel
theorem dX2_init_24 : decode cX2_init 24 = .ok (.newarray .int, 2) := by decide +kernel
theorem dX2_init_26 : decode cX2_init 26 = .ok (.putfield 18, 3) := by decide +kernel
theorem dX2_init_29 : decode cX2_init 29 = .ok (.aload_n 0, 1) := by decide +kernel
theorem dX2_init_30 : decode cX2_init 30 = .ok (.iconst (-1), 1) := by decide +kernel
theorem dX2_init_31 : decode cX2_init 31 = .ok (.putfield 21, 3) := by decide +kernel
theorem dX2_init_34 : decode cX2_init 34 = .ok (.aload_n 0, 1) := by decide +kernel
theorem dX2_init_35 : decode cX2_init 35 = .ok (.iconst (-1), 1) := by decide +kernel
theorem dX2_init_36 : decode cX2_init 36 = .ok (.putfield 25, 3) := by decide +kernel
theorem dX2_init_39 : decode cX2_init 39 = .ok (.return_, 1) := by decide +kernel
abbrev rm_X2_init : Room := { frames := 1, cells := 3, slots := 10350, locals := 12 }
set_option maxRecDepth 100000 in
set_option maxHeartbeats 4000000 in
theorem rc_X2_init (l : Launch) (g : GT) (H0 : Heap) (a z : Nat) (hz : H0.size = z) (ha : a < z) (hg : g.1 ≤ a) (hP0 : va_P (gD g) vwCl [(a, .inr (2, [.null, .null, .null, .int 0, .int 0, .int 0]))] H0) : Met l yX2_init wsX2_init rm_X2_init (rPre g H0 [.ref a]) (rQv g (rB a z) (fun H => H.size = z + 3 ∧ va_P (gD g) vwCl [(a, .inr (2, [.ref z, .ref (z + 1), .ref (z + 2), .int 0, .int (-1), .int (-1)])), (z, .inl (gy g 1, 10240, .inl (fun _ => 0))), ((z + 1), .inl (gy g 1, 100, .inl (fun _ => 0))), ((z + 2), .inl (gy g 1, 10, .inl (fun _ => 0)))] H)) 3 10350 (rB a z) := by
  have i_2 : ∀ w ∈ u_ws RX2 TX2 6, w ∈ wsX2_init := by decide +kernel
  refine r_met (by decide) rfl (Nat.le_of_ble_eq_true rfl) ?_
  intro p e s m below meth c hx hb hr hml hts hown hlocks hin hK hH ls hl
  have hown : s.vm.findClass RX2 = some m.cls := hown
  have hin : meth.name = "<init>" := hin
  have hl : lv_has ls 1 [(0, .ref a)] := hl
  subst hH
  have hAg := rB_g (g := g) hg ha
  have hAz : ∀ q, z ≤ q → rB a z q := fun q h => Or.inr h
  have hP := hP0
  have hD : va_D (rB a z) [(a, .inr (2, [.null, .null, .null, .int 0, .int 0, .int 0]))] := ⟨fun i j x y h1 h2 _ => by
    have z1 : i < 1 := (List.getElem?_eq_some_iff.mp h1).1
    have z2 : j < 1 := (List.getElem?_eq_some_iff.mp h2).1
    omega, fun k q h => by
    have z1 : k < 1 := (List.getElem?_eq_some_iff.mp h).1
    rw [show k = 0 by omega] at h
    cases h
    exact Or.inl rfl⟩
  have hS : va_S (rB a z) s.heap s.heap [] := va_S.rf
  refine lv_aload_n hx hb dX2_init_0 rfl (lv_at hl 0 rfl) ?_
  refine W.objInit hx hb hown (hts (.methodLink RX2 3 objectInit) (by decide +kernel)) (hts (.instanceMethod objectInit) (by decide +kernel)) (hts (.code objectInit ⟨#[0xb1]⟩ 1 none) (by decide +kernel)) rfl (by rw [hml]; exact hl.1) rfl dX2_init_1 (Nat.le_of_ble_eq_true rfl) (Nat.le_of_ble_eq_true rfl) ?_
  refine W.eq (g2 := F0 m 4 ls []) rfl ?_
  refine lv_aload_n hx hb dX2_init_4 rfl (lv_at hl 0 rfl) ?_
  refine lv_sipush (v := 10240) hx hb dX2_init_5 (by decide) ?_
  refine rl_newa (atype := .int) (a0 := (10240, .inl (fun _ => 0))) (N' := 10240) hx hb (hts (.arrayClass .int) (by decide +kernel)) rfl hP hD hS hz (hAz _ (by omega)) (hK.1.2 1 _ rfl).2 (fun _ => rfl) (by decide) (by decide) (by decide) (Nat.le_of_ble_eq_true rfl) (Nat.le_of_ble_eq_true rfl) dX2_init_8 (fun H hz hP hD hS => ?_)
  have hP : va_P (gD g) vwCl [(a, .inr (2, [.null, .null, .null, .int 0, .int 0, .int 0])), (z, .inl (gy g 1, 10240, .inl (fun _ => 0)))] H := hP
  have hD : va_D (rB a z) [(a, .inr (2, [.null, .null, .null, .int 0, .int 0, .int 0])), (z, .inl (gy g 1, 10240, .inl (fun _ => 0)))] := hD
  refine rl_putF (ty := .array .int) hx hb hts i_2 tyX2 tyX2_ok nmX2 hown hK hP hD hS hz 0 rfl rfl 0 (by decide) (hts (.fieldLink RX2 9 "OpticalJukebox$Planner" "rest" "[I") (by decide +kernel)) rfl hin rfl (by decide +kernel) rfl rfl (Nat.le_of_ble_eq_true rfl) dX2_init_10 (fun H locs hz hP hD hS => ?_)
  have hP : va_P (gD g) vwCl [(a, .inr (2, [.ref z, .null, .null, .int 0, .int 0, .int 0])), (z, .inl (gy g 1, 10240, .inl (fun _ => 0)))] H := hP
  have hD : va_D (rB a z) [(a, .inr (2, [.ref z, .null, .null, .int 0, .int 0, .int 0])), (z, .inl (gy g 1, 10240, .inl (fun _ => 0)))] := hD
  refine lv_aload_n hx hb dX2_init_13 rfl (lv_at hl 0 rfl) ?_
  refine lv_bipush (v := 100) hx hb dX2_init_14 (by decide) ?_
  refine rl_newa (atype := .int) (a0 := (100, .inl (fun _ => 0))) (N' := 100) hx hb (hts (.arrayClass .int) (by decide +kernel)) rfl hP hD hS hz (hAz _ (by omega)) (hK.1.2 1 _ rfl).2 (fun _ => rfl) (by decide) (by decide) (by decide) (Nat.le_of_ble_eq_true rfl) (Nat.le_of_ble_eq_true rfl) dX2_init_16 (fun H hz hP hD hS => ?_)
  have hP : va_P (gD g) vwCl [(a, .inr (2, [.ref z, .null, .null, .int 0, .int 0, .int 0])), (z, .inl (gy g 1, 10240, .inl (fun _ => 0))), ((z + 1), .inl (gy g 1, 100, .inl (fun _ => 0)))] H := hP
  have hD : va_D (rB a z) [(a, .inr (2, [.ref z, .null, .null, .int 0, .int 0, .int 0])), (z, .inl (gy g 1, 10240, .inl (fun _ => 0))), ((z + 1), .inl (gy g 1, 100, .inl (fun _ => 0)))] := hD
  refine rl_putF (ty := .array .int) hx hb hts i_2 tyX2 tyX2_ok nmX2 hown hK hP hD hS hz 0 rfl rfl 1 (by decide) (hts (.fieldLink RX2 15 "OpticalJukebox$Planner" "swap" "[I") (by decide +kernel)) rfl hin rfl (by decide +kernel) rfl rfl (Nat.le_of_ble_eq_true rfl) dX2_init_18 (fun H locs hz hP hD hS => ?_)
  have hP : va_P (gD g) vwCl [(a, .inr (2, [.ref z, .ref (z + 1), .null, .int 0, .int 0, .int 0])), (z, .inl (gy g 1, 10240, .inl (fun _ => 0))), ((z + 1), .inl (gy g 1, 100, .inl (fun _ => 0)))] H := hP
  have hD : va_D (rB a z) [(a, .inr (2, [.ref z, .ref (z + 1), .null, .int 0, .int 0, .int 0])), (z, .inl (gy g 1, 10240, .inl (fun _ => 0))), ((z + 1), .inl (gy g 1, 100, .inl (fun _ => 0)))] := hD
  refine lv_aload_n hx hb dX2_init_21 rfl (lv_at hl 0 rfl) ?_
  refine lv_bipush (v := 10) hx hb dX2_init_22 (by decide) ?_
  refine rl_newa (atype := .int) (a0 := (10, .inl (fun _ => 0))) (N' := 10) hx hb (hts (.arrayClass .int) (by decide +kernel)) rfl hP hD hS hz (hAz _ (by omega)) (hK.1.2 1 _ rfl).2 (fun _ => rfl) (by decide) (by decide) (by decide) (Nat.le_of_ble_eq_true rfl) (Nat.le_of_ble_eq_true rfl) dX2_init_24 (fun H hz hP hD hS => ?_)
  have hP : va_P (gD g) vwCl [(a, .inr (2, [.ref z, .ref (z + 1), .null, .int 0, .int 0, .int 0])), (z, .inl (gy g 1, 10240, .inl (fun _ => 0))), ((z + 1), .inl (gy g 1, 100, .inl (fun _ => 0))), ((z + 2), .inl (gy g 1, 10, .inl (fun _ => 0)))] H := hP
  have hD : va_D (rB a z) [(a, .inr (2, [.ref z, .ref (z + 1), .null, .int 0, .int 0, .int 0])), (z, .inl (gy g 1, 10240, .inl (fun _ => 0))), ((z + 1), .inl (gy g 1, 100, .inl (fun _ => 0))), ((z + 2), .inl (gy g 1, 10, .inl (fun _ => 0)))] := hD
  refine rl_putF (ty := .array .int) hx hb hts i_2 tyX2 tyX2_ok nmX2 hown hK hP hD hS hz 0 rfl rfl 2 (by decide) (hts (.fieldLink RX2 18 "OpticalJukebox$Planner" "order" "[I") (by decide +kernel)) rfl hin rfl (by decide +kernel) rfl rfl (Nat.le_of_ble_eq_true rfl) dX2_init_26 (fun H locs hz hP hD hS => ?_)
  have hP : va_P (gD g) vwCl [(a, .inr (2, [.ref z, .ref (z + 1), .ref (z + 2), .int 0, .int 0, .int 0])), (z, .inl (gy g 1, 10240, .inl (fun _ => 0))), ((z + 1), .inl (gy g 1, 100, .inl (fun _ => 0))), ((z + 2), .inl (gy g 1, 10, .inl (fun _ => 0)))] H := hP
  have hD : va_D (rB a z) [(a, .inr (2, [.ref z, .ref (z + 1), .ref (z + 2), .int 0, .int 0, .int 0])), (z, .inl (gy g 1, 10240, .inl (fun _ => 0))), ((z + 1), .inl (gy g 1, 100, .inl (fun _ => 0))), ((z + 2), .inl (gy g 1, 10, .inl (fun _ => 0)))] := hD
  refine lv_aload_n hx hb dX2_init_29 rfl (lv_at hl 0 rfl) ?_
  refine lv_iconst (v := -1) hx hb dX2_init_30 (by decide) ?_
  refine rl_put (ty := .int) hx hb hts i_2 tyX2 tyX2_ok nmX2 hown hK hP hD hS hz 0 rfl rfl 4 (by decide) (hts (.fieldLink RX2 21 "OpticalJukebox$Planner" "drive" "I") (by decide +kernel)) rfl (by decide +kernel) rfl rfl (Nat.le_of_ble_eq_true rfl) dX2_init_31 (fun H locs hz hP hD hS => ?_)
  have hP : va_P (gD g) vwCl [(a, .inr (2, [.ref z, .ref (z + 1), .ref (z + 2), .int 0, .int (-1), .int 0])), (z, .inl (gy g 1, 10240, .inl (fun _ => 0))), ((z + 1), .inl (gy g 1, 100, .inl (fun _ => 0))), ((z + 2), .inl (gy g 1, 10, .inl (fun _ => 0)))] H := hP
  have hD : va_D (rB a z) [(a, .inr (2, [.ref z, .ref (z + 1), .ref (z + 2), .int 0, .int (-1), .int 0])), (z, .inl (gy g 1, 10240, .inl (fun _ => 0))), ((z + 1), .inl (gy g 1, 100, .inl (fun _ => 0))), ((z + 2), .inl (gy g 1, 10, .inl (fun _ => 0)))] := hD
  refine lv_aload_n hx hb dX2_init_34 rfl (lv_at hl 0 rfl) ?_
  refine lv_iconst (v := -1) hx hb dX2_init_35 (by decide) ?_
  refine rl_put (ty := .int) hx hb hts i_2 tyX2 tyX2_ok nmX2 hown hK hP hD hS hz 0 rfl rfl 5 (by decide) (hts (.fieldLink RX2 25 "OpticalJukebox$Planner" "tableDrive" "I") (by decide +kernel)) rfl (by decide +kernel) rfl rfl (Nat.le_of_ble_eq_true rfl) dX2_init_36 (fun H locs hz hP hD hS => ?_)
  have hP : va_P (gD g) vwCl [(a, .inr (2, [.ref z, .ref (z + 1), .ref (z + 2), .int 0, .int (-1), .int (-1)])), (z, .inl (gy g 1, 10240, .inl (fun _ => 0))), ((z + 1), .inl (gy g 1, 100, .inl (fun _ => 0))), ((z + 2), .inl (gy g 1, 10, .inl (fun _ => 0)))] H := hP
  have hD : va_D (rB a z) [(a, .inr (2, [.ref z, .ref (z + 1), .ref (z + 2), .int 0, .int (-1), .int (-1)])), (z, .inl (gy g 1, 10240, .inl (fun _ => 0))), ((z + 1), .inl (gy g 1, 100, .inl (fun _ => 0))), ((z + 2), .inl (gy g 1, 10, .inl (fun _ => 0)))] := hD
  refine W.widen (k := 3) (n := 10350) (by decide) (by decide) ?_
  exact r_vret hx hb hr hlocks hK hS hAg ⟨hz, hP⟩ dX2_init_39
theorem dX5_init_0 : decode cX5_init 0 = .ok (.aload_n 0, 1) := by decide +kernel
theorem dX5_init_1 : decode cX5_init 1 = .ok (.invokespecial 3, 3) := by decide +kernel
theorem dX5_init_4 : decode cX5_init 4 = .ok (.aload_n 0, 1) := by decide +kernel
theorem dX5_init_5 : decode cX5_init 5 = .ok (.sipush 900, 3) := by decide +kernel
theorem dX5_init_8 : decode cX5_init 8 = .ok (.newarray .byte, 2) := by decide +kernel
theorem dX5_init_10 : decode cX5_init 10 = .ok (.putfield 9, 3) := by decide +kernel
theorem dX5_init_13 : decode cX5_init 13 = .ok (.aload_n 0, 1) := by decide +kernel
theorem dX5_init_14 : decode cX5_init 14 = .ok (.bipush 20, 2) := by decide +kernel
theorem dX5_init_16 : decode cX5_init 16 = .ok (.newarray .long, 2) := by decide +kernel
theorem dX5_init_18 : decode cX5_init 18 = .ok (.putfield 15, 3) := by decide +kernel
theorem dX5_init_21 : decode cX5_init 21 = .ok (.return_, 1) := by decide +kernel
abbrev rm_X5_init : Room := { frames := 1, cells := 2, slots := 920, locals := 12 }
set_option maxRecDepth 100000 in
set_option maxHeartbeats 4000000 in
theorem rc_X5_init (l : Launch) (g : GT) (H0 : Heap) (a z : Nat) (hz : H0.size = z) (ha : a < z) (hg : g.1 ≤ a) (hP0 : va_P (gD g) vwCl [(a, .inr (5, [.null, .int 0, .int 0, .int 0, .int 0, .int 0, .null, .int 0, .int 0]))] H0) : Met l yX5_init wsX5_init rm_X5_init (rPre g H0 [.ref a]) (rQv g (rB a z) (fun H => H.size = z + 2 ∧ va_P (gD g) vwCl [(a, .inr (5, [.ref z, .int 0, .int 0, .int 0, .int 0, .int 0, .ref (z + 1), .int 0, .int 0])), (z, .inl (gy g 0, 900, .inl (fun _ => 0))), ((z + 1), .inl (gy g 2, 20, .inr (.inl (fun _ => 0))))] H)) 2 920 (rB a z) := by
  have i_5 : ∀ w ∈ u_ws RX5 TX5 9, w ∈ wsX5_init := by decide +kernel
  refine r_met (by decide) rfl (Nat.le_of_ble_eq_true rfl) ?_
  intro p e s m below meth c hx hb hr hml hts hown hlocks hin hK hH ls hl
  have hown : s.vm.findClass RX5 = some m.cls := hown
  have hin : meth.name = "<init>" := hin
  have hl : lv_has ls 1 [(0, .ref a)] := hl
  subst hH
  have hAg := rB_g (g := g) hg ha
  have hAz : ∀ q, z ≤ q → rB a z q := fun q h => Or.inr h
  have hP := hP0
  have hD : va_D (rB a z) [(a, .inr (5, [.null, .int 0, .int 0, .int 0, .int 0, .int 0, .null, .int 0, .int 0]))] := ⟨fun i j x y h1 h2 _ => by
    have z1 : i < 1 := (List.getElem?_eq_some_iff.mp h1).1
    have z2 : j < 1 := (List.getElem?_eq_some_iff.mp h2).1
    omega, fun k q h => by
    have z1 : k < 1 := (List.getElem?_eq_some_iff.mp h).1
    rw [show k = 0 by omega] at h
    cases h
    exact Or.inl rfl⟩
  have hS : va_S (rB a z) s.heap s.heap [] := va_S.rf
  refine lv_aload_n hx hb dX5_init_0 rfl (lv_at hl 0 rfl) ?_
  refine W.objInit hx hb hown (hts (.methodLink RX5 3 objectInit) (by decide +kernel)) (hts (.instanceMethod objectInit) (by decide +kernel)) (hts (.code objectInit ⟨#[0xb1]⟩ 1 none) (by decide +kernel)) rfl (by rw [hml]; exact hl.1) rfl dX5_init_1 (Nat.le_of_ble_eq_true rfl) (Nat.le_of_ble_eq_true rfl) ?_
  refine W.eq (g2 := F0 m 4 ls []) rfl ?_
  refine lv_aload_n hx hb dX5_init_4 rfl (lv_at hl 0 rfl) ?_
  refine lv_sipush (v := 900) hx hb dX5_init_5 (by decide) ?_
  refine rl_newa (atype := .byte) (a0 := (900, .inl (fun _ => 0))) (N' := 900) hx hb (hts (.arrayClass .byte) (by decide +kernel)) rfl hP hD hS hz (hAz _ (by omega)) (hK.1.2 0 _ rfl).2 (fun _ => rfl) (by decide) (by decide) (by decide) (Nat.le_of_ble_eq_true rfl) (Nat.le_of_ble_eq_true rfl) dX5_init_8 (fun H hz hP hD hS => ?_)
  have hP : va_P (gD g) vwCl [(a, .inr (5, [.null, .int 0, .int 0, .int 0, .int 0, .int 0, .null, .int 0, .int 0])), (z, .inl (gy g 0, 900, .inl (fun _ => 0)))] H := hP
  have hD : va_D (rB a z) [(a, .inr (5, [.null, .int 0, .int 0, .int 0, .int 0, .int 0, .null, .int 0, .int 0])), (z, .inl (gy g 0, 900, .inl (fun _ => 0)))] := hD
  refine rl_putF (ty := .array .byte) hx hb hts i_5 tyX5 tyX5_ok nmX5 hown hK hP hD hS hz 0 rfl rfl 0 (by decide) (hts (.fieldLink RX5 9 "OpticalJukebox$TextReader" "text" "[B") (by decide +kernel)) rfl hin rfl (by decide +kernel) rfl rfl (Nat.le_of_ble_eq_true rfl) dX5_init_10 (fun H locs hz hP hD hS => ?_)
  have hP : va_P (gD g) vwCl [(a, .inr (5, [.ref z, .int 0, .int 0, .int 0, .int 0, .int 0, .null, .int 0, .int 0])), (z, .inl (gy g 0, 900, .inl (fun _ => 0)))] H := hP
  have hD : va_D (rB a z) [(a, .inr (5, [.ref z, .int 0, .int 0, .int 0, .int 0, .int 0, .null, .int 0, .int 0])), (z, .inl (gy g 0, 900, .inl (fun _ => 0)))] := hD
  refine lv_aload_n hx hb dX5_init_13 rfl (lv_at hl 0 rfl) ?_
  refine lv_bipush (v := 20) hx hb dX5_init_14 (by decide) ?_
  refine rl_newa (atype := .long) (a0 := (20, .inr (.inl (fun _ => 0)))) (N' := 20) hx hb (hts (.arrayClass .long) (by decide +kernel)) rfl hP hD hS hz (hAz _ (by omega)) (hK.1.2 2 _ rfl).2 (fun _ => rfl) (by decide) (by decide) (by decide) (Nat.le_of_ble_eq_true rfl) (Nat.le_of_ble_eq_true rfl) dX5_init_16 (fun H hz hP hD hS => ?_)
  have hP : va_P (gD g) vwCl [(a, .inr (5, [.ref z, .int 0, .int 0, .int 0, .int 0, .int 0, .null, .int 0, .int 0])), (z, .inl (gy g 0, 900, .inl (fun _ => 0))), ((z + 1), .inl (gy g 2, 20, .inr (.inl (fun _ => 0))))] H := hP
  have hD : va_D (rB a z) [(a, .inr (5, [.ref z, .int 0, .int 0, .int 0, .int 0, .int 0, .null, .int 0, .int 0])), (z, .inl (gy g 0, 900, .inl (fun _ => 0))), ((z + 1), .inl (gy g 2, 20, .inr (.inl (fun _ => 0))))] := hD
  refine rl_putF (ty := .array .long) hx hb hts i_5 tyX5 tyX5_ok nmX5 hown hK hP hD hS hz 0 rfl rfl 6 (by decide) (hts (.fieldLink RX5 15 "OpticalJukebox$TextReader" "names" "[J") (by decide +kernel)) rfl hin rfl (by decide +kernel) rfl rfl (Nat.le_of_ble_eq_true rfl) dX5_init_18 (fun H locs hz hP hD hS => ?_)
  have hP : va_P (gD g) vwCl [(a, .inr (5, [.ref z, .int 0, .int 0, .int 0, .int 0, .int 0, .ref (z + 1), .int 0, .int 0])), (z, .inl (gy g 0, 900, .inl (fun _ => 0))), ((z + 1), .inl (gy g 2, 20, .inr (.inl (fun _ => 0))))] H := hP
  have hD : va_D (rB a z) [(a, .inr (5, [.ref z, .int 0, .int 0, .int 0, .int 0, .int 0, .ref (z + 1), .int 0, .int 0])), (z, .inl (gy g 0, 900, .inl (fun _ => 0))), ((z + 1), .inl (gy g 2, 20, .inr (.inl (fun _ => 0))))] := hD
  refine W.widen (k := 2) (n := 920) (by decide) (by decide) ?_
  exact r_vret hx hb hr hlocks hK hS hAg ⟨hz, hP⟩ dX5_init_21

theorem arrV_congr {cI : ClassId} {N : Nat} {f f' : Nat → Value} (h : ∀ j, j < N → f j = f' j) : arrV cI N f = arrV cI N f' := by
  have : (fun j : Fin N => f j.val) = fun j => f' j.val := funext fun j => h j.val j.isLt
  unfold arrV
  rw [this]
def w00 : WT := ((fun _ _ _ _ => 0, fun _ _ _ => 0, fun _ => 0, fun _ _ _ => 0, fun _ _ _ => 0, fun _ => none, fun _ _ _ => 0, (0, 0, none), ([], 0)), (fun _ _ _ => 0, fun _ => 0, 0))
def cellS (cy : Nat → ClassId) (a : Nat) (sd : SD) (k j : Nat) : va_E := cellOf cy (wS w00 a sd) a k j
theorem grp0 {k : Nat} (h : grp k = 0) : k = 0 ∨ k = 3 ∨ k = 4 ∨ k = 6 ∨ (10 ≤ k ∧ k ≤ 18) := by
  unfold grp at h
  split at h
  · assumption
  · repeat' split at h
    all_goals cases h
theorem zt_S {w : WT} {k t : Nat} (h : grp k = 0) : zt w k t = none := by
  rcases grp0 h with rfl | rfl | rfl | rfl | ⟨h1, h2⟩
  iterate 4 rfl
  unfold zt
  split <;> first | rfl | omega
theorem cellS_of {cy : Nat → ClassId} {w : WT} {a : Nat} {sd : SD} {k j : Nat} (h : grp k = 0) : cellOf cy (wS w a sd) a k j = cellS cy a sd k j := by
  unfold cellS cellOf
  have hs : sval (wS w a sd) a k j = sval (wS w00 a sd) a k j := by
    funext t
    unfold sval
    rw [zt_S h, zt_S h, wS_S h, wS_S h]
  have hc : conts (wS w a sd) a k j = conts (wS w00 a sd) a k j := by
    have e : (fun t => wints (wS w a sd) a k j t) = fun t => wints (wS w00 a sd) a k j t := by
      funext t
      rw [wS_S h, wS_S h]
    unfold conts
    rw [e]
    rcases grp0 h with rfl | rfl | rfl | rfl | ⟨h1, h2⟩
    iterate 4 rfl
    split <;> first | rfl | omega
  rw [hs, hc]
/-- a State's own cells -/
def StB (g : GT) (a : Nat) (sd : SD) (H : Heap) : Prop := ∀ k j, grp k = 0 → j < jn k → va_at (gD g) vwCl (adr a k j, cellS (gy g) a sd k j) H
/-- which cell of a State lies at an offset -/
def sinv (o : Nat) : Nat × Nat := if o = 0 then (4, 0) else if o < 7 then (o + 9, 0) else if o < 11 then (0, o - 7) else if o < 51 then ((if (o - 11) % 4 = 0 then 3 else 15 + (o - 11) % 4), (o - 11) / 4) else (6, o - 51)
theorem sinv_off {k j : Nat} (h : grp k = 0) (hj : j < jn k) : sinv (off k j) = (k, j) ∧ off k j < 91 := by
  rcases grp0 h with rfl | rfl | rfl | rfl | ⟨h1, h2⟩
  · have hj : j < 4 := hj
    show sinv (7 + j) = _ ∧ 7 + j < 91
    unfold sinv
    rw [if_neg (by omega), if_neg (by omega), if_pos (by omega)]
    exact ⟨by simp, by omega⟩
  · have hj : j < 10 := hj
    show sinv (11 + 4 * j) = _ ∧ 11 + 4 * j < 91
    unfold sinv
    rw [if_neg (by omega), if_neg (by omega), if_neg (by omega), if_pos (by omega), if_pos (by omega)]
    exact ⟨by rw [show (11 + 4 * j - 11) / 4 = j by omega], by omega⟩
  · have hj : j < 1 := hj
    have : j = 0 := by omega
    subst this
    exact ⟨rfl, by decide⟩
  · have hj : j < 40 := hj
    show sinv (51 + j) = _ ∧ 51 + j < 91
    unfold sinv
    rw [if_neg (by omega), if_neg (by omega), if_neg (by omega), if_neg (by omega)]
    exact ⟨by simp, by omega⟩
  · rcases (show k = 10 ∨ k = 11 ∨ k = 12 ∨ k = 13 ∨ k = 14 ∨ k = 15 ∨ k = 16 ∨ k = 17 ∨ k = 18 by omega) with rfl | rfl | rfl | rfl | rfl | rfl | rfl | rfl | rfl
    iterate 6 (
      have hj : j < 1 := hj
      have : j = 0 := by omega
      subst this
      exact ⟨rfl, by decide⟩)
    · have hj : j < 10 := hj
      show sinv (12 + 4 * j) = _ ∧ 12 + 4 * j < 91
      unfold sinv
      rw [if_neg (by omega), if_neg (by omega), if_neg (by omega), if_pos (by omega), if_neg (by omega)]
      exact ⟨by rw [show (12 + 4 * j - 11) / 4 = j by omega, show (12 + 4 * j - 11) % 4 = 1 by omega], by omega⟩
    · have hj : j < 10 := hj
      show sinv (13 + 4 * j) = _ ∧ 13 + 4 * j < 91
      unfold sinv
      rw [if_neg (by omega), if_neg (by omega), if_neg (by omega), if_pos (by omega), if_neg (by omega)]
      exact ⟨by rw [show (13 + 4 * j - 11) / 4 = j by omega, show (13 + 4 * j - 11) % 4 = 2 by omega], by omega⟩
    · have hj : j < 10 := hj
      show sinv (14 + 4 * j) = _ ∧ 14 + 4 * j < 91
      unfold sinv
      rw [if_neg (by omega), if_neg (by omega), if_neg (by omega), if_pos (by omega), if_neg (by omega)]
      exact ⟨by rw [show (14 + 4 * j - 11) / 4 = j by omega, show (14 + 4 * j - 11) % 4 = 3 by omega], by omega⟩
theorem off_inj {k j k' j' : Nat} (h : grp k = 0) (hj : j < jn k) (h' : grp k' = 0) (hj' : j' < jn k') (e : off k j = off k' j') : k = k' ∧ j = j' := by
  have h1 := (sinv_off h hj).1
  rw [e, (sinv_off h' hj').1] at h1
  exact ⟨(congrArg Prod.fst h1).symm, (congrArg Prod.snd h1).symm⟩
/-- the world of one State alone -/
def wOne (a : Nat) : WT := ((fun _ _ _ _ => 0, fun _ _ _ => 0, fun _ => 0, fun _ _ _ => 0, fun _ _ _ => 0, fun _ => none, fun _ _ _ => 0, (a, a, none), ([a], a + 91)), (fun _ _ _ => 0, fun _ => 0, 0))
abbrev g00 (g : GT) (a : Nat) : GT := (a, g.2.1, g.2.2.1, g.2.2.2.1, g.2.2.2.2.1, 0)
theorem wK.narrow {g : GT} {s : State} {a : Nat} (h : wK g s) (ha : g.1 ≤ a) : wK (g00 g a) s :=
  ⟨h.1, h.2.1.narrow (fun q hq => Nat.le_trans ha hq), h.2.2.1, h.2.2.2.1.narrow (fun q hq => Nat.le_trans ha hq), h.2.2.2.2.1.narrow (fun q hq => Nat.le_trans ha hq), h.2.2.2.2.2⟩
theorem one_dm {g : GT} {a : Nat} {sd : SD} {i k j : Nat} (h : wdm (g00 g a) (wS (wOne a) a sd) i k j) : grp k = 0 ∧ i = a ∧ j < jn k := by
  obtain ⟨h1, h2⟩ := h
  rcases grp_le k with e | e | e | e | e | e <;> rw [e] at h1
  · exact ⟨e, List.mem_singleton.mp h1, h2⟩
  · exact absurd (show (1 : Nat) ≤ 0 from h1.1) (by decide)
  · exact absurd (show (1 : Nat) ≤ 0 from h1.1) (by decide)
  · cases h1
  · exact absurd (show (1 : Nat) ≤ 0 from h1.1) (by decide)
  · exact absurd (show (2 : Nat) ≤ 0 from h1.1) (by decide)
theorem one_World {g : GT} {a : Nat} {sd : SD} {H : Heap} (hz : H.size = a + 91) (hB : StB g a sd H) : World (g00 g a) (wS (wOne a) a sd) H := by
  refine ⟨fun i k j h => ?_, fun i k j i' k' j' h h' e => ?_, hz, List.mem_singleton.mpr rfl, List.mem_singleton.mpr rfl, fun t q h => by cases h⟩
  · obtain ⟨h1, rfl, h3⟩ := one_dm h
    refine ⟨?_, ?_⟩
    · rw [cellS_of h1]
      exact hB k j h1 h3
    · show i ≤ i + off k j
      omega
  · obtain ⟨h1, rfl, h3⟩ := one_dm h
    obtain ⟨h1', rfl, h3'⟩ := one_dm h'
    have e : i' + off k j = i' + off k' j' := e
    have := off_inj h1 h3 h1' h3' (by omega)
    exact ⟨rfl, this⟩
theorem one_StB {g : GT} {a : Nat} {sd : SD} {H : Heap} (hW : World (g00 g a) (wS (wOne a) a sd) H) : StB g a sd H := by
  intro k j h hj
  have := hW.cell (i := a) (k := k) (j := j) ⟨by rw [h]; exact List.mem_singleton.mpr rfl, hj⟩
  rw [cellS_of h] at this
  exact this
