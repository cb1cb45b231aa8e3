/-! rows and contracts of library members, by hand -/
theorem fit_b {v : Int32} (h : v = 0 ∨ v = 1) : fits .boolean (.int v) = true := by rcases h with rfl | rfl <;> rfl
theorem b_X4_currentVersion {sd : SD} {a1 : Int32} {q : Nat} (hf : f_X4_currentVersion sd a1 = some q) : q < 40 := by
  rw [f_X4_currentVersion] at hf
  obtain ⟨h1, hf⟩ := x_guardE hf
  obtain ⟨h2, hf⟩ := x_guardE hf
  cases hf
  exact x_lt h2
section XCPY
variable {p : Program} {l : Launch} {e : Env} {R : Room} {s : State} {m : MethodId} {args : Array Value} {below : List Frame} {meth : Method} {c : Code} {H H0 : Heap} {locs : List Loc} {cells slots : Nat} {Q : State → Prop} {pc : Nat} {ls : Array Slot} {rest : List Value} {cc : ByteArray} {g : GT} {w w' : WT} {i i2 k j j2 : Nat}
theorem x_cpy (hexec : p.tables.exec = Jvm.exec) (hb : c.code = cc) (hml : c.maxLocals = ls.size) {own : String} {index : Nat} (hown : s.vm.findClass own = some m.cls) (hlink : (Cond.methodLink own index arraycopyName).before args s = true) (hnat : (Cond.native arraycopyName).before args s = true) (hstat : (Cond.static arraycopyName).before args s = true) (hini : (Cond.initialized "java/lang/System").before args s = true)
    (hK : wK g s) (hW : World g w H) (hn2 : wdm g w i2 k j2) (hn : wdm g w i k j) (hS : va_S (gA g) H0 H locs) (hk : ¬ k < 9) (ht : aty k = 1) {f f0 : Nat → Int32} (hc2 : conts w i2 k j2 = .inl f) (hc : conts w i k j = .inl f0) (hc' : conts w' i k j = .inl (wints w' i k j)) {n : Int32} (hnn : ¬ n < 0 ∧ n.toNatClampNeg = aln k)
    (hframes : 1 ≤ R.frames) (hlocals : (rest.map fun v => v.category).sum + (nativeFrameWords "java/lang/System" "arraycopy" 5 + 11) ≤ R.locals) (hdg : decode cc pc = .ok (.invokestatic index, 3))
    (hF : (∀ t', wints w' i k j t' = if t' < aln k then f t' else f0 t') ∧ ∀ e', cellOf (gy g) w' i k j = e' → WFit g w w' i k j e')
    (kk : ∀ (H1 : Heap) (locs1 : List Loc), World g w' H1 → va_S (gA g) H0 H1 locs1 → W p l e R s m args below meth c H1 locs1 cells slots Q (F0 m (pc + 3) ls rest)) : W p l e R s m args below meth c H locs cells slots Q (F0 m pc ls (.int n :: .int 0 :: .ref (adr i k j) :: .int 0 :: .ref (adr i2 k j2) :: rest)) := by
  intro T hT X
  have h00 : ¬ (0 : Int32) < 0 := by decide
  have hc0 : H[adr i2 k j2]? = some (vp_cell (gy g (aty k)) (aln k, .inl f)) := by
    have := hW.cell hn2
    rw [cell_arr hk, hc2] at this
    exact this
  have hc1 : H[adr i k j]? = some (vp_cell (gy g (aty k)) (aln k, .inl f0)) := by
    have := hW.cell hn
    rw [cell_arr hk, hc] at this
    exact this
  have hty : (tyl (gy g))[1]? = some (gy g (aty k), .int) := by rw [ht]; rfl
  obtain ⟨-, k0, hk0, cm0, hkk0⟩ := (hK.1.2 1 _ hty).1 (aln k) (fun j => .int (f j))
  obtain ⟨-, k1, hk1, cm1, hkk1⟩ := (hK.1.2 1 _ hty).1 (aln k) (fun j => .int (f0 j))
  have hni : n.toInt = (aln k : Int) := by
    have hz0 : (0 : Int) ≤ n.toInt := by
      have := Int32.not_lt.mp hnn.1
      simpa using Int32.le_iff_toInt_le.mp this
    have h2 : ((n.toInt.toNat : Nat) : Int) = (aln k : Int) := by rw [← hnn.2]; rfl
    omega
  have hz : (0 : Int32).toInt = 0 := rfl
  have hzc : (0 : Int32).toNatClampNeg = 0 := rfl
  obtain ⟨vm', X', step⟩ := X.arraycopy hexec hown hlink hnat hstat hini (src := adr i2 k j2) (dst := adr i k j) (cs := vp_cell (gy g (aty k)) (aln k, .inl f)) (cd := vp_cell (gy g (aty k)) (aln k, .inl f0)) (srcPos := 0) (destPos := 0) (n := n) (by rw [hT]; exact hc0) (by rw [hT]; exact hc1)
    (fun _ h => by cases h) (fun _ h => by cases h) (fun h => by cases h) (fun h => by cases h) hk0 hk1 hkk0 hkk1 (by simp [refKind]) h00 h00 hnn.1
    (by rw [hz, hni]; show ¬ _ > ((arrV _ (aln k) (fun j => .int (f j))).slots.size : Int); rw [arrV_size]; omega)
    (by rw [hz, hni]; show ¬ _ > ((arrV _ (aln k) (fun j => .int (f0 j))).slots.size : Int); rw [arrV_size]; omega)
    (fun vm₁ _ q hq => by
      rw [hnn.2] at hq
      have e : (vp_cell (gy g (aty k)) (aln k, .inl f)).slots.getD ((0 : Int32).toNatClampNeg + q) .null = .int (f q) := by
        show (arrV _ (aln k) (fun j => .int (f j))).slots.getD _ _ = _
        rw [Array.getD_eq_getD_getElem?, hzc, Nat.zero_add, arrV_read _ _ (by omega)]
        rfl
      refine ⟨?_, ?_⟩
      · rw [e]; rfl
      · rw [e]; exact trivial)
    (g := F0 m pc ls (.int n :: .int 0 :: .ref (adr i k j) :: .int 0 :: .ref (adr i2 k j2) :: rest)) rfl (by rw [hml]) (rest := rest) rfl (by rw [hb]; exact hdg) hframes (by show 2 * 0 + _ + _ ≤ _; omega)
  have e1 : copied (vp_cell (gy g (aty k)) (aln k, .inl f)) (vp_cell (gy g (aty k)) (aln k, .inl f0)) 0 0 n = vp_cell (gy g (aty k)) (aln k, .inl (va_cpy f f0 0 0 (aln k))) := by
    have h4 : (0 : Int32).toNatClampNeg + n.toNatClampNeg ≤ aln k := by rw [hnn.2, hzc]; omega
    have h5 : copied (vp_cell (gy g (aty k)) (aln k, .inl f)) (vp_cell (gy g (aty k)) (aln k, .inl f0)) 0 0 n = vp_cell (gy g (aty k)) (aln k, .inl (va_cpy f f0 (0 : Int32).toNatClampNeg (0 : Int32).toNatClampNeg n.toNatClampNeg)) := va_copied (fun z => .int z) (gy g (aty k)) (gy g (aty k)) f f0 h4
    rw [hnn.2] at h5
    exact h5
  rw [e1] at X' step
  have hl : adr i k j < H.size := (Array.getElem?_eq_some_iff.mp hc1).1
  have hheap : ((T.setVm vm').setCell (adr i k j) (vp_cell (gy g (aty k)) (aln k, .inl (va_cpy f f0 0 0 (aln k))))).heap = H.setIfInBounds (adr i k j) (vp_cell (gy g (aty k)) (aln k, .inl (va_cpy f f0 0 0 (aln k)))) := by rw [← hT]; rfl
  have oq : ∀ q : Nat, q ≠ adr i k j → (H.setIfInBounds (adr i k j) (vp_cell (gy g (aty k)) (aln k, .inl (va_cpy f f0 0 0 (aln k)))))[q]? = H[q]? := fun q hq => by simp [Array.getElem?_setIfInBounds, Ne.symm hq]
  have hcell : cellOf (gy g) w' i k j = .inl (gy g (aty k), aln k, .inl (va_cpy f f0 0 0 (aln k))) := by
    rw [cell_arr hk, hc']
    congr 4
    funext t'
    rw [hF.1 t']
    simp [va_cpy]
  have hWn := hW.set hn (hF.2 _ hcell) (H1 := H.setIfInBounds (adr i k j) (vp_cell (gy g (aty k)) (aln k, .inl (va_cpy f f0 0 0 (aln k))))) (show (H.setIfInBounds (adr i k j) _)[adr i k j]? = some _ by simp [Array.getElem?_setIfInBounds, hl]) (by simp) oq
  obtain ⟨t, a1, b1⟩ := kk _ _ hWn ⟨by simp; exact hS.1, fun q g1 g2 => by
      rw [oq q (fun e => g2 (by rw [e]; exact hW.A hn))]
      exact hS.2.1 q g1 g2, fun q hq => by
      rcases List.mem_append.mp hq with h | h
      · exact hS.2.2 q h
      · obtain ⟨z, -, hz⟩ := List.mem_map.mp h
        rw [← hz]
        exact hW.A hn⟩ _ hheap X'
  exact ⟨t, step t a1, b1⟩
end XCPY
theorem dJ7_fill_53178_0 : decode cJ7_fill_53178 0 = .ok (.iconst 0, 1) := by decide +kernel
theorem dJ7_fill_53178_1 : decode cJ7_fill_53178 1 = .ok (.istore_n 2, 1) := by decide +kernel
theorem dJ7_fill_53178_2 : decode cJ7_fill_53178 2 = .ok (.aload_n 0, 1) := by decide +kernel
theorem dJ7_fill_53178_3 : decode cJ7_fill_53178 3 = .ok (.arraylength, 1) := by decide +kernel
theorem dJ7_fill_53178_4 : decode cJ7_fill_53178 4 = .ok (.istore_n 3, 1) := by decide +kernel
theorem dJ7_fill_53178_5 : decode cJ7_fill_53178 5 = .ok (.iload_n 2, 1) := by decide +kernel
theorem dJ7_fill_53178_6 : decode cJ7_fill_53178 6 = .ok (.iload_n 3, 1) := by decide +kernel
theorem dJ7_fill_53178_7 : decode cJ7_fill_53178 7 = .ok (.if_icmp .ge 13, 3) := by decide +kernel
theorem dJ7_fill_53178_10 : decode cJ7_fill_53178 10 = .ok (.aload_n 0, 1) := by decide +kernel
theorem dJ7_fill_53178_11 : decode cJ7_fill_53178 11 = .ok (.iload_n 2, 1) := by decide +kernel
theorem dJ7_fill_53178_12 : decode cJ7_fill_53178 12 = .ok (.iload_n 1, 1) := by decide +kernel
theorem dJ7_fill_53178_13 : decode cJ7_fill_53178 13 = .ok (.iastore, 1) := by decide +kernel
theorem dJ7_fill_53178_14 : decode cJ7_fill_53178 14 = .ok (.iinc 2 1, 3) := by decide +kernel
theorem dJ7_fill_53178_17 : decode cJ7_fill_53178 17 = .ok (.goto (-12), 3) := by decide +kernel
theorem dJ7_fill_53178_20 : decode cJ7_fill_53178 20 = .ok (.return_, 1) := by decide +kernel
theorem up_cpS {sd : SD} {k j n : Nat} {v : Int32} : upS (cpS sd k j n (fun _ => v)) k j n v = cpS sd k j (n + 1) (fun _ => v) := by
  funext k' j' t'
  unfold upS cpS
  by_cases h : k' = k ∧ j' = j
  · obtain ⟨rfl, rfl⟩ := h
    by_cases h2 : t' = n
    · subst h2; simp
    · by_cases h3 : t' < n
      · simp [h2, h3, Nat.lt_succ_of_lt h3]
      · have : ¬ t' < n + 1 := by omega
        simp [h2, h3, this]
  · have h1 : ¬ (k' = k ∧ j' = j ∧ t' = n) := fun z => h ⟨z.1, z.2.1⟩
    have h2 : ¬ (k' = k ∧ j' = j ∧ t' < n) := fun z => h ⟨z.1, z.2.1⟩
    have h3 : ¬ (k' = k ∧ j' = j ∧ t' < n + 1) := fun z => h ⟨z.1, z.2.1⟩
    rw [if_neg h1, if_neg h2, if_neg h3]
abbrev rm_fill : Room := { frames := 0, cells := 0, slots := 0, locals := 0 }
set_option maxRecDepth 100000 in
set_option maxHeartbeats 4000000 in
theorem ct_fill (l : Launch) (g : GT) (w : WT) (i : Nat) (hi : i ∈ k_S w.1) (sd : SD) (j : Nat) (hj : j < 10) (v : Int32) {sd' : SD} (he : sd' = cpS sd 18 j 10 (fun _ => v)) : Met l yJ7_fill_53178 wsJ7_fill_53178 rm_fill (cPre g (wS w i sd) [.ref (adr i 18 j), .int v]) (cQv g (wS w i sd')) 0 0 (gA g) := by
  refine x_met (by decide) rfl (Nat.le_of_ble_eq_true rfl) ?_
  intro p e s m below meth c hx hb hr hml hts hown hlocks hK hW hS ls hl
  have hl : lv_has ls 4 [(0, .ref (adr i 18 j)), (1, .int v)] := hl
  refine lv_iconst (v := 0) hx hb dJ7_fill_53178_0 (by decide) ?_
  refine lv_istore_n (lv' := [(2, .int 0), (0, .ref (adr i 18 j)), (1, .int v)]) hx hb dJ7_fill_53178_1 rfl hl (by decide) rfl (fun ls hl => ?_)
  refine lv_aload_n hx hb dJ7_fill_53178_2 rfl (lv_at hl 1 rfl) ?_
  refine x_alen (i := i) (k := 18) (j := j) hx hb hK hW ⟨hi, hj⟩ (by decide) (ty := .int) rfl (v := 10) rfl dJ7_fill_53178_3 ?_
  refine lv_istore_n (lv' := [(3, .int 10), (2, .int 0), (0, .ref (adr i 18 j)), (1, .int v)]) hx hb dJ7_fill_53178_4 rfl hl (by decide) rfl (fun ls hl => ?_)
  have L5 : ∀ (d n : Nat) (ls : Array Slot) (H : Heap) (locs : List Loc), n + d = 10 → lv_has ls 4 [(0, .ref (adr i 18 j)), (1, .int v), (2, .int (nI n)), (3, .int 10)] → World g (wS w i (cpS sd 18 j n (fun _ => v))) H → va_S (gA g) s.heap H locs → W p l e rm_fill s m [.ref (adr i 18 j), .int v].toArray below meth c H locs 0 0 (MQ below (cQv g (wS w i sd')) [.ref (adr i 18 j), .int v].toArray s 0 0 (gA g)) (F0 m 5 ls []) := by
    clear hW hS hl
    intro d
    induction d with
    | zero =>
      intro n ls H locs hn hl hW hS
      have hn : n = 10 := by omega
      subst hn
      refine lv_iload_n hx hb dJ7_fill_53178_5 rfl (lv_at hl 2 rfl) ?_
      refine lv_iload_n hx hb dJ7_fill_53178_6 rfl (lv_at hl 3 rfl) ?_
      refine lv_icmp_ge (tgt := 20) hx hb dJ7_fill_53178_7 (by decide) (fun hc => ?_) (fun hc => ?_)
      · subst he
        exact x_vret hx hb hr hlocks hK hW hS dJ7_fill_53178_20
      · exact absurd (by decide) hc
    | succ d ih =>
      intro n ls H locs hn hl hW hS
      refine lv_iload_n hx hb dJ7_fill_53178_5 rfl (lv_at hl 2 rfl) ?_
      refine lv_iload_n hx hb dJ7_fill_53178_6 rfl (lv_at hl 3 rfl) ?_
      refine lv_icmp_ge (tgt := 20) hx hb dJ7_fill_53178_7 (by decide) (fun hc => ?_) (fun hc => ?_)
      · exact absurd hc (nI_ge (a := n) (b := 10) (by omega) (by decide))
      · refine lv_aload_n hx hb dJ7_fill_53178_10 rfl (lv_at hl 0 rfl) ?_
        refine lv_iload_n hx hb dJ7_fill_53178_11 rfl (lv_at hl 2 rfl) ?_
        refine lv_iload_n hx hb dJ7_fill_53178_12 rfl (lv_at hl 1 rfl) ?_
        have hcl : (nI n).toNatClampNeg = n := nI_clamp (by omega)
        refine x_iast (i := i) (k := 18) (j := j) (w' := wS w i (cpS sd 18 j (n + 1) (fun _ => v))) hx hb hK hW ⟨hi, hj⟩ hS (by decide) rfl rfl rfl (nI_in (c := n) (N := 10) (by omega) (by decide)) dJ7_fill_53178_13 (fp_S (by rw [hcl]; exact up_cpS.symm) rfl) (fun H locs hW hS => ?_)
        refine lv_iinc (v := nI (n + 1)) (lv' := [(2, .int (nI (n + 1))), (0, .ref (adr i 18 j)), (1, .int v), (3, .int 10)]) hx hb dJ7_fill_53178_14 hl (k := 2) rfl (nI_1 n) (by decide) rfl (fun ls hl => ?_)
        refine lv_goto (tgt := 5) hx hb dJ7_fill_53178_17 (by decide) ?_
        exact ih (n + 1) ls H locs (by omega) (lv_sub hl [1, 2, 0, 3] rfl) hW hS
  have h0 : cpS sd 18 j 0 (fun _ => v) = sd := by
    funext k' j' t'
    simp [cpS]
  exact L5 10 0 ls s.heap [] rfl (lv_sub hl [2, 3, 1, 0] rfl) (by rw [h0]; exact hW) hS
