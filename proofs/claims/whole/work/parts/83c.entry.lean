/-! the law: what its entry knows -/
theorem e_prim {args : Array Value} {s : State} {ty : FieldType} (h : (Cond.arrayClass ty).before args s = true) (hp : ty = .byte ∨ ty = .int ∨ ty = .long) : ∃ cA : ClassId, ArrOfT s cA ty ∧ va_RA s cA ty := by
  obtain ⟨c, k, comp, h1, h2, h3⟩ := Cond.arrayClass_spec h
  refine ⟨c, fun n z => ⟨fun k h => (by cases h), k, h2, comp, h3⟩, ?_⟩
  rcases hp with rfl | rfl | rfl <;> exact h1
theorem e_obj {args : Array Value} {s : State} {C : String} (h : (Cond.arrayOver (.object C)).before args s = true) : ∃ cA : ClassId, ArrOfT s cA (.object C) ∧ va_RA s cA (.object C) := by
  obtain ⟨comp, c, k, a1, a2, a3, a4, a5⟩ := Cond.arrayOver_spec h
  exact ⟨c, fun n z => ⟨fun k h => (by cases h), k, a3, comp, a4⟩, k, comp, a3, a4, a1, a5⟩
abbrev sTm (n : Nat) : Term := .string RX5 (sidx n)
abbrev gvF : List Cond := flatC (Jvm.Cond.and given_1 narrow_1)
set_option maxRecDepth 20000 in
theorem gv_ex : ∀ i, i < 7 → Cond.exactly (sTm i) "java/lang/String" ∈ gvF := by decide +kernel
set_option maxRecDepth 20000 in
theorem gv_co : ∀ i, i < 7 → Cond.eq (.field (sTm i) "java/lang/String" "coder" "B") (.int 0) ∈ gvF := by decide +kernel
set_option maxRecDepth 20000 in
theorem gv_ar : ∀ i, i < 7 → Cond.arrayOf (.field (sTm i) "java/lang/String" "value" "[B") .byte ∈ gvF := by decide +kernel
set_option maxRecDepth 20000 in
theorem gv_le : ∀ i, i < 7 → Cond.eq (.length (.field (sTm i) "java/lang/String" "value" "[B")) (.int (Int32.ofNat (slen.getD i 0))) ∈ gvF := by decide +kernel
set_option maxRecDepth 20000 in
theorem gv_el : ∀ i, i < 7 → ∀ j, j < slen.getD i 0 → Cond.eq (.elem (.field (sTm i) "java/lang/String" "value" "[B") (.int (Int32.ofNat j))) (.int ((sbyt.getD i []).getD j 0)) ∈ gvF := by decide +kernel
set_option maxRecDepth 20000 in
theorem gv_ne : ∀ i, i < 7 → ∀ j, j < 7 → i ≠ j → Cond.not (Cond.eq (sTm i) (sTm j)) ∈ gvF ∨ Cond.not (Cond.eq (sTm j) (sTm i)) ∈ gvF := by decide +kernel
set_option maxRecDepth 20000 in
theorem gv_cs : Cond.eq (.static "java/lang/String" "COMPACT_STRINGS" "Z") (.int 1) ∈ gvF := by decide +kernel
set_option maxRecDepth 20000 in
theorem gv_si : Cond.isRef (.static "jdk/internal/util/Preconditions" "SIOOBE_FORMATTER" "Ljava/util/function/BiFunction;") ∈ gvF := by decide +kernel
set_option maxRecDepth 20000 in
theorem gv_ln : ∀ i, i < 7 → slen.getD i 0 < 2 ^ 31 := by decide +kernel
set_option maxRecDepth 20000 in
theorem tb_sr : ∀ n, n < 7 → Cond.stringRef RX5 (sidx n) (stxt n) ∈ lw_tbl := by
  intro n hn
  have hc : n = 0 ∨ n = 1 ∨ n = 2 ∨ n = 3 ∨ n = 4 ∨ n = 5 ∨ n = 6 := by omega
  rcases hc with rfl | rfl | rfl | rfl | rfl | rfl | rfl
  · exact List.mem_of_getElem? (i := 470) (by decide +kernel)
  · exact List.mem_of_getElem? (i := 543) (by decide +kernel)
  · exact List.mem_of_getElem? (i := 552) (by decide +kernel)
  · exact List.mem_of_getElem? (i := 557) (by decide +kernel)
  · exact List.mem_of_getElem? (i := 577) (by decide +kernel)
  · exact List.mem_of_getElem? (i := 602) (by decide +kernel)
  · exact List.mem_of_getElem? (i := 611) (by decide +kernel)
set_option maxRecDepth 20000 in
theorem tb_ns : ∀ n, n < 6 → Cond.methodLinkNest (nst n).1 (nst n).2.1 (nst n).2.2 RX7 ∈ lw_tbl := by
  intro n hn
  have hc : n = 0 ∨ n = 1 ∨ n = 2 ∨ n = 3 ∨ n = 4 ∨ n = 5 := by omega
  rcases hc with rfl | rfl | rfl | rfl | rfl | rfl
  · exact List.mem_of_getElem? (i := 186) (by decide +kernel)
  · exact List.mem_of_getElem? (i := 207) (by decide +kernel)
  · exact List.mem_of_getElem? (i := 255) (by decide +kernel)
  · exact List.mem_of_getElem? (i := 136) (by decide +kernel)
  · exact List.mem_of_getElem? (i := 387) (by decide +kernel)
  · exact List.mem_of_getElem? (i := 1095) (by decide +kernel)
set_option maxRecDepth 20000 in
theorem tb_inX0 : Cond.instantiable RX0 3 ∈ lw_tbl := List.mem_of_getElem? (i := 185) (by decide +kernel)
set_option maxRecDepth 20000 in
theorem tb_inX1 : Cond.instantiable RX1 3 ∈ lw_tbl := List.mem_of_getElem? (i := 386) (by decide +kernel)
set_option maxRecDepth 20000 in
theorem tb_inX2 : Cond.instantiable RX2 6 ∈ lw_tbl := List.mem_of_getElem? (i := 1094) (by decide +kernel)
set_option maxRecDepth 20000 in
theorem tb_inX3 : Cond.instantiable RX3 9 ∈ lw_tbl := List.mem_of_getElem? (i := 206) (by decide +kernel)
set_option maxRecDepth 20000 in
theorem tb_inX4 : Cond.instantiable RX4 18 ∈ lw_tbl := List.mem_of_getElem? (i := 174) (by decide +kernel)
set_option maxRecDepth 20000 in
theorem tb_inX5 : Cond.instantiable RX5 9 ∈ lw_tbl := List.mem_of_getElem? (i := 135) (by decide +kernel)
set_option maxRecDepth 20000 in
theorem tb_inX6 : Cond.instantiable RX6 7 ∈ lw_tbl := List.mem_of_getElem? (i := 254) (by decide +kernel)
set_option maxRecDepth 20000 in
theorem tb_inX7 : Cond.instantiable RX7 9 ∈ lw_tbl := List.mem_of_getElem? (i := 127) (by decide +kernel)
set_option maxRecDepth 20000 in
theorem tb_inX8 : Cond.instantiable RX8 27 ∈ lw_tbl := List.mem_of_getElem? (i := 1241) (by decide +kernel)
set_option maxRecDepth 20000 in
theorem tb_byte : Cond.arrayClass .byte ∈ lw_tbl := List.mem_of_getElem? (i := 171) (by decide +kernel)
set_option maxRecDepth 20000 in
theorem tb_int : Cond.arrayClass .int ∈ lw_tbl := List.mem_of_getElem? (i := 205) (by decide +kernel)
set_option maxRecDepth 20000 in
theorem tb_long : Cond.arrayClass .long ∈ lw_tbl := List.mem_of_getElem? (i := 172) (by decide +kernel)
set_option maxRecDepth 20000 in
theorem tb_aoX0 : Cond.arrayOver (.object RX0) ∈ lw_tbl := List.mem_of_getElem? (i := 180) (by decide +kernel)
set_option maxRecDepth 20000 in
theorem tb_aoX3 : Cond.arrayOver (.object RX3) ∈ lw_tbl := List.mem_of_getElem? (i := 182) (by decide +kernel)
set_option maxRecDepth 20000 in
theorem tb_aoX6 : Cond.arrayOver (.object RX6) ∈ lw_tbl := List.mem_of_getElem? (i := 184) (by decide +kernel)
set_option maxRecDepth 20000 in
theorem tb_aoX4 : Cond.arrayOver (.object RX4) ∈ lw_tbl := List.mem_of_getElem? (i := 392) (by decide +kernel)
set_option maxRecDepth 20000 in
theorem tb_lcs : Cond.laysStatic "java/lang/String" "COMPACT_STRINGS" "Z" ∈ lw_tbl := List.mem_of_getElem? (i := 484) (by decide +kernel)
set_option maxRecDepth 20000 in
theorem tb_lsi : Cond.laysStatic "jdk/internal/util/Preconditions" "SIOOBE_FORMATTER" "Ljava/util/function/BiFunction;" ∈ lw_tbl := List.mem_of_getElem? (i := 500) (by decide +kernel)
set_option maxRecDepth 20000 in
theorem tb_ics : Cond.initialized "java/lang/String" ∈ lw_tbl := List.mem_of_getElem? (i := 117) (by decide +kernel)
set_option maxRecDepth 20000 in
theorem tb_isi : Cond.initialized "jdk/internal/util/Preconditions" ∈ lw_tbl := List.mem_of_getElem? (i := 119) (by decide +kernel)
set_option maxRecDepth 20000 in
theorem tb_cl7 : Cond.classLink RL 7 RX7 ∈ lw_tbl := List.mem_of_getElem? (i := 126) (by decide +kernel)
set_option maxRecDepth 20000 in
theorem tb_cl8 : Cond.classLink RL 10 RX8 ∈ lw_tbl := List.mem_of_getElem? (i := 1240) (by decide +kernel)
set_option maxRecDepth 20000 in
theorem tb_ml7 : Cond.methodLink RL 9 yX7_init ∈ lw_tbl := List.mem_of_getElem? (i := 128) (by decide +kernel)
set_option maxRecDepth 20000 in
theorem tb_ml8 : Cond.methodLink RL 12 yX8_init ∈ lw_tbl := List.mem_of_getElem? (i := 1242) (by decide +kernel)
set_option maxRecDepth 20000 in
theorem tb_im7 : Cond.instanceMethod yX7_init ∈ lw_tbl := List.mem_of_getElem? (i := 129) (by decide +kernel)
set_option maxRecDepth 20000 in
theorem tb_im8 : Cond.instanceMethod yX8_init ∈ lw_tbl := List.mem_of_getElem? (i := 1243) (by decide +kernel)
set_option maxRecDepth 20000 in
theorem tb_ii7 : Cond.initialized RX7 ∈ lw_tbl := List.mem_of_getElem? (i := 108) (by decide +kernel)
set_option maxRecDepth 20000 in
theorem tb_ii8 : Cond.initialized RX8 ∈ lw_tbl := List.mem_of_getElem? (i := 115) (by decide +kernel)
theorem e_wK {s : State} {b : Nat} (htb : ∀ w ∈ lw_tbl, w.before #[Value.ref b] s = true) (hgv : (Jvm.Cond.and given_1 narrow_1).before #[Value.ref b] s = true) : ∃ (D : va_G) (cy : Nat → ClassId) (ak av : Nat → Nat), ∀ f : Nat, wK (s.heap.size, D, cy, ak, av, f) s := by
  obtain ⟨c0, i0, k0⟩ := u_known (C := RX0) (T := TX0) (N := 3) (n := 3) htb inX0 (htb _ tb_inX0)
  obtain ⟨c1, i1, k1⟩ := u_known (C := RX1) (T := TX1) (N := 3) (n := 3) htb inX1 (htb _ tb_inX1)
  obtain ⟨c2, i2, k2⟩ := u_known (C := RX2) (T := TX2) (N := 6) (n := 6) htb inX2 (htb _ tb_inX2)
  obtain ⟨c3, i3, k3⟩ := u_known (C := RX3) (T := TX3) (N := 9) (n := 9) htb inX3 (htb _ tb_inX3)
  obtain ⟨c4, i4, k4⟩ := u_known (C := RX4) (T := TX4) (N := 18) (n := 18) htb inX4 (htb _ tb_inX4)
  obtain ⟨c5, i5, k5⟩ := u_known (C := RX5) (T := TX5) (N := 9) (n := 9) htb inX5 (htb _ tb_inX5)
  obtain ⟨c6, i6, k6⟩ := u_known (C := RX6) (T := TX6) (N := 7) (n := 7) htb inX6 (htb _ tb_inX6)
  obtain ⟨c7, i7, k7⟩ := u_known (C := RX7) (T := TX7) (N := 9) (n := 9) htb inX7 (htb _ tb_inX7)
  obtain ⟨c8, i8, k8⟩ := u_known (C := RX8) (T := TX8) (N := 27) (n := 27) htb inX8 (htb _ tb_inX8)
  obtain ⟨y0, a0⟩ := e_prim (htb _ tb_byte) (Or.inl rfl)
  obtain ⟨y1, a1⟩ := e_prim (htb _ tb_int) (Or.inr (Or.inl rfl))
  obtain ⟨y2, a2⟩ := e_prim (htb _ tb_long) (Or.inr (Or.inr rfl))
  obtain ⟨y3, a3⟩ := e_obj (htb _ tb_aoX0)
  obtain ⟨y4, a4⟩ := e_obj (htb _ tb_aoX3)
  obtain ⟨y5, a5⟩ := e_obj (htb _ tb_aoX6)
  obtain ⟨y6, a6⟩ := e_obj (htb _ tb_aoX4)
  have hs : ∀ w ∈ gvF, w.before #[Value.ref b] s = true := flat_of_before _ hgv
  have hA : ∀ a : Nat, a < s.heap.size → ¬ (fun q : Nat => s.heap.size ≤ q) a := fun a h => Nat.not_le.mpr h
  obtain ⟨ak, av, hS, hT⟩ := vk_Sof (args := #[Value.ref b]) (s := s) (N := 7) (tm := sTm) (len := slen) (byt := sbyt) (A := fun q => s.heap.size ≤ q) gv_ln (fun i hi => hs _ (gv_ex i hi)) (fun i hi => hs _ (gv_co i hi)) (fun i hi => hs _ (gv_ar i hi)) (fun i hi => hs _ (gv_le i hi)) (fun i hi j hj => hs _ (gv_el i hi j hj)) (fun i j hi hj hn => (gv_ne i hi j hj hn).imp (hs _) (hs _)) hA
  refine ⟨(fun c => ([c0, c1, c2, c3, c4, c5, c6, c7, c8] : List ClassId).getD c c0, fun c => ([i0, i1, i2, i3, i4, i5, i6, i7, i8] : List (Nat → Nat)).getD c i0), fun k => ([y0, y1, y2, y3, y4, y5, y6] : List ClassId).getD k y0, ak, av, fun f => ⟨⟨fun c q hq => ?_, fun k q hk => ?_⟩, hS, fun n hn => vk_R.of (htb _ (tb_sr n hn)) (hT n hn), va_Zof (htb _ tb_lcs) (htb _ tb_ics) (va_eqv (hs _ gv_cs) rfl) hA, va_Zqof (htb _ tb_lsi) (htb _ tb_isi) (hs _ gv_si) hA, va_AO.of (htb _ tb_aoX0), va_AO.of (htb _ tb_aoX3), va_AO.of (htb _ tb_aoX6), va_AO.of (htb _ tb_aoX4), fun n hn => va_Nw.of rfl (htb _ (tb_ns n hn))⟩⟩
  · match c, hq with
    | 0, hq => cases hq; exact k0
    | 1, hq => cases hq; exact k1
    | 2, hq => cases hq; exact k2
    | 3, hq => cases hq; exact k3
    | 4, hq => cases hq; exact k4
    | 5, hq => cases hq; exact k5
    | 6, hq => cases hq; exact k6
    | 7, hq => cases hq; exact k7
    | 8, hq => cases hq; exact k8
    | c + 9, hq => cases hq
  · match k, hk with
    | 0, hk => cases hk; exact a0
    | 1, hk => cases hk; exact a1
    | 2, hk => cases hk; exact a2
    | 3, hk => cases hk; exact a3
    | 4, hk => cases hk; exact a4
    | 5, hk => cases hk; exact a5
    | 6, hk => cases hk; exact a6
    | k + 7, hk => cases hk
