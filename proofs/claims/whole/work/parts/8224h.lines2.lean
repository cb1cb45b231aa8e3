/-! Layer 2: platter, bad and close lines -/
section LN2
variable {T : Nat → Int32} {E x n : Nat} {sd rd md : SD} {mw : Int64}
theorem platter_line (h : GC T E x rd md mw) (hk : tkK T E x ≠ 0) (hL : LSt n sd md) : LOt T E x rd md (f_X5_readPlatter sd rd) (f_X8_platterLine md mw) := by
  have hx := gc_x h hk
  obtain ⟨hI, hR, hF, hZ⟩ := hL
  have l7 := hI.l7
  have l0 := hI.l0
  have tail : ∀ md1 : SD, ER md1 → md1 31 0 = md 31 0 → ∀ (a : Int32) (mw : Int64), (x_bind (f_X8_homeAt md1 31 a) fun q7 => if q7 = -1 then x_bind (f_X8_must md1 1 4) fun q10 => x_bind (f_X8_goesOn q10 mw) fun q11 => x_bind (f_X8_takes q11.1 q11.2 10 300) fun q12 => x_bind (f_X8_takes q12.2.1 q12.2.2 0 9) fun q14 => x_bind (f_X8_good q14.2.1) fun q16 => if q16 = 0 then some (q14.2.1, q14.2.2) else (none : Option (SD × Int64)) else x_bind (f_X8_must md1 0 4) fun q10 => x_bind (f_X8_goesOn q10 mw) fun q11 => x_bind (f_X8_takes q11.1 q11.2 10 300) fun q12 => x_bind (f_X8_takes q12.2.1 q12.2.2 0 9) fun q14 => x_bind (f_X8_good q14.2.1) fun q16 => if q16 = 0 then some (q14.2.1, q14.2.2) else (none : Option (SD × Int64))) = some (md1, mw) := fun md1 he hr a mw => by
    rw [m_homeAt hr hI, xb]
    simp only [e_must he, xb, e_on he, e_takes he, e_good he, if_true]
    split <;> rfl
  unfold f_X5_readPlatter f_X8_platterLine
  simp only [xl]
  rw [hR.s6, hI.c7, hR.s0, hI.c0]
  have e1 : (nI (nv (md 31 0) 7) < (10 : Int32)) ↔ nv (md 31 0) 7 < 10 := nI_ltI (b := 10) (by omega) (by omega)
  have e2 : ((10 : Int32) ≤ nI (nv (md 31 0) 7)) ↔ 10 ≤ nv (md 31 0) 7 := nI_leI (a := 10) (by omega) (by omega)
  by_cases z : nv (md 31 0) 7 < 10
  · obtain ⟨md1, mw1, a1, a2, a3⟩ := h.on hk
    rw [if_pos (e1.mpr z), if_neg (fun y => by have := e2.mp y; omega), must_1, xb, a1, xb]
    have r0 : md1 31 0 0 = nI (nv (md 31 0) 0) := by rw [a3.row31]; exact hI.c0
    simp only
    rw [r0]
    rcases nmb_both a2 0 (nI (nv (md 31 0) 0) - 1) with ⟨rd2, k3, c1, c2, c3, c4, c5, c6⟩ | ⟨rd2, md2, c3, c4, c5, c6, c7⟩
    · obtain ⟨v, v1, v3⟩ := in_nat1 (by omega) c1 c2
      rw [v3] at c3 c4
      rw [c3, xb, c4, xb]
      simp only
      rw [if_neg (nm1' (by omega)), c_platterWithHome hI hR, xb, m_homeAt a3.row31 hI, xb]
      by_cases y : homeQ (md 31 0) (nI v) = -1
      · rw [if_pos y, if_pos y, must_1, xb]
        obtain ⟨md2, mw2, b1, b2, b3⟩ := c5.on (by omega)
        have hx2 := gc_x c5 (by omega)
        rw [b1, xb]
        simp only
        rcases take_both b2 10 300 with ⟨rd3, md3, mw3, d1, d2, d3, d4, d5, d6, d7, d8⟩ | ⟨rd3, md3, d3, d4, d5, d6, d7⟩
        · obtain ⟨w, w1, w2, w3⟩ := in_nat (a := 10) (b := 300) (by omega) d1 d2 (by omega)
          rw [w3] at d3 d4
          rw [d3, xb, d4, xb]
          simp only
          rw [if_neg (nm1' (by omega))]
          rcases take_both d5 0 9 with ⟨rd4, md4, mw4, f1, f2, f3, f4, f5, f6, f7, f8⟩ | ⟨rd4, md4, f3, f4, f5, f6, f7⟩
          · obtain ⟨u, -, u2, u3⟩ := in_nat (a := 0) (b := 9) (by omega) f1 f2 (by omega)
            rw [u3] at f3 f4
            have hr4 : md4 31 0 = md 31 0 := by rw [f7.row31, d7.row31, b3.row31, a3.row31]
            have g4 : md4 8 0 18 = 0 := f5.1.2.2.2.2.2
            have r7 : md4 31 0 7 = nI (nv (md 31 0) 7) := by rw [hr4]; exact hI.c7
            rw [f3, xb, f4, xb]
            simp only
            rw [if_neg (nm1' (by omega)), c_addPlatter _ _ _ hR hI z, xb, g_good g4, xb, if_neg i1, r7, ra (k := 1)]
            simp (disch := omega) only [xg, vinT, nI_clamp, la]
            have hrow : (upS (upS (upS (upS md4 31 0 7 (nI (nv (md 31 0) 7 + 1))) 31 0 (29 + nv (md 31 0) 7) (nI v)) 31 0 (39 + nv (md 31 0) 7) (nI w)) 31 0 (49 + nv (md 31 0) 7) (nI u)) 31 0 = rup (rup (rup (rup (md 31 0) 7 (nI (nv (md 31 0) 7 + 1))) (29 + nv (md 31 0) 7) (nI v)) (39 + nv (md 31 0) 7) (nI w)) (49 + nv (md 31 0) 7) (nI u) := by rw [row_up, row_up, row_up, row_up, hr4]
            obtain ⟨i1, i2, i3⟩ := plat_step (h := v) (c := w) (e := u) (r' := rup (rup (rup (rup (md 31 0) 7 (nI (nv (md 31 0) 7 + 1))) (29 + nv (md 31 0) 7) (nI v)) (39 + nv (md 31 0) 7) (nI w)) (49 + nv (md 31 0) 7) (nI u)) hI hR hF z v1 ⟨w1, w2⟩ u2 y (fun i h1 h2 h3 h4 => by rw [rup_ne h4, rup_ne h3, rup_ne h2, rup_ne h1]) (by rw [rup_ne (by omega), rup_ne (by omega), rup_ne (by omega), rup_hit]) (by rw [rup_ne (by omega), rup_ne (by omega), rup_hit]) (by rw [rup_ne (by omega), rup_hit]) (rup_hit _ _ _)
            refine Or.inl ⟨_, rd4, _, mw4, _, rfl, rfl, Nat.lt_trans hx (Nat.lt_trans hx2 (Nat.lt_trans d8 f8)), (((f5.cg (up31 _ _ _)).cg (up31 _ _ _)).cg (up31 _ _ _)).cg (up31 _ _ _), ?_, c6.tr (d6.tr f6), a3.f.tr (b3.f.tr (d7.f.tr (f7.f.r31.r31.r31.r31))), ?_, ?_⟩
            · unfold LSt
              rw [hrow]
              exact ⟨i1, i2, i3, fun z => by omega⟩
            · rw [upS_k (by omega), upS_k (by omega), upS_k (by omega), upS_k (by omega), f7 _ _ _ (by omega), d7 _ _ _ (by omega), b3 _ _ _ (by omega), a3 _ _ _ (by omega)]
            · rw [hrow, nv_eq ((rup_ne (by omega)).trans ((rup_ne (by omega)).trans ((rup_ne (by omega)).trans (rup_ne (by omega)))))]
          · rw [f3, xb, f4, xb]
            simp only
            rw [if_pos trivial, e_good f5.er, xb, if_pos rfl]
            exact Or.inr ⟨_, rd4, md4, mw3, rfl, rfl, f5, c6.tr (d6.tr f6), a3.f.tr (b3.f.tr (d7.f.tr f7.f))⟩
        · rw [d3, xb, d4, xb]
          simp only
          rw [if_pos trivial, e_takes d5.er, xb]
          simp only
          rw [e_good d5.er, xb, if_pos rfl]
          exact Or.inr ⟨_, rd3, md3, mw2, rfl, rfl, d5, c6.tr d6, a3.f.tr (b3.f.tr d7.f)⟩
      · rw [if_neg y, if_neg y]
        obtain ⟨rd3, md3, d1, d2, d3, d4, d5⟩ := fail_must c5 (k := 4) (by omega) (by omega) (by omega)
        have d1 : f_X5_fail rd2 4 = some (0, rd3) := d1
        have d2 : f_X8_must md1 0 4 = some md3 := d2
        rw [d1, xb, x_guard_pos (Or.inl rfl), d2, xb, e_on d3.er, xb]
        simp only
        rw [e_takes d3.er, xb]
        simp only
        rw [e_takes d3.er, xb]
        simp only
        rw [e_good d3.er, xb, if_pos rfl]
        exact Or.inr ⟨_, rd3, md3, mw1, rfl, rfl, d3, c6.tr d4, a3.f.tr d5.f⟩
    · rw [c3, xb, c4, xb]
      simp only
      rw [if_pos trivial]
      have hr2 : md2 31 0 = md 31 0 := c7.row31.trans a3.row31
      rw [m_homeAt hr2 hI, xb]
      refine Or.inr ⟨_, rd2, md2, mw1, rfl, ?_, c5, c6, a3.f.tr c7.f⟩
      simp only [e_must c5.er, xb, e_on c5.er, e_takes c5.er, e_good c5.er, if_true]
      split <;> rfl
  · obtain ⟨rd1, md1, a1, a2, a3, a4, a5⟩ := fail_must h (k := 5) (by omega) (by omega) (by omega)
    have a1 : f_X5_fail rd 5 = some (0, rd1) := a1
    have a2 : f_X8_must md 0 5 = some md1 := a2
    rw [if_neg (fun y => z (e1.mp y)), if_pos (e2.mpr (by omega)), a1, xb, x_guard_pos (Or.inl rfl), a2, xb, e_on a3.er, xb]
    simp only
    rw [e_sees a3.er, xb]
    simp only
    rw [m_homeAt (a5.row31) hI, xb]
    refine Or.inr ⟨_, rd1, md1, mw, rfl, ?_, a3, a4, a5.f⟩
    simp only [e_must a3.er, xb, e_on a3.er, e_takes a3.er, e_good a3.er, if_true]
    split <;> rfl
theorem bad_line (h : GC T E x rd md mw) (hk : tkK T E x ≠ 0) (hL : LSt n sd md) : LOt T E x rd md (f_X5_readBad sd rd) (f_X8_badLine md mw) := by
  have hx := gc_x h hk
  obtain ⟨hI, hR, hF, hZ⟩ := hL
  have l7 := hI.l7
  have l8 := hI.l8
  unfold f_X5_readBad f_X8_badLine
  simp only [xl]
  rw [hR.s7, hI.c8, hR.s6, hI.c7]
  have e1 : (nI (nv (md 31 0) 8) < (20 : Int32)) ↔ nv (md 31 0) 8 < 20 := nI_ltI (b := 20) (by omega) (by omega)
  have e2 : ((20 : Int32) ≤ nI (nv (md 31 0) 8)) ↔ 20 ≤ nv (md 31 0) 8 := nI_leI (a := 20) (by omega) (by omega)
  by_cases z : nv (md 31 0) 8 < 20
  · obtain ⟨md1, mw1, a1, a2, a3⟩ := h.on hk
    rw [if_pos (e1.mpr z), if_neg (fun y => by have := e2.mp y; omega), must_1, xb, a1, xb]
    have r7 : md1 31 0 7 = nI (nv (md 31 0) 7) := by rw [a3.row31]; exact hI.c7
    simp only
    rw [r7]
    rcases take_both a2 0 (nI (nv (md 31 0) 7) - 1) with ⟨rd2, md2, mw2, c1, c2, c3, c4, c5, c6, c7, c8⟩ | ⟨rd2, md2, c3, c4, c5, c6, c7⟩
    · obtain ⟨p, p1, p3⟩ := in_nat1 (by omega) c1 c2
      rw [p3] at c3 c4
      have hr2 : md2 31 0 = md 31 0 := c7.row31.trans a3.row31
      have g2 : md2 8 0 18 = 0 := c5.1.2.2.2.2.2
      obtain ⟨-, ⟨q1, q2⟩, -⟩ := hI.plt p p1
      have q3 := q1.l
      have rc : md2 31 0 (39 + p) = nI (nv (md 31 0) (39 + p)) := by rw [hr2]; exact q1.e
      rw [c3, xb, c4, xb]
      simp only
      rw [if_neg (nm1' (by omega)), g_good g2, xb, if_neg i1]
      simp (disch := omega) only [xg, vinT, nI_clamp, la]
      rw [rc, (hR.pl p p1).2.1, q1.e]
      rcases nmb_both c5 0 (nI (nv (md 31 0) (39 + p)) - 1) with ⟨rd3, k3, d1, d2, d3, d4, d5, d6⟩ | ⟨rd3, md3, d3, d4, d5, d6, d7⟩
      · obtain ⟨s, s1, s3⟩ := in_nat1 (by omega) d1 d2
        rw [s3] at d3 d4
        rw [d3, xb, d4, xb]
        simp only
        rw [if_neg (nm1' (by omega)), c_isBad sd p (by omega), xb, g_good g2, xb, if_neg i1, m_isBad2 hr2 hI hR.bd p1 (by omega), xb]
        by_cases y : bdc sd p s = true
        · obtain ⟨rd4, md4, f1, f2, f3, f4, f5⟩ := fail_must d5 (k := 4) (by omega) (by omega) (by omega)
          have f1 : f_X5_fail rd3 4 = some (0, rd4) := f1
          have f2 : f_X8_must md2 0 4 = some md4 := f2
          have nb : ¬ b01 (bdc sd p s) = 0 := by rw [b01_0, y]; decide
          rw [if_neg nb, if_neg nb, f1, xb, x_guard_pos (Or.inl rfl), f2, xb, e_good f3.er, xb, if_pos rfl, e_on f3.er, xb]
          exact Or.inr ⟨_, rd4, md4, mw2, rfl, rfl, f3, c6.tr (d6.tr f4), a3.f.tr (c7.f.tr f5.f)⟩
        · have nb : b01 (bdc sd p s) = 0 := by rw [b01_0]; exact Bool.eq_false_iff.mpr y
          obtain ⟨sd', f1, f2⟩ := c_spoil hI hR p1 z (show s < 300 by omega)
          obtain ⟨m5, f3, f4, f5⟩ := m_marks hr2 hI z (show s < 300 by omega) (p := p)
          have hnew : ¬ bdm (md 31 0) p s := fun w => y ((hR.bd p s p1 (by omega)).mpr w)
          have hI2 := SV_inv hI f5 p1 z s1 hnew
          have hR2 := SV_rel hI hR f5 f2 p1 z (by omega)
          have n9 : nv (m5 31 0) 9 = nv (md 31 0) 9 := nv_eq (f5.1 9 (by omega) (by omega) (by omega) (by omega))
          have G5 : GC T E (tkE T E (tkE T E x)) rd3 m5 mw2 := by
            have hm : ∀ k j t, k ≠ 31 → m5 k j t = md2 k j t := fun k j t hk => f4 k j t (by omega)
            obtain ⟨⟨h1, h2, h3, h4, h5, h6⟩, h7, h8, h9, h10, t1, t2, t3, t4, t5⟩ := d5
            exact ⟨⟨h1, h2, fun t ht => (hm _ _ _ (by omega)).trans (h3 t ht), h4, (hm _ _ _ (by omega)).trans h5, (hm _ _ _ (by omega)).trans h6⟩, h7, h8, h9, h10, (hm _ _ _ (by omega)).trans t1, (hm _ _ _ (by omega)).trans t2, fun z => (hm _ _ _ (by omega)).trans (t3 z), fun z => (hm _ _ _ (by omega)).trans (t4 z), t5⟩
          obtain ⟨md6, mw6, o1, o2, o3⟩ := G5.on (by omega)
          have hx3 := gc_x G5 (by omega)
          rw [if_pos nb, if_pos nb, f1, xb, must_1, xb, g_good g2, xb, if_neg i1, f3, xb, o1, xb]
          refine Or.inl ⟨sd', rd3, md6, mw6, _, rfl, rfl, Nat.lt_trans hx (Nat.lt_trans c8 hx3), o2, ?_, c6.tr d6, a3.f.tr (c7.f.tr (f4.f.tr o3.f)), ?_, ?_⟩
          · have e16 : ∀ i, i < 249 → i ≠ 8 → (m5 31 0) i = (md 31 0) i := fun i h1 h2 => f5.1 i h2 (by omega) (by omega) (by omega)
            have ev : ∀ i, i < 249 → i ≠ 8 → nv (m5 31 0) i = nv (md 31 0) i := fun i h1 h2 => nv_eq (e16 i h1 h2)
            unfold LSt
            rw [o3.row31]
            refine ⟨inv_of hI2 n9, rel_of hR2 n9, ⟨fun d h1 h2 => ?_, fun q h1 h2 => ?_, ?_, ?_⟩, fun z => by omega⟩
            · rw [ev 6 (by omega) (by omega)] at h1
              rw [e16 _ (by omega) (by omega), e16 _ (by omega) (by omega)]
              exact hF.1 d h1 h2
            · rw [ev 7 (by omega) (by omega)] at h1
              rw [e16 _ (by omega) (by omega), e16 _ (by omega) (by omega), e16 _ (by omega) (by omega)]
              exact hF.2.1 q h1 h2
            · rw [e16 _ (by omega) (by omega)]; exact hF.2.2.1
            · rw [ev 10 (by omega) (by omega), n9]; exact hF.2.2.2
          · rw [o3 _ _ _ (by omega), f4 _ _ _ (by omega), c7 _ _ _ (by omega), a3 _ _ _ (by omega)]
          · rw [o3.row31, n9]
      · rw [d3, xb, d4, xb]
        simp only
        rw [if_pos trivial, e_good d5.er, xb, if_pos rfl, e_must d5.er, xb, e_good d5.er, xb, if_pos rfl, e_on d5.er, xb]
        exact Or.inr ⟨_, rd3, md3, mw2, rfl, rfl, d5, c6.tr d6, a3.f.tr (c7.f.tr d7.f)⟩
    · rw [c3, xb, c4, xb]
      simp only
      rw [if_pos trivial, e_good c5.er, xb, if_pos rfl, e_sees c5.er, xb]
      simp only
      rw [e_good c5.er, xb, if_pos rfl, e_must c5.er, xb, e_good c5.er, xb, if_pos rfl, e_on c5.er, xb]
      exact Or.inr ⟨_, rd2, md2, mw1, rfl, rfl, c5, c6, a3.f.tr c7.f⟩
  · obtain ⟨rd1, md1, a1, a2, a3, a4, a5⟩ := fail_must h (k := 5) (by omega) (by omega) (by omega)
    have a1 : f_X5_fail rd 5 = some (0, rd1) := a1
    have a2 : f_X8_must md 0 5 = some md1 := a2
    rw [if_neg (fun y => z (e1.mp y)), if_pos (e2.mpr (by omega)), a1, xb, x_guard_pos (Or.inl rfl), a2, xb, e_on a3.er, xb]
    simp only
    rw [e_takes a3.er, xb]
    simp only
    rw [e_good a3.er, xb, if_pos rfl, e_sees a3.er, xb]
    simp only
    rw [e_good a3.er, xb, if_pos rfl, e_must a3.er, xb, e_good a3.er, xb, if_pos rfl, e_on a3.er, xb]
    exact Or.inr ⟨_, rd1, md1, mw, rfl, rfl, a3, a4, a5.f⟩
theorem close_line (h : GC T E x rd md mw) (hk : tkK T E x ≠ 0) (hL : LSt n sd md) : LOt T E x rd md (f_X5_readClose sd rd) (f_X8_closeLine md mw) := by
  have hx := gc_x h hk
  obtain ⟨hI, hR, hF, hZ⟩ := hL
  have l7 := hI.l7
  obtain ⟨md1, mw1, a1, a2, a3⟩ := h.on hk
  unfold f_X5_readClose f_X8_closeLine
  simp only [xl]
  rw [a1, xb, hR.s6, hI.c7]
  have r7 : md1 31 0 7 = nI (nv (md 31 0) 7) := by rw [a3.row31]; exact hI.c7
  simp only
  rw [r7]
  rcases nmb_both a2 0 (nI (nv (md 31 0) 7) - 1) with ⟨rd2, k3, c1, c2, c3, c4, c5, c6⟩ | ⟨rd2, md2, c3, c4, c5, c6, c7⟩
  · obtain ⟨p, p1, p3⟩ := in_nat1 (by omega) c1 c2
    rw [p3] at c3 c4
    have g1 : md1 8 0 18 = 0 := c5.1.2.2.2.2.2
    obtain ⟨-, -, -, -, -, q1, -⟩ := hI.plt p p1
    have q2 := q1.l
    have rc : md1 31 0 (79 + p) = nI (nv (md 31 0) (79 + p)) := by rw [a3.row31]; exact q1.e
    rw [c3, xb, c4, xb]
    simp only
    rw [if_neg (nm1' (by omega)), g_good g1, xb, if_neg i1]
    simp (disch := omega) only [xg, vinT, nI_clamp, la]
    rw [rc, (hR.pl p p1).2.2.2.2.2, q1.e]
    by_cases y : nv (md 31 0) (79 + p) = 0
    · have n0 : nI (nv (md 31 0) (79 + p)) = 0 := by rw [y]; rfl
      have n1 : ¬ nI (nv (md 31 0) (79 + p)) = 1 := by rw [n0]; decide
      obtain ⟨rd3, md3, d1, d2, d3, d4, d5⟩ := fail_must c5 (k := 6) (by omega) (by omega) (by omega)
      have d1 : f_X5_fail rd2 6 = some (0, rd3) := d1
      have d2 : f_X8_must md1 0 6 = some md3 := d2
      rw [if_pos n0, if_neg n1, d1, xb, x_guard_pos (Or.inl rfl), d2, xb, e_good d3.er, xb, if_pos rfl, e_on d3.er, xb]
      exact Or.inr ⟨_, rd3, md3, mw1, rfl, rfl, d3, c6.tr d4, a3.f.tr d5.f⟩
    · have y1 : nv (md 31 0) (79 + p) = 1 := by omega
      have n1 : nI (nv (md 31 0) (79 + p)) = 1 := by rw [y1]; rfl
      have n0 : ¬ nI (nv (md 31 0) (79 + p)) = 0 := by rw [n1]; exact i1
      obtain ⟨sd', f1, f2⟩ := c_addLeadOut hI hR p1 y1
      obtain ⟨m5, f3, f4, f5⟩ := m_closes a3.row31 hI p1 y1
      have hI2 := CV_inv hI f5 p1 y1
      have hR2 := CV_rel hI hR f5 f2 p1 y1
      have ec : ∀ i, i ≠ 59 + p → i ≠ 79 + p → ¬ (169 ≤ i ∧ i < 249) → (m5 31 0) i = (md 31 0) i := fun i h1 h2 h3 => f5.1 i h1 h2 (fun z => h3 (by
        have := (hI.plt p p1).2.2.2.2.1.l
        omega))
      have n9 : nv (m5 31 0) 9 = nv (md 31 0) 9 := nv_eq (ec 9 (by omega) (by omega) (by omega))
      have n7 : nv (m5 31 0) 7 = nv (md 31 0) 7 := nv_eq (ec 7 (by omega) (by omega) (by omega))
      have n6 : nv (m5 31 0) 6 = nv (md 31 0) 6 := nv_eq (ec 6 (by omega) (by omega) (by omega))
      have n10 : nv (m5 31 0) 10 = nv (md 31 0) 10 := nv_eq (ec 10 (by omega) (by omega) (by omega))
      have G5 : GC T E (tkE T E x) rd2 m5 mw1 := by
        have hm : ∀ k j t, k ≠ 31 → m5 k j t = md1 k j t := fun k j t hk => f4 k j t (by omega)
        obtain ⟨⟨h1, h2, h3, h4, h5, h6⟩, h7, h8, h9, h10, t1, t2, t3, t4, t5⟩ := c5
        exact ⟨⟨h1, h2, fun t ht => (hm _ _ _ (by omega)).trans (h3 t ht), h4, (hm _ _ _ (by omega)).trans h5, (hm _ _ _ (by omega)).trans h6⟩, h7, h8, h9, h10, (hm _ _ _ (by omega)).trans t1, (hm _ _ _ (by omega)).trans t2, fun z => (hm _ _ _ (by omega)).trans (t3 z), fun z => (hm _ _ _ (by omega)).trans (t4 z), t5⟩
      obtain ⟨md6, mw6, o1, o2, o3⟩ := G5.on (by omega)
      have hx3 := gc_x G5 (by omega)
      rw [if_neg n0, if_pos n1, f1, xb, must_1, xb, g_good g1, xb, if_neg i1, f3, xb, o1, xb]
      refine Or.inl ⟨sd', rd2, md6, mw6, _, rfl, rfl, Nat.lt_trans hx hx3, o2, ?_, c6, a3.f.tr (f4.f.tr o3.f), ?_, ?_⟩
      · unfold LSt
        rw [o3.row31]
        refine ⟨inv_of hI2 n9, rel_of hR2 n9, ⟨fun d h1 h2 => ?_, fun q h1 h2 => ?_, ?_, ?_⟩, fun z => by omega⟩
        · rw [n6] at h1
          rw [ec _ (by omega) (by omega) (by omega), ec _ (by omega) (by omega) (by omega)]
          exact hF.1 d h1 h2
        · rw [n7] at h1
          rw [ec _ (by omega) (by omega) (by omega), ec _ (by omega) (by omega) (by omega), ec _ (by omega) (by omega) (by omega)]
          exact hF.2.1 q h1 h2
        · rw [ec _ (by omega) (by omega) (by omega)]; exact hF.2.2.1
        · rw [n10, n9]; exact hF.2.2.2
      · rw [o3 _ _ _ (by omega), f4 _ _ _ (by omega), a3 _ _ _ (by omega)]
      · rw [o3.row31, n9]
  · rw [c3, xb, c4, xb]
    simp only
    rw [if_pos trivial, e_good c5.er, xb, if_pos rfl, e_must c5.er, xb, e_good c5.er, xb, if_pos rfl, e_on c5.er, xb]
    exact Or.inr ⟨_, rd2, md2, mw1, rfl, rfl, c5, c6, a3.f.tr c7.f⟩
end LN2
