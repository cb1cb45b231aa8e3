/-! Layer 2: batchTime, batchExchanges, batchPlatter, serveBatch -/
section BQ
variable {b d : Nat} {cs : CT} {m s : SD} {r : RW}
theorem JJ.plan (h : JJ b cs m) {pd' : SD} (hP : pd' 2 0 5 = -1 ∨ PTok pd' (m 30 0)) : JJ b (kP cs pd') m := by
  obtain ⟨h1, h2, h3, h4, h5, h6, h7⟩ := h
  exact ⟨h1, h2, h3, h4, h5, h6, Or.inr hP⟩
theorem ready_JJ (h : JJ b cs m) : ∃ (pi : Nat) (c1 : CT), f_X7_readyPlanner cs = some (pi, c1) ∧ JJ b c1 m ∧ k_pl c1 = some pi ∧ k_xs c1 (k_st c1) = k_xs cs (k_st cs) ∧ (k_pd c1 2 0 5 = -1 ∨ PTok (k_pd c1) (m 30 0)) := by
  unfold f_X7_readyPlanner
  cases e : k_pl cs with
  | some pi =>
    refine ⟨pi, cs, rfl, h, e, rfl, ?_⟩
    obtain ⟨-, -, -, -, -, -, h7⟩ := h
    rcases h7 with z | z
    · rw [e] at z; cases z
    · exact z
  | none =>
    obtain ⟨h1, h2, h3, ⟨d1, d2, d3, d4, d5, d6⟩, h5, h6, h7⟩ := h
    have e5 : pd0 2 0 5 = -1 := rfl
    refine ⟨_, _, rfl, ⟨h1, h2, h3, ⟨d1, d2, d3, ?_, ?_, fun t q hq => ?_⟩, h5, h6, Or.inr (Or.inl e5)⟩, rfl, rfl, Or.inl e5⟩
    · show k_st cs < k_sz cs + 4
      omega
    · show k_sp cs < k_sz cs + 4
      omega
    · have := d6 t q hq
      show q < k_sz cs + 4
      omega
theorem m_back2 {m2 : SD} (h : MX (trM m) m2) : ∃ m3, f_X8_takesBack m2 = some (m2 30 0 12 - m 30 0 12, m3) ∧ MSame m m3 ∧ ∀ k j t, k ≠ 30 → m3 k j t = m2 k j t := by
  obtain ⟨m3, e1, e2⟩ := m_back h
  refine ⟨m3, e1, e2, fun k j t hk => ?_⟩
  unfold f_X8_takesBack at e1
  rw [m_copies m2 (by decide)] at e1
  simp only [xl, xb] at e1
  have := (Prod.mk.inj (Option.some.inj e1)).2
  rw [← this]
  unfold cpM
  rw [if_neg (by omega)]
/-- a plan by hand -/
def pdL (d : Nat) (l : List Nat) : SD := fun k _ t => if k = 2 then (if t = 3 then nI l.length else nI d) else nI (l.getD t 0)
theorem m_servingTime (hr : m 30 0 = r) (hI : Inv r) (hR : Rel b s r) (hb : b < 2 ^ 27) (h0 : 0 < nv r 6) (hd : d < nv r 6) (hfr : freQ r (useC s (mkF r (-1) (nv r 16) 0 0)) = nI d) : ∃ m3, f_X8_servingTime m = some (rtF r (-1) (nv r 16) 0 0 + (if awS r (-1) = 0 then 0 else nI (lst r d (awS r (-1)))), m3) ∧ MSame m m3 ∧ m3 8 0 10 = nI (olQ r d).length ∧ (∀ u, u < (olQ r d).length → ∃ i, i < 10 ∧ m3 35 0 u = nI i ∧ m3 34 0 i = nI ((olQ r d).getD u 0)) ∧ (olQ r d).length = (wlQ r).length := by
  have hrow := trM_row m
  obtain ⟨s1, s2, m2, a1, a2, a3, a4, a5, a6, a7, a8, a9, a10⟩ := serve_both (m := trM m) (hrow.trans hr) hI hR hb h0 hd hfr (pd := pdL d (olQ r d)) rfl rfl (fun t _ => rfl)
  obtain ⟨m3, b1, b2, b3⟩ := m_back2 a4
  refine ⟨m3, ?_, b2, by rw [b3 _ _ _ (by omega)]; exact a8, fun u hu => ?_, a10⟩
  · unfold f_X8_servingTime
    rw [m_tries, xb, a3, xb, b1, xb, a7, hr, i32_back]
  · obtain ⟨i, i1, i2, i3⟩ := a9 u hu
    exact ⟨i, i1, by rw [b3 _ _ _ (by omega)]; exact i2, by rw [b3 _ _ _ (by omega)]; exact i3⟩
theorem st_batchTime (hJ : JJ b cs m) (hb : b < 2 ^ 27) : ST b (f_X7_batchTime cs) (f_X8_batchTime m) := by
  obtain ⟨m1, e1, r1, s1⟩ := thr m
  have hJ1 := hJ.same s1
  obtain ⟨hI, hR, -, -, -⟩ := hJ.same s1
  unfold f_X7_batchTime f_X8_batchTime
  rw [c_batchProblem hI hR, xb, xl, e1, m_whyNotServed rfl hI, xb]
  by_cases z : bpV (m1 30 0) 1 = 0
  · obtain ⟨-, h06⟩ := bpV_0 hI z
    obtain ⟨pi, c1, q1, q2, q3, q4, q5⟩ := ready_JJ hJ1
    obtain ⟨d, pd', d1, d2, d3, d4, -⟩ := c_timeWithout hI hR (by omega) h06 q5 (-1)
    obtain ⟨m3, f1, f2, -⟩ := m_servingTime rfl hI hR hb h06 d1 d2
    rw [if_pos z, if_pos z, q1, xb]
    simp only
    rw [q4, d3, xb, f1, xb]
    exact ⟨_, _, m3, rfl, rfl, (q2.plan d4).same f2⟩
  · rw [if_neg z, if_neg z]
    exact ⟨_, _, _, rfl, rfl, hJ1⟩
/-- the plan of the class, and what it says -/
theorem plan_JJ (hJ : JJ b cs m) (hb : b < 2 ^ 27) (z : bpV (m 30 0) 1 = 0) : ∃ (pi : Nat) (c1 : CT) (d : Nat), f_X7_planBatch cs = some (0, c1) ∧ JJ b c1 m ∧ k_pl c1 = some pi ∧ k_xs c1 (k_st c1) = k_xs cs (k_st cs) ∧ d < nv (m 30 0) 6 ∧ freQ (m 30 0) (useC (k_xs cs (k_st cs)) (mkF (m 30 0) (-1) (nv (m 30 0) 16) 0 0)) = nI d ∧ k_pd c1 2 0 4 = nI d ∧ k_pd c1 2 0 3 = nI (olQ (m 30 0) d).length ∧ ∀ t, t < (olQ (m 30 0) d).length → k_pd c1 25 0 t = nI ((olQ (m 30 0) d).getD t 0) := by
  have hI : Inv (m 30 0) := hJ.1
  have hR : Rel b (k_xs cs (k_st cs)) (m 30 0) := hJ.2.1
  obtain ⟨-, h06⟩ := bpV_0 hI z
  obtain ⟨pi, c1, q1, q2, q3, q4, q5⟩ := ready_JJ hJ
  obtain ⟨d, pd', d1, d2, d3, d4, d5, d6, d7⟩ := c_planOrder hI hR (by omega) h06 q5
  refine ⟨pi, kP c1 pd', d, ?_, q2.plan d4, q3, q4, d1, d2, d5, d6, d7⟩
  unfold f_X7_planBatch
  rw [c_batchProblem hI hR, xb, if_pos z, q1, xb]
  simp only
  rw [q4, d3, xb, z]
theorem planBatch_no (hJ : JJ b cs m) (z : ¬ bpV (m 30 0) 1 = 0) : f_X7_planBatch cs = some (bpV (m 30 0) 1, cs) := by
  obtain ⟨hI, hR, -, -, -⟩ := hJ
  unfold f_X7_planBatch
  rw [c_batchProblem hI hR, xb, if_neg z]
theorem st_batchExchanges (hJ : JJ b cs m) (hb : b < 2 ^ 27) : ST b (f_X7_batchExchanges cs) (f_X8_batchExchanges m) := by
  obtain ⟨m1, e1, r1, s1⟩ := thr m
  have hJ1 := hJ.same s1
  obtain ⟨hI, hR, -, -, -⟩ := hJ.same s1
  unfold f_X7_batchExchanges f_X8_batchExchanges
  rw [xl, e1, m_whyNotServed rfl hI, xb]
  by_cases z : bpV (m1 30 0) 1 = 0
  · obtain ⟨-, h06⟩ := bpV_0 hI z
    obtain ⟨pi, c1, d, q1, q2, q3, q4, q5, q6, q7, q8, q9⟩ := plan_JJ hJ1 hb z
    obtain ⟨-, -, -, -, -, f5⟩ := m_servingTime rfl hI hR hb h06 q5 q6
    obtain ⟨m3, g1, g2, g3, -⟩ := m_findsWanted (md := m1) rfl hI
    rw [q1, xb, if_pos rfl, if_pos z, g1, xb]
    simp only
    rw [q3, xb, q8, g3, f5]
    refine ⟨_, _, m3, rfl, rfl, q2.same (fun k j t hs => g2 k j t ?_ ?_)⟩
    · unfold scr at hs; omega
    · unfold scr at hs; omega
  · rw [planBatch_no hJ1 z, xb, if_neg z, if_neg z]
    exact ⟨_, _, _, rfl, rfl, hJ1⟩
theorem st_batchPlatter (hJ : JJ b cs m) (hb : b < 2 ^ 27) (a : Int32) : ST b (f_X7_batchPlatter cs a) (f_X8_batchPlatter m a) := by
  obtain ⟨m1, e1, r1, s1⟩ := thr m
  have hJ1 := hJ.same s1
  obtain ⟨hI, hR, -, -, -⟩ := hJ.same s1
  unfold f_X7_batchPlatter f_X8_batchPlatter
  rw [xl, e1, m_whyNotServed rfl hI, xb]
  by_cases z : bpV (m1 30 0) 1 = 0
  · obtain ⟨-, h06⟩ := bpV_0 hI z
    obtain ⟨pi, c1, d, q1, q2, q3, q4, q5, q6, q7, q8, q9⟩ := plan_JJ hJ1 hb z
    obtain ⟨m3, f1, f2, f3, f4, f5⟩ := m_servingTime rfl hI hR hb h06 q5 q6
    have hl := (wlQ_WO hI).1
    have hl2 : (olQ (m1 30 0) d).length < 2 ^ 31 := by omega
    rw [q1, xb, if_pos rfl, if_pos z, f1, xb]
    simp only
    rw [q3, xb, q8, f3, isIn0 a hl2, xb]
    rcases hasV_cases a hl2 with h | ⟨h, j, hj, rfl⟩
    · rw [h, if_pos rfl]
      refine ⟨-1000001, c1, m3, ?_, rfl, q2.same f2⟩
      by_cases y : a < 0
      · rw [if_pos y]
      · rw [if_neg y, if_neg]
        intro w
        unfold hasV at h
        rw [if_neg y, if_neg (fun v => i32_lt_le.mpr v w)] at h
        exact absurd h i1
    · obtain ⟨i, g1, g2, g3⟩ := f4 j hj
      rw [h, if_neg i1, if_neg (nI_pos (by omega)), if_pos ((nI_ltI (by omega) (by omega)).mpr hj)]
      simp (disch := omega) only [xg, vinT, nI_clamp]
      rw [g2]
      simp (disch := omega) only [xg, vinT, nI_clamp]
      rw [g3, q9 j hj]
      exact ⟨_, _, m3, rfl, rfl, q2.same f2⟩
  · rw [planBatch_no hJ1 z, xb, if_neg z, if_neg z]
    exact ⟨_, _, _, rfl, rfl, hJ1⟩
theorem st_serveBatch (hJ : JJ b cs m) (hb : b < 2 ^ 27) : ST (b + 256) (f_X7_serveBatch cs) (f_X8_serveBatch m) := by
  obtain ⟨m1, e1, r1, s1⟩ := thr m
  have hJ1 := hJ.same s1
  obtain ⟨hI, hR, -, -, -⟩ := hJ.same s1
  unfold f_X7_serveBatch f_X8_serveBatch
  rw [xl, e1, m_whyNotServed rfl hI, xb]
  by_cases z : bpV (m1 30 0) 1 = 0
  · obtain ⟨-, h06⟩ := bpV_0 hI z
    obtain ⟨pi, c1, d, q1, q2, q3, q4, q5, q6, q7, q8, q9⟩ := plan_JJ hJ1 hb z
    obtain ⟨c2, m2, f1, k1, g1, g2, hrow, -, hR0, hR1, hx, g3, g4, g5, g6, g7⟩ := edit_go q2 (MSame.rf m1)
    have hne : k_pl c1 ≠ none := by rw [q3]; simp
    have hpd := g6.2 hne
    have hpl : k_pl c2 = some pi := g6.1.trans q3
    have hx2 : k_xs c2 (k_st c2) = k_xs cs (k_st cs) := hx.trans q4
    obtain ⟨s1', s2, m3, a1, a2, a3, a4, a5, a6, -, -⟩ := serve_both (m := m2) hrow hI hR1 hb h06 q5 (by rw [hx2]; exact q6) (pd := k_pd c2) (by rw [hpd, upS_t (by omega)]; exact q8) (by rw [hpd, upS_t (by omega)]; exact q7) (fun t ht => by rw [hpd, upS_k (by omega)]; exact q9 t ht)
    rw [q1, xb, if_pos rfl, if_pos z, g1, xb, g2, xb]
    simp only [xl]
    rw [hpl, xb, a1, xb, a2, xb, a3, xb]
    refine ⟨_, _, m3, rfl, ?_, q2.edit (MSame.rf m1) (by omega) g3 g4 g5 g6 g7 a4 a5 a6⟩
    unfold f_X8_took
    rw [xb, a6.s15, hR1.s15, hrow]
  · rw [planBatch_no hJ1 z, xb, if_neg z, if_neg z]
    exact ⟨_, _, _, rfl, rfl, hJ1.more (by omega)⟩
end BQ
