/-! Layer 2: may the batch be served; one by one -/
section BAT
variable {b : Nat} {sd md : SD} {r : RW}
/-- every requested file is readable -/
def rdA (r : RW) : Nat → Nat → Bool
  | 0, _ => true
  | n + 1, q => if gdV r (nv r (289 + nv r (589 + q))) = 0 then false else rdA r n (q + 1)
theorem c_bp29 (hI : Inv r) (hR : Rel b sd r) : ∀ (k d n : Nat), d + k = nv r 16 → k < n → f_X7_batchProblem_L29 sd n (nI d) = some (if rdA r k d = true then 0 else -1000008) := by
  have l16 := hI.l16
  intro k
  induction k with
  | zero =>
    intro d n hd hn
    obtain ⟨n, rfl⟩ : ∃ q, n = q + 1 := ⟨n - 1, by omega⟩
    have : d = nv r 16 := by omega
    subst this
    rw [f_X7_batchProblem_L29, hR.s13, hI.c16, if_pos (nI_le (Nat.le_refl _) (by omega))]
    rfl
  | succ k ih =>
    intro d n hd hn
    obtain ⟨n, rfl⟩ : ∃ q, n = q + 1 := ⟨n - 1, by omega⟩
    have hq : d < nv r 16 := by omega
    obtain ⟨y1, y2⟩ := hI.req d hq
    rw [f_X7_batchProblem_L29, hR.s13, hI.c16, if_neg (by rw [nI_leI (by omega) (by omega)]; omega)]
    simp (disch := omega) only [xl, xg, vinT, nI_clamp, ra, hR.rq d hq, y1.e]
    rw [c_isReadable hI hR y2, xb, rdA]
    by_cases z : gdV r (nv r (289 + nv r (589 + d))) = 0
    · rw [if_pos z, if_pos z]
      rfl
    · rw [if_neg z, if_neg z]
      exact ih (d + 1) n (by omega) (by omega)
theorem m_are (hr : md 30 0 = r) (hI : Inv r) : ∀ (k d n : Nat) (x : Bool), d + k = nv r 16 → k < n → f_X8_areReadable_L4 md n (b01 x) (nI d) = some (b01 (x && rdA r k d)) := by
  have l16 := hI.l16
  intro k
  induction k with
  | zero =>
    intro d n x hd hn
    obtain ⟨n, rfl⟩ : ∃ q, n = q + 1 := ⟨n - 1, by omega⟩
    have : d = nv r 16 := by omega
    subst this
    have g : (b01 x = 0 ∨ b01 x = 1) = True := by cases x <;> simp [b01]
    rw [f_X8_areReadable_L4, hr, hI.c16, if_pos (nI_le (Nat.le_refl _) (by omega))]
    simp only [g, xg]
    cases x <;> rfl
  | succ k ih =>
    intro d n x hd hn
    obtain ⟨n, rfl⟩ : ∃ q, n = q + 1 := ⟨n - 1, by omega⟩
    have hq : d < nv r 16 := by omega
    obtain ⟨y1, y2⟩ := hI.req d hq
    rw [f_X8_areReadable_L4, hr, hI.c16, if_neg (by rw [nI_leI (by omega) (by omega)]; omega)]
    simp (disch := omega) only [xl, xg, vinT, nI_clamp, la, ra, y1.e, m_isReadable hr hI y2, xb]
    cases x with
    | false =>
      rw [if_pos (show b01 false = 0 from rfl)]
      exact ih (d + 1) n false (by omega) (by omega)
    | true =>
      rw [if_neg (show ¬ b01 true = 0 by decide), rdA]
      by_cases z : gdV r (nv r (289 + nv r (589 + d))) = 0
      · rw [if_pos z, if_pos z]
        exact ih (d + 1) n false (by omega) (by omega)
      · rw [if_neg z, if_neg z]
        exact ih (d + 1) n true (by omega) (by omega)
/-- why the batch may not be served -/
def bpV (r : RW) (a : Int32) : Int32 := if a ≤ r 16 then (if r 6 = 0 then -1000007 else if rdA r (nv r 16) 0 = true then 0 else -1000008) else -1000005
theorem c_batchProblem (hI : Inv r) (hR : Rel b sd r) (a : Int32) : f_X7_batchProblem sd a = some (bpV r a) := by
  have l16 := hI.l16
  unfold f_X7_batchProblem bpV
  have h := c_bp29 hI hR (nv r 16) 0 fuel (by omega) (by unfold fuel; omega)
  rw [nI_0] at h
  rw [hR.s13, hR.s3, h]
  split
  · split <;> rfl
  · rfl
theorem m_whyNotServed (hr : md 30 0 = r) (hI : Inv r) (a : Int32) : f_X8_whyNotServed md a = some (bpV r a) := by
  have l16 := hI.l16
  unfold f_X8_whyNotServed f_X8_areReadable bpV
  have h : f_X8_areReadable_L4 md fuel 1 0 = some (b01 (true && rdA r (nv r 16) 0)) := m_are hr hI (nv r 16) 0 fuel true (by omega) (by unfold fuel; omega)
  rw [hr, h, xb]
  by_cases z : a ≤ r 16
  · rw [if_pos z, if_pos z]
    by_cases y : r 6 = 0
    · rw [if_pos y, if_pos y]
    · rw [if_neg y, if_neg y]
      cases rdA r (nv r 16) 0 <;> rfl
  · rw [if_neg z, if_neg z]
theorem bpV_0 (hI : Inv r) {a : Int32} (h : bpV r a = 0) : a ≤ r 16 ∧ 0 < nv r 6 := by
  unfold bpV at h
  by_cases z : a ≤ r 16
  · rw [if_pos z] at h
    refine ⟨z, Nat.pos_of_ne_zero (fun y => ?_)⟩
    rw [if_pos ((z6 hI).mpr y)] at h
    exact absurd h (by decide)
  · rw [if_neg z] at h
    exact absurd h (by decide)
/-- files are read one after another on both sides -/
theorem obo_go {sd0 : SD} {m0 : SD} (hI0 : Inv r) (hR0 : Rel b sd0 r) (h06 : 0 < nv r 6) : ∀ (k d n n' : Nat) (s m : SD), d + k = nv r 16 → k < n → k < n' → b + 2 * d < 2 ^ 28 → MX m0 m → (∀ i, ¬ mec i → m 30 0 i = r i) → Inv (m 30 0) → Rel (b + 2 * d) s (m 30 0) → b + 2 * nv r 16 < 2 ^ 28 → ∃ s' m', f_X7_oneByOneTime_L sd0 n s (nI d) = some s' ∧ f_X8_oneByOneTime_L23 n' (nI d) m = (x_bind (f_X8_takesBack m') fun q => some (q.1, q.2)) ∧ MX m0 m' ∧ s' 4 0 15 = m' 30 0 12 := by
  have l16 := hI0.l16
  intro k
  induction k with
  | zero =>
    intro d n n' s m hd hn hn' hb hX hf hI hR hb2
    obtain ⟨n, rfl⟩ : ∃ q, n = q + 1 := ⟨n - 1, by omega⟩
    obtain ⟨n', rfl⟩ : ∃ q, n' = q + 1 := ⟨n' - 1, by omega⟩
    have : d = nv r 16 := by omega
    subst this
    rw [f_X7_oneByOneTime_L, f_X8_oneByOneTime_L23, hR0.s13, hf 16 (by unfold mec; omega), hI0.c16, if_pos (nI_le (Nat.le_refl _) (by omega)), if_pos (nI_le (Nat.le_refl _) (by omega))]
    exact ⟨s, m, rfl, rfl, hX, hR.s15⟩
  | succ k ih =>
    intro d n n' s m hd hn hn' hb hX hf hI hR hb2
    obtain ⟨n, rfl⟩ : ∃ q, n = q + 1 := ⟨n - 1, by omega⟩
    obtain ⟨n', rfl⟩ : ∃ q, n' = q + 1 := ⟨n' - 1, by omega⟩
    have hq : d < nv r 16 := by omega
    obtain ⟨y1, y2⟩ := hI0.req d hq
    have n6 : nv (m 30 0) 6 = nv r 6 := nv_eq (hf 6 (by unfold mec; omega))
    have n9 : nv (m 30 0) 9 = nv r 9 := nv_eq (hf 9 (by unfold mec; omega))
    have c7 : ¬ (nI (nv r 16) ≤ nI d) := by rw [nI_leI (by omega) (by omega)]; omega
    rw [f_X7_oneByOneTime_L, f_X8_oneByOneTime_L23, hR0.s13, hf 16 (by unfold mec; omega), hI0.c16, if_neg c7, if_neg c7]
    simp (disch := omega) only [xl, xg, vinT, nI_clamp, la, ra, hR0.rq d hq]
    rw [hf (589 + d) (by unfold mec; omega), y1.e]
    obtain ⟨s1, m1, e, he, hch, g1, g2, hX1, hI1, hR1, hfr, -⟩ := read_both (md := m) rfl hI hR hb (by omega) (f := nv r (589 + d)) (by omega)
    have n91 : nv (m1 30 0) 9 = nv (m 30 0) 9 := nv_eq (hfr 9 (by unfold mec; omega))
    rw [g1, xb, g2, xb]
    refine ih (d + 1) n n' s1 m1 (by omega) (by omega) (by omega) (by omega) (hX.tr hX1) (fun i hi => (hfr i hi).trans (hf i hi)) (inv_of hI1 n91) ?_ hb2
    have := rel_of hR1 n91
    rw [show b + 2 * (d + 1) = b + 2 * d + 2 by omega]
    exact this
end BAT
section BAU
variable {b : Nat} {cs : CT} {m : SD}
/-- the spare State may hold anything -/
theorem JJ.spare (h : JJ b cs m) (s : SD) : JJ b (kS cs (k_sp cs) s) m := by
  obtain ⟨h1, h2, ⟨f0, c, a1, a2, a3, a4, a5, a6⟩, ⟨d1, d2, d3, d4, d5, d6⟩, h5, h6, h7⟩ := h
  refine ⟨h1, ?_, ⟨f0, c, a1, a2, a3, a4, a5, fun k hk => ?_⟩, ⟨d1, d2, d3, d4, d5, d6⟩, h5, h6, h7⟩
  · show Rel b (k_xs (kS cs (k_sp cs) s) (k_st cs)) _
    have : k_xs (kS cs (k_sp cs) s) (k_st cs) = k_xs cs (k_st cs) := va_off _ _ d1
    rw [this]
    exact h2
  · obtain ⟨q, q1, q2, q3⟩ := a6 k hk
    refine ⟨q, q1, q2, ?_⟩
    have : k_xs (kS cs (k_sp cs) s) q = k_xs cs q := va_off _ _ (d2 _ _ q1).2
    rw [this]
    exact q3
theorem st_oneByOneTime (hJ : JJ b cs m) (hb : b < 2 ^ 27) : ST b (f_X7_oneByOneTime cs) (f_X8_oneByOneTime m) := by
  obtain ⟨m1, e1, r1, s1⟩ := thr m
  have hJ1 := hJ.same s1
  obtain ⟨hI, hR, -, ⟨d1, -⟩, -⟩ := hJ.same s1
  have l16 := hI.l16
  unfold f_X7_oneByOneTime f_X8_oneByOneTime
  rw [c_batchProblem hI hR, xb, xl, e1, m_whyNotServed rfl hI, xb]
  by_cases z : bpV (m1 30 0) 1 = 0
  · obtain ⟨-, h06⟩ := bpV_0 hI z
    obtain ⟨s2, g1, g2⟩ := c_copyFrom hI hR (k_xs cs (k_sp cs))
    have hrow := trM_row m1
    obtain ⟨s3, m3, k1, k2, k3, k4⟩ := obo_go (m0 := trM m1) hI hR h06 (nv (m1 30 0) 16) 0 fuel fuel s2 (trM m1) (by omega) (by unfold fuel; omega) (by unfold fuel; omega) (by omega) (MX.rf _) (fun i _ => by rw [hrow]) (by rw [hrow]; exact hI) (by rw [hrow]; exact g2) (by omega)
    obtain ⟨m4, e4, s4⟩ := m_back k3
    rw [nI_0] at k1 k2
    rw [if_pos z, if_pos z, g1, m_tries]
    simp only [eq_true d1, xg, xb, k1, k2, e4]
    refine ⟨_, _, m4, rfl, ?_, (hJ1.same s4).spare s3⟩
    rw [k4, hR.s15]
  · rw [if_neg z, if_neg z]
    exact ⟨_, _, _, rfl, rfl, hJ1⟩
end BAU
