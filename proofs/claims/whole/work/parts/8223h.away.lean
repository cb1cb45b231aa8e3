/-! Layer 2: which platters a batch wants, which drives it reads first -/
theorem nI_or (a b : Nat) : nI a ||| nI b = nI (a ||| b) := by
  apply Int32.toBitVec_inj.mp
  show (nI a).toBitVec ||| (nI b).toBitVec = (nI (a ||| b)).toBitVec
  unfold nI
  simp [BitVec.ofNat_or]
section AWY
variable {b : Nat} {sd : SD} {r : RW}
theorem pq_lt (hI : Inv r) {q : Nat} (hq : q < nv r 16) : pq r q < nv r 7 := by
  obtain ⟨-, y2⟩ := hI.req q hq
  obtain ⟨-, x2⟩ := hI.cur _ y2
  exact (hI.ver _ x2).2.1.2
theorem pow_lt10 {p : Nat} (h : p < 10) : 2 ^ p < 1024 := Nat.pow_lt_pow_right (show 1 < 2 by decide) h
theorem awF_lt (hI : Inv r) (a : Int32) : ∀ (n q s : Nat), q + n ≤ nv r 16 → s < 1024 → awF r a n q s < 1024
  | 0, _, _, _, h => h
  | n + 1, q, s, h1, h2 => by
    have l7 := hI.l7
    have hp := pq_lt hI (q := q) (by omega)
    unfold awF
    refine awF_lt hI a n (q + 1) _ (by omega) ?_
    split
    · exact h2
    · split
      · exact Nat.or_lt_two_pow (n := 10) h2 (pow_lt10 (by omega))
      · exact h2
theorem awF_bit (r : RW) (a : Int32) : ∀ (n q s p : Nat), (awF r a n q s).testBit p = true ↔ s.testBit p = true ∨ ∃ i, q ≤ i ∧ i < q + n ∧ nI i ≠ a ∧ pq r i = p ∧ holdQ r (nI p) = -1
  | 0, q, s, p => by
    unfold awF
    constructor
    · exact Or.inl
    · rintro (h | ⟨i, h1, h2, -⟩)
      · exact h
      · omega
  | n + 1, q, s, p => by
    unfold awF
    rw [awF_bit r a n (q + 1) _ p]
    constructor
    · rintro (h | ⟨i, h1, h2, h3⟩)
      · by_cases z : nI q = a
        · rw [if_pos z] at h; exact Or.inl h
        · rw [if_neg z] at h
          by_cases y : holdQ r (nI (pq r q)) = -1
          · rw [if_pos y, Nat.testBit_or, Nat.testBit_two_pow, Bool.or_eq_true, decide_eq_true_eq] at h
            rcases h with h | h
            · exact Or.inl h
            · exact Or.inr ⟨q, Nat.le_refl _, by omega, z, h, by rw [← h]; exact y⟩
          · rw [if_neg y] at h; exact Or.inl h
      · exact Or.inr ⟨i, by omega, by omega, h3⟩
    · rintro (h | ⟨i, h1, h2, h3, h4, h5⟩)
      · left
        split
        · exact h
        · split
          · rw [Nat.testBit_or, h, Bool.true_or]
          · exact h
      · by_cases z : i = q
        · subst z
          left
          rw [if_neg h3, h4, if_pos h5, Nat.testBit_or, Nat.testBit_two_pow]
          simp
        · exact Or.inr ⟨i, by omega, by omega, h3, h4, h5⟩
theorem c_away4 (hI : Inv r) (hR : Rel b sd r) (a : Int32) : ∀ (k q f s : Nat), q + k = nv r 16 → k < f → s < 1024 → f_X4_awayPlatters_L4 sd a f (nI s) (nI q) = some (nI (awF r a k q s)) := by
  have l16 := hI.l16
  have l7 := hI.l7
  intro k
  induction k with
  | zero =>
    intro q f s h1 h2 h3
    obtain ⟨f, rfl⟩ : ∃ x, f = x + 1 := ⟨f - 1, by omega⟩
    have : q = nv r 16 := by omega
    subst this
    rw [f_X4_awayPlatters_L4, hR.s13, hI.c16, if_pos (nI_le (Nat.le_refl _) (by omega))]
    rfl
  | succ k ih =>
    intro q f s h1 h2 h3
    obtain ⟨f, rfl⟩ : ∃ x, f = x + 1 := ⟨f - 1, by omega⟩
    have hq : q < nv r 16 := by omega
    obtain ⟨y1, y2⟩ := hI.req q hq
    obtain ⟨x1, x2⟩ := hI.cur _ y2
    obtain ⟨w1, w2⟩ := (hI.ver _ x2).2.1
    have hpq : r (349 + nv r (289 + nv r (589 + q))) = nI (pq r q) := w1.e
    have hpl : pq r q < nv r 7 := w2
    rw [f_X4_awayPlatters_L4, hR.s13, hI.c16, if_neg (by rw [nI_leI (by omega) (by omega)]; omega)]
    simp (disch := omega) only [xl, xg, vinT, nI_clamp, ra, hR.rq q hq, y1.e]
    rw [c_currentVersion hI hR y2, xb, (hR.ve _ x2).2.1, hpq, awF, c_driveHolding hI hR, xb]
    by_cases z : nI q = a
    · rw [if_pos z, if_pos z]
      exact ih (q + 1) f s (by omega) (by omega) h3
    · rw [if_neg z, if_neg z]
      by_cases y : holdQ r (nI (pq r q)) = -1
      · rw [if_pos y, if_pos y, sh1n _ (by omega), nI_or]
        exact ih (q + 1) f _ (by omega) (by omega) (Nat.or_lt_two_pow (n := 10) h3 (pow_lt10 (by omega)))
      · rw [if_neg y, if_neg y]
        exact ih (q + 1) f s (by omega) (by omega) h3
theorem c_awayPlatters (hI : Inv r) (hR : Rel b sd r) (a : Int32) : f_X4_awayPlatters sd a = some (nI (awS r a)) := by
  have l16 := hI.l16
  unfold f_X4_awayPlatters
  have h := c_away4 hI hR a (nv r 16) 0 fuel 0 (by omega) (by unfold fuel; omega) (by decide)
  rw [nI_0] at h
  exact h
theorem awS_lt (hI : Inv r) (a : Int32) : awS r a < 1024 := awF_lt hI a _ _ _ (by omega) (by decide)
theorem awS_bit (r : RW) (a : Int32) (p : Nat) : (awS r a).testBit p = true ↔ ∃ i, i < nv r 16 ∧ nI i ≠ a ∧ pq r i = p ∧ holdQ r (nI p) = -1 := by
  unfold awS
  rw [awF_bit]
  constructor
  · rintro (h | ⟨i, -, h2, h3⟩)
    · simp at h
    · exact ⟨i, by omega, h3⟩
  · rintro ⟨i, h1, h2⟩
    exact Or.inr ⟨i, by omega, by omega, h2⟩
/-- the drives that hold a wanted platter -/
def mkF (r : RW) (a : Int32) : Nat → Nat → Nat → Nat
  | 0, _, s => s
  | n + 1, q, s => mkF r a n (q + 1) (if nI q = a then s else if holdQ r (nI (pq r q)) = -1 then s else s ||| 2 ^ (holdQ r (nI (pq r q))).toNatClampNeg)
theorem mkF_lt (hI : Inv r) (a : Int32) : ∀ (n q s : Nat), s < 16 → mkF r a n q s < 16
  | 0, _, _, h => h
  | n + 1, q, s, h2 => by
    have l6 := hI.l6
    unfold mkF
    refine mkF_lt hI a n (q + 1) _ ?_
    split
    · exact h2
    · split
      · exact h2
      · rename_i z y
        rcases holdQ_cases r (nI (pq r q)) with ⟨w, -⟩ | ⟨d, hd, w, -⟩
        · exact absurd w y
        · rw [w, nI_clamp (by omega)]
          exact Nat.or_lt_two_pow (n := 4) h2 (Nat.pow_lt_pow_right (show 1 < 2 by decide) (by omega))
theorem c_dar4 (hI : Inv r) (hR : Rel b sd r) (hb : b < 2 ^ 29) (h0 : 0 < nv r 6) (a : Int32) : ∀ (k q f s : Nat), q + k = nv r 16 → k < f → s < 16 → f_X4_driveAfterReading_L4 sd a f (nI s) (nI q) = some (freQ r (useC sd (mkF r a k q s))) := by
  have l16 := hI.l16
  have l6 := hI.l6
  intro k
  induction k with
  | zero =>
    intro q f s h1 h2 h3
    obtain ⟨f, rfl⟩ : ∃ x, f = x + 1 := ⟨f - 1, by omega⟩
    have : q = nv r 16 := by omega
    subst this
    rw [f_X4_driveAfterReading_L4, hR.s13, hI.c16, if_pos (nI_le (Nat.le_refl _) (by omega)), c_driveForAway hI hR hb (by omega) h0, xb]
    rfl
  | succ k ih =>
    intro q f s h1 h2 h3
    obtain ⟨f, rfl⟩ : ∃ x, f = x + 1 := ⟨f - 1, by omega⟩
    have hq : q < nv r 16 := by omega
    obtain ⟨y1, y2⟩ := hI.req q hq
    obtain ⟨x1, x2⟩ := hI.cur _ y2
    obtain ⟨w1, w2⟩ := (hI.ver _ x2).2.1
    have hpq : r (349 + nv r (289 + nv r (589 + q))) = nI (pq r q) := w1.e
    rw [f_X4_driveAfterReading_L4, hR.s13, hI.c16, if_neg (by rw [nI_leI (by omega) (by omega)]; omega)]
    simp (disch := omega) only [xl, xg, vinT, nI_clamp, ra, hR.rq q hq, y1.e]
    rw [c_currentVersion hI hR y2, xb, (hR.ve _ x2).2.1, hpq, mkF, c_driveHolding hI hR, xb]
    by_cases z : nI q = a
    · rw [if_pos z, if_pos z]
      exact ih (q + 1) f s (by omega) (by omega) h3
    · rw [if_neg z, if_neg z]
      rcases holdQ_cases r (nI (pq r q)) with ⟨w, -⟩ | ⟨d, hd, w, -⟩
      · rw [if_pos w, if_pos w]
        exact ih (q + 1) f s (by omega) (by omega) h3
      · have y : ¬ (holdQ r (nI (pq r q)) = -1) := by rw [w, nm1 (by omega)]; exact id
        rw [if_neg y, if_neg y, w, nI_clamp (by omega), sh1n _ (by omega), nI_or]
        exact ih (q + 1) f _ (by omega) (by omega) (Nat.or_lt_two_pow (n := 4) h3 (Nat.pow_lt_pow_right (show 1 < 2 by decide) (by omega)))
theorem c_driveAfterReading (hI : Inv r) (hR : Rel b sd r) (hb : b < 2 ^ 29) (h0 : 0 < nv r 6) (a : Int32) : f_X4_driveAfterReading sd a = some (freQ r (useC sd (mkF r a (nv r 16) 0 0))) := by
  have l16 := hI.l16
  unfold f_X4_driveAfterReading
  have h := c_dar4 hI hR hb h0 a (nv r 16) 0 fuel 0 (by omega) (by unfold fuel; omega) (by decide)
  rw [nI_0] at h
  exact h
/-- how long the wanted files take to read -/
def rtF (r : RW) (a : Int32) : Nat → Nat → Int32 → Int32
  | 0, _, s => s
  | n + 1, q, s => rtF r a n (q + 1) (if nI q = a then s else s + rdT r (nv r (289 + nv r (589 + q))))
theorem c_rrt4 (hI : Inv r) (hR : Rel b sd r) (a : Int32) : ∀ (k q f : Nat) (s : Int32), q + k = nv r 16 → k < f → f_X4_requestsReadTime_L4 sd a f s (nI q) = some (rtF r a k q s) := by
  have l16 := hI.l16
  intro k
  induction k with
  | zero =>
    intro q f s h1 h2
    obtain ⟨f, rfl⟩ : ∃ x, f = x + 1 := ⟨f - 1, by omega⟩
    have : q = nv r 16 := by omega
    subst this
    rw [f_X4_requestsReadTime_L4, hR.s13, hI.c16, if_pos (nI_le (Nat.le_refl _) (by omega))]
    rfl
  | succ k ih =>
    intro q f s h1 h2
    obtain ⟨f, rfl⟩ : ∃ x, f = x + 1 := ⟨f - 1, by omega⟩
    have hq : q < nv r 16 := by omega
    obtain ⟨y1, y2⟩ := hI.req q hq
    obtain ⟨x1, x2⟩ := hI.cur _ y2
    rw [f_X4_requestsReadTime_L4, hR.s13, hI.c16, if_neg (by rw [nI_leI (by omega) (by omega)]; omega), rtF]
    simp (disch := omega) only [xl, xg, vinT, nI_clamp, ra, hR.rq q hq, y1.e]
    by_cases z : nI q = a
    · rw [if_pos z, if_pos z]
      exact ih (q + 1) f s (by omega) (by omega)
    · rw [if_neg z, if_neg z, c_currentVersion hI hR y2, xb, c_sectors hI hR x2, xb]
      exact ih (q + 1) f _ (by omega) (by omega)
theorem c_requestsReadTime (hI : Inv r) (hR : Rel b sd r) (a : Int32) : f_X4_requestsReadTime sd a = some (rtF r a (nv r 16) 0 0) := by
  have l16 := hI.l16
  unfold f_X4_requestsReadTime
  have h := c_rrt4 hI hR a (nv r 16) 0 fuel 0 (by omega) (by unfold fuel; omega)
  rw [nI_0] at h
  exact h
end AWY
