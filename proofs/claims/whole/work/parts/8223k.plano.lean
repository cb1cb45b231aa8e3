/-! Layer 2: the class plans a batch -/
section PLO
variable {b : Nat} {sd : SD} {r : RW}
theorem PTok.same {pd pd' : SD} (h : pd 2 0 5 = -1 ∨ PTok pd r) (h5 : pd' 2 0 5 = pd 2 0 5) (h23 : ∀ t, pd' 23 0 t = pd 23 0 t) (h24 : ∀ t, pd' 24 0 t = pd 24 0 t) : pd' 2 0 5 = -1 ∨ PTok pd' r := by
  rcases h with h | ⟨d, a1, a4, a6, a7⟩
  · exact Or.inl (h5.trans h)
  · refine Or.inr ⟨d, a1, h5.trans a4, fun s p k1 k2 k3 k4 => ?_, fun p q k1 k2 => ?_⟩
    · rw [h23]; exact a6 s p k1 k2 k3 k4
    · rw [h24]; exact a7 p q k1 k2
theorem c_planOrder (hI : Inv r) (hR : Rel b sd r) (hb : b < 2 ^ 29) (h0 : 0 < nv r 6) {pd : SD} (hP : pd 2 0 5 = -1 ∨ PTok pd r) : ∃ d pd', d < nv r 6 ∧ freQ r (useC sd (mkF r (-1) (nv r 16) 0 0)) = nI d ∧ f_X2_planOrder sd pd = some pd' ∧ (pd' 2 0 5 = -1 ∨ PTok pd' r) ∧ pd' 2 0 4 = nI d ∧ pd' 2 0 3 = nI (ordL r d 10 none (awS r (-1)) (lst r d (awS r (-1)))).length ∧ ∀ t, t < (ordL r d 10 none (awS r (-1)) (lst r d (awS r (-1)))).length → pd' 25 0 t = nI ((ordL r d 10 none (awS r (-1)) (lst r d (awS r (-1)))).getD t 0) := by
  have l6 := hI.l6
  obtain ⟨d, hd, hq⟩ := freQ_cases r (useC sd (mkF r (-1) (nv r 16) 0 0)) h0
  obtain ⟨p4, hp4⟩ : ∃ p4, p4 = upS (upS pd 2 0 4 (nI d)) 2 0 3 0 := ⟨_, rfl⟩
  have e4 : p4 2 0 4 = nI d := by rw [hp4, upS_t (by decide), upS_hit]
  have e3 : p4 2 0 3 = 0 := by rw [hp4, upS_hit]
  have hP4 : p4 2 0 5 = -1 ∨ PTok p4 r := PTok.same hP (by rw [hp4, upS_t (by decide), upS_t (by decide)]) (fun t => by rw [hp4, upS_k (by decide), upS_k (by decide)]) (fun t => by rw [hp4, upS_k (by decide), upS_k (by decide)])
  unfold f_X2_planOrder
  rw [c_awayPlatters hI hR, xb, c_driveAfterReading hI hR hb h0, xb, hq]
  simp only [xl]
  rw [← hp4, e4, c_hasDrive hI hR, xb, hasV_in hd (by omega), if_neg i1]
  by_cases z : awS r (-1) = 0
  · have e : f_X2_leastTime sd p4 (nI d) (nI (awS r (-1))) = some (0, p4) := by
      unfold f_X2_leastTime
      rw [z, nI_0, if_pos rfl]
    rw [e, xb]
    refine ⟨d, p4, hd, rfl, ?_, hP4, e4, ?_, fun t ht => ?_⟩
    · rw [z, nI_0]
      show f_X2_planOrder_L49 sd (19999 + 1) 0 0 (-1) 0 p4 = _
      rw [f_X2_planOrder_L49, if_neg (by decide), if_pos rfl]
    · rw [z]
      exact e3
    · rw [z] at ht
      simp [ordL] at ht
  · have hS := awS_lt hI (-1)
    have hb7 := awS_lt7 hI (-1)
    have haw : ∀ q, (awS r (-1)).testBit q = true → r (21 + d) ≠ nI q := fun q hq => by
      obtain ⟨i, -, -, -, h5⟩ := (awS_bit r (-1) q).mp hq
      exact hold_ne hI h5 d hd
    obtain ⟨p5, g1, g2, g3, g4, g5⟩ := c_leastTime hI hR (pd := p4) hd z hS (fun p h => h) hP4
    rw [g1, xb]
    have hl : lst r d (awS r (-1)) < 2 ^ 31 := Nat.lt_of_le_of_lt (mnS_le _ _ _) (by decide)
    obtain ⟨p6, k1, k2, k3, -, k5⟩ := c_plan49 hI hR hd hS hb7 haw 10 0 fuel (awS r (-1)) (lst r d (awS r (-1))) none p5 (by omega) (by unfold fuel; omega) (Nat.le_refl _) (fun p h => h) hl (fun p h => by cases h) (by rw [g5 2 0 3 (by decide) (by decide) (by omega), e3]; rfl) (by rw [g5 2 0 4 (by decide) (by decide) (by omega)]; exact e4) g4 g3
    refine ⟨d, p6, hd, rfl, ?_, PTok.same g2 (k2 2 0 5 (by decide) (by omega)) (fun t => k2 23 0 t (by decide) (by omega)) (fun t => k2 24 0 t (by decide) (by omega)), ?_, ?_, fun t ht => ?_⟩
    · rw [nI_0] at k1
      exact k1
    · rw [k2 2 0 4 (by decide) (by omega), g5 2 0 4 (by decide) (by decide) (by omega)]
      exact e4
    · rw [k3, Nat.zero_add]
    · have := k5 t ht
      rw [Nat.zero_add] at this
      exact this
end PLO
