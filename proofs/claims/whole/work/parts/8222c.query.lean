/-! Layer 2: tests and searches of both sides -/
section Q1
variable {F : Nat} {b : Nat} {sd md : SD} {r : RW} {k0 : Nat}
theorem hasE (a : Int32) (n : Nat) : (if a < 0 then some (0 : Int32) else if nI n ≤ a then some (0 : Int32) else some (1 : Int32)) = some (hasV a n) := by
  unfold hasV
  split
  · rfl
  · split <;> rfl
theorem c_hasSlot (hI : InvF F r) (hR : RelF F b sd r) (a : Int32) : f_X4_hasSlot sd a = some (hasV a (nv r 0)) := by
  unfold f_X4_hasSlot
  rw [hR.s0, hI.c0]
  exact hasE _ _
theorem c_hasDrive (hI : InvF F r) (hR : RelF F b sd r) (a : Int32) : f_X4_hasDrive sd a = some (hasV a (nv r 6)) := by
  unfold f_X4_hasDrive
  rw [hR.s3, hI.c6]
  exact hasE _ _
theorem c_hasPlatter (hI : InvF F r) (hR : RelF F b sd r) (a : Int32) : f_X4_hasPlatter sd a = some (hasV a (nv r 7)) := by
  unfold f_X4_hasPlatter
  rw [hR.s6, hI.c7]
  exact hasE _ _
theorem c_hasFile (hI : InvF F r) (hR : RelF F b sd r) (a : Int32) : f_X4_hasFile sd a = some (hasV a (nv r 9)) := by
  unfold f_X4_hasFile
  rw [hR.s11, hI.c9]
  exact hasE _ _
theorem c_hasRequest (hI : InvF F r) (hR : RelF F b sd r) (a : Int32) : f_X4_hasRequest sd a = some (hasV a (nv r 16)) := by
  unfold f_X4_hasRequest
  rw [hR.s13, hI.c16]
  exact hasE _ _
theorem m_isPlatter (hr : md 30 0 = r) (hI : InvF F r) (a : Int32) : f_X8_isPlatter md a = some (hasV a (nv r 7)) := by
  have := hI.l7
  unfold f_X8_isPlatter
  rw [hr, hI.c7, isIn0 a (by omega), xb]
  simp only [hasV_01, xg]
theorem m_isDrive (hr : md 30 0 = r) (hI : InvF F r) (a : Int32) : f_X8_isDrive md a = some (hasV a (nv r 6)) := by
  have := hI.l6
  unfold f_X8_isDrive
  rw [hr, hI.c6, isIn0 a (by omega), xb]
  simp only [hasV_01, xg]
theorem m_isSlot (hr : md 30 0 = r) (hI : InvF F r) (a : Int32) : f_X8_isSlot md a = some (hasV a (nv r 0)) := by
  have := hI.l0
  unfold f_X8_isSlot
  rw [hr, hI.c0, isIn0 a (by omega), xb]
  simp only [hasV_01, xg]
theorem m_isFile (hr : md 30 0 = r) (hI : InvF F r) (a : Int32) : f_X8_isFile md a = some (hasV a (nv r 9)) := by
  have := hI.l9
  unfold f_X8_isFile
  rw [hr, hI.c9, isIn0 a (by omega), xb]
  simp only [hasV_01, xg]
theorem m_isRequest (hr : md 30 0 = r) (hI : InvF F r) (a : Int32) : f_X8_isRequest md a = some (hasV a (nv r 16)) := by
  have := hI.l16
  unfold f_X8_isRequest
  rw [hr, hI.c16, isIn0 a (by omega), xb]
  simp only [hasV_01, xg]
theorem hasV_2 (x : Int32) (n : Nat) : (if hasV x n = 0 then some (0 : Int32) else some (1 : Int32)) = some (hasV x n) := by
  unfold hasV
  split
  · rfl
  · split <;> rfl
theorem c_hasSession (hI : InvF F r) (hR : RelF F b sd r) {p : Nat} (hp : p < nv r 7) (a : Int32) : f_X4_hasSession sd (nI p) a = some (hasV a (nv r (69 + p))) := by
  have l7 := hI.l7
  unfold f_X4_hasSession
  rw [c_hasPlatter hI hR, xb, hasV_in hp (by omega)]
  simp (disch := omega) only [xl, xg, xb, vinT, nI_clamp, la, ra, lm, rmu, rsu, nI_add, pk_mul, nm1, m1n, nneg, npos, lle, rle, llt, rlt, leq, req, nI_leI, nI_ltI, nI_eq, if_pos, if_neg, if_true, if_false, i01, i10, (hR.pl p hp).2.2.2.2.1, (hI.plt p hp).2.2.2.2.1.e]
  exact hasE _ _
theorem c_hasSector (hI : InvF F r) (hR : RelF F b sd r) {p : Nat} (hp : p < nv r 7) (a : Int32) : f_X4_hasSector sd (nI p) a = some (hasV a (nv r (39 + p))) := by
  have l7 := hI.l7
  unfold f_X4_hasSector
  rw [c_hasPlatter hI hR, xb, hasV_in hp (by omega)]
  simp (disch := omega) only [xl, xg, xb, vinT, nI_clamp, la, ra, lm, rmu, rsu, nI_add, pk_mul, nm1, m1n, nneg, npos, lle, rle, llt, rlt, leq, req, nI_leI, nI_ltI, nI_eq, if_pos, if_neg, if_true, if_false, i01, i10, (hR.pl p hp).2.1, (hI.plt p hp).2.1.1.e]
  exact hasE _ _
theorem m_isSession (hr : md 30 0 = r) (hI : InvF F r) {p : Nat} (hp : p < nv r 7) (a : Int32) : f_X8_isSession md (nI p) a = some (hasV a (nv r (69 + p))) := by
  have l7 := hI.l7
  have l := (hI.plt p hp).2.2.2.2.1.l
  unfold f_X8_isSession
  rw [m_isPlatter hr hI, xb, hasV_in hp (by omega), hr]
  simp (disch := omega) only [xl, xg, xb, vinT, nI_clamp, la, ra, lm, rmu, rsu, nI_add, pk_mul, nm1, m1n, nneg, npos, lle, rle, llt, rlt, leq, req, nI_leI, nI_ltI, nI_eq, if_pos, if_neg, if_true, if_false, i01, i10, (hI.plt p hp).2.2.2.2.1.e, isIn0]
  exact hasV_2 _ _
theorem m_isSector (hr : md 30 0 = r) (hI : InvF F r) {p : Nat} (hp : p < nv r 7) (a : Int32) : f_X8_isSector md (nI p) a = some (hasV a (nv r (39 + p))) := by
  have l7 := hI.l7
  have l := (hI.plt p hp).2.1.1.l
  unfold f_X8_isSector
  rw [m_isPlatter hr hI, xb, hasV_in hp (by omega), hr]
  simp (disch := omega) only [xl, xg, xb, vinT, nI_clamp, la, ra, lm, rmu, rsu, nI_add, pk_mul, nm1, m1n, nneg, npos, lle, rle, llt, rlt, leq, req, nI_leI, nI_ltI, nI_eq, if_pos, if_neg, if_true, if_false, i01, i10, (hI.plt p hp).2.1.1.e, isIn0]
  exact hasV_2 _ _
/-- where a platter is -/
abbrev holdQ (r : RW) (a : Int32) : Int32 := fst (fun d => decide (r (21 + d) = a)) (nv r 6) 0
theorem c_driveHolding (hI : InvF F r) (hR : RelF F b sd r) (a : Int32) : f_X4_driveHolding sd a = some (holdQ r a) := by
  have l6 := hI.l6
  unfold f_X4_driveHolding
  refine srch0 (L := fun n v => f_X4_driveHolding_L2 sd a n v) (by omega) (fun n => ?_) (fun n d hd => ?_)
  · show f_X4_driveHolding_L2 sd a (n + 1) (nI (nv r 6)) = _
    rw [f_X4_driveHolding_L2, hR.s3, hI.c6]
    exact if_pos (nI_le (Nat.le_refl _) (by omega))
  · show f_X4_driveHolding_L2 sd a (n + 1) (nI d) = _
    rw [f_X4_driveHolding_L2, hR.s3, hI.c6]
    simp (disch := omega) only [xl, xg, xb, vinT, nI_clamp, la, ra, lm, rmu, rsu, nI_add, pk_mul, nm1, m1n, nneg, npos, lle, rle, llt, rlt, leq, req, nI_leI, nI_ltI, nI_eq, if_pos, if_neg, if_true, if_false, i01, i10, (hR.dr d hd).2, decide_eq_true_eq]
theorem m_inDrive (hr : md 30 0 = r) (hI : InvF F r) (a : Int32) : f_X8_inDrive md a = some (holdQ r a) := by
  have l6 := hI.l6
  unfold f_X8_inDrive
  refine srch0 (L := fun n v => f_X8_inDrive_L2 md a n v) (by omega) (fun n => ?_) (fun n d hd => ?_)
  · show f_X8_inDrive_L2 md a (n + 1) (nI (nv r 6)) = _
    rw [f_X8_inDrive_L2, hr, hI.c6]
    exact if_pos (nI_le (Nat.le_refl _) (by omega))
  · show f_X8_inDrive_L2 md a (n + 1) (nI d) = _
    rw [f_X8_inDrive_L2, hr, hI.c6]
    simp (disch := omega) only [xl, xg, xb, vinT, nI_clamp, la, ra, lm, rmu, rsu, nI_add, pk_mul, nm1, m1n, nneg, npos, lle, rle, llt, rlt, leq, req, nI_leI, nI_ltI, nI_eq, if_pos, if_neg, if_true, if_false, i01, i10, decide_eq_true_eq]
abbrev homeQ (r : RW) (a : Int32) : Int32 := fst (fun p => decide (r (29 + p) = a)) (nv r 7) 0
theorem c_platterWithHome (hI : InvF F r) (hR : RelF F b sd r) (a : Int32) : f_X4_platterWithHome sd a = some (homeQ r a) := by
  have l7 := hI.l7
  unfold f_X4_platterWithHome
  refine srch0 (L := fun n v => f_X4_platterWithHome_L2 sd a n v) (by omega) (fun n => ?_) (fun n d hd => ?_)
  · show f_X4_platterWithHome_L2 sd a (n + 1) (nI (nv r 7)) = _
    rw [f_X4_platterWithHome_L2, hR.s6, hI.c7]
    exact if_pos (nI_le (Nat.le_refl _) (by omega))
  · show f_X4_platterWithHome_L2 sd a (n + 1) (nI d) = _
    rw [f_X4_platterWithHome_L2, hR.s6, hI.c7]
    simp (disch := omega) only [xl, xg, xb, vinT, nI_clamp, la, ra, lm, rmu, rsu, nI_add, pk_mul, nm1, m1n, nneg, npos, lle, rle, llt, rlt, leq, req, nI_leI, nI_ltI, nI_eq, if_pos, if_neg, if_true, if_false, i01, i10, (hR.pl d hd).1, decide_eq_true_eq]
theorem m_homeAt (hr : md k0 0 = r) (hI : InvF F r) (a : Int32) : f_X8_homeAt md k0 a = some (homeQ r a) := by
  have l7 := hI.l7
  unfold f_X8_homeAt
  refine srch0 (L := fun n v => f_X8_homeAt_L2 md k0 a n v) (by omega) (fun n => ?_) (fun n d hd => ?_)
  · show f_X8_homeAt_L2 md k0 a (n + 1) (nI (nv r 7)) = _
    rw [f_X8_homeAt_L2, hr, hI.c7]
    exact if_pos (nI_le (Nat.le_refl _) (by omega))
  · show f_X8_homeAt_L2 md k0 a (n + 1) (nI d) = _
    rw [f_X8_homeAt_L2, hr, hI.c7]
    simp (disch := omega) only [xl, xg, xb, vinT, nI_clamp, la, ra, lm, rmu, rsu, nI_add, pk_mul, nm1, m1n, nneg, npos, lle, rle, llt, rlt, leq, req, nI_leI, nI_ltI, nI_eq, if_pos, if_neg, if_true, if_false, i01, i10, decide_eq_true_eq]
abbrev verQ (r : RW) (p s : Nat) : Int32 := fst (fun v => decide (r (349 + v) = nI p ∧ nv r (389 + v) ≤ s ∧ s < nv r (389 + v) + nv r (429 + v))) (nv r 10) 0
theorem c_versionAt (hI : InvF F r) (hR : RelF F b sd r) {p s : Nat} (hs : s < 300) : f_X4_versionAt sd (nI p) (nI s) = some (verQ r p s) := by
  have l10 := hI.l10
  unfold f_X4_versionAt
  refine srch0 (L := fun n v => f_X4_versionAt_L2 sd (nI p) (nI s) n v) (by omega) (fun n => ?_) (fun n d hd => ?_)
  · show f_X4_versionAt_L2 sd (nI p) (nI s) (n + 1) (nI (nv r 10)) = _
    rw [f_X4_versionAt_L2, hR.s9, hI.c10]
    exact if_pos (nI_le (Nat.le_refl _) (by omega))
  · show f_X4_versionAt_L2 sd (nI p) (nI s) (n + 1) (nI d) = _
    have v := hI.ver d hd
    have l2 := v.2.2.1.l
    have l3 := v.2.2.2.1.l
    rw [f_X4_versionAt_L2, hR.s9, hI.c10]
    unfold f_X6_holds
    simp (disch := omega) only [xl, xg, xb, vinT, nI_clamp, la, ra, lm, rmu, rsu, nI_add, pk_mul, nm1, m1n, nneg, npos, lle, rle, llt, rlt, leq, req, nI_leI, nI_ltI, nI_eq, if_pos, if_neg, if_true, if_false, i01, i10, (hR.ve d hd).2.1, (hR.ve d hd).2.2.1, (hR.ve d hd).2.2.2.1, v.2.2.1.e, v.2.2.2.1.e, decide_eq_true_eq]
    by_cases h1 : r (349 + d) = nI p
    · by_cases h2 : nv r (389 + d) ≤ s
      · by_cases h3 : s < nv r (389 + d) + nv r (429 + d)
        · simp [h1, h2, h3, Nat.not_lt.mpr h2, Nat.not_le.mpr h3, xb]
        · simp [h1, h2, h3, Nat.not_lt.mpr h2, Nat.not_lt.mp h3, xb]
      · simp [h1, h2, Nat.not_le.mp h2, xb]
    · simp [h1, xb]
theorem m_versionAt (hr : md k0 0 = r) (hI : InvF F r) {p s : Nat} (hs : s < 300) : f_X8_versionAt md k0 (nI p) (nI s) = some (verQ r p s) := by
  have l10 := hI.l10
  unfold f_X8_versionAt
  refine srch0 (L := fun n v => f_X8_versionAt_L2 md k0 (nI p) (nI s) n v) (by omega) (fun n => ?_) (fun n d hd => ?_)
  · show f_X8_versionAt_L2 md k0 (nI p) (nI s) (n + 1) (nI (nv r 10)) = _
    rw [f_X8_versionAt_L2, hr, hI.c10]
    exact if_pos (nI_le (Nat.le_refl _) (by omega))
  · show f_X8_versionAt_L2 md k0 (nI p) (nI s) (n + 1) (nI d) = _
    have v := hI.ver d hd
    have l2 := v.2.2.1.l
    have l3 := v.2.2.2.1.l
    rw [f_X8_versionAt_L2, hr, hI.c10]
    simp (disch := omega) only [xl, xg, xb, vinT, nI_clamp, la, ra, if_neg, nI_leI, v.2.2.1.e, v.2.2.2.1.e, isInR, decide_eq_true_eq]
    by_cases h1 : r (349 + d) = nI p
    · by_cases h2 : nv r (389 + d) ≤ s ∧ s < nv r (389 + d) + nv r (429 + d)
      · simp [h1, h2]
      · simp [h1, h2]
    · simp [h1]
theorem verQ_cases (r : RW) (p s : Nat) : (verQ r p s = -1 ∧ ∀ v, v < nv r 10 → ¬ (r (349 + v) = nI p ∧ nv r (389 + v) ≤ s ∧ s < nv r (389 + v) + nv r (429 + v))) ∨ ∃ v, v < nv r 10 ∧ verQ r p s = nI v ∧ r (349 + v) = nI p ∧ nv r (389 + v) ≤ s ∧ s < nv r (389 + v) + nv r (429 + v) := by
  rcases fst_cases0 (P := fun v => decide (r (349 + v) = nI p ∧ nv r (389 + v) ≤ s ∧ s < nv r (389 + v) + nv r (429 + v))) (n := nv r 10) with ⟨h1, h2⟩ | ⟨e, h1, h2, h3, h4⟩
  · exact Or.inl ⟨h1, fun v hv => of_decide_eq_false (h2 v hv)⟩
  · exact Or.inr ⟨e, h1, h2, of_decide_eq_true h3⟩
theorem holdQ_cases (r : RW) (a : Int32) : (holdQ r a = -1 ∧ ∀ d, d < nv r 6 → r (21 + d) ≠ a) ∨ ∃ d, d < nv r 6 ∧ holdQ r a = nI d ∧ r (21 + d) = a := by
  rcases fst_cases0 (P := fun d => decide (r (21 + d) = a)) (n := nv r 6) with ⟨h1, h2⟩ | ⟨e, h1, h2, h3, h4⟩
  · exact Or.inl ⟨h1, fun v hv => of_decide_eq_false (h2 v hv)⟩
  · exact Or.inr ⟨e, h1, h2, of_decide_eq_true h3⟩
theorem homeQ_cases (r : RW) (a : Int32) : (homeQ r a = -1 ∧ ∀ d, d < nv r 7 → r (29 + d) ≠ a) ∨ ∃ d, d < nv r 7 ∧ homeQ r a = nI d ∧ r (29 + d) = a := by
  rcases fst_cases0 (P := fun d => decide (r (29 + d) = a)) (n := nv r 7) with ⟨h1, h2⟩ | ⟨e, h1, h2, h3, h4⟩
  · exact Or.inl ⟨h1, fun v hv => of_decide_eq_false (h2 v hv)⟩
  · exact Or.inr ⟨e, h1, h2, of_decide_eq_true h3⟩
end Q1
