/-! Layer 2: the questions, one by one -/
section QRY
variable {b : Nat} {sd md : SD} {r : RW}
theorem q_homeSlot (hr : md 30 0 = r) (hI : Inv r) (hR : Rel b sd r) (a : Int32) : Ans md (f_X7_homeSlot sd a) (f_X8_homeSlot md a) := by
  obtain ⟨m1, e1, r1, s1⟩ := thr md
  have hr1 : m1 30 0 = r := r1.trans hr
  have hi1 : ∀ i, m1 30 0 i = r i := fun i => by rw [hr1]
  have l6 := hI.l6
  have l7 := hI.l7
  have l9 := hI.l9
  have l10 := hI.l10
  unfold f_X7_homeSlot f_X8_homeSlot
  rw [c_hasPlatter hI hR, xb, xl, e1, m_isPlatter hr1 hI, xb]
  rcases hasV_cases a (n := nv r 7) (by omega) with h | ⟨h, p, hp, rfl⟩
  · rw [h, if_pos rfl, if_pos rfl]; exact ⟨_, _, rfl, rfl, s1⟩
  · rw [h]
    simp (disch := omega) only [xl, xg, xb, vinT, nI_clamp, la, ra, lm, rmu, rsu, nI_add, pk_mul, nm1, m1n, nneg, npos, lle, rle, llt, rlt, leq, req, nI_leI, nI_ltI, nI_eq, if_pos, if_neg, if_true, if_false, i01, i10, hi1, (hR.pl p hp).1]
    exact ⟨_, _, rfl, rfl, s1⟩
theorem q_sessionCount (hr : md 30 0 = r) (hI : Inv r) (hR : Rel b sd r) (a : Int32) : Ans md (f_X7_sessionCount sd a) (f_X8_sessionCount md a) := by
  obtain ⟨m1, e1, r1, s1⟩ := thr md
  have hr1 : m1 30 0 = r := r1.trans hr
  have hi1 : ∀ i, m1 30 0 i = r i := fun i => by rw [hr1]
  have l6 := hI.l6
  have l7 := hI.l7
  have l9 := hI.l9
  have l10 := hI.l10
  unfold f_X7_sessionCount f_X8_sessionCount
  rw [c_hasPlatter hI hR, xb, xl, e1, m_isPlatter hr1 hI, xb]
  rcases hasV_cases a (n := nv r 7) (by omega) with h | ⟨h, p, hp, rfl⟩
  · rw [h, if_pos rfl, if_pos rfl]; exact ⟨_, _, rfl, rfl, s1⟩
  · rw [h]
    simp (disch := omega) only [xl, xg, xb, vinT, nI_clamp, la, ra, lm, rmu, rsu, nI_add, pk_mul, nm1, m1n, nneg, npos, lle, rle, llt, rlt, leq, req, nI_leI, nI_ltI, nI_eq, if_pos, if_neg, if_true, if_false, i01, i10, hi1, (hR.pl p hp).2.2.2.2.1]
    exact ⟨_, _, rfl, rfl, s1⟩
theorem q_sparesLeft (hr : md 30 0 = r) (hI : Inv r) (hR : Rel b sd r) (a : Int32) : Ans md (f_X7_sparesLeft sd a) (f_X8_sparesLeft md a) := by
  obtain ⟨m1, e1, r1, s1⟩ := thr md
  have hr1 : m1 30 0 = r := r1.trans hr
  have hi1 : ∀ i, m1 30 0 i = r i := fun i => by rw [hr1]
  have l6 := hI.l6
  have l7 := hI.l7
  have l9 := hI.l9
  have l10 := hI.l10
  unfold f_X7_sparesLeft f_X8_sparesLeft
  rw [c_hasPlatter hI hR, xb, xl, e1, m_isPlatter hr1 hI, xb]
  rcases hasV_cases a (n := nv r 7) (by omega) with h | ⟨h, p, hp, rfl⟩
  · rw [h, if_pos rfl, if_pos rfl]; exact ⟨_, _, rfl, rfl, s1⟩
  · rw [h]
    simp (disch := omega) only [xl, xg, xb, vinT, nI_clamp, la, ra, lm, rmu, rsu, nI_add, pk_mul, nm1, m1n, nneg, npos, lle, rle, llt, rlt, leq, req, nI_leI, nI_ltI, nI_eq, if_pos, if_neg, if_true, if_false, i01, i10, hi1, (hR.pl p hp).2.2.1]
    exact ⟨_, _, rfl, rfl, s1⟩
theorem q_freeSectors (hr : md 30 0 = r) (hI : Inv r) (hR : Rel b sd r) (a : Int32) : Ans md (f_X7_freeSectors sd a) (f_X8_freeSectors md a) := by
  obtain ⟨m1, e1, r1, s1⟩ := thr md
  have hr1 : m1 30 0 = r := r1.trans hr
  have hi1 : ∀ i, m1 30 0 i = r i := fun i => by rw [hr1]
  have l6 := hI.l6
  have l7 := hI.l7
  have l9 := hI.l9
  have l10 := hI.l10
  unfold f_X7_freeSectors f_X8_freeSectors
  rw [c_hasPlatter hI hR, xb, xl, e1, m_isPlatter hr1 hI, xb]
  rcases hasV_cases a (n := nv r 7) (by omega) with h | ⟨h, p, hp, rfl⟩
  · rw [h, if_pos rfl, if_pos rfl]; exact ⟨_, _, rfl, rfl, s1⟩
  · rw [h]
    unfold f_X3_unused f_X8_free
    simp (disch := omega) only [xl, xg, xb, vinT, nI_clamp, la, ra, lm, rmu, rsu, nI_add, pk_mul, nm1, m1n, nneg, npos, lle, rle, llt, rlt, leq, req, nI_leI, nI_ltI, nI_eq, if_pos, if_neg, if_true, if_false, i01, i10, hi1, (hR.pl p hp).2.1, (hR.pl p hp).2.2.2.1]
    exact ⟨_, _, rfl, rfl, s1⟩
theorem q_hasOpenSession (hr : md 30 0 = r) (hI : Inv r) (hR : Rel b sd r) (a : Int32) : Ans md (f_X7_hasOpenSession sd a) (f_X8_hasOpenSession md a) := by
  obtain ⟨m1, e1, r1, s1⟩ := thr md
  have hr1 : m1 30 0 = r := r1.trans hr
  have hi1 : ∀ i, m1 30 0 i = r i := fun i => by rw [hr1]
  have l6 := hI.l6
  have l7 := hI.l7
  have l9 := hI.l9
  have l10 := hI.l10
  unfold f_X7_hasOpenSession f_X8_hasOpenSession
  rw [c_hasPlatter hI hR, xb, xl, e1, m_isPlatter hr1 hI, xb]
  rcases hasV_cases a (n := nv r 7) (by omega) with h | ⟨h, p, hp, rfl⟩
  · rw [h, if_pos rfl, if_pos rfl]; exact ⟨_, _, rfl, rfl, s1⟩
  · rw [h]
    have w := (hI.plt p hp).2.2.2.2.2.1
    have wl := w.l
    simp (disch := omega) only [xl, xg, xb, vinT, nI_clamp, la, ra, lm, rmu, rsu, nI_add, pk_mul, nm1, m1n, nneg, npos, lle, rle, llt, rlt, leq, req, nI_leI, nI_ltI, nI_eq, if_pos, if_neg, if_true, if_false, i01, i10, hi1, (hR.pl p hp).2.2.2.2.2]
    by_cases z : r (79 + p) = 0
    · rw [if_pos z, z]; exact ⟨_, _, rfl, rfl, s1⟩
    · rw [if_neg z]
      have : r (79 + p) = 1 := by
        rcases nI_01 wl with g | g
        · exact absurd (w.e.trans g) z
        · exact w.e.trans g
      rw [this]; exact ⟨_, _, rfl, rfl, s1⟩
theorem q_pickerPosition (hr : md 30 0 = r) (hI : Inv r) (hR : Rel b sd r) : Ans md (f_X7_pickerPosition sd) (f_X8_pickerPosition md) := by
  obtain ⟨m1, e1, r1, s1⟩ := thr md
  have hr1 : m1 30 0 = r := r1.trans hr
  have hi1 : ∀ i, m1 30 0 i = r i := fun i => by rw [hr1]
  have l6 := hI.l6
  have l7 := hI.l7
  have l9 := hI.l9
  have l10 := hI.l10
  unfold f_X7_pickerPosition f_X8_pickerPosition
  rw [xl, e1, hR.s14, hi1]
  exact ⟨_, _, rfl, rfl, s1⟩
theorem q_clock (hr : md 30 0 = r) (hI : Inv r) (hR : Rel b sd r) : Ans md (f_X7_clock sd) (f_X8_clock md) := by
  obtain ⟨m1, e1, r1, s1⟩ := thr md
  have hr1 : m1 30 0 = r := r1.trans hr
  have hi1 : ∀ i, m1 30 0 i = r i := fun i => by rw [hr1]
  have l6 := hI.l6
  have l7 := hI.l7
  have l9 := hI.l9
  have l10 := hI.l10
  unfold f_X7_clock f_X8_clock
  rw [xl, e1, hR.s15, hi1]
  exact ⟨_, _, rfl, rfl, s1⟩
theorem q_exchanges (hr : md 30 0 = r) (hI : Inv r) (hR : Rel b sd r) : Ans md (f_X7_exchanges sd) (f_X8_exchanges md) := by
  obtain ⟨m1, e1, r1, s1⟩ := thr md
  have hr1 : m1 30 0 = r := r1.trans hr
  have hi1 : ∀ i, m1 30 0 i = r i := fun i => by rw [hr1]
  have l6 := hI.l6
  have l7 := hI.l7
  have l9 := hI.l9
  have l10 := hI.l10
  unfold f_X7_exchanges f_X8_exchanges
  rw [xl, e1, hR.s16, hi1]
  exact ⟨_, _, rfl, rfl, s1⟩
theorem q_travel (hr : md 30 0 = r) (hI : Inv r) (hR : Rel b sd r) : Ans md (f_X7_travel sd) (f_X8_travel md) := by
  obtain ⟨m1, e1, r1, s1⟩ := thr md
  have hr1 : m1 30 0 = r := r1.trans hr
  have hi1 : ∀ i, m1 30 0 i = r i := fun i => by rw [hr1]
  have l6 := hI.l6
  have l7 := hI.l7
  have l9 := hI.l9
  have l10 := hI.l10
  unfold f_X7_travel f_X8_travel
  rw [xl, e1, hR.s17, hi1]
  exact ⟨_, _, rfl, rfl, s1⟩
theorem c_found (x : Int32) : f_X7_foundOrNot x = some (if x = -1 then -1000005 else x) := by
  unfold f_X7_foundOrNot
  split <;> rfl
theorem m_found (x : Int32) : f_X8_found x = some (if x = -1 then -1000005 else x) := by
  unfold f_X8_found
  split <;> rfl
theorem q_driveOf (hr : md 30 0 = r) (hI : Inv r) (hR : Rel b sd r) (a : Int32) : Ans md (f_X7_driveOf sd a) (f_X8_driveOf md a) := by
  obtain ⟨m1, e1, r1, s1⟩ := thr md
  have hr1 : m1 30 0 = r := r1.trans hr
  have hi1 : ∀ i, m1 30 0 i = r i := fun i => by rw [hr1]
  have l6 := hI.l6
  have l7 := hI.l7
  have l9 := hI.l9
  have l10 := hI.l10
  unfold f_X7_driveOf f_X8_driveOf
  rw [c_hasPlatter hI hR, xb, xl, e1, m_isPlatter hr1 hI, xb, c_driveHolding hI hR, xb, c_found, xb, m_inDrive hr1 hI, xb, m_found, xb]
  by_cases h : hasV a (nv r 7) = 0
  · rw [if_pos h, if_pos h]; exact ⟨_, _, rfl, rfl, s1⟩
  · rw [if_neg h, if_neg h]; exact ⟨_, _, rfl, rfl, s1⟩
theorem q_platterInDrive (hr : md 30 0 = r) (hI : Inv r) (hR : Rel b sd r) (a : Int32) : Ans md (f_X7_platterInDrive sd a) (f_X8_platterInDrive md a) := by
  obtain ⟨m1, e1, r1, s1⟩ := thr md
  have hr1 : m1 30 0 = r := r1.trans hr
  have hi1 : ∀ i, m1 30 0 i = r i := fun i => by rw [hr1]
  have l6 := hI.l6
  have l7 := hI.l7
  have l9 := hI.l9
  have l10 := hI.l10
  unfold f_X7_platterInDrive f_X8_platterInDrive
  rw [c_hasDrive hI hR, xb, xl, e1, m_isDrive hr1 hI, xb]
  rcases hasV_cases a (n := nv r 6) (by omega) with h | ⟨h, d, hd, rfl⟩
  · rw [h, if_pos rfl, if_pos rfl]; exact ⟨_, _, rfl, rfl, s1⟩
  · rw [h]
    simp (disch := omega) only [xl, xg, xb, vinT, nI_clamp, la, ra, lm, rmu, rsu, nI_add, pk_mul, nm1, m1n, nneg, npos, lle, rle, llt, rlt, leq, req, nI_leI, nI_ltI, nI_eq, if_pos, if_neg, if_true, if_false, i01, i10, hi1, (hR.dr d hd).2, c_found, m_found]
    exact ⟨_, _, rfl, rfl, s1⟩
theorem q_platterInSlot (hr : md 30 0 = r) (hI : Inv r) (hR : Rel b sd r) (a : Int32) : Ans md (f_X7_platterInSlot sd a) (f_X8_platterInSlot md a) := by
  obtain ⟨m1, e1, r1, s1⟩ := thr md
  have hr1 : m1 30 0 = r := r1.trans hr
  have hi1 : ∀ i, m1 30 0 i = r i := fun i => by rw [hr1]
  have l6 := hI.l6
  have l7 := hI.l7
  have l9 := hI.l9
  have l10 := hI.l10
  have l0 := hI.l0
  unfold f_X7_platterInSlot f_X8_platterInSlot
  rw [c_hasSlot hI hR, xb, xl, e1, m_isSlot hr1 hI, xb]
  rcases hasV_cases a (n := nv r 0) (by omega) with h | ⟨h, sl, hsl, rfl⟩
  · rw [h, if_pos rfl, if_pos rfl]; exact ⟨_, _, rfl, rfl, s1⟩
  · rw [h, if_neg (by decide), if_neg (by decide), c_platterWithHome hI hR, xb]
    -- the reference's loop: the first platter that lies in the slot; homes differ
    have key : ∀ (k d n : Nat), d + k = nv r 7 → k < n → (∀ e, e < d → r (29 + e) = nI sl → holdQ r (nI e) ≠ -1) → f_X8_platterInSlot_L18 m1 (nI sl) n (nI d) = some (if fst (fun p => decide (r (29 + p) = nI sl)) k d = -1 then -1000005 else if holdQ r (fst (fun p => decide (r (29 + p) = nI sl)) k d) = -1 then fst (fun p => decide (r (29 + p) = nI sl)) k d else -1000005, m1) := by
      intro k
      induction k with
      | zero =>
        intro d n h1 h2 h3
        obtain ⟨n, rfl⟩ : ∃ m, n = m + 1 := ⟨n - 1, by omega⟩
        rw [f_X8_platterInSlot_L18, hi1, hI.c7]
        simp (disch := omega) only [nI_leI, if_pos, fst]
        rfl
      | succ k ih =>
        intro d n h1 h2 h3
        obtain ⟨n, rfl⟩ : ∃ m, n = m + 1 := ⟨n - 1, by omega⟩
        rw [f_X8_platterInSlot_L18, hi1, hI.c7, fst]
        simp (disch := omega) only [xl, xg, xb, vinT, nI_clamp, la, ra, nI_leI, if_neg, hi1, m_inDrive hr1 hI, decide_eq_true_eq]
        by_cases z : r (29 + d) = nI sl
        · have nd : ¬ (nI d = -1) := by rw [nm1 (by omega)]; exact id
          simp only [z, if_true, if_neg nd]
          by_cases y : holdQ r (nI d) = -1
          · simp only [y, if_true]
          · simp only [y, if_false]
            -- no other platter has this home
            have none' : ∀ (k d' n : Nat), d < d' → d' + k = nv r 7 → k < n → f_X8_platterInSlot_L18 m1 (nI sl) n (nI d') = some (-1000005, m1) := by
              intro k
              induction k with
              | zero =>
                intro d' n h4 h5 h6
                obtain ⟨n, rfl⟩ : ∃ m, n = m + 1 := ⟨n - 1, by omega⟩
                rw [f_X8_platterInSlot_L18, hi1, hI.c7]
                simp (disch := omega) only [nI_leI, if_pos]
              | succ k ih2 =>
                intro d' n h4 h5 h6
                obtain ⟨n, rfl⟩ : ∃ m, n = m + 1 := ⟨n - 1, by omega⟩
                rw [f_X8_platterInSlot_L18, hi1, hI.c7]
                have hne : ¬ r (29 + d') = nI sl := fun w => by
                  have := hI.hom d d' (by omega) (by omega) (z.trans w.symm)
                  omega
                simp (disch := omega) only [xl, xg, xb, vinT, nI_clamp, la, ra, nI_leI, if_neg, hi1, if_neg hne]
                exact ih2 (d' + 1) n (by omega) (by omega) (by omega)
            exact none' k (d + 1) n (by omega) (by omega) (by omega)
        · simp only [z, if_false]
          refine ih (d + 1) n (by omega) (by omega) (fun e he hz => ?_)
          by_cases w : e = d
          · subst w; exact absurd hz z
          · exact h3 e (by omega) hz
    have k0 := key (nv r 7) 0 fuel (by omega) (by unfold fuel; omega) (fun e he => by omega)
    rw [nI_0] at k0
    rw [k0, c_driveHolding hI hR, xb]
    by_cases y : homeQ r (nI sl) = -1
    · rw [if_pos y, if_pos y]; exact ⟨_, _, rfl, rfl, s1⟩
    · rw [if_neg y, if_neg y]
      by_cases w : holdQ r (homeQ r (nI sl)) = -1
      · rw [if_pos w, if_pos w]; exact ⟨_, _, rfl, rfl, s1⟩
      · rw [if_neg w, if_neg w]; exact ⟨_, _, rfl, rfl, s1⟩
theorem q_sessionStart (hr : md 30 0 = r) (hI : Inv r) (hR : Rel b sd r) (a : Int32) (c : Int32) : Ans md (f_X7_sessionStart sd a c) (f_X8_sessionStart md a c) := by
  obtain ⟨m1, e1, r1, s1⟩ := thr md
  have hr1 : m1 30 0 = r := r1.trans hr
  have hi1 : ∀ i, m1 30 0 i = r i := fun i => by rw [hr1]
  have l6 := hI.l6
  have l7 := hI.l7
  have l9 := hI.l9
  have l10 := hI.l10
  unfold f_X7_sessionStart f_X8_sessionStart
  rcases hasV_cases a (n := nv r 7) (by omega) with h | ⟨h, p, hp, rfl⟩
  · have e2 : f_X4_hasSession sd a c = some 0 := by
      unfold f_X4_hasSession
      rw [c_hasPlatter hI hR, xb, h, if_pos rfl]
    have e3 : f_X8_isSession m1 a c = some 0 := by
      unfold f_X8_isSession
      rw [m_isPlatter hr1 hI, xb, h, if_pos rfl]
    rw [e2, xb, xl, e1, e3, xb, if_pos rfl, if_pos rfl]; exact ⟨_, _, rfl, rfl, s1⟩
  · have w := (hI.plt p hp).2.2.2.2.1.l
    rw [c_hasSession hI hR hp, xb, xl, e1, m_isSession hr1 hI hp, xb]
    rcases hasV_cases c (n := nv r (69 + p)) (by omega) with g | ⟨g, q, hq, rfl⟩
    · rw [g, if_pos rfl, if_pos rfl]; exact ⟨_, _, rfl, rfl, s1⟩
    · rw [g]
      simp (disch := omega) only [xl, xg, xb, vinT, nI_clamp, la, ra, lm, rmu, rsu, nI_add, pk_mul, nm1, m1n, nneg, npos, lle, rle, llt, rlt, leq, req, nI_leI, nI_ltI, nI_eq, if_pos, if_neg, if_true, if_false, i01, i10, hi1, (hR.se p q hp hq).1]
      exact ⟨_, _, rfl, rfl, s1⟩
theorem q_sessionSize (hr : md 30 0 = r) (hI : Inv r) (hR : Rel b sd r) (a : Int32) (c : Int32) : Ans md (f_X7_sessionSize sd a c) (f_X8_sessionSize md a c) := by
  obtain ⟨m1, e1, r1, s1⟩ := thr md
  have hr1 : m1 30 0 = r := r1.trans hr
  have hi1 : ∀ i, m1 30 0 i = r i := fun i => by rw [hr1]
  have l6 := hI.l6
  have l7 := hI.l7
  have l9 := hI.l9
  have l10 := hI.l10
  unfold f_X7_sessionSize f_X8_sessionSize
  rcases hasV_cases a (n := nv r 7) (by omega) with h | ⟨h, p, hp, rfl⟩
  · have e2 : f_X4_hasSession sd a c = some 0 := by
      unfold f_X4_hasSession
      rw [c_hasPlatter hI hR, xb, h, if_pos rfl]
    have e3 : f_X8_isSession m1 a c = some 0 := by
      unfold f_X8_isSession
      rw [m_isPlatter hr1 hI, xb, h, if_pos rfl]
    rw [e2, xb, xl, e1, e3, xb, if_pos rfl, if_pos rfl]; exact ⟨_, _, rfl, rfl, s1⟩
  · have w := (hI.plt p hp).2.2.2.2.1.l
    rw [c_hasSession hI hR hp, xb, xl, e1, m_isSession hr1 hI hp, xb]
    rcases hasV_cases c (n := nv r (69 + p)) (by omega) with g | ⟨g, q, hq, rfl⟩
    · rw [g, if_pos rfl, if_pos rfl]; exact ⟨_, _, rfl, rfl, s1⟩
    · rw [g]
      simp (disch := omega) only [xl, xg, xb, vinT, nI_clamp, la, ra, lm, rmu, rsu, nI_add, pk_mul, nm1, m1n, nneg, npos, lle, rle, llt, rlt, leq, req, nI_leI, nI_ltI, nI_eq, if_pos, if_neg, if_true, if_false, i01, i10, hi1, (hR.se p q hp hq).2]
      exact ⟨_, _, rfl, rfl, s1⟩
theorem q_filePlatter (hr : md 30 0 = r) (hI : Inv r) (hR : Rel b sd r) (a : Int32) : Ans md (f_X7_filePlatter sd a) (f_X8_filePlatter md a) := by
  obtain ⟨m1, e1, r1, s1⟩ := thr md
  have hr1 : m1 30 0 = r := r1.trans hr
  have hi1 : ∀ i, m1 30 0 i = r i := fun i => by rw [hr1]
  have l6 := hI.l6
  have l7 := hI.l7
  have l9 := hI.l9
  have l10 := hI.l10
  unfold f_X7_filePlatter f_X8_filePlatter f_X8_ofVersion
  rw [c_hasFile hI hR, xb, xl, e1, m_isFile hr1 hI, xb]
  rcases hasV_cases a (n := nv r 9) (by omega) with h | ⟨h, f, hf, rfl⟩
  · rw [h, if_pos rfl, if_pos rfl, xb]; exact ⟨_, _, rfl, rfl, s1⟩
  · obtain ⟨x1, x2⟩ := hI.cur f hf
    rw [h, c_currentVersion hI hR hf, xb, m_version hr1 hI hf, xb]
    simp (disch := omega) only [xl, xg, xb, vinT, nI_clamp, la, ra, lm, rmu, rsu, nI_add, pk_mul, nm1, m1n, nneg, npos, lle, rle, llt, rlt, leq, req, nI_leI, nI_ltI, nI_eq, if_pos, if_neg, if_true, if_false, i01, i10, hi1, (hR.ve _ x2).2.1]
    exact ⟨_, _, rfl, rfl, s1⟩
theorem q_fileStart (hr : md 30 0 = r) (hI : Inv r) (hR : Rel b sd r) (a : Int32) : Ans md (f_X7_fileStart sd a) (f_X8_fileStart md a) := by
  obtain ⟨m1, e1, r1, s1⟩ := thr md
  have hr1 : m1 30 0 = r := r1.trans hr
  have hi1 : ∀ i, m1 30 0 i = r i := fun i => by rw [hr1]
  have l6 := hI.l6
  have l7 := hI.l7
  have l9 := hI.l9
  have l10 := hI.l10
  unfold f_X7_fileStart f_X8_fileStart f_X8_ofVersion
  rw [c_hasFile hI hR, xb, xl, e1, m_isFile hr1 hI, xb]
  rcases hasV_cases a (n := nv r 9) (by omega) with h | ⟨h, f, hf, rfl⟩
  · rw [h, if_pos rfl, if_pos rfl, xb]; exact ⟨_, _, rfl, rfl, s1⟩
  · obtain ⟨x1, x2⟩ := hI.cur f hf
    rw [h, c_currentVersion hI hR hf, xb, m_version hr1 hI hf, xb]
    simp (disch := omega) only [xl, xg, xb, vinT, nI_clamp, la, ra, lm, rmu, rsu, nI_add, pk_mul, nm1, m1n, nneg, npos, lle, rle, llt, rlt, leq, req, nI_leI, nI_ltI, nI_eq, if_pos, if_neg, if_true, if_false, i01, i10, hi1, (hR.ve _ x2).2.2.1]
    exact ⟨_, _, rfl, rfl, s1⟩
theorem q_fileSize (hr : md 30 0 = r) (hI : Inv r) (hR : Rel b sd r) (a : Int32) : Ans md (f_X7_fileSize sd a) (f_X8_fileSize md a) := by
  obtain ⟨m1, e1, r1, s1⟩ := thr md
  have hr1 : m1 30 0 = r := r1.trans hr
  have hi1 : ∀ i, m1 30 0 i = r i := fun i => by rw [hr1]
  have l6 := hI.l6
  have l7 := hI.l7
  have l9 := hI.l9
  have l10 := hI.l10
  unfold f_X7_fileSize f_X8_fileSize f_X8_ofVersion
  rw [c_hasFile hI hR, xb, xl, e1, m_isFile hr1 hI, xb]
  rcases hasV_cases a (n := nv r 9) (by omega) with h | ⟨h, f, hf, rfl⟩
  · rw [h, if_pos rfl, if_pos rfl, xb]; exact ⟨_, _, rfl, rfl, s1⟩
  · obtain ⟨x1, x2⟩ := hI.cur f hf
    rw [h, c_currentVersion hI hR hf, xb, m_version hr1 hI hf, xb]
    simp (disch := omega) only [xl, xg, xb, vinT, nI_clamp, la, ra, lm, rmu, rsu, nI_add, pk_mul, nm1, m1n, nneg, npos, lle, rle, llt, rlt, leq, req, nI_leI, nI_ltI, nI_eq, if_pos, if_neg, if_true, if_false, i01, i10, hi1, (hR.ve _ x2).2.2.2.1]
    exact ⟨_, _, rfl, rfl, s1⟩
theorem q_fileSession (hr : md 30 0 = r) (hI : Inv r) (hR : Rel b sd r) (a : Int32) : Ans md (f_X7_fileSession sd a) (f_X8_fileSession md a) := by
  obtain ⟨m1, e1, r1, s1⟩ := thr md
  have hr1 : m1 30 0 = r := r1.trans hr
  have hi1 : ∀ i, m1 30 0 i = r i := fun i => by rw [hr1]
  have l6 := hI.l6
  have l7 := hI.l7
  have l9 := hI.l9
  have l10 := hI.l10
  unfold f_X7_fileSession f_X8_fileSession f_X8_ofVersion
  rw [c_hasFile hI hR, xb, xl, e1, m_isFile hr1 hI, xb]
  rcases hasV_cases a (n := nv r 9) (by omega) with h | ⟨h, f, hf, rfl⟩
  · rw [h, if_pos rfl, if_pos rfl, xb]; exact ⟨_, _, rfl, rfl, s1⟩
  · obtain ⟨x1, x2⟩ := hI.cur f hf
    rw [h, c_currentVersion hI hR hf, xb, m_version hr1 hI hf, xb]
    simp (disch := omega) only [xl, xg, xb, vinT, nI_clamp, la, ra, lm, rmu, rsu, nI_add, pk_mul, nm1, m1n, nneg, npos, lle, rle, llt, rlt, leq, req, nI_leI, nI_ltI, nI_eq, if_pos, if_neg, if_true, if_false, i01, i10, hi1, (hR.ve _ x2).2.2.2.2.1]
    exact ⟨_, _, rfl, rfl, s1⟩
theorem q_remappedSectors (hr : md 30 0 = r) (hI : Inv r) (hR : Rel b sd r) (a : Int32) : Ans md (f_X7_remappedSectors sd a) (f_X8_remappedSectors md a) := by
  obtain ⟨m1, e1, r1, s1⟩ := thr md
  have hr1 : m1 30 0 = r := r1.trans hr
  have hi1 : ∀ i, m1 30 0 i = r i := fun i => by rw [hr1]
  have l6 := hI.l6
  have l7 := hI.l7
  have l9 := hI.l9
  have l10 := hI.l10
  unfold f_X7_remappedSectors f_X8_remappedSectors f_X8_ofVersion
  rw [c_hasFile hI hR, xb, xl, e1, m_isFile hr1 hI, xb]
  rcases hasV_cases a (n := nv r 9) (by omega) with h | ⟨h, f, hf, rfl⟩
  · rw [h, if_pos rfl, if_pos rfl, xb]; exact ⟨_, _, rfl, rfl, s1⟩
  · obtain ⟨x1, x2⟩ := hI.cur f hf
    rw [h, c_currentVersion hI hR hf, xb, m_version hr1 hI hf, xb]
    simp (disch := omega) only [xl, xg, xb, vinT, nI_clamp, la, ra, lm, rmu, rsu, nI_add, pk_mul, nm1, m1n, nneg, npos, lle, rle, llt, rlt, leq, req, nI_leI, nI_ltI, nI_eq, if_pos, if_neg, if_true, if_false, i01, i10, hi1, (hR.ve _ x2).2.2.2.2.2.1]
    exact ⟨_, _, rfl, rfl, s1⟩
theorem q_requestedFile (hr : md 30 0 = r) (hI : Inv r) (hR : Rel b sd r) (a : Int32) : Ans md (f_X7_requestedFile sd a) (f_X8_requestedFile md a) := by
  obtain ⟨m1, e1, r1, s1⟩ := thr md
  have hr1 : m1 30 0 = r := r1.trans hr
  have hi1 : ∀ i, m1 30 0 i = r i := fun i => by rw [hr1]
  have l6 := hI.l6
  have l7 := hI.l7
  have l9 := hI.l9
  have l10 := hI.l10
  have l16 := hI.l16
  unfold f_X7_requestedFile f_X8_requestedFile
  rw [c_hasRequest hI hR, xb, xl, e1, m_isRequest hr1 hI, xb]
  rcases hasV_cases a (n := nv r 16) (by omega) with h | ⟨h, q, hq, rfl⟩
  · rw [h, if_pos rfl, if_pos rfl]; exact ⟨_, _, rfl, rfl, s1⟩
  · rw [h]
    simp (disch := omega) only [xl, xg, xb, vinT, nI_clamp, la, ra, lm, rmu, rsu, nI_add, pk_mul, nm1, m1n, nneg, npos, lle, rle, llt, rlt, leq, req, nI_leI, nI_ltI, nI_eq, if_pos, if_neg, if_true, if_false, i01, i10, hi1, hR.rq q hq]
    exact ⟨_, _, rfl, rfl, s1⟩
end QRY
