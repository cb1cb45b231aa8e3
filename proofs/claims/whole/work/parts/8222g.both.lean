/-! Layer 2: both sides bring a platter, empty a drive, read a file -/
section BOTH
variable {F : Nat} {b b' : Nat} {sd sd' md : SD} {r r' : RW}
theorem us_same (h : R_us b sd r) (hb : b ≤ b') (hD : nv r' 6 = nv r 6) (h1 : sd' 4 0 4 = sd 4 0 4) (h2 : ∀ e, sd' 0 e 2 = sd 0 e 2) (g1 : r' 15 = r 15) (g2 : ∀ e, e < nv r 6 → r' (25 + e) = r (25 + e)) : R_us b' sd' r' := by
  obtain ⟨⟨u1, u2⟩, u3, u4, u5⟩ := h
  have c1 : ns sd' 4 0 4 = ns sd 4 0 4 := by unfold ns; rw [h1]
  have c2 : ∀ e, ns sd' 0 e 2 = ns sd 0 e 2 := fun e => by unfold ns; rw [h2]
  have d1 := nv_eq g1
  refine ⟨⟨by rw [h1, c1]; exact u1, by rw [c1]; omega⟩, ⟨(isN_eq g1 u3).1, by rw [d1]; exact Nat.le_trans u3.2 hb⟩, fun e he => ?_, fun e f he hf => ?_⟩
  · rw [hD] at he
    obtain ⟨⟨v1, v2⟩, v3⟩ := u4 e he
    refine ⟨⟨by rw [h2, c2]; exact v1, by rw [c2, c1]; exact v2⟩, ?_⟩
    have := isN_eq (g2 e he) v3
    rw [← d1] at this
    exact this
  · rw [hD] at he hf
    rw [c2, c2, nv_eq (g2 e he), nv_eq (g2 f hf)]
    exact u5 e f he hf
theorem clock_step (hI : InvF F r) (hR : RelF F b sd r) (v : Int32) : InvF F (rup r 12 v) ∧ RelF F b (upS sd 4 0 15 v) (rup r 12 v) := by
  have l6 := hI.l6
  have hf : ∀ i, ¬ mec i → rup r 12 v i = r i := fun i h => rup_ne (by unfold mec at h; omega)
  have hn : ∀ i, i ≠ 12 → nv (rup r 12 v) i = nv r i := fun i h => nv_eq (rup_ne h)
  have hI' : InvF F (rup r 12 v) := by
    refine hI.mech hf ?_ (fun d h => ?_) (fun d e h1 h2 h3 => ?_)
    · have := hI.pick
      unfold I_pick isN at this ⊢
      simp (disch := omega) only [hn, rup_ne]
      exact this
    · have := (hI.drv d h).2
      unfold isN at this ⊢
      simp (disch := omega) only [hn, rup_ne]
      exact this
    · simp (disch := omega) only [rup_ne] at h3 ⊢
      exact hI.drd d e h1 h2 h3
  refine ⟨hI', hR.mech hI hf (fun k j t h1 h2 => upS_k h1) (fun t h => upS_t (by omega)) ?_ (fun d h => ?_) ?_⟩
  · simp (disch := omega) only [upS_t, upS_hit, rup_ne, rup_hit]
    exact ⟨hR.s14, trivial, hR.s16, hR.s17⟩
  · simp (disch := omega) only [upS_k, rup_ne]
    exact hR.dr d h
  · refine us_same hR.us (Nat.le_refl _) (hn 6 (by omega)) (upS_t (by omega)) (fun e => upS_k (by omega)) (rup_ne (by omega)) (fun e he => rup_ne (by omega))
/-- the drive for a platter -/
def chQ (r : RW) (p : Nat) : Int32 := if holdQ r (nI p) = -1 then freQ r (fun d => nv r (25 + d)) else holdQ r (nI p)
theorem c_driveToChoose (hI : InvF F r) (hR : RelF F b sd r) (hb : b < 2 ^ 29) (h0 : 0 < nv r 6) (p : Nat) : f_X4_driveToChoose sd (nI p) = some (chQ r p) := by
  unfold f_X4_driveToChoose chQ
  have e : freQ r (useC sd 0) = freQ r (fun d => nv r (25 + d)) := freQ_congr (fun d e hd he => by
    unfold useC
    rw [if_pos (by simp), if_pos (by simp)]
    exact hR.us.2.2.2 d e hd he) h0
  have h := c_driveForAway hI hR hb (M := 0) (by decide) h0
  rw [nI_0, e] at h
  rw [c_driveHolding hI hR, xb, h, xb]
  split <;> rfl
theorem RelF.useN (hR : RelF F b sd r) (hb : b ≤ 2 ^ 30) : ∀ d, d < nv r 6 → isN r (25 + d) (2 ^ 30) := fun d hd => by
  have h := (hR.us.2.2.1 d hd).2
  exact ⟨h.1, Nat.le_trans h.2 (Nat.le_trans hR.us.2.1.2 hb)⟩
theorem m_chosen (hr : md 30 0 = r) (hI : InvF F r) (hU : ∀ d, d < nv r 6 → isN r (25 + d) (2 ^ 30)) (h0 : 0 < nv r 6) (p : Nat) : f_X8_chosen md (nI p) = some (chQ r p) := by
  unfold f_X8_chosen chQ
  rw [m_inDrive hr hI, xb, m_freeDrive hr hI hU h0, xb]
  split <;> rfl
theorem chQ_cases (h0 : 0 < nv r 6) (p : Nat) : ∃ d, d < nv r 6 ∧ chQ r p = nI d ∧ ((holdQ r (nI p) = -1 ∧ ∀ e, e < nv r 6 → r (21 + e) ≠ nI p) ∨ (holdQ r (nI p) ≠ -1 ∧ holdQ r (nI p) = nI d ∧ r (21 + d) = nI p)) := by
  unfold chQ
  by_cases h : holdQ r (nI p) = -1
  · rw [if_pos h]
    obtain ⟨d, h1, h2⟩ := freQ_cases r (fun d => nv r (25 + d)) h0
    refine ⟨d, h1, h2, Or.inl ⟨h, fun e he => ?_⟩⟩
    rcases holdQ_cases r (nI p) with ⟨-, h3⟩ | ⟨f, h3, h4, -⟩
    · exact h3 e he
    · rcases fst_cases0 (P := fun d => decide (r (21 + d) = nI p)) (n := nv r 6) with ⟨-, g2⟩ | ⟨x, g1, g2, g3, g4⟩
      · exact of_decide_eq_false (g2 e he)
      · have : nI x = -1 := g2.symm.trans h
        exact absurd this (by
          intro z
          have z2 : x < 2 ^ 31 ∨ ¬ x < 2 ^ 31 := Nat.lt_or_ge _ _ |>.imp id Nat.not_lt.mpr
          rcases z2 with z2 | z2
          · exact (nm1 z2).mp z
          · have : nv r 6 < 2 ^ 31 := by
              unfold nv
              exact Int32.toNatClampNeg_lt _
            omega)
  · rw [if_neg h]
    rcases holdQ_cases r (nI p) with ⟨h3, -⟩ | ⟨f, h3, h4, h5⟩
    · exact absurd h3 h
    · exact ⟨f, h3, h4, Or.inr ⟨h, h4, h5⟩⟩
/-- a use of a drive on both sides -/
theorem use_rows (d : Nat) (hd : d < 4) (r : RW) : (∀ i, i ≠ 15 → i ≠ 25 + d → useR r d i = r i) ∧ useR r d 15 = r 15 + 1 ∧ useR r d (25 + d) = r 15 + 1 := by
  unfold useR
  refine ⟨fun i h1 h2 => ?_, ?_, ?_⟩
  · simp (disch := omega) only [rup_ne]
  · simp (disch := omega) only [rup_ne, rup_hit]
  · simp (disch := omega) only [rup_hit]
theorem usC_cells (sd : SD) (d : Nat) : (∀ k j t, ¬ (k = 4 ∧ j = 0 ∧ t = 4) → ¬ (k = 0 ∧ j = d ∧ t = 2) → usC sd d k j t = sd k j t) ∧ usC sd d 4 0 4 = sd 4 0 4 + 1 ∧ usC sd d 0 d 2 = sd 4 0 4 + 1 := by
  unfold usC upS
  refine ⟨fun k j t h1 h2 => ?_, ?_, ?_⟩
  · rw [if_neg h2, if_neg h1]
  · simp
  · simp
theorem use_step (hI : InvF F r) (hR : RelF F b sd r) (hb : b < 2 ^ 29) {d : Nat} (hd : d < nv r 6) : InvF F (useR r d) ∧ RelF F (b + 1) (usC sd d) (useR r d) := by
  have l6 := hI.l6
  obtain ⟨a1, a2, a3⟩ := use_rows d (by omega) r
  obtain ⟨c1, c2, c3⟩ := usC_cells sd d
  obtain ⟨⟨u1, u2⟩, u3, u4, u5⟩ := hR.us
  have hf : ∀ i, ¬ mec i → useR r d i = r i := fun i h => a1 i (by unfold mec at h; omega) (by unfold mec at h; omega)
  have hn : ∀ i, i ≠ 15 → i ≠ 25 + d → nv (useR r d) i = nv r i := fun i h1 h2 => nv_eq (a1 i h1 h2)
  have hI' : InvF F (useR r d) := by
    refine hI.mech hf ?_ (fun e h => ?_) (fun e f h1 h2 h3 => ?_)
    · have := hI.pick
      unfold I_pick isN at this ⊢
      simp (disch := omega) only [hn, a1]
      exact this
    · have := (hI.drv e h).2
      unfold isN at this ⊢
      simp (disch := omega) only [hn, a1]
      exact this
    · simp (disch := omega) only [a1] at h3 ⊢
      exact hI.drd e f h1 h2 h3
  refine ⟨hI', hR.mech hI hf (fun k j t h1 h2 => c1 k j t (by omega) (by omega)) (fun t h => c1 4 0 t (by omega) (by omega)) ?_ (fun e h => ?_) ?_⟩
  · simp (disch := omega) only [c1, a1]
    exact ⟨hR.s14, hR.s15, hR.s16, hR.s17⟩
  · simp (disch := omega) only [c1, a1]
    exact hR.dr e h
  · have hu := u3.l
    refine us_use (y := nv r 15 + 1) hR.us (hn 6 (by omega) (by omega)) hd c2 c3 (fun e he => c1 0 e 2 (by omega) (by omega)) ?_ ?_ (fun e he hne => a1 _ (by omega) (by omega)) (by omega) (by omega) (by omega) (by omega)
    · rw [a2, u3.e, nI_1]
    · rw [a3, u3.e, nI_1]
/-- a further use on the reference's side alone, of the drive that was used last -/
theorem use_more (hI : InvF F r) (hR : RelF F b sd r) (hb : b < 2 ^ 29) {d : Nat} (hd : d < nv r 6) (hl : ∀ e, e < nv r 6 → e ≠ d → ns sd 0 e 2 < ns sd 0 d 2) : InvF F (useR r d) ∧ RelF F (b + 1) sd (useR r d) := by
  have l6 := hI.l6
  obtain ⟨a1, a2, a3⟩ := use_rows d (by omega) r
  obtain ⟨⟨u1, u2⟩, u3, u4, u5⟩ := hR.us
  have hf : ∀ i, ¬ mec i → useR r d i = r i := fun i h => a1 i (by unfold mec at h; omega) (by unfold mec at h; omega)
  have hn : ∀ i, i ≠ 15 → i ≠ 25 + d → nv (useR r d) i = nv r i := fun i h1 h2 => nv_eq (a1 i h1 h2)
  have hI' : InvF F (useR r d) := by
    refine hI.mech hf ?_ (fun e h => ?_) (fun e f h1 h2 h3 => ?_)
    · have := hI.pick
      unfold I_pick isN at this ⊢
      simp (disch := omega) only [hn, a1]
      exact this
    · have := (hI.drv e h).2
      unfold isN at this ⊢
      simp (disch := omega) only [hn, a1]
      exact this
    · simp (disch := omega) only [a1] at h3 ⊢
      exact hI.drd e f h1 h2 h3
  refine ⟨hI', hR.mech hI hf (fun k j t h1 h2 => rfl) (fun t h => rfl) ?_ (fun e h => ?_) ?_⟩
  · simp (disch := omega) only [a1]
    exact ⟨hR.s14, hR.s15, hR.s16, hR.s17⟩
  · simp (disch := omega) only [a1]
    exact hR.dr e h
  · have hu := u3.l
    have b2 : useR r d 15 = nI (nv r 15 + 1) := by rw [a2, u3.e, nI_1]
    have b3 : useR r d (25 + d) = nI (nv r 15 + 1) := by rw [a3, u3.e, nI_1]
    have d1 := nv_of b2 (by omega)
    have d2 := nv_of b3 (by omega)
    have hD := hn 6 (by omega) (by omega)
    refine ⟨⟨u1, by omega⟩, isN_nI b2 (by omega) (by omega), fun e he => ?_, fun e f he hq => ?_⟩
    · rw [hD] at he
      refine ⟨(u4 e he).1, ?_⟩
      by_cases z : e = d
      · subst z
        exact isN_nI b3 (by omega) (by omega)
      · have v := (u4 e he).2
        have := isN_eq (a1 (25 + e) (by omega) (by omega)) v
        exact ⟨this.1, by rw [hn (25 + e) (by omega) (by omega), d1]; have := v.l; omega⟩
    · rw [hD] at he hq
      have v1 := (u4 e he).2.l
      have v2 := (u4 f hq).2.l
      by_cases z : e = d
      · by_cases z2 : f = d
        · subst z; subst z2
          omega
        · subst z
          have := hl f hq z2
          rw [d2, hn (25 + f) (by omega) (by omega)]
          omega
      · by_cases z2 : f = d
        · subst z2
          have := hl e he z
          rw [d2, hn (25 + e) (by omega) (by omega)]
          omega
        · rw [hn (25 + e) (by omega) (by omega), hn (25 + f) (by omega) (by omega)]
          exact u5 e f he hq
/-- the exchange itself -/
theorem br_step (hI : InvF F r) (hR : RelF F b sd r) {p d : Nat} (hp : p < nv r 7) (hd : d < nv r 6) (hne : ∀ e, e < nv r 6 → r (21 + e) ≠ nI p) : InvF F (br0 r p d) ∧ RelF F b (brC sd p d (nI (btm r p d)) (nI (mvs r p d))) (br0 r p d) := by
  have l6 := hI.l6
  have l7 := hI.l7
  have a1 : ∀ i, i ≠ 11 → i ≠ 12 → i ≠ 13 → i ≠ 14 → i ≠ 21 + d → br0 r p d i = r i := fun i h1 h2 h3 h4 h5 => by
    unfold br0
    simp (disch := omega) only [rup_ne]
  have a11 : br0 r p d 11 = r (17 + d) := by unfold br0; simp (disch := omega) only [rup_ne, rup_hit]
  have a12 : br0 r p d 12 = r 12 + nI (btm r p d) := by unfold br0; simp (disch := omega) only [rup_ne, rup_hit]
  have a13 : br0 r p d 13 = r 13 + 1 := by unfold br0; simp (disch := omega) only [rup_ne, rup_hit]
  have a14 : br0 r p d 14 = r 14 + nI (mvs r p d) := by unfold br0; simp (disch := omega) only [rup_ne, rup_hit]
  have a21 : br0 r p d (21 + d) = nI p := by unfold br0; simp (disch := omega) only [rup_hit]
  have hf : ∀ i, ¬ mec i → br0 r p d i = r i := fun i h => by unfold mec at h; exact a1 i (by omega) (by omega) (by omega) (by omega) (by omega)
  have hn : ∀ i, i ≠ 11 → i ≠ 12 → i ≠ 13 → i ≠ 14 → i ≠ 21 + d → nv (br0 r p d) i = nv r i := fun i h1 h2 h3 h4 h5 => nv_eq (a1 i h1 h2 h3 h4 h5)
  obtain ⟨⟨x1, x2⟩, x3⟩ := hI.drv d hd
  have hI' : InvF F (br0 r p d) := by
    refine hI.mech hf ?_ (fun e h => ?_) (fun e f h1 h2 h3 => ?_)
    · have e11 := nv_eq a11
      unfold I_pick
      rw [e11, hn 0 (by omega) (by omega) (by omega) (by omega) (by omega)]
      exact ⟨⟨by rw [a11, e11]; exact x1.1, by rw [e11]; exact x1.2⟩, x2⟩
    · by_cases z : e = d
      · subst z
        exact Or.inr ⟨isN_nI a21 (by omega) (by omega), by rw [nv_of a21 (by omega)]; exact hp⟩
      · have := (hI.drv e h).2
        unfold isN at this ⊢
        simp (disch := omega) only [hn, a1]
        exact this
    · by_cases z : e = d
      · by_cases z2 : f = d
        · exact Or.inl (z.trans z2.symm)
        · subst z
          rw [a21, a1 (21 + f) (by omega) (by omega) (by omega) (by omega) (by omega)] at h3
          exact absurd h3.symm (hne f h2)
      · by_cases z2 : f = d
        · subst z2
          rw [a21, a1 (21 + e) (by omega) (by omega) (by omega) (by omega) (by omega)] at h3
          exact absurd h3 (hne e h1)
        · simp (disch := omega) only [a1] at h3 ⊢
          exact hI.drd e f h1 h2 h3
  refine ⟨hI', hR.mech hI hf (fun k j t h1 h2 => ?_) (fun t h => ?_) ?_ (fun e h => ?_) ?_⟩
  · unfold brC
    simp (disch := omega) only [upS_k]
  · unfold brC
    simp (disch := omega) only [upS_k, upS_t]
  · rw [a11, a12, a13, a14]
    unfold brC
    simp (disch := omega) only [upS_k, upS_t, upS_hit]
    exact ⟨(hR.dr d hd).1, by rw [hR.s15], by rw [hR.s16], by rw [hR.s17]⟩
  · unfold brC
    by_cases z : e = d
    · subst z
      simp (disch := omega) only [upS_k, upS_t, upS_hit, a21]
      exact ⟨(hR.dr e h).1, trivial⟩
    · simp (disch := omega) only [upS_k, upS_j, a1]
      exact hR.dr e h
  · refine us_same hR.us (Nat.le_refl _) (hn 6 (by omega) (by omega) (by omega) (by omega) (by omega)) ?_ (fun e => ?_) (a1 15 (by omega) (by omega) (by omega) (by omega) (by omega)) (fun e he => a1 _ (by omega) (by omega) (by omega) (by omega) (by omega))
    · unfold brC
      simp (disch := omega) only [upS_k, upS_t]
    · unfold brC
      simp (disch := omega) only [upS_k, upS_t]
end BOTH
