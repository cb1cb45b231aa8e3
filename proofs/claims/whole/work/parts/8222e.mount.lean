/-! Layer 2: trying and taking back; which drive; a platter comes into a drive -/
def cpM (m : SD) (k0 k1 : Nat) : SD := fun k j t => if k = k1 ∧ j = 0 ∧ t < 605 then m k0 0 t else m k j t
theorem m_copies (m : SD) {k0 k1 : Nat} (hk : k0 ≠ k1) : f_X8_copies m k0 k1 = some (cpM m k0 k1) := by
  unfold f_X8_copies
  obtain ⟨h1, h2⟩ := loop0 (L := fun n v s => f_X8_copies_L2 k1 k0 n v s) (N := 605) (fun d s => upS s k1 0 d (s k0 0 d)) (fun d s => ∀ k j t, s k j t = if k = k1 ∧ j = 0 ∧ t < d then m k0 0 t else m k j t) (fun s => some s) (by decide) (fun n s _ => by
      show f_X8_copies_L2 k1 k0 (n + 1) (nI 605) s = some s
      rw [f_X8_copies_L2]
      exact if_pos (by decide)) (fun n d s hd hI => by
      refine ⟨?_, fun k j t => ?_⟩
      · show f_X8_copies_L2 k1 k0 (n + 1) (nI d) s = f_X8_copies_L2 k1 k0 n (nI (d + 1)) _
        rw [f_X8_copies_L2]
        simp (disch := omega) only [xl, xg, xb, vinT, nI_clamp, la, ra, lm, rmu, rsu, nI_add, pk_mul, nm1, m1n, nneg, npos, lle, rle, llt, rlt, leq, req, nI_leI, nI_ltI, nI_eq, if_pos, if_neg, if_true, if_false, i01, i10]
      · show upS s k1 0 d (s k0 0 d) k j t = _
        unfold upS
        by_cases h : k = k1 ∧ j = 0 ∧ t = d
        · obtain ⟨rfl, rfl, rfl⟩ := h
          rw [if_pos ⟨rfl, rfl, rfl⟩, if_pos ⟨rfl, rfl, by omega⟩, hI, if_neg (fun z => hk z.1)]
        · rw [if_neg h, hI]
          by_cases g : k = k1 ∧ j = 0 ∧ t < d
          · rw [if_pos g, if_pos ⟨g.1, g.2.1, by omega⟩]
          · rw [if_neg g, if_neg (fun z => by
              by_cases e : t = d
              · exact h ⟨z.1, z.2.1, e⟩
              · exact g ⟨z.1, z.2.1, by omega⟩)]) m (fun k j t => by rw [if_neg (by omega)])
  rw [h1]
  exact congrArg some (funext fun k => funext fun j => funext fun t => h2 k j t)
def trM (m : SD) : SD := upS (cpM m 30 32) 8 0 6 (m 30 0 12)
theorem m_tries (m : SD) : f_X8_tries m = some (trM m) := by
  unfold f_X8_tries
  rw [m_copies m (by decide), xb]
  simp only [xl]
  congr 1
theorem trM_row (m : SD) : trM m 30 0 = m 30 0 := by
  funext t
  simp [trM, cpM, upS]
theorem m_back {m m2 : SD} (h : MX (trM m) m2) : ∃ m3, f_X8_takesBack m2 = some (m2 30 0 12 - m 30 0 12, m3) ∧ MSame m m3 := by
  unfold f_X8_takesBack
  rw [m_copies m2 (by decide)]
  simp only [xl, xb]
  have h6 : m2 8 0 6 = m 30 0 12 := by
    rw [h 8 0 6 (by omega) (by omega)]
    simp [trM, upS]
  rw [h6]
  refine ⟨_, rfl, fun k j t hs => ?_⟩
  unfold scr at hs
  unfold cpM
  by_cases g : k = 30 ∧ j = 0 ∧ t < 605
  · obtain ⟨rfl, rfl, ht⟩ := g
    rw [if_pos ⟨rfl, rfl, ht⟩, h 32 0 t (by omega) (by omega)]
    simp [trM, cpM, upS, ht]
  · rw [if_neg g, h k j t g (by omega)]
    unfold trM upS cpM
    rw [if_neg (by omega), if_neg (by omega)]
/-! the drive -/
def argm (u : Nat → Nat) : Nat → Nat → Nat → Nat
  | 0, _, b => b
  | n + 1, d, b => argm u n (d + 1) (if u d < u b then d else b)
theorem argm_lt {u : Nat → Nat} {D : Nat} : ∀ {n d b : Nat}, b < D → d + n ≤ D → argm u n d b < D
  | 0, _, _, h, _ => h
  | n + 1, d, b, h, g => by
    unfold argm
    refine argm_lt ?_ (by omega)
    split
    · omega
    · exact h
theorem argm_congr {u w : Nat → Nat} {D : Nat} (h : ∀ d e, d < D → e < D → (u d < u e ↔ w d < w e)) : ∀ {n d b : Nat}, b < D → d + n ≤ D → argm u n d b = argm w n d b
  | 0, _, _, _, _ => rfl
  | n + 1, d, b, h1, h2 => by
    unfold argm
    have e : (if u d < u b then d else b) = if w d < w b then d else b := by
      by_cases z : u d < u b
      · rw [if_pos z, if_pos ((h d b (by omega) h1).mp z)]
      · rw [if_neg z, if_neg (fun y => z ((h d b (by omega) h1).mpr y))]
    rw [e]
    refine argm_congr h ?_ (by omega)
    split
    · omega
    · exact h1
abbrev empQ (r : RW) : Int32 := fst (fun d => decide (r (21 + d) = -1)) (nv r 6) 0
/-- the drive for a platter that is in none, by when the drives were used -/
def freQ (r : RW) (u : Nat → Nat) : Int32 := if empQ r = -1 then nI (argm u (nv r 6 - 1) 1 0) else empQ r
theorem freQ_cases (r : RW) (u : Nat → Nat) (h : 0 < nv r 6) : ∃ d, d < nv r 6 ∧ freQ r u = nI d := by
  unfold freQ
  rcases fst_cases0 (P := fun d => decide (r (21 + d) = -1)) (n := nv r 6) with ⟨h1, h2⟩ | ⟨e, h1, h2, h3, h4⟩
  · rw [if_pos h1]
    exact ⟨_, argm_lt h (by omega), rfl⟩
  · by_cases g : empQ r = -1
    · rw [if_pos g]
      exact ⟨_, argm_lt h (by omega), rfl⟩
    · rw [if_neg g]
      exact ⟨e, h1, h2⟩
theorem freQ_congr {r : RW} {u w : Nat → Nat} (h : ∀ d e, d < nv r 6 → e < nv r 6 → (u d < u e ↔ w d < w e)) (h0 : 0 < nv r 6) : freQ r u = freQ r w := by
  unfold freQ
  rw [argm_congr h h0 (by omega)]
theorem fst_snoc (P : Nat → Bool) : ∀ (k d : Nat), k + d < 2 ^ 31 → fst P (k + 1) d = if fst P k d = -1 then (if P (d + k) = true then nI (d + k) else -1) else fst P k d
  | 0, d, _ => by
    simp only [fst, Nat.add_zero, if_true]
  | k + 1, d, h => by
    rw [fst]
    by_cases hp : P d = true
    · rw [if_pos hp, fst, if_pos hp, if_neg (by rw [nm1 (by omega)]; exact id)]
    · rw [if_neg hp, fst_snoc P k (d + 1) (by omega), fst, if_neg hp]
      have e : d + 1 + k = d + (k + 1) := by omega
      rw [e]
section DRV
variable {F : Nat} {b : Nat} {sd md : SD} {r : RW}
theorem m_free48 (hr : md 30 0 = r) (hI : InvF F r) (hU : ∀ d, d < nv r 6 → isN r (25 + d) (2 ^ 30)) : ∀ (k d b n : Nat), d + k = nv r 6 → b < nv r 6 → k < n → f_X8_freeDrive_L48 md n (nI b) (nI d) = some (nI (argm (fun e => nv r (25 + e)) k d b)) := by
  have l6 := hI.l6
  intro k
  induction k with
  | zero =>
    intro d b n h1 h2 h3
    obtain ⟨n, rfl⟩ : ∃ m, n = m + 1 := ⟨n - 1, by omega⟩
    rw [f_X8_freeDrive_L48, hr, hI.c6]
    simp (disch := omega) only [xl, xg, xb, vinT, nI_clamp, la, ra, lm, rmu, rsu, nI_add, pk_mul, nm1, m1n, nneg, npos, lle, rle, llt, rlt, leq, req, nI_leI, nI_ltI, nI_eq, if_pos, if_neg, if_true, if_false, i01, i10]
    rfl
  | succ k ih =>
    intro d b n h1 h2 h3
    obtain ⟨n, rfl⟩ : ∃ m, n = m + 1 := ⟨n - 1, by omega⟩
    have u1 := hU d (by omega)
    have u2 := hU b h2
    have v1 := u1.l
    have v2 := u2.l
    rw [f_X8_freeDrive_L48, hr, hI.c6]
    simp (disch := omega) only [xl, xg, xb, vinT, nI_clamp, la, ra, lm, rmu, rsu, nI_add, pk_mul, nm1, m1n, nneg, npos, lle, rle, llt, rlt, leq, req, nI_leI, nI_ltI, nI_eq, if_pos, if_neg, if_true, if_false, i01, i10, u1.e, u2.e]
    rw [argm]
    by_cases z : nv r (25 + b) ≤ nv r (25 + d)
    · rw [if_pos z, if_neg (by omega)]
      exact ih (d + 1) b n (by omega) h2 (by omega)
    · rw [if_neg z, if_pos (by omega)]
      exact ih (d + 1) d n (by omega) (by omega) (by omega)
theorem m_freeDrive (hr : md 30 0 = r) (hI : InvF F r) (hU : ∀ d, d < nv r 6 → isN r (25 + d) (2 ^ 30)) (h0 : 0 < nv r 6) : f_X8_freeDrive md = some (freQ r (fun d => nv r (25 + d))) := by
  have l6 := hI.l6
  have key : ∀ (k n : Nat) (best : Int32), k ≤ nv r 6 → k < n → f_X8_freeDrive_L12 md n best (nI k - 1) = if fst (fun d => decide (r (21 + d) = -1)) k 0 = -1 then (if best = -1 then f_X8_freeDrive_L48 md fuel 0 1 else some best) else some (fst (fun d => decide (r (21 + d) = -1)) k 0) := by
    intro k
    induction k with
    | zero =>
      intro n best h1 h2
      obtain ⟨n, rfl⟩ : ∃ m, n = m + 1 := ⟨n - 1, by omega⟩
      rw [f_X8_freeDrive_L12, if_pos (by decide)]
      simp only [fst, if_true]
    | succ k ih =>
      intro n best h1 h2
      obtain ⟨n, rfl⟩ : ∃ m, n = m + 1 := ⟨n - 1, by omega⟩
      rw [nI_pred, f_X8_freeDrive_L12, fst_snoc _ k 0 (by omega), hr]
      have e : nI k + (-1) = nI k - 1 := by grind
      simp (disch := omega) only [xl, xg, vinT, nneg, if_false, la, nI_clamp, Nat.zero_add, decide_eq_true_eq, e]
      rw [ih n (nI k) (by omega) (by omega), ih n best (by omega) (by omega)]
      have ne : ¬ (nI k = -1) := by rw [nm1 (by omega)]; exact id
      by_cases hp : r (21 + k) = -1
      · simp only [hp, if_true, if_neg ne]
        by_cases hf : fst (fun d => decide (r (21 + d) = -1)) k 0 = -1
        · simp only [hf, if_true, if_neg ne]
        · simp only [hf, if_false]
      · simp only [hp, if_false]
        by_cases hf : fst (fun d => decide (r (21 + d) = -1)) k 0 = -1
        · simp only [hf, if_true]
        · simp only [hf, if_false]
  unfold f_X8_freeDrive
  rw [hr, hI.c6, xl, key (nv r 6) fuel (-1) (Nat.le_refl _) (by unfold fuel; omega)]
  unfold freQ
  have h48 := m_free48 hr hI hU (nv r 6 - 1) 1 0 fuel (by omega) h0 (by unfold fuel; omega)
  by_cases hf : empQ r = -1
  · rw [if_pos hf, if_pos hf, if_pos rfl]
    exact h48
  · rw [if_neg hf, if_neg hf]
end DRV
/-! bits of small sets -/
theorem nI31 : ∀ d, d < 32 → nI d &&& 31 = nI d ∧ ((nI d).toBitVec.smod 32).toNat = d := by decide
theorem bit_t {M d : Nat} (hM : M < 2 ^ 31) (hd : d < 32) : ((nI M >>> (nI d &&& 31)) &&& (1 : Int32)) = nI (M / 2 ^ d % 2) := by
  obtain ⟨h1, h2⟩ := nI31 d hd
  rw [h1, pk_shrN hM (nI d) d h2]
  exact pk_andN (Nat.lt_of_le_of_lt (Nat.div_le_self _ _) (by omega)) 1 rfl
section DRV2
variable {F : Nat} {b : Nat} {sd md : SD} {r : RW}
/-- when a drive was used, as the class sees it behind the reading of a batch -/
def useC (sd : SD) (M d : Nat) : Nat := if M / 2 ^ d % 2 = 0 then ns sd 0 d 2 else ns sd 4 0 4 + 1 + d
theorem c_away7 (hI : InvF F r) (hR : RelF F b sd r) (hb : b < 2 ^ 29) {M : Nat} (hM : M < 2 ^ 31) : ∀ (k d o n : Nat), d + k = nv r 6 → o < nv r 6 → k < n → f_X4_driveForAway_L7 sd (nI M) n (nI o) (nI (useC sd M o)) (nI d) = some (if fst (fun d => decide (r (21 + d) = -1)) k d = -1 then nI (argm (useC sd M) k d o) else fst (fun d => decide (r (21 + d) = -1)) k d) := by
  have l6 := hI.l6
  obtain ⟨⟨u1, u2⟩, u3, u4, u5⟩ := hR.us
  have hw : ∀ d, d < nv r 6 → useC sd M d < 2 ^ 30 := fun d hd => by
    have := (u4 d hd).1.2
    unfold useC
    split <;> omega
  intro k
  induction k with
  | zero =>
    intro d o n h1 h2 h3
    obtain ⟨n, rfl⟩ : ∃ m, n = m + 1 := ⟨n - 1, by omega⟩
    rw [f_X4_driveForAway_L7, hR.s3, hI.c6]
    simp (disch := omega) only [xl, xg, xb, vinT, nI_clamp, la, ra, lm, rmu, rsu, nI_add, pk_mul, nm1, m1n, nneg, npos, lle, rle, llt, rlt, leq, req, nI_leI, nI_ltI, nI_eq, if_pos, if_neg, if_true, if_false, i01, i10]
    rfl
  | succ k ih =>
    intro d o n h1 h2 h3
    obtain ⟨n, rfl⟩ : ∃ m, n = m + 1 := ⟨n - 1, by omega⟩
    have hd : d < nv r 6 := by omega
    have w1 := hw d hd
    have w2 := hw o h2
    rw [f_X4_driveForAway_L7, hR.s3, hI.c6, fst, argm]
    simp (disch := omega) only [xl, xg, vinT, nI_clamp, nI_leI, if_neg, (hR.dr d hd).2, decide_eq_true_eq, bit_t hM (show d < 32 by omega), nm1, if_false, ra, nI_add]
    by_cases hp : r (21 + d) = -1
    · simp only [hp, if_true]
      rw [if_neg (by rw [nm1 (by omega)]; exact id)]
    · simp only [hp, if_false]
      have e2 : (if nI (M / 2 ^ d % 2) = 0 then (if nI (useC sd M o) ≤ sd 0 d 2 then f_X4_driveForAway_L7 sd (nI M) n (nI o) (nI (useC sd M o)) (nI (d + 1)) else f_X4_driveForAway_L7 sd (nI M) n (nI d) (sd 0 d 2) (nI (d + 1))) else (if nI (useC sd M o) ≤ sd 4 0 4 + 1 + nI d then f_X4_driveForAway_L7 sd (nI M) n (nI o) (nI (useC sd M o)) (nI (d + 1)) else f_X4_driveForAway_L7 sd (nI M) n (nI d) (sd 4 0 4 + 1 + nI d) (nI (d + 1)))) = (if useC sd M o ≤ useC sd M d then f_X4_driveForAway_L7 sd (nI M) n (nI o) (nI (useC sd M o)) (nI (d + 1)) else f_X4_driveForAway_L7 sd (nI M) n (nI d) (nI (useC sd M d)) (nI (d + 1))) := by
        have q0 : nI (M / 2 ^ d % 2) = 0 ↔ M / 2 ^ d % 2 = 0 := req (k := 0) (by decide) (by omega)
        by_cases z : M / 2 ^ d % 2 = 0
        · have ed : useC sd M d = ns sd 0 d 2 := by unfold useC; rw [if_pos z]
          rw [if_pos (q0.mpr z), ed, (u4 d hd).1.1]
          have e3 : ns sd 0 d 2 < 2 ^ 30 := by rw [← ed]; exact w1
          simp (disch := omega) only [nI_leI]
        · have ed : useC sd M d = ns sd 4 0 4 + 1 + d := by unfold useC; rw [if_neg z]
          rw [if_neg (fun y => z (q0.mp y)), ed, u1]
          simp (disch := omega) only [ra, nI_add, nI_leI]
      first | rw [e2] | (simp only [xl] at e2 ⊢; rw [e2])
      by_cases z : useC sd M o ≤ useC sd M d
      · rw [if_pos z, if_neg (show ¬ useC sd M d < useC sd M o by omega)]
        exact ih (d + 1) o n (by omega) h2 (by omega)
      · rw [if_neg z, if_pos (show useC sd M d < useC sd M o by omega)]
        exact ih (d + 1) d n (by omega) hd (by omega)
theorem c_driveForAway (hI : InvF F r) (hR : RelF F b sd r) (hb : b < 2 ^ 29) {M : Nat} (hM : M < 2 ^ 31) (h0 : 0 < nv r 6) : f_X4_driveForAway sd (nI M) = some (freQ r (useC sd M)) := by
  have l6 := hI.l6
  obtain ⟨⟨u1, u2⟩, u3, u4, u5⟩ := hR.us
  unfold f_X4_driveForAway freQ
  have hf : fuel = 19999 + 1 := rfl
  rw [hf, ← nI_0, f_X4_driveForAway_L7, hR.s3, hI.c6]
  have h7 := c_away7 hI hR hb hM (nv r 6 - 1) 1 0 19999 (by omega) h0 (by omega)
  have es : fst (fun d => decide (r (21 + d) = -1)) (nv r 6) 0 = if r (21 + 0) = -1 then nI 0 else fst (fun d => decide (r (21 + d) = -1)) (nv r 6 - 1) 1 := by
    have : nv r 6 = (nv r 6 - 1) + 1 := by omega
    rw [this, fst]
    simp only [decide_eq_true_eq, Nat.add_sub_cancel, Nat.zero_add]
  unfold empQ
  simp only [es]
  simp (disch := omega) only [xl, xg, vinT, nI_clamp, nI_leI, if_neg, (hR.dr 0 h0).2, bit_t hM (show 0 < 32 by omega), if_true, ra, nI_add]
  by_cases hp : r (21 + 0) = -1
  · simp only [hp, if_true]
    rw [if_neg (by rw [nm1 (by omega)]; exact id)]
  · simp only [hp, if_false]
    have q0 : nI (M / 2 ^ 0 % 2) = 0 ↔ M / 2 ^ 0 % 2 = 0 := req (k := 0) (by decide) (by omega)
    by_cases z : M / 2 ^ 0 % 2 = 0
    · have ed : useC sd M 0 = ns sd 0 0 2 := by unfold useC; rw [if_pos z]
      rw [if_pos (q0.mpr z), (u4 0 h0).1.1, ← ed]
      rw [h7]
    · have ed : useC sd M 0 = ns sd 4 0 4 + 1 + 0 := by unfold useC; rw [if_neg z]
      rw [if_neg (fun y => z (q0.mp y)), u1]
      simp (disch := omega) only [ra, nI_add]
      rw [← ed, h7]
end DRV2
