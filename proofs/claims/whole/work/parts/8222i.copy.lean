/-! Layer 2: a State is copied -/
theorem cpS_in {s : SD} {k j n : Nat} {f : Nat → Int32} {t : Nat} (h : t < n) : cpS s k j n f k j t = f t := by simp [cpS, h]
theorem cpS_k {s : SD} {k j n : Nat} {f : Nat → Int32} {k' j' t : Nat} (h : k' ≠ k) : cpS s k j n f k' j' t = s k' j' t := by simp [cpS, h]
theorem cpS_j {s : SD} {k j n : Nat} {f : Nat → Int32} {k' j' t : Nat} (h : j' ≠ j) : cpS s k j n f k' j' t = s k' j' t := by simp [cpS, h]
/-- the cells of a State that count, for so many drives, platters and versions -/
def LE (so s : SD) (D P V : Nat) : Prop := (∀ t, t ≠ 1 → t ≠ 2 → t ≠ 5 → t ≠ 8 → t ≠ 10 → t ≠ 12 → t < 18 → s 4 0 t = so 4 0 t) ∧ (∀ t, t < 5 → s 10 0 t = so 10 0 t) ∧ (∀ d t, d < D → t < 3 → s 0 d t = so 0 d t) ∧ (∀ p t, p < P → t < 6 → s 3 p t = so 3 p t) ∧ (∀ p t, p < P → t < 8 → s 16 p t = so 16 p t ∧ s 17 p t = so 17 p t) ∧ (∀ p t, p < P → t < 10 → s 18 p t = so 18 p t) ∧ (∀ v t, v < V → t < 7 → s 6 v t = so 6 v t) ∧ (∀ t, t < 20 → s 14 0 t = so 14 0 t) ∧ ∀ t, t < 16 → s 15 0 t = so 15 0 t
section COPY
variable {F : Nat} {b : Nat} {so sd s : SD} {r : RW}
theorem RelF.copy (hI : InvF F r) (hR : RelF F b so r) (h : LE so s (nv r 6) (nv r 7) (nv r 10)) : RelF F b s r := by
  obtain ⟨h1, h2, h3, h4, h5, h6, h7, h8, h9⟩ := h
  have l9 := hI.lF
  have l16 := hI.l16
  refine ⟨?_, ?_, ?_, ?_, ?_, ?_, ?_, ?_, ?_, ?_⟩
  · have g := hR.sc
    unfold R_sc at g ⊢
    simp (disch := omega) only [h1]
    exact g
  · have g := hR.tm
    unfold R_tm at g ⊢
    simp (disch := omega) only [h2]
    exact g
  · intro d hd
    simp (disch := omega) only [h3]
    exact hR.dr d hd
  · have g := hR.us
    unfold R_us at g ⊢
    have e1 : ns s 4 0 4 = ns so 4 0 4 := by unfold ns; rw [h1 4 (by omega) (by omega) (by omega) (by omega) (by omega) (by omega) (by omega)]
    have e2 : ∀ d, d < nv r 6 → ns s 0 d 2 = ns so 0 d 2 := fun d hd => by unfold ns; rw [h3 d 2 hd (by omega)]
    rw [e1, h1 4 (by omega) (by omega) (by omega) (by omega) (by omega) (by omega) (by omega)]
    refine ⟨g.1, g.2.1, fun d hd => ?_, fun d e hd he => ?_⟩
    · rw [e2 d hd, h3 d 2 hd (by omega)]
      exact g.2.2.1 d hd
    · rw [e2 d hd, e2 e he]
      exact g.2.2.2 d e hd he
  · intro p hp
    simp (disch := omega) only [h4]
    exact hR.pl p hp
  · intro p q hp hq
    have := (hI.plt p hp).2.2.2.2.1.l
    rw [(h5 p q hp (by omega)).1, (h5 p q hp (by omega)).2]
    exact hR.se p q hp hq
  · intro p q hp hq
    have g := hR.bd p q hp hq
    unfold bdc at g ⊢
    rw [h6 p (q / 32) hp (by omega)]
    exact g
  · intro f hf
    rw [h8 f (by omega)]
    exact hR.cu f hf
  · intro v hv
    simp (disch := omega) only [h7]
    exact hR.ve v hv
  · intro q hq
    rw [h9 q (by omega)]
    exact hR.rq q hq
theorem c_copy0 (sd so : SD) (j : Nat) : ∃ s, f_X0_copyFrom sd so j j = some s ∧ (∀ k i t, ¬ (k = 0 ∧ i = j) → s k i t = sd k i t) ∧ ∀ t, t < 3 → s 0 j t = so 0 j t := by
  refine ⟨_, rfl, fun k i t h => ?_, fun t h => ?_⟩
  · simp only [upS]
    rw [if_neg (by omega), if_neg (by omega), if_neg (by omega)]
  · rcases (show t = 0 ∨ t = 1 ∨ t = 2 by omega) with rfl | rfl | rfl <;> simp [upS]
theorem c_copy6 (sd so : SD) (j : Nat) (hg : so 6 j 6 = 0 ∨ so 6 j 6 = 1) : ∃ s, f_X6_copyFrom sd so j j = some s ∧ (∀ k i t, ¬ (k = 6 ∧ i = j) → s k i t = sd k i t) ∧ ∀ t, t < 7 → s 6 j t = so 6 j t := by
  unfold f_X6_copyFrom
  simp only [xl, eq_true hg, xg]
  refine ⟨_, rfl, fun k i t h => ?_, fun t h => ?_⟩
  · simp only [upS]
    rw [if_neg (by omega), if_neg (by omega), if_neg (by omega), if_neg (by omega), if_neg (by omega), if_neg (by omega), if_neg (by omega)]
  · rcases (show t = 0 ∨ t = 1 ∨ t = 2 ∨ t = 3 ∨ t = 4 ∨ t = 5 ∨ t = 6 by omega) with rfl | rfl | rfl | rfl | rfl | rfl | rfl <;> simp [upS]
theorem c_copy3 (sd so : SD) (j : Nat) (hg : so 3 j 5 = 0 ∨ so 3 j 5 = 1) : ∃ s, f_X3_copyFrom sd so j j = some s ∧ (∀ k i t, ¬ ((k = 3 ∨ k = 16 ∨ k = 17 ∨ k = 18) ∧ i = j) → s k i t = sd k i t) ∧ (∀ t, t < 6 → s 3 j t = so 3 j t) ∧ (∀ t, t < 8 → s 16 j t = so 16 j t ∧ s 17 j t = so 17 j t) ∧ ∀ t, t < 10 → s 18 j t = so 18 j t := by
  unfold f_X3_copyFrom
  simp only [xl, eq_true hg, xg]
  refine ⟨_, rfl, fun k i t h => ?_, fun t h => ?_, fun t h => ⟨?_, ?_⟩, fun t h => ?_⟩
  · simp only [upS, cpS]
    rw [if_neg (by omega), if_neg (by omega), if_neg (by omega), if_neg (by omega), if_neg (by omega), if_neg (by omega), if_neg (by omega), if_neg (by omega), if_neg (by omega)]
  · rcases (show t = 0 ∨ t = 1 ∨ t = 2 ∨ t = 3 ∨ t = 4 ∨ t = 5 by omega) with rfl | rfl | rfl | rfl | rfl | rfl <;> simp [upS, cpS]
  · simp [upS, cpS, h]
  · simp [upS, cpS, h]
  · simp [cpS, h]
theorem c_copy126 (D P : Nat) {V : Nat} (hV : V ≤ 40) (hg : ∀ v, v < V → so 6 v 6 = 0 ∨ so 6 v 6 = 1) (hso : so 4 0 9 = nI V) : ∀ (k d n : Nat) (s : SD), d + k = V → k < n → s 4 0 9 = nI V → ((∀ t, (t = 0 ∨ t = 3 ∨ t = 4 ∨ t = 6 ∨ t = 7 ∨ t = 9) → s 4 0 t = so 4 0 t) ∧ (∀ t, t < 5 → s 10 0 t = so 10 0 t) ∧ (∀ d t, d < D → t < 3 → s 0 d t = so 0 d t) ∧ (∀ p t, p < P → t < 6 → s 3 p t = so 3 p t) ∧ (∀ p t, p < P → t < 8 → s 16 p t = so 16 p t ∧ s 17 p t = so 17 p t) ∧ (∀ p t, p < P → t < 10 → s 18 p t = so 18 p t) ∧ (∀ v t, v < d → t < 7 → s 6 v t = so 6 v t)) → ∃ s', f_X4_copyFrom_L126 so n (nI d) s = some s' ∧ LE so s' D P V := by
  intro k
  induction k with
  | zero =>
    intro d n s h1 h2 h3 h
    obtain ⟨n, rfl⟩ : ∃ m, n = m + 1 := ⟨n - 1, by omega⟩
    have hd : d = V := by omega
    subst hd
    obtain ⟨a1, a2, a3, a4, a5, a6, a7⟩ := h
    rw [f_X4_copyFrom_L126, h3, if_pos (nI_le (Nat.le_refl _) (by omega))]
    simp only [xl]
    refine ⟨_, rfl, fun t q1 q2 q5 q8 q10 q12 q18 => ?_, fun t ht => ?_, fun e t he ht => ?_, fun p t hp ht => ?_, fun p t hp ht => ⟨?_, ?_⟩, fun p t hp ht => ?_, fun v t hv ht => ?_, fun t ht => ?_, fun t ht => ?_⟩
    · rcases (show (t = 0 ∨ t = 3 ∨ t = 4 ∨ t = 6 ∨ t = 7 ∨ t = 9) ∨ t = 11 ∨ t = 13 ∨ t = 14 ∨ t = 15 ∨ t = 16 ∨ t = 17 by omega) with g | rfl | rfl | rfl | rfl | rfl | rfl
      · simp (disch := omega) only [upS_t, cpS_k]
        exact a1 t g
      all_goals simp (disch := omega) only [upS_t, upS_hit, cpS_k]
    · simp (disch := omega) only [upS_k, cpS_k]; exact a2 t ht
    · simp (disch := omega) only [upS_k, cpS_k]; exact a3 e t he ht
    · simp (disch := omega) only [upS_k, cpS_k]; exact a4 p t hp ht
    · simp (disch := omega) only [upS_k, cpS_k]; exact (a5 p t hp ht).1
    · simp (disch := omega) only [upS_k, cpS_k]; exact (a5 p t hp ht).2
    · simp (disch := omega) only [upS_k, cpS_k]; exact a6 p t hp ht
    · simp (disch := omega) only [upS_k, cpS_k]; exact a7 v t hv ht
    · simp (disch := omega) only [upS_k, cpS_k, cpS_in]
    · simp (disch := omega) only [upS_k, cpS_in]
  | succ k ih =>
    intro d n s h1 h2 h3 h
    obtain ⟨n, rfl⟩ : ∃ m, n = m + 1 := ⟨n - 1, by omega⟩
    obtain ⟨a1, a2, a3, a4, a5, a6, a7⟩ := h
    obtain ⟨s1, e1, f1, g1⟩ := c_copy6 s so d (hg d (by omega))
    rw [f_X4_copyFrom_L126, h3]
    simp (disch := omega) only [xl, xg, xb, vinT, nI_clamp, la, ra, lm, rmu, rsu, nI_add, pk_mul, nm1, m1n, nneg, npos, lle, rle, llt, rlt, leq, req, nI_leI, nI_ltI, nI_eq, if_pos, if_neg, if_true, if_false, i01, i10, e1]
    refine ih (d + 1) n s1 (by omega) (by omega) (by rw [f1 _ _ _ (by omega)]; exact h3) ⟨fun t ht => ?_, fun t ht => ?_, fun e t he ht => ?_, fun p t hp ht => ?_, fun p t hp ht => ⟨?_, ?_⟩, fun p t hp ht => ?_, fun v t hv ht => ?_⟩
    · rw [f1 _ _ _ (by omega)]; exact a1 t ht
    · rw [f1 _ _ _ (by omega)]; exact a2 t ht
    · rw [f1 _ _ _ (by omega)]; exact a3 e t he ht
    · rw [f1 _ _ _ (by omega)]; exact a4 p t hp ht
    · rw [f1 _ _ _ (by omega)]; exact (a5 p t hp ht).1
    · rw [f1 _ _ _ (by omega)]; exact (a5 p t hp ht).2
    · rw [f1 _ _ _ (by omega)]; exact a6 p t hp ht
    · by_cases z : v = d
      · subst z; exact g1 t ht
      · rw [f1 _ _ _ (by omega)]; exact a7 v t (by omega) ht
theorem c_copy79 (D : Nat) {P V : Nat} (hP : P ≤ 10) (hV : V ≤ 40) (hg : ∀ v, v < V → so 6 v 6 = 0 ∨ so 6 v 6 = 1) (hg3 : ∀ p, p < P → so 3 p 5 = 0 ∨ so 3 p 5 = 1) (hso : so 4 0 9 = nI V) : ∀ (k d n : Nat) (s : SD), d + k = P → k < n → s 4 0 6 = nI P → ((∀ t, (t = 0 ∨ t = 3 ∨ t = 4 ∨ t = 6) → s 4 0 t = so 4 0 t) ∧ (∀ t, t < 5 → s 10 0 t = so 10 0 t) ∧ (∀ d t, d < D → t < 3 → s 0 d t = so 0 d t) ∧ (∀ p t, p < d → t < 6 → s 3 p t = so 3 p t) ∧ (∀ p t, p < d → t < 8 → s 16 p t = so 16 p t ∧ s 17 p t = so 17 p t) ∧ (∀ p t, p < d → t < 10 → s 18 p t = so 18 p t)) → ∃ s', f_X4_copyFrom_L79 so n (nI d) s = some s' ∧ LE so s' D P V := by
  intro k
  induction k with
  | zero =>
    intro d n s h1 h2 h3 h
    obtain ⟨n, rfl⟩ : ∃ m, n = m + 1 := ⟨n - 1, by omega⟩
    have hd : d = P := by omega
    subst hd
    obtain ⟨a1, a2, a3, a4, a5, a6⟩ := h
    rw [f_X4_copyFrom_L79, h3, if_pos (nI_le (Nat.le_refl _) (by omega))]
    simp only [xl]
    have := c_copy126 D d hV hg hso V 0 fuel (upS (upS s 4 0 7 (so 4 0 7)) 4 0 9 (so 4 0 9)) (by omega) (by unfold fuel; omega) (by rw [upS_hit]; exact hso) ⟨fun t ht => ?_, fun t ht => ?_, fun e t he ht => ?_, fun p t hp ht => ?_, fun p t hp ht => ⟨?_, ?_⟩, fun p t hp ht => ?_, fun v t hv ht => by omega⟩
    · rw [nI_0] at this
      exact this
    · rcases (show (t = 0 ∨ t = 3 ∨ t = 4 ∨ t = 6) ∨ t = 7 ∨ t = 9 by omega) with g | rfl | rfl
      · simp (disch := omega) only [upS_t]
        exact a1 t g
      all_goals simp (disch := omega) only [upS_t, upS_hit]
    · simp (disch := omega) only [upS_k]; exact a2 t ht
    · simp (disch := omega) only [upS_k]; exact a3 e t he ht
    · simp (disch := omega) only [upS_k]; exact a4 p t hp ht
    · simp (disch := omega) only [upS_k]; exact (a5 p t hp ht).1
    · simp (disch := omega) only [upS_k]; exact (a5 p t hp ht).2
    · simp (disch := omega) only [upS_k]; exact a6 p t hp ht
  | succ k ih =>
    intro d n s h1 h2 h3 h
    obtain ⟨n, rfl⟩ : ∃ m, n = m + 1 := ⟨n - 1, by omega⟩
    obtain ⟨a1, a2, a3, a4, a5, a6⟩ := h
    obtain ⟨s1, e1, f1, g1, g2, g3⟩ := c_copy3 s so d (hg3 d (by omega))
    rw [f_X4_copyFrom_L79, h3]
    simp (disch := omega) only [xl, xg, xb, vinT, nI_clamp, la, ra, lm, rmu, rsu, nI_add, pk_mul, nm1, m1n, nneg, npos, lle, rle, llt, rlt, leq, req, nI_leI, nI_ltI, nI_eq, if_pos, if_neg, if_true, if_false, i01, i10, e1]
    refine ih (d + 1) n s1 (by omega) (by omega) (by rw [f1 _ _ _ (by omega)]; exact h3) ⟨fun t ht => ?_, fun t ht => ?_, fun e t he ht => ?_, fun p t hp ht => ?_, fun p t hp ht => ?_, fun p t hp ht => ?_⟩
    · rw [f1 _ _ _ (by omega)]; exact a1 t ht
    · rw [f1 _ _ _ (by omega)]; exact a2 t ht
    · rw [f1 _ _ _ (by omega)]; exact a3 e t he ht
    · by_cases z : p = d
      · subst z; exact g1 t ht
      · rw [f1 _ _ _ (by omega)]; exact a4 p t (by omega) ht
    · by_cases z : p = d
      · subst z; exact g2 t ht
      · rw [f1 _ _ _ (by omega), f1 _ _ _ (by omega)]; exact a5 p t (by omega) ht
    · by_cases z : p = d
      · subst z; exact g3 t ht
      · rw [f1 _ _ _ (by omega)]; exact a6 p t (by omega) ht
theorem c_copy32 {D P V : Nat} (hD : D ≤ 4) (hP : P ≤ 10) (hV : V ≤ 40) (hg : ∀ v, v < V → so 6 v 6 = 0 ∨ so 6 v 6 = 1) (hg3 : ∀ p, p < P → so 3 p 5 = 0 ∨ so 3 p 5 = 1) (hso6 : so 4 0 6 = nI P) (hso : so 4 0 9 = nI V) : ∀ (k d n : Nat) (s : SD), d + k = D → k < n → s 4 0 3 = nI D → ((∀ t, (t = 0 ∨ t = 3) → s 4 0 t = so 4 0 t) ∧ (∀ t, t < 5 → s 10 0 t = so 10 0 t) ∧ (∀ e t, e < d → t < 3 → s 0 e t = so 0 e t)) → ∃ s', f_X4_copyFrom_L32 so n (nI d) s = some s' ∧ LE so s' D P V := by
  intro k
  induction k with
  | zero =>
    intro d n s h1 h2 h3 h
    obtain ⟨n, rfl⟩ : ∃ m, n = m + 1 := ⟨n - 1, by omega⟩
    have hd : d = D := by omega
    subst hd
    obtain ⟨a1, a2, a3⟩ := h
    rw [f_X4_copyFrom_L32, h3, if_pos (nI_le (Nat.le_refl _) (by omega))]
    simp only [xl]
    have := c_copy79 d hP hV hg hg3 hso P 0 fuel (upS (upS s 4 0 4 (so 4 0 4)) 4 0 6 (so 4 0 6)) (by omega) (by unfold fuel; omega) (by rw [upS_hit]; exact hso6) ⟨fun t ht => ?_, fun t ht => ?_, fun e t he ht => ?_, fun p t hp ht => by omega, fun p t hp ht => by omega, fun p t hp ht => by omega⟩
    · rw [nI_0] at this
      exact this
    · rcases (show (t = 0 ∨ t = 3) ∨ t = 4 ∨ t = 6 by omega) with g | rfl | rfl
      · simp (disch := omega) only [upS_t]
        exact a1 t g
      all_goals simp (disch := omega) only [upS_t, upS_hit]
    · simp (disch := omega) only [upS_k]; exact a2 t ht
    · simp (disch := omega) only [upS_k]; exact a3 e t he ht
  | succ k ih =>
    intro d n s h1 h2 h3 h
    obtain ⟨n, rfl⟩ : ∃ m, n = m + 1 := ⟨n - 1, by omega⟩
    obtain ⟨a1, a2, a3⟩ := h
    obtain ⟨s1, e1, f1, g1⟩ := c_copy0 s so d
    rw [f_X4_copyFrom_L32, h3]
    simp (disch := omega) only [xl, xg, xb, vinT, nI_clamp, la, ra, lm, rmu, rsu, nI_add, pk_mul, nm1, m1n, nneg, npos, lle, rle, llt, rlt, leq, req, nI_leI, nI_ltI, nI_eq, if_pos, if_neg, if_true, if_false, i01, i10, e1]
    refine ih (d + 1) n s1 (by omega) (by omega) (by rw [f1 _ _ _ (by omega)]; exact h3) ⟨fun t ht => ?_, fun t ht => ?_, fun e t he ht => ?_⟩
    · rw [f1 _ _ _ (by omega)]; exact a1 t ht
    · rw [f1 _ _ _ (by omega)]; exact a2 t ht
    · by_cases z : e = d
      · subst z; exact g1 t ht
      · rw [f1 _ _ _ (by omega)]; exact a3 e t (by omega) ht
theorem nI_01 {n : Nat} (h : n ≤ 1) : nI n = 0 ∨ nI n = 1 := by
  rcases (show n = 0 ∨ n = 1 by omega) with rfl | rfl
  · exact Or.inl rfl
  · exact Or.inr rfl
/-- a copy of a State stands for the same row -/
theorem c_copyFrom (hI : InvF F r) (hR : RelF F b so r) (sd : SD) : ∃ s, f_X4_copyFrom sd so = some s ∧ RelF F b s r := by
  have hg : ∀ v, v < nv r 10 → so 6 v 6 = 0 ∨ so 6 v 6 = 1 := fun v hv => by
    have h := (hI.ver v hv).2.2.2.2.2.2.2
    rw [(hR.ve v hv).2.2.2.2.2.2, h.e]
    exact nI_01 h.l
  have hg3 : ∀ p, p < nv r 7 → so 3 p 5 = 0 ∨ so 3 p 5 = 1 := fun p hp => by
    have h := (hI.plt p hp).2.2.2.2.2.1
    rw [(hR.pl p hp).2.2.2.2.2, h.e]
    exact nI_01 h.l
  have h3 : so 4 0 3 = nI (nv r 6) := by rw [hR.s3]; exact hI.c6
  have h6 : so 4 0 6 = nI (nv r 7) := by rw [hR.s6]; exact hI.c7
  have h9 : so 4 0 9 = nI (nv r 10) := by rw [hR.s9]; exact hI.c10
  have l6 := hI.l6
  obtain ⟨s, e, hl⟩ := c_copy32 l6 hI.l7 hI.l10 hg hg3 h6 h9 (nv r 6) 0 fuel (upS (cpS (upS sd 4 0 0 (so 4 0 0)) 10 0 5 (so 10 0)) 4 0 3 (so 4 0 3)) (by omega) (by unfold fuel; omega) (by rw [upS_hit]; exact h3) ⟨fun t ht => by
      rcases ht with rfl | rfl
      · simp (disch := omega) only [upS_t, cpS_k, upS_hit]
      · simp (disch := omega) only [upS_hit], fun t ht => by simp (disch := omega) only [upS_k, cpS_in], fun e t he ht => by omega⟩
  rw [nI_0] at e
  exact ⟨s, e, hR.copy hI hl⟩
end COPY
