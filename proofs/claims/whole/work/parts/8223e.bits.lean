/-! Layer 2: sets of platters as numbers; the least sums -/
theorem nI_xor (a b : Nat) : nI a ^^^ nI b = nI (a ^^^ b) := by
  apply Int32.toBitVec_inj.mp
  show (nI a).toBitVec ^^^ (nI b).toBitVec = (nI (a ^^^ b)).toBitVec
  unfold nI
  simp [BitVec.ofNat_xor]
theorem sh1n : ∀ t, t < 10 → (1 : Int32) <<< (nI t &&& 31) = nI (2 ^ t) := by decide
theorem bit_tt {s q : Nat} (hs : s < 1024) (hq : q < 10) : (((nI s >>> (nI q &&& 31)) &&& (1 : Int32)) = 0) ↔ s.testBit q = false := by
  rw [bit_t (by omega) (by omega), Nat.testBit_eq_decide_div_mod_eq]
  have h2 : s / 2 ^ q % 2 < 2 := Nat.mod_lt _ (by decide)
  rw [req (k := 0) (by decide) (by omega)]
  show s / 2 ^ q % 2 = 0 ↔ _
  simp only [decide_eq_false_iff_not]
  omega
theorem tb_x {s q i : Nat} : (s ^^^ 2 ^ q).testBit i = (s.testBit i ^^ decide (q = i)) := by
  rw [Nat.testBit_xor, Nat.testBit_two_pow]
theorem xo_lt {s q : Nat} (h : s.testBit q = true) : s ^^^ 2 ^ q < s := by
  induction q generalizing s with
  | zero =>
    have h1 : s % 2 = 1 := by simpa [Nat.testBit_zero] using h
    have h2 : (s ^^^ 2 ^ 0) / 2 = s / 2 := by rw [Nat.xor_div_two]; simp
    have h3 : ¬ ((s ^^^ 2 ^ 0) % 2 = 1) := by rw [Nat.xor_mod_two_eq_one]; simp [h1]
    generalize s ^^^ 2 ^ 0 = y at h2 h3 ⊢
    omega
  | succ q ih =>
    have h1 : (s / 2).testBit q = true := by rw [Nat.testBit_succ] at h; exact h
    have h2 := ih h1
    have e : 2 ^ (q + 1) / 2 = 2 ^ q := by rw [Nat.pow_succ]; exact Nat.mul_div_cancel _ (by decide)
    have h3 : (s ^^^ 2 ^ (q + 1)) / 2 = s / 2 ^^^ 2 ^ q := by rw [Nat.xor_div_two, e]
    rw [← h3] at h2
    generalize s ^^^ 2 ^ (q + 1) = y at h2 ⊢
    omega
theorem xo_sub {s S q : Nat} (hs : ∀ i, s.testBit i = true → S.testBit i = true) (h : s.testBit q = true) : ∀ i, (s ^^^ 2 ^ q).testBit i = true → S.testBit i = true := fun i hi => by
  rw [tb_x] at hi
  by_cases z : q = i
  · subst z; rw [h] at hi; simp at hi
  · simp [z] at hi; exact hs i hi
theorem xo_off {s q : Nat} (h : s.testBit q = true) : (s ^^^ 2 ^ q).testBit q = false := by rw [tb_x, h]; simp
theorem tb_lt {s q : Nat} (hs : s < 1024) (h : s.testBit q = true) : q < 10 := by
  refine Nat.lt_of_not_le (fun z => ?_)
  have h10 : 2 ^ 10 ≤ 2 ^ q := Nat.pow_le_pow_right (show 0 < 2 by decide) z
  have : s < 2 ^ q := Nat.lt_of_lt_of_le hs h10
  rw [Nat.testBit_lt_two_pow this] at h
  cases h
theorem mnS_congr {s : Nat} {f g : Nat → Nat} : ∀ (n q acc : Nat), (∀ i, q ≤ i → i < q + n → s.testBit i = true → f i = g i) → mnS s f n q acc = mnS s g n q acc
  | 0, _, _, _ => rfl
  | n + 1, q, acc, h => by
    unfold mnS
    by_cases z : s.testBit q = true
    · rw [if_pos z, if_pos z, h q (Nat.le_refl _) (by omega) z]
      exact mnS_congr n (q + 1) _ (fun i h1 h2 => h i (by omega) (by omega))
    · rw [if_neg z, if_neg z]
      exact mnS_congr n (q + 1) _ (fun i h1 h2 => h i (by omega) (by omega))
theorem mnS_le {s : Nat} {f : Nat → Nat} : ∀ (n q acc : Nat), mnS s f n q acc ≤ acc
  | 0, _, _ => Nat.le_refl _
  | n + 1, q, acc => by
    unfold mnS
    refine Nat.le_trans (mnS_le n (q + 1) _) ?_
    split
    · split <;> omega
    · exact Nat.le_refl _
theorem mnS_le2 {s : Nat} {f : Nat → Nat} : ∀ (n q acc i : Nat), q ≤ i → i < q + n → s.testBit i = true → mnS s f n q acc ≤ f i
  | 0, q, _, i, h1, h2, _ => by omega
  | n + 1, q, acc, i, h1, h2, h3 => by
    unfold mnS
    by_cases z : i = q
    · subst z
      rw [if_pos h3]
      refine Nat.le_trans (mnS_le n (i + 1) _) ?_
      split <;> omega
    · exact mnS_le2 n (q + 1) _ i (by omega) (by omega) h3
theorem opt_fuel {w : Nat → Nat → Nat} : ∀ (k k' s p : Nat), s ≤ k → s ≤ k' → opt w k s p = opt w k' s p
  | 0, 0, _, _, _, _ => rfl
  | 0, k' + 1, s, p, h, _ => by
    have : s = 0 := by omega
    subst this
    simp [opt]
  | k + 1, 0, s, p, _, h => by
    have : s = 0 := by omega
    subst this
    simp [opt]
  | k + 1, k' + 1, s, p, h, h' => by
    unfold opt
    by_cases z : s = 0
    · rw [if_pos z, if_pos z]
    · rw [if_neg z, if_neg z]
      refine mnS_congr 10 0 _ (fun i _ _ hi => ?_)
      have := xo_lt hi
      rw [opt_fuel k k' (s ^^^ 2 ^ i) i (by omega) (by omega)]
theorem ex_bit {s : Nat} (h0 : s ≠ 0) (hs : s < 1024) : ∃ q, q < 10 ∧ s.testBit q = true := by
  obtain ⟨q, hq⟩ := Nat.exists_testBit_of_ne_zero h0
  exact ⟨q, tb_lt hs hq, hq⟩
theorem opt_le {w : Nat → Nat → Nat} {B : Nat} : ∀ (k s p : Nat), s < 1024 → (∀ a c, (a = p ∨ s.testBit a = true) → s.testBit c = true → w a c ≤ B) → opt w k s p ≤ B * s
  | 0, _, _, _, _ => Nat.zero_le _
  | k + 1, s, p, hs, hw => by
    unfold opt
    by_cases z : s = 0
    · rw [if_pos z]; exact Nat.zero_le _
    · rw [if_neg z]
      obtain ⟨q, hq, hb⟩ := ex_bit z hs
      refine Nat.le_trans (mnS_le2 10 0 _ q (by omega) (by omega) hb) ?_
      have h1 := hw p q (Or.inl rfl) hb
      have h2 := xo_lt hb
      have h3 := opt_le (w := w) (B := B) k (s ^^^ 2 ^ q) q (by omega) (fun a c ha hc => hw a c (by
        rcases ha with rfl | ha
        · exact Or.inr hb
        · exact Or.inr (xo_sub (fun i h => h) hb a ha)) (xo_sub (fun i h => h) hb c hc))
      have h4 : B * (s ^^^ 2 ^ q) + B ≤ B * s := by
        have : B * ((s ^^^ 2 ^ q) + 1) ≤ B * s := Nat.mul_le_mul_left B h2
        rw [Nat.mul_add, Nat.mul_one] at this
        exact this
      omega
/-- the class's least rest -/
theorem c_restAfter {pd : SD} {w : Nat → Nat → Nat} {s p : Nat} (hs : s < 1024) (hp : p < 10) (hw : ∀ q, s.testBit q = true → pd 24 0 (p * 10 + q) = nI (w p q)) (ht : ∀ q, s.testBit q = true → pd 23 0 ((s ^^^ 2 ^ q) * 10 + q) = nI (opt w (s ^^^ 2 ^ q) (s ^^^ 2 ^ q) q)) (hB : ∀ q, s.testBit q = true → w p q + opt w (s ^^^ 2 ^ q) (s ^^^ 2 ^ q) q < 2 ^ 31) : f_X2_restAfter pd (nI p) (nI s) = some (nI (opt w s s p)) := by
  have key : ∀ (n q f acc : Nat), q + n = 10 → n < f → acc < 2 ^ 31 → f_X2_restAfter_L12 (nI s) pd (nI p) f (nI acc) (nI q) = some (nI (mnS s (fun i => w p i + opt w (s ^^^ 2 ^ i) (s ^^^ 2 ^ i) i) n q acc)) := by
    intro n
    induction n with
    | zero =>
      intro q f acc h1 h2 h3
      obtain ⟨f, rfl⟩ : ∃ x, f = x + 1 := ⟨f - 1, by omega⟩
      have : q = 10 := by omega
      subst this
      rw [f_X2_restAfter_L12, if_pos (by decide)]
      rfl
    | succ n ih =>
      intro q f acc h1 h2 h3
      obtain ⟨f, rfl⟩ : ∃ x, f = x + 1 := ⟨f - 1, by omega⟩
      have hq : q < 10 := by omega
      have c10 : ¬ ((10 : Int32) ≤ nI q) := by rw [lle (k := 10) (by decide) (by omega)]; show ¬ 10 ≤ q; omega
      rw [f_X2_restAfter_L12, if_neg c10, mnS]
      by_cases z : s.testBit q = true
      · have z1 : ¬ (((nI s >>> (nI q &&& 31)) &&& (1 : Int32)) = 0) := by rw [bit_tt hs hq, z]; decide
        have hx := xo_lt z
        rw [if_neg z1, if_pos z, sh1n q hq, nI_xor]
        have e1 : nI (s ^^^ 2 ^ q) * (10 : Int32) + nI q = nI ((s ^^^ 2 ^ q) * 10 + q) := by rw [rmu, nI_add]
        have e2 : nI p * (10 : Int32) + nI q = nI (p * 10 + q) := by rw [rmu, nI_add]
        rw [e1, e2]
        simp (disch := omega) only [xl, xg, vinT, nI_clamp, ra]
        rw [hw q z, ht q z, nI_add]
        have hb := hB q z
        by_cases y : w p q + opt w (s ^^^ 2 ^ q) (s ^^^ 2 ^ q) q < acc
        · rw [if_pos y, if_pos (by rw [nI_ltI (by omega) (by omega)]; exact y)]
          exact ih (q + 1) f _ (by omega) (by omega) (by omega)
        · rw [if_neg y, if_neg (by rw [nI_ltI (by omega) (by omega)]; exact y)]
          exact ih (q + 1) f _ (by omega) (by omega) (by omega)
      · have z0 : s.testBit q = false := by simpa using z
        rw [if_pos ((bit_tt hs hq).mpr z0), if_neg z]
        simp only [xl, ra]
        exact ih (q + 1) f acc (by omega) (by omega) h3
  unfold f_X2_restAfter
  by_cases z : s = 0
  · subst z
    rw [nI_0, if_pos rfl]
    rfl
  · rw [if_neg (by rw [req (k := 0) (by decide) (by omega)]; exact z)]
    have h := key 10 0 fuel 2147483647 (by omega) (by unfold fuel; omega) (by decide)
    rw [nI_0] at h
    refine h.trans ?_
    obtain ⟨s', rfl⟩ : ∃ x, s = x + 1 := ⟨s - 1, by omega⟩
    congr 2
    rw [opt, if_neg z]
    refine mnS_congr 10 0 _ (fun i _ _ hi => ?_)
    have := xo_lt hi
    rw [opt_fuel s' ((s' + 1) ^^^ 2 ^ i) _ i (by omega) (Nat.le_refl _)]
