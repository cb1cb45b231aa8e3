/-! Layer 2: the platters that the reference's batch brings -/
section WTD
variable {b : Nat} {sd md : SD} {r : RW}
/-- the members of a set, from p on -/
def wl (S : Nat) : Nat → Nat → List Nat
  | 0, _ => []
  | n + 1, p => if S.testBit p = true then p :: wl S n (p + 1) else wl S n (p + 1)
theorem wl_len (S : Nat) : ∀ (n p : Nat), (wl S n p).length ≤ n
  | 0, _ => Nat.le_refl _
  | n + 1, p => by
    have := wl_len S n (p + 1)
    unfold wl
    split
    · rw [List.length_cons]; omega
    · omega
theorem wl_in (S : Nat) : ∀ (n p i : Nat), i < (wl S n p).length → p ≤ (wl S n p).getD i 0 ∧ (wl S n p).getD i 0 < p + n ∧ S.testBit ((wl S n p).getD i 0) = true
  | 0, _, _, h => absurd h (Nat.not_lt_zero _)
  | n + 1, p, i, h => by
    unfold wl at h ⊢
    by_cases z : S.testBit p = true
    · rw [if_pos z] at h ⊢
      cases i with
      | zero => exact ⟨Nat.le_refl _, by show p < _; omega, z⟩
      | succ i =>
        have h2 : i < (wl S n (p + 1)).length := Nat.lt_of_succ_lt_succ h
        have := wl_in S n (p + 1) i h2
        rw [List.getD_cons_succ]
        exact ⟨by omega, by omega, this.2.2⟩
    · rw [if_neg z] at h ⊢
      have := wl_in S n (p + 1) i h
      exact ⟨by omega, by omega, this.2.2⟩
theorem wl_mono (S : Nat) : ∀ (n p i j : Nat), i < j → j < (wl S n p).length → (wl S n p).getD i 0 < (wl S n p).getD j 0
  | 0, _, _, _, _, h => absurd h (Nat.not_lt_zero _)
  | n + 1, p, i, j, hij, h => by
    unfold wl at h ⊢
    by_cases z : S.testBit p = true
    · rw [if_pos z] at h ⊢
      obtain ⟨j, rfl⟩ : ∃ q, j = q + 1 := ⟨j - 1, by omega⟩
      have h2 : j < (wl S n (p + 1)).length := Nat.lt_of_succ_lt_succ h
      rw [List.getD_cons_succ]
      cases i with
      | zero =>
        have := (wl_in S n (p + 1) j h2).1
        show p < _
        omega
      | succ i =>
        rw [List.getD_cons_succ]
        exact wl_mono S n (p + 1) i j (by omega) h2
    · rw [if_neg z] at h ⊢
      exact wl_mono S n (p + 1) i j hij h
theorem wl_all (S : Nat) : ∀ (n p x : Nat), p ≤ x → x < p + n → S.testBit x = true → ∃ i, i < (wl S n p).length ∧ (wl S n p).getD i 0 = x
  | 0, _, _, h1, h2, _ => by omega
  | n + 1, p, x, h1, h2, h3 => by
    unfold wl
    by_cases e : x = p
    · subst e
      rw [if_pos h3]
      exact ⟨0, by rw [List.length_cons]; omega, rfl⟩
    · obtain ⟨i, i1, i2⟩ := wl_all S n (p + 1) x (by omega) (by omega) h3
      by_cases z : S.testBit p = true
      · rw [if_pos z]
        exact ⟨i + 1, by rw [List.length_cons]; omega, by rw [List.getD_cons_succ]; exact i2⟩
      · rw [if_neg z]
        exact ⟨i, i1, i2⟩
/-- c members of a set in their order -/
def WO (c : Nat) (W : Nat → Nat) (S P : Nat) : Prop := c ≤ 10 ∧ (∀ i, i < c → S.testBit (W i) = true ∧ W i < P) ∧ (∀ i j, i < j → j < c → W i < W j) ∧ ∀ p, S.testBit p = true → ∃ i, i < c ∧ W i = p
theorem wl_WO {S P : Nat} (hP : P ≤ 10) (hS : ∀ p, S.testBit p = true → p < P) : WO (wl S P 0).length (fun i => (wl S P 0).getD i 0) S P := by
  refine ⟨Nat.le_trans (wl_len S P 0) hP, fun i hi => ?_, fun i j => wl_mono S P 0 i j, fun p hp => ?_⟩
  · have := wl_in S P 0 i hi
    exact ⟨this.2.2, by have := this.2.1; show (wl S P 0).getD i 0 < P; omega⟩
  · have := hS p hp
    exact wl_all S P 0 p (by omega) (by omega) hp
/-- some request is of this platter -/
def anQ (r : RW) (p : Nat) : Nat → Nat → Bool
  | 0, _ => false
  | n + 1, q => decide (pq r q = p) || anQ r p n (q + 1)
theorem anQ_iff (r : RW) (p : Nat) : ∀ (n q : Nat), anQ r p n q = true ↔ ∃ i, q ≤ i ∧ i < q + n ∧ pq r i = p
  | 0, q => by
    constructor
    · intro h; cases h
    · rintro ⟨i, h1, h2, -⟩; omega
  | n + 1, q => by
    unfold anQ
    rw [Bool.or_eq_true, decide_eq_true_eq, anQ_iff r p n (q + 1)]
    constructor
    · rintro (h | ⟨i, h1, h2, h3⟩)
      · exact ⟨q, Nat.le_refl _, by omega, h⟩
      · exact ⟨i, by omega, by omega, h3⟩
    · rintro ⟨i, h1, h2, h3⟩
      by_cases e : i = q
      · left; rw [← e]; exact h3
      · exact Or.inr ⟨i, by omega, by omega, h3⟩
theorem m_wt22 (hr : md 30 0 = r) (hI : Inv r) {p : Nat} (hp : p < nv r 7) : ∀ (k q f : Nat) (x : Bool), q + k = nv r 16 → k < f → f_X8_findsWanted_L22 md (nI p) f (b01 x) (nI q) = some (b01 (x || anQ r p k q), nI (nv r 16)) := by
  have l16 := hI.l16
  have l7 := hI.l7
  intro k
  induction k with
  | zero =>
    intro q f x hq hf
    obtain ⟨f, rfl⟩ : ∃ q, f = q + 1 := ⟨f - 1, by omega⟩
    have : q = nv r 16 := by omega
    subst this
    rw [f_X8_findsWanted_L22, hr, hI.c16, if_pos (nI_le (Nat.le_refl _) (by omega)), anQ, Bool.or_false]
  | succ k ih =>
    intro q f x hq hf
    obtain ⟨f, rfl⟩ : ∃ q, f = q + 1 := ⟨f - 1, by omega⟩
    have hq2 : q < nv r 16 := by omega
    obtain ⟨y1, y2⟩ := hI.req q hq2
    have h1 := ih (q + 1) f true (by omega) (by omega)
    rw [f_X8_findsWanted_L22, hr, hI.c16, if_neg (by rw [nI_leI (by omega) (by omega)]; omega)]
    simp (disch := omega) only [xl, xg, vinT, nI_clamp, la, ra, y1.e]
    rw [m_platterOf hr hI y2, xb]
    have e1 : b01 true = 1 := rfl
    rw [Bool.true_or, e1] at h1
    by_cases hx : x = false
    · subst hx
      rw [if_pos (show b01 false = 0 from rfl), anQ, Bool.false_or]
      have hpq := pq_lt hI hq2
      by_cases z : pq r q = p
      · rw [if_pos (by show nI (pq r q) = nI p; rw [z]), h1, decide_eq_true z, Bool.true_or]
        rfl
      · have h2 := ih (q + 1) f false (by omega) (by omega)
        rw [if_neg (by show ¬ nI (pq r q) = nI p; rw [nI_eq (by omega) (by omega)]; exact z), decide_eq_false z, Bool.false_or]
        rw [Bool.false_or] at h2
        exact h2
    · have hx : x = true := by cases x <;> simp_all
      subst hx
      rw [if_neg (show ¬ b01 true = 0 by decide), h1, Bool.true_or]
      rfl
theorem aw_iff {p : Nat} (r : RW) : (awS r (-1)).testBit p = true ↔ anQ r p (nv r 16) 0 = true ∧ holdQ r (nI p) = -1 ∧ nv r 16 < 2 ^ 31 ∨ (awS r (-1)).testBit p = true := by
  constructor
  · exact Or.inr
  · rintro (⟨h1, h2, h3⟩ | h)
    · obtain ⟨i, -, i2, i3⟩ := (anQ_iff r p _ _).mp h1
      exact (awS_bit r (-1) p).mpr ⟨i, by omega, by rw [Ne, nm1 (by omega)]; exact id, i3, h2⟩
    · exact h
theorem aw_not {p : Nat} (hI : Inv r) : (awS r (-1)).testBit p = true ↔ anQ r p (nv r 16) 0 = true ∧ holdQ r (nI p) = -1 := by
  have l16 := hI.l16
  constructor
  · intro h
    obtain ⟨i, i1, i2, i3, i4⟩ := (awS_bit r (-1) p).mp h
    exact ⟨(anQ_iff r p _ _).mpr ⟨i, by omega, by omega, i3⟩, i4⟩
  · rintro ⟨h1, h2⟩
    exact (aw_iff r).mpr (Or.inl ⟨h1, h2, by omega⟩)
theorem m_wt7 (hI : Inv r) : ∀ (k p f c0 : Nat) (md : SD), md 30 0 = r → p + k = nv r 7 → k < f → c0 ≤ p → md 8 0 10 = nI c0 → ∃ m', f_X8_findsWanted_L7 f (nI p) md = some m' ∧ (∀ k j t, ¬ (k = 34 ∧ j = 0 ∧ c0 ≤ t) → ¬ (k = 8 ∧ j = 0 ∧ t = 10) → m' k j t = md k j t) ∧ m' 8 0 10 = nI (c0 + (wl (awS r (-1)) k p).length) ∧ ∀ i, i < (wl (awS r (-1)) k p).length → m' 34 0 (c0 + i) = nI ((wl (awS r (-1)) k p).getD i 0) := by
  have l16 := hI.l16
  have l7 := hI.l7
  intro k
  induction k with
  | zero =>
    intro p f c0 md hr hp hf hc h10
    obtain ⟨f, rfl⟩ : ∃ q, f = q + 1 := ⟨f - 1, by omega⟩
    have : p = nv r 7 := by omega
    subst this
    rw [f_X8_findsWanted_L7, hr, hI.c7, if_pos (nI_le (Nat.le_refl _) (by omega))]
    exact ⟨md, rfl, fun _ _ _ _ _ => rfl, h10, fun i hi => absurd hi (Nat.not_lt_zero _)⟩
  | succ k ih =>
    intro p f c0 md hr hp hf hc h10
    obtain ⟨f, rfl⟩ : ∃ q, f = q + 1 := ⟨f - 1, by omega⟩
    have hp2 : p < nv r 7 := by omega
    have hw := m_wt22 hr hI hp2 (nv r 16) 0 fuel false (by omega) (by unfold fuel; omega)
    have e0 : b01 false = 0 := rfl
    rw [e0, nI_0, Bool.false_or] at hw
    rw [f_X8_findsWanted_L7, hr, hI.c7, if_neg (by rw [nI_leI (by omega) (by omega)]; omega), hw, xb]
    simp only [xl]
    simp (disch := omega) only [ra]
    rw [wl]
    by_cases z : anQ r p (nv r 16) 0 = true
    · rw [if_neg (by rw [b01_0, z]; decide), m_inDrive hr hI, xb]
      by_cases y : holdQ r (nI p) = -1
      · have hin : (awS r (-1)).testBit p = true := (aw_not hI).mpr ⟨z, y⟩
        rw [if_pos y, if_pos hin, h10, x_guard_pos (vp_in_nI (by omega) (by omega)), nI_clamp (by omega)]
        obtain ⟨m', q1, q2, q3, q4⟩ := ih (p + 1) f (c0 + 1) (upS (upS md 34 0 c0 (nI p)) 8 0 10 (nI (c0 + 1))) hr (by omega) (by omega) (by omega) (upS_hit _ _ _ _ _)
        refine ⟨m', ?_, fun k j t n1 n2 => ?_, ?_, fun i hi => ?_⟩
        · rw [← q1]
          have : (upS md 34 0 c0 (nI p)) 8 0 10 = nI c0 := h10
          rw [this]
          simp (disch := omega) only [ra]
        · rw [q2 k j t (by omega) n2]
          unfold upS
          rw [if_neg n2, if_neg (by omega)]
        · rw [q3, List.length_cons]
          congr 1
          omega
        · cases i with
          | zero =>
            rw [Nat.add_zero, q2 34 0 c0 (by omega) (by omega)]
            exact upS_hit _ _ _ _ _
          | succ i =>
            rw [List.getD_cons_succ, ← q4 i (by rw [List.length_cons] at hi; omega)]
            congr 1
            omega
      · have hin : ¬ (awS r (-1)).testBit p = true := fun h => y ((aw_not hI).mp h).2
        rw [if_neg y, if_neg hin]
        exact ih (p + 1) f c0 md hr (by omega) (by omega) (by omega) h10
    · have hin : ¬ (awS r (-1)).testBit p = true := fun h => z ((aw_not hI).mp h).1
      rw [if_pos (by rw [b01_0]; exact Bool.eq_false_iff.mpr z), if_neg hin]
      exact ih (p + 1) f c0 md hr (by omega) (by omega) (by omega) h10
/-- the list of the wanted platters that are away -/
def wlQ (r : RW) : List Nat := wl (awS r (-1)) (nv r 7) 0
theorem wlQ_WO (hI : Inv r) : WO (wlQ r).length (fun i => (wlQ r).getD i 0) (awS r (-1)) (nv r 7) := wl_WO hI.l7 (awS_lt7 hI (-1))
theorem m_findsWanted (hr : md 30 0 = r) (hI : Inv r) : ∃ m', f_X8_findsWanted md = some m' ∧ (∀ k j t, ¬ (k = 34 ∧ j = 0) → ¬ (k = 8 ∧ j = 0 ∧ t = 10) → m' k j t = md k j t) ∧ m' 8 0 10 = nI (wlQ r).length ∧ ∀ i, i < (wlQ r).length → m' 34 0 i = nI ((wlQ r).getD i 0) := by
  have l7 := hI.l7
  obtain ⟨m', q1, q2, q3, q4⟩ := m_wt7 hI (nv r 7) 0 fuel 0 (upS md 8 0 10 0) hr (by omega) (by unfold fuel; omega) (by omega) (upS_hit _ _ _ _ _)
  rw [nI_0] at q1
  refine ⟨m', ?_, fun k j t n1 n2 => ?_, ?_, fun i hi => ?_⟩
  · unfold f_X8_findsWanted
    rw [xl]
    exact q1
  · rw [q2 k j t (by omega) n2]
    unfold upS
    rw [if_neg n2]
  · rw [q3, Nat.zero_add]; rfl
  · rw [← Nat.zero_add i, q4 i hi]
    rw [Nat.zero_add]; rfl
end WTD
