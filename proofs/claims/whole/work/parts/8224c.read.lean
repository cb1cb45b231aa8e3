/-! Layer 2: both readers at a token; numbers; errors -/
def GG (T : Nat → Int32) (E : Nat) (rd md : SD) : Prop := E ≤ 900 ∧ rd 20 0 = T ∧ (∀ t, t < E → md 38 0 t = T t) ∧ (rd 5 0 2 = nI E ∧ rd 5 0 7 = 0) ∧ md 8 0 24 = nI E ∧ md 8 0 18 = 0
/-- the class stands before the token, the reference has it -/
def GS (T : Nat → Int32) (E x : Nat) (rd md : SD) (mw : Int64) : Prop := GG T E rd md ∧ x ≤ E ∧ rd 5 0 4 = nI x ∧ TokM T E x md mw
/-- both have the token -/
def GC (T : Nat → Int32) (E x : Nat) (rd md : SD) (mw : Int64) : Prop := GG T E rd md ∧ x ≤ E ∧ rd 5 0 3 = nI (tkS T E x) ∧ rd 5 0 4 = nI (tkE T E x) ∧ rd 5 0 5 = nI (tkK T E x) ∧ TokM T E x md mw
/-- both have failed alike -/
def BD (rd md : SD) : Prop := ∃ k, 0 < k ∧ k < 7 ∧ rd 5 0 7 = nI k ∧ md 8 0 18 = nI k ∧ rd 5 0 8 = md 8 0 19
def ER (md : SD) : Prop := ∃ k, 0 < k ∧ k < 7 ∧ md 8 0 18 = nI k
def RF (rd rd' : SD) : Prop := ∀ k j t, ¬ (k = 5 ∧ j = 0 ∧ (t = 3 ∨ t = 4 ∨ t = 5 ∨ t = 7 ∨ t = 8)) → rd' k j t = rd k j t
def MF (md md' : SD) : Prop := ∀ k j t, k ≠ 31 → ¬ (k = 8 ∧ j = 0 ∧ 18 ≤ t ∧ t ≤ 25) → md' k j t = md k j t
theorem RF.rf (x : SD) : RF x x := fun _ _ _ _ => rfl
theorem RF.tr {x y z : SD} (h : RF x y) (g : RF y z) : RF x z := fun k j t a => (g k j t a).trans (h k j t a)
theorem MF.rf (x : SD) : MF x x := fun _ _ _ _ _ => rfl
theorem MF.tr {x y z : SD} (h : MF x y) (g : MF y z) : MF x z := fun k j t a c => (g k j t a c).trans (h k j t a c)
theorem RT.f {x y : SD} (h : RT x y) : RF x y := fun k j t a => h k j t (by omega)
theorem RM.f {x y : SD} (h : RM x y) : MF x y := fun k j t _ c => h k j t (by omega)
theorem MF.r31 {x y : SD} (h : MF x y) {t : Nat} {v : Int32} : MF x (upS y 31 0 t v) := fun k j q a c => by
  unfold upS
  rw [if_neg (fun z => a z.1)]
  exact h k j q a c
theorem MK.f {x y : SD} (h : MK 31 x y) : MF x y := fun k j t a _ => h k j t (by omega)
theorem BD.er {rd md : SD} (h : BD rd md) : ER md := by
  obtain ⟨k, h1, h2, -, h4, -⟩ := h
  exact ⟨k, h1, h2, h4⟩
section RDS
variable {T : Nat → Int32} {E x : Nat} {rd md : SD} {mw : Int64}
theorem GS.tok (h : GS T E x rd md mw) : ∃ rd', f_X5_nextToken rd = some rd' ∧ GC T E x rd' md mw ∧ RT rd rd' := by
  obtain ⟨⟨h1, h2, h3, h4, h5, h6⟩, h7, h8, h9⟩ := h
  obtain ⟨rd', q1, q2, q3, q4, q5⟩ := c_next h1 h7 h4.1 h8
  rw [h2] at q3 q4 q5
  refine ⟨rd', q1, ⟨⟨h1, ?_, h3, ⟨(q2 _ _ _ (by omega)).trans h4.1, (q2 _ _ _ (by omega)).trans h4.2⟩, h5, h6⟩, h7, q3, q4, q5, h9⟩, q2⟩
  rw [← h2]
  funext t
  exact q2 _ _ _ (by omega)
theorem g_good (h : md 8 0 18 = 0) : f_X8_good md = some 1 := by
  unfold f_X8_good
  rw [h, if_pos rfl]
theorem GC.on (h : GC T E x rd md mw) (hk : tkK T E x ≠ 0) : ∃ md' mw', f_X8_goesOn md mw = some (md', mw') ∧ GS T E (tkE T E x) rd md' mw' ∧ RM md md' := by
  obtain ⟨⟨h1, h2, h3, h4, h5, h6⟩, h7, h8, h9, h10, t1, t2, t3, t4⟩ := h
  obtain ⟨-, b2, -, -⟩ := tkE_b T h7
  obtain ⟨md', mw', q1, q2, q3⟩ := m_next (T := T) h1 b2 mw h5 (t3 hk) h3
  refine ⟨md', mw', ?_, ⟨⟨h1, h2, fun t ht => (q2 _ _ _ (by omega)).trans (h3 t ht), h4, (q2 _ _ _ (by omega)).trans h5, (q2 _ _ _ (by omega)).trans h6⟩, b2, h9, q3⟩, q2⟩
  unfold f_X8_goesOn
  rw [g_good h6, xb, if_neg i1, q1, xb]
theorem must_1 (md : SD) (c : Int32) : f_X8_must md 1 c = some md := by
  unfold f_X8_must
  rw [if_neg i1]
theorem er_ne (h : ER md) : ¬ md 8 0 18 ≤ 0 ∧ ¬ md 8 0 18 = 0 := by
  obtain ⟨k, k1, k2, k3⟩ := h
  rw [k3]
  constructor
  · show ¬ nI k ≤ nI 0
    rw [nI_leI (by omega) (by omega)]
    omega
  · show ¬ nI k = nI 0
    rw [nI_eq (by omega) (by omega)]
    omega
theorem e_good (h : ER md) : f_X8_good md = some 0 := by
  unfold f_X8_good
  rw [if_neg (er_ne h).2]
theorem e_must (h : ER md) (a c : Int32) : f_X8_must md a c = some md := by
  unfold f_X8_must
  rw [if_neg (er_ne h).1]
  split <;> rfl
theorem e_on (h : ER md) (mw : Int64) : f_X8_goesOn md mw = some (md, mw) := by
  unfold f_X8_goesOn
  rw [e_good h, xb, if_pos rfl]
theorem e_sees (h : ER md) (a c : Int32) : f_X8_sees md a c = some (0, md) := by
  unfold f_X8_sees
  simp only [xl]
  simp only [e_must h, xb, isIn32, e_good h, if_true]
  split <;> rfl
theorem e_takes (h : ER md) (mw : Int64) (a c : Int32) : f_X8_takes md mw a c = some (0, md, mw) := by
  unfold f_X8_takes
  rw [e_sees h, xb, xl, e_on h, xb]
theorem e_isWord (h : ER md) (mw w : Int64) : f_X8_isWord md mw w = some 0 := by
  unfold f_X8_isWord
  rw [e_good h, xb, if_pos rfl]
def M2 (md md' : SD) : Prop := ∀ k j t, ¬ (k = 8 ∧ j = 0 ∧ (t = 18 ∨ t = 19)) → md' k j t = md k j t
theorem M2.f {x y : SD} (h : M2 x y) : MF x y := fun k j t _ c => h k j t (by omega)
theorem fail_k (h : GC T E x rd md mw) {k : Nat} (h1 : 0 < k) (h2 : k < 7) : ∃ rd' md', f_X5_fail rd (nI k) = some (0, rd') ∧ (x_let (upS md 8 0 18 (nI k)) fun (md3 : SD) => x_let (upS md3 8 0 19 (md3 8 0 20)) fun (md4 : SD) => some (md4)) = some md' ∧ BD rd' md' ∧ RF rd rd' ∧ M2 md md' := by
  obtain ⟨-, -, h8, -, -, t1, -⟩ := h
  refine ⟨_, _, rfl, rfl, ⟨k, h1, h2, (upS_t (by omega)).trans (upS_hit _ _ _ _ _), (upS_t (by omega)).trans (upS_hit _ _ _ _ _), ?_⟩, fun k j t a => ?_, fun k j t a => ?_⟩
  · rw [upS_hit, upS_hit, upS_t (by omega), upS_t (by omega), h8, t1]
  · unfold upS
    rw [if_neg (by omega), if_neg (by omega)]
  · unfold upS
    rw [if_neg (by omega), if_neg (by omega)]
theorem fail_must (h : GC T E x rd md mw) {k : Nat} (h1 : 0 < k) (h2 : k < 7) (h3 : k ≠ 2) : ∃ rd' md', f_X5_fail rd (nI k) = some (0, rd') ∧ f_X8_must md 0 (nI k) = some md' ∧ BD rd' md' ∧ RF rd rd' ∧ M2 md md' := by
  obtain ⟨rd', md', a1, a2, a3⟩ := fail_k h h1 h2
  refine ⟨rd', md', a1, ?_, a3⟩
  have h6 : md 8 0 18 = 0 := h.1.2.2.2.2.2
  unfold f_X8_must
  rw [if_pos rfl, h6, if_pos (show (0 : Int32) ≤ 0 by decide)]
  simp only [xl]
  have n2 : ¬ nI k = (2 : Int32) := fun z => h3 ((nI_eq (b := 2) (by omega) (by omega)).mp z)
  rw [if_neg n2]
  simp only [xl] at a2
  exact a2
theorem rk_eq {k n : Nat} (hk : k < 5) (hn : n < 5) : (nI (rk k) = nI (rk n)) ↔ k = n := by
  have : ∀ k, k < 5 → ∀ n, n < 5 → ((rk k = rk n) ↔ k = n) := by decide
  have l : ∀ k, k < 5 → rk k < 5 := by decide
  have := l k hk
  have := l n hn
  rw [nI_eq (by omega) (by omega)]
  exact ‹∀ k, k < 5 → ∀ n, n < 5 → ((rk k = rk n) ↔ k = n)› k hk n hn
theorem tkK_lt (T : Nat → Int32) (E x : Nat) : tkK T E x < 5 := by
  unfold tkK
  split
  · omega
  · split
    · split <;> omega
    · split
      · split <;> omega
      · split <;> omega
theorem failU_must (h : GC T E x rd md mw) : ∃ rd' md', f_X5_failUnexpected rd = some (0, rd') ∧ f_X8_must md 0 2 = some md' ∧ BD rd' md' ∧ RF rd rd' ∧ M2 md md' := by
  have h5 : rd 5 0 5 = nI (tkK T E x) := h.2.2.2.2.1
  have h22 : md 8 0 22 = nI (rk (tkK T E x)) := h.2.2.2.2.2.2.1
  have h6 : md 8 0 18 = 0 := h.1.2.2.2.2.2
  have hk := tkK_lt T E x
  have e1 : (nI (tkK T E x) = (1 : Int32)) ↔ tkK T E x = 1 := nI_eq (b := 1) (by omega) (by omega)
  have e2 : (nI (rk (tkK T E x)) = (4 : Int32)) ↔ tkK T E x = 1 := rk_eq (n := 1) hk (by omega)
  unfold f_X5_failUnexpected f_X8_must
  rw [if_pos rfl, h6, if_pos (show (0 : Int32) ≤ 0 by decide), h5, h22]
  simp only [xl]
  rw [if_pos trivial]
  by_cases z : tkK T E x = 1
  · obtain ⟨rd', md', a1, a2, a3⟩ := fail_k h (k := 1) (by omega) (by omega)
    have a1 : f_X5_fail rd 1 = some (0, rd') := a1
    rw [if_pos (e1.mpr z), if_pos (e2.mpr z), a1, xb, x_guard_pos (Or.inl rfl)]
    simp only [xl] at a2
    exact ⟨rd', md', rfl, a2, a3⟩
  · obtain ⟨rd', md', a1, a2, a3⟩ := fail_k h (k := 2) (by omega) (by omega)
    have a1 : f_X5_fail rd 2 = some (0, rd') := a1
    rw [if_neg (fun y => z (e1.mp y)), if_neg (fun y => z (e2.mp y)), a1, xb, x_guard_pos (Or.inl rfl)]
    simp only [xl] at a2
    exact ⟨rd', md', rfl, a2, a3⟩
theorem c_value {e : Nat} (he : e ≤ 900) (h4 : rd 5 0 4 = nI e) : ∀ (n p f : Nat) (v : Int32), p + n = e → n < f → f_X5_tokenValue_L7 rd f v (nI p) = some (val (rd 20 0) n p v) := by
  intro n
  induction n with
  | zero =>
    intro p f v hp hf
    obtain ⟨f, rfl⟩ : ∃ q, f = q + 1 := ⟨f - 1, by omega⟩
    have : p = e := by omega
    subst this
    rw [f_X5_tokenValue_L7, h4, if_pos (nI_le (Nat.le_refl _) (by omega))]
    rfl
  | succ n ih =>
    intro p f v hp hf
    obtain ⟨f, rfl⟩ : ∃ q, f = q + 1 := ⟨f - 1, by omega⟩
    rw [f_X5_tokenValue_L7, h4, if_neg (by rw [nI_leI (by omega) (by omega)]; omega)]
    simp (disch := omega) only [xl, xg, vinT, nI_clamp, ra]
    exact ih (p + 1) f _ (by omega) (by omega)
/-- the value of the token -/
def tv (T : Nat → Int32) (E x : Nat) : Int32 := val T (tkE T E x - tkS T E x) (tkS T E x) 0
theorem nmb_both (h : GS T E x rd md mw) (lo hi : Int32) : (∃ rd', tkK T E x = 3 ∧ lo ≤ tv T E x ∧ tv T E x ≤ hi ∧ f_X5_readNumber rd lo hi = some (tv T E x, rd') ∧ f_X8_sees md lo hi = some (tv T E x, md) ∧ GC T E x rd' md mw ∧ RF rd rd') ∨ ∃ rd' md', f_X5_readNumber rd lo hi = some (-1, rd') ∧ f_X8_sees md lo hi = some (0, md') ∧ BD rd' md' ∧ RF rd rd' ∧ M2 md md' := by
  obtain ⟨rd1, a1, a2, a3⟩ := h.tok
  have hk := tkK_lt T E x
  obtain ⟨⟨g1, g2, g3, g4, g5, g6⟩, h7, h8, h9, h10, t1, t2, t3, t4, t5⟩ := id a2
  obtain ⟨b1, b2, b3, -⟩ := tkE_b T h7
  have e1 : (nI (tkK T E x) = (3 : Int32)) ↔ tkK T E x = 3 := nI_eq (b := 3) (by omega) (by omega)
  have e2 : (nI (rk (tkK T E x)) = (2 : Int32)) ↔ tkK T E x = 3 := rk_eq (n := 3) hk (by omega)
  unfold f_X5_readNumber f_X8_sees
  rw [a1, xb, h10, t2]
  simp only [xl]
  by_cases z : tkK T E x = 3
  · have hv := c_value (rd := rd1) (e := tkE T E x) (by omega) h9 (tkE T E x - tkS T E x) (tkS T E x) fuel 0 (by omega) (by unfold fuel; omega)
    rw [g2] at hv
    have hv : f_X5_tokenValue rd1 = some (tv T E x) := by
      unfold f_X5_tokenValue
      rw [xl, h8]
      exact hv
    have t4 : md 8 0 23 = tv T E x := t4 z
    rw [if_pos (e1.mpr z), if_pos (e2.mpr z), hv, xb, must_1, xb, t4, isIn32, xb]
    by_cases y : tv T E x < lo
    · obtain ⟨rd', md', c1, c2, c3, c4, c5⟩ := fail_must a2 (k := 3) (by omega) (by omega) (by omega)
      have c1 : f_X5_fail rd1 3 = some (0, rd') := c1
      have c2 : f_X8_must md 0 3 = some md' := c2
      rw [if_pos y, if_pos y, c1, xb, c2, xb, e_good c3.er, xb, if_pos rfl]
      exact Or.inr ⟨rd', md', rfl, rfl, c3, a3.f.tr c4, c5⟩
    · rw [if_neg y, if_neg y]
      by_cases w : tv T E x ≤ hi
      · rw [if_pos w, if_neg (i32_lt_le.mpr w), must_1, xb, g_good g6, xb, if_neg i1, t4]
        exact Or.inl ⟨rd1, z, i32_lt_le.mp y, w, rfl, rfl, a2, a3.f⟩
      · obtain ⟨rd', md', c1, c2, c3, c4, c5⟩ := fail_must a2 (k := 3) (by omega) (by omega) (by omega)
        have c1 : f_X5_fail rd1 3 = some (0, rd') := c1
        have c2 : f_X8_must md 0 3 = some md' := c2
        rw [if_neg w, if_pos (i32_le_lt.mp w), c1, xb, c2, xb, e_good c3.er, xb, if_pos rfl]
        exact Or.inr ⟨rd', md', rfl, rfl, c3, a3.f.tr c4, c5⟩
  · obtain ⟨rd', md', c1, c2, c3, c4, c5⟩ := failU_must a2
    rw [if_neg (fun y => z (e1.mp y)), if_neg (fun y => z (e2.mp y)), c1, xb, c2, xb, isIn32, xb, e_must c3.er, xb, e_good c3.er, xb, if_pos rfl]
    exact Or.inr ⟨rd', md', rfl, rfl, c3, a3.f.tr c4, c5⟩
/-- a number that both take -/
theorem take_both (h : GS T E x rd md mw) (lo hi : Int32) : (∃ rd' md' mw', lo ≤ tv T E x ∧ tv T E x ≤ hi ∧ f_X5_readNumber rd lo hi = some (tv T E x, rd') ∧ f_X8_takes md mw lo hi = some (tv T E x, md', mw') ∧ GS T E (tkE T E x) rd' md' mw' ∧ RF rd rd' ∧ RM md md' ∧ x < tkE T E x) ∨ ∃ rd' md', f_X5_readNumber rd lo hi = some (-1, rd') ∧ f_X8_takes md mw lo hi = some (0, md', mw) ∧ BD rd' md' ∧ RF rd rd' ∧ M2 md md' := by
  rcases nmb_both h lo hi with ⟨rd', a1, a2, a3, a4, a5, a6, a7⟩ | ⟨rd', md', a1, a2, a3, a4, a5⟩
  · obtain ⟨md', mw', b1, b2, b3⟩ := a6.on (by omega)
    obtain ⟨c1, c2⟩ := tkS_b T h.2.1
    obtain ⟨-, -, d3, -⟩ := tkE_b T h.2.1
    have := d3 (by omega)
    refine Or.inl ⟨rd', md', mw', a2, a3, a4, ?_, b2, a7, b3, by omega⟩
    unfold f_X8_takes
    rw [a5, xb, xl, b1, xb]
  · refine Or.inr ⟨rd', md', a1, ?_, a3, a4, a5⟩
    unfold f_X8_takes
    rw [a2, xb, xl, e_on a3.er, xb]
end RDS
theorem in_nat {v : Int32} {a b : Nat} (hb : b < 2 ^ 30) (h1 : nI a ≤ v) (h2 : v ≤ nI b) (ha : a < 2 ^ 30) : ∃ n, a ≤ n ∧ n ≤ b ∧ v = nI n := by
  have h : isR (nI a) (nI b) v = true := by
    unfold isR
    rw [decide_eq_true h1, decide_eq_true h2]
    rfl
  by_cases z : a ≤ b
  · exact isR_n hb h z
  · rw [Int32.le_iff_toInt_le, nI_toInt (by omega)] at h1 h2
    omega
theorem in_nat1 {v : Int32} {b : Nat} (hb : b < 2 ^ 30) (h1 : 0 ≤ v) (h2 : v ≤ nI b - 1) : ∃ n, n < b ∧ v = nI n := by
  have h3 : v < nI b := by
    rw [← i32_le_lt]
    intro z
    exact i32_lt_le.mpr h2 ((nI_m1 (by omega) v).mpr z)
  have h4 : v ≤ nI b := Int32.le_of_lt h3
  obtain ⟨n, n1, n2, rfl⟩ := in_nat (a := 0) hb h1 h4 (by omega)
  refine ⟨n, ?_, rfl⟩
  rw [nI_ltI (by omega) (by omega)] at h3
  exact h3
theorem nm1' {n : Nat} (h : n < 2 ^ 31) : ¬ nI n = -1 := by rw [nm1 h]; exact id
