/-! Layer 2: the tokens of a text -/
def isB (c : Int32) : Bool := decide (c = 32) || decide (c = 10)
def isR (a b c : Int32) : Bool := decide (a ≤ c) && decide (c ≤ b)
def run (P : Int32 → Bool) (T : Nat → Int32) : Nat → Nat → Nat
  | 0, p => p
  | n + 1, p => if P (T p) = true then run P T n (p + 1) else p
theorem run_ge (P : Int32 → Bool) (T : Nat → Int32) : ∀ n p, p ≤ run P T n p
  | 0, p => Nat.le_refl _
  | n + 1, p => by
    unfold run
    split
    · have := run_ge P T n (p + 1); omega
    · exact Nat.le_refl _
theorem run_le (P : Int32 → Bool) (T : Nat → Int32) : ∀ n p, run P T n p ≤ p + n
  | 0, p => Nat.le_refl _
  | n + 1, p => by
    unfold run
    split
    · have := run_le P T n (p + 1); omega
    · omega
theorem run_in (P : Int32 → Bool) (T : Nat → Int32) : ∀ n p q, p ≤ q → q < run P T n p → P (T q) = true
  | 0, p, q, h1, h2 => by
    unfold run at h2
    omega
  | n + 1, p, q, h1, h2 => by
    unfold run at h2
    by_cases z : P (T p) = true
    · rw [if_pos z] at h2
      by_cases e : q = p
      · subst e; exact z
      · exact run_in P T n (p + 1) q (by omega) h2
    · rw [if_neg z] at h2
      omega
theorem run_1 (P : Int32 → Bool) (T : Nat → Int32) {n p : Nat} (hn : 0 < n) (h : P (T p) = true) : p < run P T n p := by
  obtain ⟨n, rfl⟩ : ∃ k, n = k + 1 := ⟨n - 1, by omega⟩
  unfold run
  rw [if_pos h]
  have := run_ge P T n (p + 1)
  omega
/-- where the next token starts -/
def tkS (T : Nat → Int32) (E x : Nat) : Nat := run isB T (E - x) x
/-- where it ends -/
def tkE (T : Nat → Int32) (E x : Nat) : Nat := if E ≤ tkS T E x then tkS T E x else if isR 97 122 (T (tkS T E x)) = true then run (isR 97 122) T (E - tkS T E x) (tkS T E x) else if isR 48 57 (T (tkS T E x)) = true then run (isR 48 57) T (E - tkS T E x) (tkS T E x) else tkS T E x + 1
/-- its kind: 0 the end, 1 none of the others, 2 a word, 3 a number, 4 a semicolon -/
def tkK (T : Nat → Int32) (E x : Nat) : Nat := if E ≤ tkS T E x then 0 else if isR 97 122 (T (tkS T E x)) = true then (if run (isR 97 122) T (E - tkS T E x) (tkS T E x) - tkS T E x ≤ 8 then 2 else 1) else if isR 48 57 (T (tkS T E x)) = true then (if run (isR 48 57) T (E - tkS T E x) (tkS T E x) - tkS T E x ≤ 5 then 3 else 1) else if T (tkS T E x) = 59 then 4 else 1
theorem tkS_b (T : Nat → Int32) {E x : Nat} (hx : x ≤ E) : x ≤ tkS T E x ∧ tkS T E x ≤ E := by
  have h1 := run_ge isB T (E - x) x
  have h2 := run_le isB T (E - x) x
  unfold tkS
  omega
theorem tkE_b (T : Nat → Int32) {E x : Nat} (hx : x ≤ E) : tkS T E x ≤ tkE T E x ∧ tkE T E x ≤ E ∧ (tkK T E x ≠ 0 → tkS T E x < tkE T E x) ∧ (tkK T E x = 0 → tkS T E x = E) := by
  obtain ⟨h1, h2⟩ := tkS_b T hx
  unfold tkE tkK
  by_cases z : E ≤ tkS T E x
  · rw [if_pos z, if_pos z]
    exact ⟨Nat.le_refl _, h2, fun h => absurd rfl h, fun _ => by omega⟩
  · rw [if_neg z, if_neg z]
    by_cases y : isR 97 122 (T (tkS T E x)) = true
    · rw [if_pos y, if_pos y]
      have a1 := run_1 (isR 97 122) T (n := E - tkS T E x) (by omega) y
      have a2 := run_le (isR 97 122) T (E - tkS T E x) (tkS T E x)
      exact ⟨by omega, by omega, fun _ => a1, fun h => by split at h <;> omega⟩
    · rw [if_neg y, if_neg y]
      by_cases w : isR 48 57 (T (tkS T E x)) = true
      · rw [if_pos w, if_pos w]
        have a1 := run_1 (isR 48 57) T (n := E - tkS T E x) (by omega) w
        have a2 := run_le (isR 48 57) T (E - tkS T E x) (tkS T E x)
        exact ⟨by omega, by omega, fun _ => a1, fun h => by split at h <;> omega⟩
      · rw [if_neg w, if_neg w]
        exact ⟨by omega, by omega, fun _ => by omega, fun h => by split at h <;> omega⟩
theorem rng_b (c a b : Int32) : (if c < a then (0 : Int32) else if b < c then 0 else 1) = b01 (isR a b c) := by
  unfold isR b01
  by_cases z : c < a
  · rw [if_pos z, decide_eq_false (fun h => i32_lt_le.mpr h z), Bool.false_and, if_neg (by decide)]
  · rw [if_neg z, decide_eq_true (i32_lt_le.mp z), Bool.true_and]
    by_cases y : b < c
    · rw [if_pos y, decide_eq_false (fun h => i32_lt_le.mpr h y), if_neg (by decide)]
    · rw [if_neg y, decide_eq_true (i32_lt_le.mp y), if_pos rfl]
theorem c_between {rd : SD} {p : Nat} (hp : p < 900) (a b : Int32) : f_X5_isBetween rd (nI p) a b = some (b01 (isR a b (rd 20 0 p))) := by
  unfold f_X5_isBetween
  rw [← rng_b]
  simp (disch := omega) only [xg, vinT, nI_clamp]
  split
  · rfl
  · split <;> rfl
/-- the cells of the token -/
def RT (rd rd' : SD) : Prop := ∀ k j t, ¬ (k = 5 ∧ j = 0 ∧ (t = 3 ∨ t = 4 ∨ t = 5)) → rd' k j t = rd k j t
theorem RT.rf (x : SD) : RT x x := fun _ _ _ _ => rfl
theorem RT.tr {x y z : SD} (h : RT x y) (g : RT y z) : RT x z := fun k j t a => (g k j t a).trans (h k j t a)
theorem RT.up {x y : SD} (h : RT x y) {t : Nat} {v : Int32} (ht : t = 3 ∨ t = 4 ∨ t = 5) : RT x (upS y 5 0 t v) := fun k j q a => by
  unfold upS
  rw [if_neg (fun z => a ⟨z.1, z.2.1, by omega⟩)]
  exact h k j q a
theorem c_run {E : Nat} (hE : E ≤ 900) (a b : Int32) : ∀ (n p f : Nat) (rd : SD), p + n = E → n < f → rd 5 0 4 = nI p → rd 5 0 2 = nI E → ∃ rd', f_X5_endOfRun_L0 a b f rd = some (rd' 5 0 4 - rd 5 0 3, rd') ∧ rd' 5 0 4 = nI (run (isR a b) (rd 20 0) n p) ∧ ∀ k j t, ¬ (k = 5 ∧ j = 0 ∧ t = 4) → rd' k j t = rd k j t := by
  intro n
  induction n with
  | zero =>
    intro p f rd hp hf h4 h2
    obtain ⟨f, rfl⟩ : ∃ q, f = q + 1 := ⟨f - 1, by omega⟩
    have : p = E := by omega
    subst this
    rw [f_X5_endOfRun_L0, xl, h2, h4, if_pos (nI_le (Nat.le_refl _) (by omega))]
    exact ⟨rd, by rw [h4], h4, fun _ _ _ _ => rfl⟩
  | succ n ih =>
    intro p f rd hp hf h4 h2
    obtain ⟨f, rfl⟩ : ∃ q, f = q + 1 := ⟨f - 1, by omega⟩
    rw [f_X5_endOfRun_L0, xl, h2, h4, if_neg (by rw [nI_leI (by omega) (by omega)]; omega), c_between (by omega), xb]
    unfold run
    by_cases z : isR a b (rd 20 0 p) = true
    · rw [if_neg (by rw [b01_0, z]; decide), if_pos z, xl, ra (k := 1)]
      obtain ⟨rd', q1, q2, q3⟩ := ih (p + 1) f (upS rd 5 0 4 (nI (p + 1))) (by omega) (by omega) (upS_hit _ _ _ _ _) h2
      refine ⟨rd', q1, q2, fun k j t hn => ?_⟩
      rw [q3 k j t hn]
      unfold upS
      rw [if_neg hn]
    · rw [if_pos (by rw [b01_0]; exact Bool.eq_false_iff.mpr z), if_neg z]
      exact ⟨rd, by rw [h4], h4, fun _ _ _ _ => rfl⟩
/-- the class behind the blanks -/
theorem c_kind {rd : SD} {E x s : Nat} (hE : E ≤ 900) (hx : x ≤ E) (h2 : rd 5 0 2 = nI E) (h3 : rd 5 0 3 = nI s) (hs : s = tkS (rd 20 0) E x) : ∃ rd', (x_let (upS rd 5 0 4 (rd 5 0 3)) fun (rd3 : SD) => (if (rd3 5 0 3) < (rd3 5 0 2) then x_bind (f_X5_isBetween rd3 ((rd3 5 0 3)) (97 : Int32) (122 : Int32)) fun (q4 : Int32) => (if q4 = 0 then x_bind (f_X5_isBetween rd3 ((rd3 5 0 3)) (48 : Int32) (57 : Int32)) fun (q5 : Int32) => (if q5 = 0 then x_guard (vp_in (rd3 5 0 3) 900) <| (x_let (fun (y8 : Int32) => (x_let (upS rd3 5 0 5 y8) fun (rd9 : SD) => x_let (upS rd9 5 0 4 ((rd9 5 0 4) + (1 : Int32))) fun (rd10 : SD) => some (rd10) : Option SD)) fun K7 => (if (rd3 20 0 ((rd3 5 0 3)).toNatClampNeg) = (59 : Int32) then K7 ((4 : Int32)) else K7 ((1 : Int32)))) else x_bind (f_X5_endOfRun rd3 (48 : Int32) (57 : Int32)) fun (q11 : (Int32 × SD)) => (x_let (fun (y13 : Int32) => (x_let (upS q11.2 5 0 5 y13) fun (rd14 : SD) => some (rd14) : Option SD)) fun K12 => (if (5 : Int32) < q11.1 then K12 ((1 : Int32)) else K12 ((3 : Int32))))) else x_bind (f_X5_endOfRun rd3 (97 : Int32) (122 : Int32)) fun (q15 : (Int32 × SD)) => (x_let (fun (y17 : Int32) => (x_let (upS q15.2 5 0 5 y17) fun (rd18 : SD) => some (rd18) : Option SD)) fun K16 => (if (8 : Int32) < q15.1 then K16 ((1 : Int32)) else K16 ((2 : Int32))))) else x_let (upS rd3 5 0 5 (0 : Int32)) fun (rd19 : SD) => some (rd19))) = some rd' ∧ RT rd rd' ∧ rd' 5 0 3 = nI s ∧ rd' 5 0 4 = nI (tkE (rd 20 0) E x) ∧ rd' 5 0 5 = nI (tkK (rd 20 0) E x) := by
  obtain ⟨b1, b2⟩ := tkS_b (rd 20 0) hx
  have e3 : (upS rd 5 0 4 (rd 5 0 3)) 5 0 3 = nI s := (upS_t (by omega)).trans h3
  have e2 : (upS rd 5 0 4 (rd 5 0 3)) 5 0 2 = nI E := (upS_t (by omega)).trans h2
  have e4 : (upS rd 5 0 4 (rd 5 0 3)) 5 0 4 = nI s := (upS_hit _ _ _ _ _).trans h3
  have hT : (upS rd 5 0 4 (rd 5 0 3)) 20 0 = rd 20 0 := by funext t; exact upS_k (by omega)
  have hF : RT rd (upS rd 5 0 4 (rd 5 0 3)) := (RT.rf rd).up (by omega)
  generalize upS rd 5 0 4 (rd 5 0 3) = rd3 at *
  rw [xl, e3, e2]
  unfold tkE tkK
  rw [← hs] at b1 b2 ⊢
  by_cases z : s < E
  · rw [if_pos ((nI_ltI (by omega) (by omega)).mpr z), if_neg (show ¬ E ≤ s by omega), if_neg (show ¬ E ≤ s by omega), c_between (by omega), xb, hT]
    by_cases y : isR 97 122 (rd 20 0 s) = true
    · rw [if_neg (by rw [b01_0, y]; decide), if_pos y, if_pos y]
      obtain ⟨rd', q1, q2, q3⟩ := c_run hE 97 122 (E - s) s fuel rd3 (by omega) (by unfold fuel; omega) e4 e2
      rw [hT] at q2
      have c1 := run_ge (isR 97 122) (rd 20 0) (E - s) s
      have c2 := run_le (isR 97 122) (rd 20 0) (E - s) s
      unfold f_X5_endOfRun
      rw [q1, xb]
      simp only [xl]
      rw [q2, e3, pk_sub c1]
      have hF' : RT rd rd' := hF.tr (fun k j t a => q3 k j t (by omega))
      have e3' : rd' 5 0 3 = nI s := (q3 _ _ _ (by omega)).trans e3
      have l8 : ((8 : Int32) < nI (run (isR 97 122) (rd 20 0) (E - s) s - s)) ↔ 8 < run (isR 97 122) (rd 20 0) (E - s) s - s := nI_ltI (a := 8) (by omega) (by omega)
      by_cases w : run (isR 97 122) (rd 20 0) (E - s) s - s ≤ 8
      · rw [if_neg (fun h => by have := l8.mp h; omega), if_pos w]
        exact ⟨_, rfl, hF'.up (by omega), (upS_t (by omega)).trans e3', (upS_t (by omega)).trans q2, upS_hit _ _ _ _ _⟩
      · rw [if_pos (l8.mpr (by omega)), if_neg w]
        exact ⟨_, rfl, hF'.up (by omega), (upS_t (by omega)).trans e3', (upS_t (by omega)).trans q2, upS_hit _ _ _ _ _⟩
    · rw [if_pos (by rw [b01_0]; exact Bool.eq_false_iff.mpr y), if_neg y, if_neg y, c_between (by omega), xb, hT]
      by_cases w : isR 48 57 (rd 20 0 s) = true
      · rw [if_neg (by rw [b01_0, w]; decide), if_pos w, if_pos w]
        obtain ⟨rd', q1, q2, q3⟩ := c_run hE 48 57 (E - s) s fuel rd3 (by omega) (by unfold fuel; omega) e4 e2
        rw [hT] at q2
        have c1 := run_ge (isR 48 57) (rd 20 0) (E - s) s
        have c2 := run_le (isR 48 57) (rd 20 0) (E - s) s
        unfold f_X5_endOfRun
        rw [q1, xb]
        simp only [xl]
        rw [q2, e3, pk_sub c1]
        have hF' : RT rd rd' := hF.tr (fun k j t a => q3 k j t (by omega))
        have e3' : rd' 5 0 3 = nI s := (q3 _ _ _ (by omega)).trans e3
        have l5 : ((5 : Int32) < nI (run (isR 48 57) (rd 20 0) (E - s) s - s)) ↔ 5 < run (isR 48 57) (rd 20 0) (E - s) s - s := nI_ltI (a := 5) (by omega) (by omega)
        by_cases v : run (isR 48 57) (rd 20 0) (E - s) s - s ≤ 5
        · rw [if_neg (fun h => by have := l5.mp h; omega), if_pos v]
          exact ⟨_, rfl, hF'.up (by omega), (upS_t (by omega)).trans e3', (upS_t (by omega)).trans q2, upS_hit _ _ _ _ _⟩
        · rw [if_pos (l5.mpr (by omega)), if_neg v]
          exact ⟨_, rfl, hF'.up (by omega), (upS_t (by omega)).trans e3', (upS_t (by omega)).trans q2, upS_hit _ _ _ _ _⟩
      · rw [if_pos (by rw [b01_0]; exact Bool.eq_false_iff.mpr w), if_neg w, if_neg w, x_guard_pos (vp_in_nI (by omega) (by omega)), nI_clamp (by omega)]
        simp only [xl]
        have e4' : ∀ v, (upS rd3 5 0 5 v) 5 0 4 + 1 = nI (s + 1) := fun v => by rw [upS_t (by omega), e4, ra (k := 1)]
        by_cases v : rd 20 0 s = 59
        · rw [if_pos v, if_pos v, e4']
          exact ⟨_, rfl, (hF.up (by omega)).up (by omega), by rw [upS_t (by omega), upS_t (by omega)]; exact e3, upS_hit _ _ _ _ _, by rw [upS_t (by omega)]; exact upS_hit _ _ _ _ _⟩
        · rw [if_neg v, if_neg v, e4']
          exact ⟨_, rfl, (hF.up (by omega)).up (by omega), by rw [upS_t (by omega), upS_t (by omega)]; exact e3, upS_hit _ _ _ _ _, by rw [upS_t (by omega)]; exact upS_hit _ _ _ _ _⟩
  · rw [if_neg (by rw [nI_ltI (by omega) (by omega)]; exact z), if_pos (show E ≤ s by omega), if_pos (show E ≤ s by omega), xl]
    exact ⟨_, rfl, hF.up (by omega), (upS_t (by omega)).trans e3, (upS_t (by omega)).trans e4, upS_hit _ _ _ _ _⟩
theorem c_skip {E x : Nat} (hE : E ≤ 900) (hx : x ≤ E) : ∀ (n p f : Nat) (rd : SD), p + n = E → n < f → rd 5 0 3 = nI p → rd 5 0 2 = nI E → run isB (rd 20 0) n p = tkS (rd 20 0) E x → ∃ rd', f_X5_nextToken_L8 f rd = some rd' ∧ RT rd rd' ∧ rd' 5 0 3 = nI (tkS (rd 20 0) E x) ∧ rd' 5 0 4 = nI (tkE (rd 20 0) E x) ∧ rd' 5 0 5 = nI (tkK (rd 20 0) E x) := by
  intro n
  induction n with
  | zero =>
    intro p f rd hp hf h3 h2 hr
    obtain ⟨f, rfl⟩ : ∃ q, f = q + 1 := ⟨f - 1, by omega⟩
    have : p = E := by omega
    subst this
    obtain ⟨rd', q1, q2, q3, q4, q5⟩ := c_kind hE hx h2 h3 (show p = tkS (rd 20 0) p x from hr)
    refine ⟨rd', ?_, q2, by rw [← hr]; exact q3, q4, q5⟩
    rw [f_X5_nextToken_L8, xl, h2, h3, if_pos (nI_le (Nat.le_refl _) (by omega)), ← h3]
    exact q1
  | succ n ih =>
    intro p f rd hp hf h3 h2 hr
    obtain ⟨f, rfl⟩ : ∃ q, f = q + 1 := ⟨f - 1, by omega⟩
    unfold run at hr
    have cont : ∀ h : isB (rd 20 0 p) = true, ∃ rd', f_X5_nextToken_L8 f (upS rd 5 0 3 (nI (p + 1))) = some rd' ∧ RT rd rd' ∧ rd' 5 0 3 = nI (tkS (rd 20 0) E x) ∧ rd' 5 0 4 = nI (tkE (rd 20 0) E x) ∧ rd' 5 0 5 = nI (tkK (rd 20 0) E x) := fun h => by
      rw [if_pos h] at hr
      obtain ⟨rd', q1, q2, q3⟩ := ih (p + 1) f (upS rd 5 0 3 (nI (p + 1))) (by omega) (by omega) (upS_hit _ _ _ _ _) h2 hr
      exact ⟨rd', q1, ((RT.rf rd).up (by omega)).tr q2, q3⟩
    rw [f_X5_nextToken_L8]
    simp only [xl]
    rw [h2, h3, if_neg (by rw [nI_leI (by omega) (by omega)]; omega)]
    simp (disch := omega) only [xg, vinT, nI_clamp, ra]
    by_cases z : rd 20 0 p = 32
    · rw [if_pos z]
      exact cont (by unfold isB; rw [decide_eq_true z, Bool.true_or])
    · rw [if_neg z]
      by_cases y : rd 20 0 p = 10
      · rw [if_pos y]
        exact cont (by unfold isB; rw [decide_eq_true y, Bool.or_true])
      · rw [if_neg y]
        have hb : ¬ isB (rd 20 0 p) = true := by
          unfold isB
          rw [decide_eq_false z, decide_eq_false y]
          decide
        rw [if_neg hb] at hr
        obtain ⟨rd', q1, q2, q3, q4, q5⟩ := c_kind hE hx h2 h3 hr
        refine ⟨rd', ?_, q2, by rw [← hr]; exact q3, q4, q5⟩
        simp only [xl] at q1
        rw [← h3]
        exact q1
theorem c_next {rd : SD} {E x : Nat} (hE : E ≤ 900) (hx : x ≤ E) (h2 : rd 5 0 2 = nI E) (h4 : rd 5 0 4 = nI x) : ∃ rd', f_X5_nextToken rd = some rd' ∧ RT rd rd' ∧ rd' 5 0 3 = nI (tkS (rd 20 0) E x) ∧ rd' 5 0 4 = nI (tkE (rd 20 0) E x) ∧ rd' 5 0 5 = nI (tkK (rd 20 0) E x) := by
  obtain ⟨rd', q1, q2, q3⟩ := c_skip hE hx (E - x) x fuel (upS rd 5 0 3 (rd 5 0 4)) (by omega) (by unfold fuel; omega) ((upS_hit _ _ _ _ _).trans h4) h2 rfl
  refine ⟨rd', ?_, ((RT.rf rd).up (by omega)).tr q2, q3⟩
  unfold f_X5_nextToken
  rw [xl]
  exact q1
