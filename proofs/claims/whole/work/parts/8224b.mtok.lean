/-! Layer 2: the reference's tokens -/
def val (T : Nat → Int32) : Nat → Nat → Int32 → Int32
  | 0, _, v => v
  | k + 1, p, v => val T k (p + 1) (v * 10 + (T p - 48))
def wd (B : Nat) (T : Nat → Int32) : Nat → Nat → Nat → Nat
  | 0, _, v => v
  | k + 1, p, v => wd B T k (p + 1) (B * v + ((T p).toNatClampNeg - 96))
/-- the reference's number of a kind -/
def rk (k : Nat) : Nat := if k = 0 then 0 else if k = 1 then 4 else k - 1
/-- the reference's token is the one behind x -/
def TokM (T : Nat → Int32) (E x : Nat) (md : SD) (mw : Int64) : Prop := md 8 0 20 = nI (tkS T E x) ∧ md 8 0 22 = nI (rk (tkK T E x)) ∧ (tkK T E x ≠ 0 → md 8 0 21 = nI (tkE T E x)) ∧ (tkK T E x = 3 → md 8 0 23 = val T (tkE T E x - tkS T E x) (tkS T E x) 0) ∧ (tkK T E x = 2 → mw = lN (wd 27 T (tkE T E x - tkS T E x) (tkS T E x) 0))
def RM (md md' : SD) : Prop := ∀ k j t, ¬ (k = 8 ∧ j = 0 ∧ 20 ≤ t ∧ t ≤ 23) → md' k j t = md k j t
theorem RM.rf (x : SD) : RM x x := fun _ _ _ _ => rfl
theorem RM.tr {x y z : SD} (h : RM x y) (g : RM y z) : RM x z := fun k j t a => (g k j t a).trans (h k j t a)
theorem RM.up {x y : SD} (h : RM x y) {t : Nat} {v : Int32} (ht : 20 ≤ t ∧ t ≤ 23) : RM x (upS y 8 0 t v) := fun k j q a => by
  unfold upS
  rw [if_neg (fun z => a ⟨z.1, z.2.1, by omega⟩)]
  exact h k j q a
theorem b01_if (b : Bool) : (if b01 b = 0 then some (0 : Int32) else some 1) = some (b01 b) := by cases b <;> rfl
theorem m_isOf {md : SD} {p E : Nat} (hE : E ≤ 900) (hp : p < 2 ^ 30) (h24 : md 8 0 24 = nI E) (a b : Int32) : f_X8_isOf md (nI p) a b = some (b01 (decide (p < E) && isR a b (md 38 0 p))) := by
  unfold f_X8_isOf
  rw [h24]
  by_cases z : p < E
  · rw [if_neg (by rw [nI_leI (by omega) (by omega)]; omega), x_guard_pos (vp_in_nI (by omega) (by omega)), nI_clamp (by omega), isIn32, rng_b, xb, b01_if, decide_eq_true z, Bool.true_and]
  · rw [if_pos (nI_le (by omega) (by omega)), decide_eq_false z, Bool.false_and]
    rfl
theorem isR_eq (c k : Int32) : isR k k c = decide (c = k) := by
  unfold isR
  by_cases z : c = k
  · subst z
    rw [decide_eq_true (Int32.le_refl _), decide_eq_true rfl]
    rfl
  · rw [decide_eq_false z]
    refine Bool.eq_false_iff.mpr (fun h => z ?_)
    rw [Bool.and_eq_true, decide_eq_true_eq, decide_eq_true_eq] at h
    exact Int32.le_antisymm h.2 h.1
theorem isR_n {a b : Nat} {c : Int32} (hb : b < 2 ^ 30) (h : isR (nI a) (nI b) c = true) (ha : a ≤ b) : ∃ n, a ≤ n ∧ n ≤ b ∧ c = nI n := by
  unfold isR at h
  rw [Bool.and_eq_true, decide_eq_true_eq, decide_eq_true_eq] at h
  rcases pk_ix c (n := b + 1) (by omega) with z | z | ⟨n, hn, rfl⟩
  · exact absurd (Int32.lt_of_lt_of_le z (nI_pos' (n := a) (by omega))) (i32_lt_le.mpr h.1)
  · have h2 := h.2
    rw [Int32.le_iff_toInt_le, nI_toInt (by omega)] at z h2
    omega
  · rw [nI_leI (by omega) (by omega), nI_leI (by omega) (by omega)] at h
    exact ⟨n, h.1, h.2, rfl⟩
section MTK
variable {T : Nat → Int32} {E : Nat}
theorem m_r254 (hE : E ≤ 900) {s : Nat} : ∀ (n p f : Nat) (md : SD) (v : Int32), p + n = E → n < f → s ≤ p → md 8 0 21 = nI p → md 8 0 20 = nI s → md 8 0 23 = v → md 8 0 24 = nI E → (∀ t, t < E → md 38 0 t = T t) → ∃ md', f_X8_next_L254 f md = some md' ∧ md' 8 0 21 = nI (run (isR 48 57) T n p) ∧ (run (isR 48 57) T n p - s ≤ 5 → md' 8 0 23 = val T (run (isR 48 57) T n p - p) p v) ∧ ∀ k j t, ¬ (k = 8 ∧ j = 0 ∧ (t = 21 ∨ t = 23)) → md' k j t = md k j t := by
  intro n
  induction n with
  | zero =>
    intro p f md v hp hf hs h21 h20 h23 h24 hT
    obtain ⟨f, rfl⟩ : ∃ q, f = q + 1 := ⟨f - 1, by omega⟩
    have : p = E := by omega
    subst this
    rw [f_X8_next_L254, h21, m_isOf hE (by omega) h24, xb, decide_eq_false (Nat.lt_irrefl _), Bool.false_and, if_pos (show b01 false = 0 from rfl)]
    refine ⟨md, rfl, h21, fun _ => ?_, fun _ _ _ _ => rfl⟩
    show _ = val T (p - p) p v
    rw [Nat.sub_self]
    exact h23
  | succ n ih =>
    intro p f md v hp hf hs h21 h20 h23 h24 hT
    obtain ⟨f, rfl⟩ : ∃ q, f = q + 1 := ⟨f - 1, by omega⟩
    rw [f_X8_next_L254, h21, m_isOf hE (by omega) h24, xb, decide_eq_true (show p < E by omega), Bool.true_and, hT p (by omega), h20, pk_sub hs]
    unfold run
    by_cases z : isR 48 57 (T p) = true
    · rw [if_neg (by rw [b01_0, z]; decide), if_pos z]
      simp only [xl]
      have l5 : ((5 : Int32) ≤ nI (p - s)) ↔ 5 ≤ p - s := nI_leI (a := 5) (by omega) (by omega)
      have hg := run_ge (isR 48 57) T n (p + 1)
      have key : ∀ w, (p - s < 5 → w = v * 10 + (T p - 48)) → ∃ md', f_X8_next_L254 f (upS (upS md 8 0 23 w) 8 0 21 ((upS md 8 0 23 w) 8 0 21 + 1)) = some md' ∧ md' 8 0 21 = nI (run (isR 48 57) T n (p + 1)) ∧ (run (isR 48 57) T n (p + 1) - s ≤ 5 → md' 8 0 23 = val T (run (isR 48 57) T n (p + 1) - p) p v) ∧ ∀ k j t, ¬ (k = 8 ∧ j = 0 ∧ (t = 21 ∨ t = 23)) → md' k j t = md k j t := fun w hw => by
        obtain ⟨md', q1, q2, q3, q4⟩ := ih (p + 1) f (upS (upS md 8 0 23 w) 8 0 21 (nI (p + 1))) w (by omega) (by omega) (by omega) (upS_hit _ _ _ _ _) ((upS_t (by omega)).trans ((upS_t (by omega)).trans h20)) ((upS_t (by omega)).trans (upS_hit _ _ _ _ _)) ((upS_t (by omega)).trans ((upS_t (by omega)).trans h24)) hT
        refine ⟨md', ?_, q2, fun h => ?_, fun k j t hn => ?_⟩
        · rw [upS_t (show (21 : Nat) ≠ 23 by omega), h21, ra (k := 1)]
          exact q1
        · rw [q3 h, hw (by omega)]
          obtain ⟨c, hc⟩ : ∃ c, run (isR 48 57) T n (p + 1) - p = c + 1 := ⟨run (isR 48 57) T n (p + 1) - p - 1, by omega⟩
          rw [hc, show run (isR 48 57) T n (p + 1) - (p + 1) = c by omega]
          rfl
        · rw [q4 k j t hn]
          unfold upS
          rw [if_neg (by omega), if_neg (by omega)]
      by_cases y : 5 ≤ p - s
      · rw [if_pos (l5.mpr y)]
        exact key _ (fun h => by omega)
      · rw [if_neg (fun h => y (l5.mp h)), x_guard_pos (vp_in_nI (by omega) (by omega)), nI_clamp (by omega), hT p (by omega), h23]
        exact key _ (fun _ => by grind)
    · rw [if_pos (by rw [b01_0]; exact Bool.eq_false_iff.mpr z), if_neg z]
      refine ⟨md, rfl, h21, fun _ => ?_, fun _ _ _ _ => rfl⟩
      show _ = val T (p - p) p v
      rw [Nat.sub_self]
      exact h23
theorem m_r127 (hE : E ≤ 900) {s : Nat} : ∀ (n p f : Nat) (md : SD) (mw : Int64) (v : Nat), p + n = E → n < f → s ≤ p → md 8 0 21 = nI p → md 8 0 20 = nI s → (p - s ≤ 8 → mw = lN v) → md 8 0 24 = nI E → (∀ t, t < E → md 38 0 t = T t) → ∃ md' mw', f_X8_next_L127 f md mw = some (md', mw') ∧ md' 8 0 21 = nI (run (isR 97 122) T n p) ∧ (run (isR 97 122) T n p - s ≤ 8 → mw' = lN (wd 27 T (run (isR 97 122) T n p - p) p v)) ∧ ∀ k j t, ¬ (k = 8 ∧ j = 0 ∧ t = 21) → md' k j t = md k j t := by
  intro n
  induction n with
  | zero =>
    intro p f md mw v hp hf hs h21 h20 hv h24 hT
    obtain ⟨f, rfl⟩ : ∃ q, f = q + 1 := ⟨f - 1, by omega⟩
    have : p = E := by omega
    subst this
    rw [f_X8_next_L127, h21, m_isOf hE (by omega) h24, xb, decide_eq_false (Nat.lt_irrefl _), Bool.false_and, if_pos (show b01 false = 0 from rfl)]
    refine ⟨md, mw, rfl, h21, fun h => ?_, fun _ _ _ _ => rfl⟩
    show _ = lN (wd 27 T (p - p) p v)
    rw [Nat.sub_self]
    exact hv h
  | succ n ih =>
    intro p f md mw v hp hf hs h21 h20 hv h24 hT
    obtain ⟨f, rfl⟩ : ∃ q, f = q + 1 := ⟨f - 1, by omega⟩
    rw [f_X8_next_L127, h21, m_isOf hE (by omega) h24, xb, decide_eq_true (show p < E by omega), Bool.true_and, hT p (by omega), h20, pk_sub hs]
    unfold run
    by_cases z : isR 97 122 (T p) = true
    · rw [if_neg (by rw [b01_0, z]; decide), if_pos z]
      simp only [xl]
      have l8 : ((8 : Int32) ≤ nI (p - s)) ↔ 8 ≤ p - s := nI_leI (a := 8) (by omega) (by omega)
      have hg := run_ge (isR 97 122) T n (p + 1)
      obtain ⟨x, x1, x2, x3⟩ := isR_n (a := 97) (b := 122) (by omega) z (by omega)
      have key : ∀ w : Int64, (p + 1 - s ≤ 8 → w = lN (27 * v + ((T p).toNatClampNeg - 96))) → ∃ md' mw', f_X8_next_L127 f (upS md 8 0 21 (nI (p + 1))) w = some (md', mw') ∧ md' 8 0 21 = nI (run (isR 97 122) T n (p + 1)) ∧ (run (isR 97 122) T n (p + 1) - s ≤ 8 → mw' = lN (wd 27 T (run (isR 97 122) T n (p + 1) - p) p v)) ∧ ∀ k j t, ¬ (k = 8 ∧ j = 0 ∧ t = 21) → md' k j t = md k j t := fun w hw => by
        obtain ⟨md', mw', q1, q2, q3, q4⟩ := ih (p + 1) f (upS md 8 0 21 (nI (p + 1))) w _ (by omega) (by omega) (by omega) (upS_hit _ _ _ _ _) ((upS_t (by omega)).trans h20) hw ((upS_t (by omega)).trans h24) hT
        refine ⟨md', mw', q1, q2, fun h => ?_, fun k j t hn => ?_⟩
        · rw [q3 h]
          obtain ⟨c, hc⟩ : ∃ c, run (isR 97 122) T n (p + 1) - p = c + 1 := ⟨run (isR 97 122) T n (p + 1) - p - 1, by omega⟩
          rw [hc, show run (isR 97 122) T n (p + 1) - (p + 1) = c by omega]
          rfl
        · rw [q4 k j t hn]
          unfold upS
          rw [if_neg (by omega)]
      rw [ra (k := 1)]
      by_cases y : 8 ≤ p - s
      · rw [if_pos (l8.mpr y)]
        exact key _ (fun h => by omega)
      · rw [if_neg (fun h => y (l8.mp h)), x_guard_pos (vp_in_nI (by omega) (by omega)), nI_clamp (by omega), hT p (by omega), hv (by omega)]
        refine key _ (fun _ => ?_)
        rw [x3, nI_l (by omega), nI_clamp (by omega)]
        show lN 27 * lN v + lN x - lN 96 = _
        rw [lN_mul, lN_add, lN_sub (by omega)]
        congr 1
        omega
    · rw [if_pos (by rw [b01_0]; exact Bool.eq_false_iff.mpr z), if_neg z]
      refine ⟨md, mw, rfl, h21, fun h => ?_, fun _ _ _ _ => rfl⟩
      show _ = lN (wd 27 T (p - p) p v)
      rw [Nat.sub_self]
      exact hv h
theorem m_skip (hE : E ≤ 900) {x : Nat} (hx : x ≤ E) (mw : Int64) : ∀ (n p f : Nat) (md : SD), p + n = E → n < f → md 8 0 20 = nI p → md 8 0 24 = nI E → (∀ t, t < E → md 38 0 t = T t) → run isB T n p = tkS T E x → ∃ md' mw', f_X8_next_L8 mw f md = some (md', mw') ∧ RM md md' ∧ TokM T E x md' mw' := by
  have fin : ∀ (p : Nat) (md : SD), p ≤ E → md 8 0 20 = nI p → md 8 0 24 = nI E → (∀ t, t < E → md 38 0 t = T t) → p = tkS T E x → ∃ md' mw', (x_let (upS md 8 0 21 ((md 8 0 20) + (1 : Int32))) fun (md6 : SD) => (x_let (fun (y8 : Int32) => (x_let (upS md6 8 0 22 y8) fun (md9 : SD) => x_bind (f_X8_isOf md9 ((md9 8 0 20)) (97 : Int32) (122 : Int32)) fun (q10 : Int32) => (if q10 = 0 then x_bind (f_X8_isOf md9 ((md9 8 0 20)) (48 : Int32) (57 : Int32)) fun (q11 : Int32) => (if q11 = 0 then some (md9, mw) else x_let (upS md9 8 0 23 (0 : Int32)) fun (md12 : SD) => x_let (upS md12 8 0 21 (md12 8 0 20)) fun (md13 : SD) => x_bind (f_X8_next_L254  fuel (md13)) fun (q14 : (SD)) => (x_let (fun (y22 : Int32) => (x_let (upS q14 8 0 22 y22) fun (md23 : SD) => some (md23, mw) : Option (SD × Int64))) fun K21 => (if ((q14 8 0 21) - (q14 8 0 20)) ≤ (5 : Int32) then K21 ((2 : Int32)) else K21 ((4 : Int32))))) else x_let ((0 : Int64)) fun (mw24 : Int64) => x_let (upS md9 8 0 21 (md9 8 0 20)) fun (md25 : SD) => x_bind (f_X8_next_L127  fuel (md25) (mw24)) fun (q26 : (SD × Int64)) => (x_let (fun (y34 : Int32) => (x_let (upS q26.1 8 0 22 y34) fun (md35 : SD) => some (md35, q26.2) : Option (SD × Int64))) fun K33 => (if ((q26.1 8 0 21) - (q26.1 8 0 20)) ≤ (8 : Int32) then K33 ((1 : Int32)) else K33 ((4 : Int32))))) : Option (SD × Int64))) fun K7 => (if (md6 8 0 20) < (md6 8 0 24) then x_guard (vp_in (md6 8 0 20) 900) <| (if (md6 38 0 ((md6 8 0 20)).toNatClampNeg) = (59 : Int32) then K7 ((3 : Int32)) else K7 ((4 : Int32))) else K7 ((0 : Int32))))) = some (md', mw') ∧ RM md md' ∧ TokM T E x md' mw' := by
    intro p md hpE h20 h24 hT hp
    have core : ∀ y : Nat, (E ≤ p → y = 0) → (p < E → T p = 59 → y = 3) → (p < E → ¬ T p = 59 → y = 4) → ∃ md' mw', (x_let (upS (upS md 8 0 21 (nI (p + 1))) 8 0 22 (nI y)) fun (md9 : SD) => x_bind (f_X8_isOf md9 ((md9 8 0 20)) (97 : Int32) (122 : Int32)) fun (q10 : Int32) => (if q10 = 0 then x_bind (f_X8_isOf md9 ((md9 8 0 20)) (48 : Int32) (57 : Int32)) fun (q11 : Int32) => (if q11 = 0 then some (md9, mw) else x_let (upS md9 8 0 23 (0 : Int32)) fun (md12 : SD) => x_let (upS md12 8 0 21 (md12 8 0 20)) fun (md13 : SD) => x_bind (f_X8_next_L254  fuel (md13)) fun (q14 : (SD)) => (x_let (fun (y22 : Int32) => (x_let (upS q14 8 0 22 y22) fun (md23 : SD) => some (md23, mw) : Option (SD × Int64))) fun K21 => (if ((q14 8 0 21) - (q14 8 0 20)) ≤ (5 : Int32) then K21 ((2 : Int32)) else K21 ((4 : Int32))))) else x_let ((0 : Int64)) fun (mw24 : Int64) => x_let (upS md9 8 0 21 (md9 8 0 20)) fun (md25 : SD) => x_bind (f_X8_next_L127  fuel (md25) (mw24)) fun (q26 : (SD × Int64)) => (x_let (fun (y34 : Int32) => (x_let (upS q26.1 8 0 22 y34) fun (md35 : SD) => some (md35, q26.2) : Option (SD × Int64))) fun K33 => (if ((q26.1 8 0 21) - (q26.1 8 0 20)) ≤ (8 : Int32) then K33 ((1 : Int32)) else K33 ((4 : Int32)))))) = some (md', mw') ∧ RM md md' ∧ TokM T E x md' mw' := by
      intro y y0 y3 y4
      have hF : RM md (upS (upS md 8 0 21 (nI (p + 1))) 8 0 22 (nI y)) := ((RM.rf md).up (by omega)).up (by omega)
      have f20 : (upS (upS md 8 0 21 (nI (p + 1))) 8 0 22 (nI y)) 8 0 20 = nI p := (upS_t (by omega)).trans ((upS_t (by omega)).trans h20)
      have f21 : (upS (upS md 8 0 21 (nI (p + 1))) 8 0 22 (nI y)) 8 0 21 = nI (p + 1) := (upS_t (by omega)).trans (upS_hit _ _ _ _ _)
      have f22 : (upS (upS md 8 0 21 (nI (p + 1))) 8 0 22 (nI y)) 8 0 22 = nI y := upS_hit _ _ _ _ _
      have f24 : (upS (upS md 8 0 21 (nI (p + 1))) 8 0 22 (nI y)) 8 0 24 = nI E := (upS_t (by omega)).trans ((upS_t (by omega)).trans h24)
      have fT : ∀ t, t < E → (upS (upS md 8 0 21 (nI (p + 1))) 8 0 22 (nI y)) 38 0 t = T t := hT
      generalize upS (upS md 8 0 21 (nI (p + 1))) 8 0 22 (nI y) = m9 at *
      rw [xl, f20, m_isOf hE (by omega) f24, xb, m_isOf hE (by omega) f24, xb]
      unfold TokM tkE tkK
      rw [← hp]
      by_cases z : E ≤ p
      · rw [decide_eq_false (show ¬ p < E by omega), Bool.false_and, Bool.false_and, if_pos (show b01 false = 0 from rfl), if_pos (show b01 false = 0 from rfl)]
        refine ⟨m9, mw, rfl, hF, f20, ?_, ?_, ?_, ?_⟩
        · rw [f22, y0 z, if_pos z]
          rfl
        · rw [if_pos z]; intro h; exact absurd rfl h
        · rw [if_pos z]; intro h; omega
        · rw [if_pos z]; intro h; omega
      · have hlt : p < E := by omega
        rw [decide_eq_true hlt, Bool.true_and, Bool.true_and, fT p hlt]
        by_cases w : isR 97 122 (T p) = true
        · rw [if_neg (by rw [b01_0, w]; decide)]
          simp only [xl]
          obtain ⟨m', mw', q1, q2, q3, q4⟩ := m_r127 (T := T) hE (s := p) (E - p) p fuel (upS m9 8 0 21 (nI p)) 0 0 (by omega) (by unfold fuel; omega) (Nat.le_refl _) (upS_hit _ _ _ _ _) ((upS_t (by omega)).trans f20) (fun _ => rfl) ((upS_t (by omega)).trans f24) fT
          have c1 := run_ge (isR 97 122) T (E - p) p
          have c2 := run_le (isR 97 122) T (E - p) p
          have q20 : m' 8 0 20 = nI p := (q4 _ _ _ (by omega)).trans ((upS_t (by omega)).trans f20)
          rw [q1, xb]
          simp only
          rw [q2, q20, pk_sub c1]
          have l8 : (nI (run (isR 97 122) T (E - p) p - p) ≤ (8 : Int32)) ↔ run (isR 97 122) T (E - p) p - p ≤ 8 := nI_leI (b := 8) (by omega) (by omega)
          have hF' : RM md m' := hF.tr (((RM.rf m9).up (t := 21) (by omega)).tr (fun k j t a => q4 k j t (by omega)))
          by_cases v : run (isR 97 122) T (E - p) p - p ≤ 8
          · rw [if_pos (l8.mpr v)]
            refine ⟨_, mw', rfl, hF'.up (by omega), (upS_t (by omega)).trans q20, ?_, ?_, ?_, ?_⟩
            all_goals simp only [if_neg z, if_pos w, if_pos v]
            · exact upS_hit _ _ _ _ _
            · exact fun _ => (upS_t (by omega)).trans q2
            · intro h; omega
            · exact fun _ => q3 v
          · rw [if_neg (fun h => v (l8.mp h))]
            refine ⟨_, mw', rfl, hF'.up (by omega), (upS_t (by omega)).trans q20, ?_, ?_, ?_, ?_⟩
            all_goals simp only [if_neg z, if_pos w, if_neg v]
            · exact upS_hit _ _ _ _ _
            · exact fun _ => (upS_t (by omega)).trans q2
            · intro h; omega
            · intro h; omega
        · rw [if_pos (by rw [b01_0]; exact Bool.eq_false_iff.mpr w)]
          by_cases u : isR 48 57 (T p) = true
          · rw [if_neg (by rw [b01_0, u]; decide)]
            simp only [xl]
            rw [upS_t (show (20 : Nat) ≠ 23 by omega), f20]
            obtain ⟨m', q1, q2, q3, q4⟩ := m_r254 (T := T) hE (s := p) (E - p) p fuel (upS (upS m9 8 0 23 0) 8 0 21 (nI p)) 0 (by omega) (by unfold fuel; omega) (Nat.le_refl _) (upS_hit _ _ _ _ _) ((upS_t (by omega)).trans ((upS_t (by omega)).trans f20)) ((upS_t (by omega)).trans (upS_hit _ _ _ _ _)) ((upS_t (by omega)).trans ((upS_t (by omega)).trans f24)) fT
            have c1 := run_ge (isR 48 57) T (E - p) p
            have c2 := run_le (isR 48 57) T (E - p) p
            have q20 : m' 8 0 20 = nI p := (q4 _ _ _ (by omega)).trans ((upS_t (by omega)).trans ((upS_t (by omega)).trans f20))
            rw [q1, xb, q2, q20, pk_sub c1]
            have l5 : (nI (run (isR 48 57) T (E - p) p - p) ≤ (5 : Int32)) ↔ run (isR 48 57) T (E - p) p - p ≤ 5 := nI_leI (b := 5) (by omega) (by omega)
            have hF' : RM md m' := hF.tr ((((RM.rf m9).up (t := 23) (by omega)).up (t := 21) (by omega)).tr (fun k j t a => q4 k j t (by omega)))
            by_cases v : run (isR 48 57) T (E - p) p - p ≤ 5
            · rw [if_pos (l5.mpr v)]
              refine ⟨_, mw, rfl, hF'.up (by omega), (upS_t (by omega)).trans q20, ?_, ?_, ?_, ?_⟩
              all_goals simp only [if_neg z, if_neg w, if_pos u, if_pos v]
              · exact upS_hit _ _ _ _ _
              · exact fun _ => (upS_t (by omega)).trans q2
              · exact fun _ => (upS_t (by omega)).trans (q3 v)
              · intro h; omega
            · rw [if_neg (fun h => v (l5.mp h))]
              refine ⟨_, mw, rfl, hF'.up (by omega), (upS_t (by omega)).trans q20, ?_, ?_, ?_, ?_⟩
              all_goals simp only [if_neg z, if_neg w, if_pos u, if_neg v]
              · exact upS_hit _ _ _ _ _
              · exact fun _ => (upS_t (by omega)).trans q2
              · intro h; omega
              · intro h; omega
          · rw [if_pos (by rw [b01_0]; exact Bool.eq_false_iff.mpr u)]
            by_cases v : T p = 59
            · refine ⟨m9, mw, rfl, hF, f20, ?_, ?_, ?_, ?_⟩
              all_goals simp only [if_neg z, if_neg w, if_neg u, if_pos v]
              · rw [f22, y3 hlt v]; rfl
              · exact fun _ => f21
              · intro h; omega
              · intro h; omega
            · refine ⟨m9, mw, rfl, hF, f20, ?_, ?_, ?_, ?_⟩
              all_goals simp only [if_neg z, if_neg w, if_neg u, if_neg v]
              · rw [f22, y4 hlt v]; rfl
              · exact fun _ => f21
              · intro h; omega
              · intro h; omega
    rw [xl, xl, h20, ra (k := 1)]
    have g20 : (upS md 8 0 21 (nI (p + 1))) 8 0 20 = nI p := (upS_t (by omega)).trans h20
    have g24 : (upS md 8 0 21 (nI (p + 1))) 8 0 24 = nI E := (upS_t (by omega)).trans h24
    have gT : ∀ t, t < E → (upS md 8 0 21 (nI (p + 1))) 38 0 t = T t := hT
    rw [g20, g24]
    by_cases z : p < E
    · rw [if_pos ((nI_ltI (by omega) (by omega)).mpr z), x_guard_pos (vp_in_nI (by omega) (by omega)), nI_clamp (by omega), gT p z]
      by_cases v : T p = 59
      · rw [if_pos v]
        exact core 3 (fun h => by omega) (fun _ _ => rfl) (fun _ h => absurd v h)
      · rw [if_neg v]
        exact core 4 (fun h => by omega) (fun _ h => absurd h v) (fun _ _ => rfl)
    · rw [if_neg (by rw [nI_ltI (by omega) (by omega)]; exact z)]
      exact core 0 (fun _ => rfl) (fun h => absurd h z) (fun h => absurd h z)
  intro n
  induction n with
  | zero =>
    intro p f md hp hf h20 h24 hT hr
    obtain ⟨f, rfl⟩ : ∃ q, f = q + 1 := ⟨f - 1, by omega⟩
    obtain ⟨md', mw', q1, q2, q3⟩ := fin p md (by omega) h20 h24 hT hr
    refine ⟨md', mw', ?_, q2, q3⟩
    rw [f_X8_next_L8, h20, m_isOf hE (by omega) h24, xb, m_isOf hE (by omega) h24]
    simp only [xl]
    rw [decide_eq_false (show ¬ p < E by omega), Bool.false_and, Bool.false_and, if_pos (show b01 false = 0 from rfl), xb, if_pos (show b01 false = 0 from rfl)]
    simp only [xl, h20] at q1
    exact q1
  | succ n ih =>
    intro p f md hp hf h20 h24 hT hr
    obtain ⟨f, rfl⟩ : ∃ q, f = q + 1 := ⟨f - 1, by omega⟩
    unfold run at hr
    have cont : ∀ h : isB (T p) = true, ∃ md' mw', f_X8_next_L8 mw f (upS md 8 0 20 (nI (p + 1))) = some (md', mw') ∧ RM md md' ∧ TokM T E x md' mw' := fun h => by
      rw [if_pos h] at hr
      obtain ⟨md', mw', q1, q2, q3⟩ := ih (p + 1) f (upS md 8 0 20 (nI (p + 1))) (by omega) (by omega) (upS_hit _ _ _ _ _) ((upS_t (by omega)).trans h24) hT hr
      exact ⟨md', mw', q1, ((RM.rf md).up (by omega)).tr q2, q3⟩
    rw [f_X8_next_L8, h20, m_isOf hE (by omega) h24, xb, m_isOf hE (by omega) h24]
    simp only [xl]
    rw [decide_eq_true (show p < E by omega), Bool.true_and, Bool.true_and, hT p (by omega), isR_eq, isR_eq]
    by_cases z : T p = 32
    · rw [decide_eq_true z, if_neg (show ¬ b01 true = 0 by decide), ra (k := 1)]
      exact cont (by unfold isB; rw [decide_eq_true z, Bool.true_or])
    · rw [decide_eq_false z, if_pos (show b01 false = 0 from rfl), xb]
      by_cases y : T p = 10
      · rw [decide_eq_true y, if_neg (show ¬ b01 true = 0 by decide), ra (k := 1)]
        exact cont (by unfold isB; rw [decide_eq_true y, Bool.or_true])
      · rw [decide_eq_false y, if_pos (show b01 false = 0 from rfl)]
        have hb : ¬ isB (T p) = true := by
          unfold isB
          rw [decide_eq_false z, decide_eq_false y]
          decide
        rw [if_neg hb] at hr
        obtain ⟨md', mw', q1, q2, q3⟩ := fin p md (by omega) h20 h24 hT hr
        refine ⟨md', mw', ?_, q2, q3⟩
        simp only [xl, h20] at q1
        exact q1
theorem m_next (hE : E ≤ 900) {x : Nat} (hx : x ≤ E) {md : SD} (mw : Int64) (h24 : md 8 0 24 = nI E) (h21 : md 8 0 21 = nI x) (hT : ∀ t, t < E → md 38 0 t = T t) : ∃ md' mw', f_X8_next md mw = some (md', mw') ∧ RM md md' ∧ TokM T E x md' mw' := by
  obtain ⟨md', mw', q1, q2, q3⟩ := m_skip (T := T) hE hx mw (E - x) x fuel (upS md 8 0 20 (md 8 0 21)) (by omega) (by unfold fuel; omega) ((upS_hit _ _ _ _ _).trans h21) ((upS_t (by omega)).trans h24) hT rfl
  refine ⟨md', mw', ?_, ((RM.rf md).up (by omega)).tr q2, q3⟩
  unfold f_X8_next
  rw [xl]
  exact q1
end MTK
