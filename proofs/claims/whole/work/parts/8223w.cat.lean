/-! Layer 2: writeCatalogue -/
/-- the bytes written so far -/
def OUr (jd m : SD) (n : Nat) : Prop := n ≤ 280 ∧ jd 7 0 8 = nI n ∧ m 8 0 12 = nI n ∧ ∀ t, t < n → jd 26 0 t = m 37 0 t
def FJ (jd jd' : SD) : Prop := ∀ k j t, k ≠ 26 → ¬ (k = 7 ∧ j = 0 ∧ t = 8) → jd' k j t = jd k j t
def FM (m m' : SD) : Prop := ∀ k j t, k ≠ 37 → ¬ (k = 8 ∧ j = 0 ∧ t = 12) → m' k j t = m k j t
theorem FJ.rf (x : SD) : FJ x x := fun _ _ _ _ _ => rfl
theorem FM.rf (x : SD) : FM x x := fun _ _ _ _ _ => rfl
theorem FJ.tr {x y z : SD} (h : FJ x y) (g : FJ y z) : FJ x z := fun k j t a c => (g k j t a c).trans (h k j t a c)
theorem FM.tr {x y z : SD} (h : FM x y) (g : FM y z) : FM x z := fun k j t a c => (g k j t a c).trans (h k j t a c)
theorem FM.row {m m' : SD} (h : FM m m') : m' 30 0 = m 30 0 := by
  funext t
  exact h 30 0 t (by omega) (by omega)
/-- both put the same -/
def PB (x : SD → Option SD) (y : SD → Option SD) (w : Nat) : Prop := ∀ jd m n, OUr jd m n → n + w ≤ 280 → ∃ jd' m' n', x jd = some jd' ∧ y m = some m' ∧ OUr jd' m' n' ∧ n' ≤ n + w ∧ FJ jd jd' ∧ FM m m'
theorem put_both (x : Int32) : PB (fun jd => f_X7_putByte jd x) (fun m => f_X8_puts m x) 1 := by
  intro jd m n ⟨h1, h2, h3, h4⟩ hn
  have c1 : f_X7_putByte jd x = some (upS (upS jd 26 0 n (x.toInt8.toInt32).toInt8.toInt32) 7 0 8 (nI (n + 1))) := by
    unfold f_X7_putByte
    rw [h2, if_neg (by show ¬ nI 280 ≤ nI n; rw [nI_leI (by omega) (by omega)]; omega)]
    simp (disch := omega) only [xl, xg, vinT, nI_clamp]
    rw [upS_k (by omega), h2, ra (k := 1)]
  have c2 : f_X8_puts m x = some (upS (upS m 37 0 n (x.toInt8.toInt32).toInt8.toInt32) 8 0 12 (nI (n + 1))) := by
    unfold f_X8_puts
    rw [h3]
    simp (disch := omega) only [xl, xg, vinT, nI_clamp]
    rw [upS_k (by omega), h3, ra (k := 1)]
  refine ⟨_, _, n + 1, c1, c2, ⟨by omega, upS_hit _ _ _ _ _, upS_hit _ _ _ _ _, fun t ht => ?_⟩, by omega, fun k j t a c => ?_, fun k j t a c => ?_⟩
  · rw [upS_k (show (26 : Nat) ≠ 7 by omega), upS_k (show (37 : Nat) ≠ 8 by omega)]
    by_cases z : t = n
    · subst z
      rw [upS_hit, upS_hit]
    · rw [upS_t z, upS_t z]
      exact h4 t (by omega)
  · unfold upS
    rw [if_neg c, if_neg (by omega)]
  · unfold upS
    rw [if_neg c, if_neg (by omega)]
theorem PB.tr {x1 x2 y1 y2 : SD → Option SD} {w1 w2 : Nat} (h1 : PB x1 y1 w1) (h2 : PB x2 y2 w2) : PB (fun jd => x_bind (x1 jd) x2) (fun m => x_bind (y1 m) y2) (w1 + w2) := by
  intro jd m n ho hn
  obtain ⟨jd1, m1, n1, a1, a2, a3, a4, a5, a6⟩ := h1 jd m n ho (by omega)
  obtain ⟨jd2, m2, n2, b1, b2, b3, b4, b5, b6⟩ := h2 jd1 m1 n1 a3 (by omega)
  refine ⟨jd2, m2, n2, ?_, ?_, b3, by omega, a5.tr b5, a6.tr b6⟩
  · show x_bind (x1 jd) x2 = _
    rw [a1, xb, b1]
  · show x_bind (y1 m) y2 = _
    rw [a2, xb, b2]
theorem PB.eq {x x' y y' : SD → Option SD} {w w' : Nat} (h : PB x y w) (hx : ∀ s, x' s = x s) (hy : ∀ s, y' s = y s) (hw : w ≤ w') : PB x' y' w' := by
  intro jd m n ho hn
  obtain ⟨jd1, m1, n1, a1, a2, a3, a4, a5, a6⟩ := h jd m n ho (by omega)
  exact ⟨jd1, m1, n1, by rw [hx]; exact a1, by rw [hy]; exact a2, a3, by omega, a5, a6⟩
theorem d20_0 (a : Int32) (n : Nat) (m : SD) : f_X8_digits_L20 a (n + 1) 0 m = some m := by
  rw [f_X8_digits_L20, if_pos (by decide)]
theorem d20_1 (a : Int32) (n : Nat) (m : SD) (ha : a / 1 = a) : f_X8_digits_L20 a (n + 2) 1 m = x_bind (f_X8_puts m (48 + (a - a / 10 * 10))) some := by
  rw [f_X8_digits_L20, if_neg (by decide), x_guard_pos (by decide), ha]
  congr 1
theorem d20_10 (a : Int32) (n : Nat) (m : SD) (ha : a / 1 = a) : f_X8_digits_L20 a (n + 3) 10 m = x_bind (f_X8_puts m (48 + (a / 10 - a / 10 / 10 * 10))) fun q => x_bind (f_X8_puts q (48 + (a - a / 10 * 10))) some := by
  rw [f_X8_digits_L20, if_neg (by decide), x_guard_pos (by decide)]
  congr 1
  funext q
  rw [xl, show (10 : Int32) / 10 = 1 by decide, d20_1 a n q ha]
theorem d20_100 (a : Int32) (n : Nat) (m : SD) (ha : a / 1 = a) : f_X8_digits_L20 a (n + 4) 100 m = x_bind (f_X8_puts m (48 + (a / 100 - a / 100 / 10 * 10))) fun q => x_bind (f_X8_puts q (48 + (a / 10 - a / 10 / 10 * 10))) fun q => x_bind (f_X8_puts q (48 + (a - a / 10 * 10))) some := by
  rw [f_X8_digits_L20, if_neg (by decide), x_guard_pos (by decide)]
  congr 1
  funext q
  rw [xl, show (100 : Int32) / 10 = 10 by decide, d20_10 a n q ha]
/-- how many digits -/
def dl (v : Nat) : Nat := if v < 10 then 1 else if v < 100 then 2 else 3
theorem num_both {v : Nat} (hv : v < 1000) : PB (fun jd => f_X7_putNumber jd (nI v)) (fun m => f_X8_digits m (nI v)) (dl v) := by
  have h1 : nI v / 1 = nI v := by
    rw [show (1 : Int32) = nI 1 from rfl, pk_div (by omega) (by omega) (by omega), Nat.div_one]
  have h10 : nI v / 10 = nI (v / 10) := pk_div (d := 10) (by omega) (by omega) (by omega)
  have h100 : nI v / 100 = nI (v / 100) := pk_div (d := 100) (by omega) (by omega) (by omega)
  have P := fun x => put_both x
  have n9 : ∀ x : Nat, x < 2 ^ 31 → ((nI x ≤ (9 : Int32)) ↔ x ≤ 9) := fun x h => nI_leI (b := 9) h (by omega)
  have t10 : (nI v < (10 : Int32)) ↔ v < 10 := nI_ltI (b := 10) (by omega) (by omega)
  have t100 : (nI v < (100 : Int32)) ↔ v < 100 := nI_ltI (b := 100) (by omega) (by omega)
  have e2 : ∀ m, f_X8_digits m (nI v) = if v < 10 then f_X8_digits_L20 (nI v) fuel 1 m else if v < 100 then f_X8_digits_L20 (nI v) fuel 10 m else f_X8_digits_L20 (nI v) fuel 100 m := fun m => by
    unfold f_X8_digits
    show f_X8_digits_L2 (nI v) m (19997 + 1 + 1 + 1) 1 = _
    rw [f_X8_digits_L2, x_guard_pos (by decide), h1]
    by_cases z : v < 10
    · rw [if_pos (show nI v ≤ 9 from nI_le (b := 9) (by omega) (by omega)), if_pos z]
    · rw [if_neg (fun h => z (by have := (n9 _ (by omega)).mp h; omega)), if_neg z, xl, show (1 : Int32) * 10 = 10 by decide, f_X8_digits_L2, x_guard_pos (by decide), h10]
      by_cases y : v < 100
      · rw [if_pos (show nI (v / 10) ≤ 9 from nI_le (b := 9) (by omega) (by omega)), if_pos y]
      · rw [if_neg (fun h => y (by have := (n9 _ (by omega)).mp h; omega)), if_neg y, xl, show (10 : Int32) * 10 = 100 by decide, f_X8_digits_L2, x_guard_pos (by decide), h100]
        rw [if_pos (show nI (v / 100) ≤ 9 from nI_le (b := 9) (by omega) (by omega))]
  have PS : PB some some 0 := fun jd m n ho _ => ⟨jd, m, n, rfl, rfl, ho, by omega, FJ.rf _, FM.rf _⟩
  have hf : fuel = 19996 + 4 := rfl
  by_cases z : v < 10
  · refine PB.eq ((P (48 + (nI v - nI v / 10 * 10))).tr PS) (fun s => ?_) (fun s => ?_) (by unfold dl; rw [if_pos z]; omega)
    · show f_X7_putNumber s (nI v) = _
      unfold f_X7_putNumber
      simp only [xl]
      rw [if_pos (show nI v < 100 from (nI_ltI (b := 100) (by omega) (by omega)).mpr (by omega)), if_pos (show nI v < 10 from (nI_ltI (b := 10) (by omega) (by omega)).mpr (by omega))]
    · show f_X8_digits s (nI v) = _
      rw [e2, if_pos z, hf, d20_1 _ 19998 s h1]
  · by_cases y : v < 100
    · refine PB.eq ((P (48 + (nI v / 10 - nI v / 10 / 10 * 10))).tr ((P (48 + (nI v - nI v / 10 * 10))).tr PS)) (fun s => ?_) (fun s => ?_) (by unfold dl; rw [if_neg z, if_pos y]; omega)
      · show f_X7_putNumber s (nI v) = _
        unfold f_X7_putNumber
        simp only [xl]
        rw [if_pos (show nI v < 100 from (nI_ltI (b := 100) (by omega) (by omega)).mpr (by omega)), if_neg (fun h => z (t10.mp h))]
      · show f_X8_digits s (nI v) = _
        rw [e2, if_neg z, if_pos y, hf, d20_10 _ 19997 s h1]
    · refine PB.eq ((P (48 + (nI v / 100 - nI v / 100 / 10 * 10))).tr ((P (48 + (nI v / 10 - nI v / 10 / 10 * 10))).tr ((P (48 + (nI v - nI v / 10 * 10))).tr PS))) (fun s => ?_) (fun s => ?_) (by unfold dl; rw [if_neg z, if_neg y]; omega)
      · show f_X7_putNumber s (nI v) = _
        unfold f_X7_putNumber
        simp only [xl]
        rw [if_neg (fun h => y (t100.mp h))]
        congr 1
        funext q
        rw [if_neg (fun h => z (t10.mp h))]
      · show f_X8_digits s (nI v) = _
        rw [e2, if_neg z, if_neg y, hf, d20_100 _ 19996 s h1]
section CATL
variable {b : Nat} {cs : CT} {m s : SD} {r : RW}
theorem cat_loop (hI : Inv r) (hR : Rel b s r) : ∀ (k f g g' n : Nat) (jd m : SD), f + k = nv r 9 → k < g → k < g' → m 30 0 = r → OUr jd m n → n ≤ 14 * f → ∃ v jd' m' n', f_X7_writeCatalogue_L7 s g (nI f) jd = some (v, jd') ∧ f_X8_writeCatalogue_L12 g' (nI f) m = some (v, m') ∧ OUr jd' m' n' ∧ FJ jd jd' ∧ FM m m' := by
  have l9 := hI.l9
  have l10 := hI.l10
  have l7 := hI.l7
  intro k
  induction k with
  | zero =>
    intro f g g' n jd m hf hg hg' hr ho hn
    obtain ⟨g, rfl⟩ : ∃ q, g = q + 1 := ⟨g - 1, by omega⟩
    obtain ⟨g', rfl⟩ : ∃ q, g' = q + 1 := ⟨g' - 1, by omega⟩
    have : f = nv r 9 := by omega
    subst this
    rw [f_X7_writeCatalogue_L7, hR.s11, hI.c9, if_pos (nI_le (Nat.le_refl _) (by omega)), f_X8_writeCatalogue_L12, hr, hI.c9, if_pos (nI_le (Nat.le_refl _) (by omega))]
    refine ⟨_, jd, m, n, rfl, ?_, ho, FJ.rf _, FM.rf _⟩
    rw [ho.2.1, ho.2.2.1]
  | succ k ih =>
    intro f g g' n jd m hf hg hg' hr ho hn
    obtain ⟨g, rfl⟩ : ∃ q, g = q + 1 := ⟨g - 1, by omega⟩
    obtain ⟨g', rfl⟩ : ∃ q, g' = q + 1 := ⟨g' - 1, by omega⟩
    have hf2 : f < nv r 9 := by omega
    obtain ⟨x1, x2⟩ := hI.cur f hf2
    obtain ⟨-, ⟨v2, v3⟩, v4, v5, -⟩ := hI.ver _ x2
    have b4 := v4.l
    have b5 := v5.l
    obtain ⟨-, w1, w2, w3, -⟩ := hR.ve _ x2
    have k1 : dl f ≤ 2 := by
      unfold dl
      by_cases z : f < 10
      · rw [if_pos z]; omega
      · rw [if_neg z, if_pos (by omega)]; omega
    have k2 : dl (nv r (349 + nv r (289 + f))) ≤ 1 := by unfold dl; rw [if_pos (by omega)]; omega
    have k3 : ∀ v, dl v ≤ 3 := fun v => by
      unfold dl
      split
      · omega
      · split <;> omega
    have k4 := k3 (nv r (389 + nv r (289 + f)))
    have k5 := k3 (nv r (429 + nv r (289 + f)))
    obtain ⟨j1, m1, n1, a1, a2, a3, a4, a5, a6⟩ := num_both (v := f) (by omega) jd m n ho (by omega)
    obtain ⟨j2, m2, n2, c1, c2, c3, c4, c5, c6⟩ := put_both 58 j1 m1 n1 a3 (by omega)
    obtain ⟨j3, m3, n3, d1, d2, d3, d4, d5, d6⟩ := num_both (v := nv r (349 + nv r (289 + f))) (by omega) j2 m2 n2 c3 (by omega)
    obtain ⟨j4, m4, n4, e1, e2, e3, e4, e5, e6⟩ := put_both 44 j3 m3 n3 d3 (by omega)
    obtain ⟨j5, m5, n5, f1, f2, f3, f4, f5, f6⟩ := num_both (v := nv r (389 + nv r (289 + f))) (by omega) j4 m4 n4 e3 (by omega)
    obtain ⟨j6, m6, n6, g1, g2, g3, g4, g5, g6⟩ := put_both 44 j5 m5 n5 f3 (by omega)
    obtain ⟨j7, m7, n7, h1, h2, h3, h4, h5, h6⟩ := num_both (v := nv r (429 + nv r (289 + f))) (by omega) j6 m6 n6 g3 (by omega)
    have r2 : m2 30 0 = r := by rw [c6.row, a6.row, hr]
    have r4 : m4 30 0 = r := by rw [e6.row, d6.row, r2]
    have r6 : m6 30 0 = r := by rw [g6.row, f6.row, r4]
    have r7 : m7 30 0 = r := by rw [h6.row, r6]
    have FJ7 : FJ jd j7 := a5.tr (c5.tr (d5.tr (e5.tr (f5.tr (g5.tr h5)))))
    have FM7 : FM m m7 := a6.tr (c6.tr (d6.tr (e6.tr (f6.tr (g6.tr h6)))))
    simp only at a1 a2 c1 c2 d1 d2 e1 e2 f1 f2 g1 g2 h1 h2
    rw [f_X7_writeCatalogue_L7, hR.s11, hI.c9, if_neg (by rw [nI_leI (by omega) (by omega)]; omega), f_X8_writeCatalogue_L12, hr, hI.c9, if_neg (by rw [nI_leI (by omega) (by omega)]; omega)]
    rw [c_currentVersion hI hR hf2, xb, a1, xb, c1, xb, w1, v2.e, d1, xb, e1, xb, w2, v4.e, f1, xb, g1, xb, w3, v5.e, h1, xb, c_isReadable hI hR hf2, xb]
    rw [a2, xb, c2, xb, m_platterOf r2 hI hf2, xb, d2, xb, e2, xb, m_version r4 hI hf2, xb]
    simp (disch := omega) only [xl, xg, vinT, nI_clamp, la, ra]
    rw [r4, v4.e, f2, xb, g2, xb, m_version r6 hI hf2, xb]
    simp (disch := omega) only [xl, xg, vinT, nI_clamp, la, ra]
    rw [r6, v5.e, h2, xb, m_isReadable r7 hI hf2, xb]
    by_cases z : gdV r (nv r (289 + f)) = 0
    · rw [if_pos z, if_pos z]
      obtain ⟨j8, m8, n8, p1, p2, p3, p4, p5, p6⟩ := put_both 59 j7 m7 n7 h3 (by omega)
      simp only at p1 p2
      rw [p1, xb, p2, xb]
      obtain ⟨v, j9, m9, n9, q1, q2, q3, q4, q5⟩ := ih (f + 1) g g' n8 j8 m8 (by omega) (by omega) (by omega) (by rw [p6.row, r7]) p3 (by omega)
      exact ⟨v, j9, m9, n9, q1, q2, q3, FJ7.tr (p5.tr q4), FM7.tr (p6.tr q5)⟩
    · rw [if_neg z, if_neg z]
      obtain ⟨jx, mx, nx, o1, o2, o3, o4, o5, o6⟩ := put_both 42 j7 m7 n7 h3 (by omega)
      simp only at o1 o2
      rw [o1, xb, o2, xb]
      obtain ⟨j8, m8, n8, p1, p2, p3, p4, p5, p6⟩ := put_both 59 jx mx nx o3 (by omega)
      simp only at p1 p2
      rw [p1, xb, p2, xb]
      obtain ⟨v, j9, m9, n9, q1, q2, q3, q4, q5⟩ := ih (f + 1) g g' n8 j8 m8 (by omega) (by omega) (by omega) (by rw [p6.row, o6.row, r7]) p3 (by omega)
      exact ⟨v, j9, m9, n9, q1, q2, q3, FJ7.tr (o5.tr (p5.tr q4)), FM7.tr (o6.tr (p6.tr q5))⟩
theorem JJ.out (h : JJ b cs m) {jd' m' : SD} {n : Nat} (ho : OUr jd' m' n) (hj : FJ (k_jd cs) jd') (hm : FM m m') : JJ b (kJ cs jd') m' := by
  obtain ⟨h1, h2, ⟨f0, c, h3⟩, h4, h5, h6, h7⟩ := h
  have hr := hm.row
  refine ⟨by rw [hr]; exact h1, by rw [hr]; exact h2, ⟨f0, c, ?_⟩, h4, ?_, ⟨n, ho⟩, by rw [hr]; exact h7⟩
  · exact HSx.same (cs := kJ cs jd') h3 (hm _ _ _ (by omega) (by omega)) (fun t => hm _ _ _ (by omega) (by omega))
  · obtain ⟨⟨n, t1, t2, t3, t4⟩, t5, t6⟩ := h5
    refine ⟨⟨n, t1, t2, ?_, fun t ht => ?_⟩, ?_, ?_⟩
    · rw [hm _ _ _ (by omega) (by omega)]; exact t3
    · rw [hm _ _ _ (by omega) (by omega)]; exact t4 t ht
    · show jd' 7 0 1 = _
      rw [hj _ _ _ (by omega) (by omega), hm _ _ _ (by omega) (by omega)]; exact t5
    · show _ = if jd' 7 0 1 = 0 then _ else jd' 7 0 2
      rw [hj 7 0 1 (by omega) (by omega), hj 7 0 2 (by omega) (by omega), hm _ _ _ (by omega) (by omega)]; exact t6
theorem st_writeCatalogue (hJ : JJ b cs m) : ∃ v jd' m', f_X7_writeCatalogue (k_xs cs (k_st cs)) (k_jd cs) = some (v, jd') ∧ f_X8_writeCatalogue m = some (v, m') ∧ JJ b (kJ cs jd') m' := by
  obtain ⟨m1, e1, r1, s1⟩ := thr m
  have hJ1 := hJ.same s1
  obtain ⟨hI, hR, -, -, -⟩ := hJ.same s1
  have l9 := hI.l9
  obtain ⟨v, jd', m', n', a1, a2, a3, a4, a5⟩ := cat_loop hI hR (nv (m1 30 0) 9) 0 fuel fuel 0 (upS (k_jd cs) 7 0 8 0) (upS m1 8 0 12 0) (by omega) (by unfold fuel; omega) (by unfold fuel; omega) rfl ⟨by omega, upS_hit _ _ _ _ _, upS_hit _ _ _ _ _, fun t ht => absurd ht (Nat.not_lt_zero _)⟩ (by omega)
  rw [nI_0] at a1 a2
  refine ⟨v, jd', m', ?_, ?_, hJ1.out a3 (FJ.tr (fun k j t _ c => by unfold upS; rw [if_neg c]) a4) (FM.tr (fun k j t _ c => by unfold upS; rw [if_neg c]) a5)⟩
  · unfold f_X7_writeCatalogue
    rw [xl, a1]
  · unfold f_X8_writeCatalogue
    rw [xl, e1, xl, a2]
end CATL
