/-! Layer 2: the class's least time -/
theorem sub_lt {s S p : Nat} (h : ∀ i, s.testBit i = true → S.testBit i = true) (h1 : S.testBit p = true) (h2 : s.testBit p = false) : s < S := by
  have e : s &&& S = s := Nat.eq_of_testBit_eq (fun i => by
    rw [Nat.testBit_and]
    cases z : s.testBit i with
    | false => simp
    | true => simp [h i z])
  have h3 : s ≤ S := by
    rw [← e]
    exact Nat.and_le_right
  have h4 : s ≠ S := fun z => by
    subst z
    rw [h1] at h2
    cases h2
  omega
section LST
variable {b : Nat} {sd : SD} {r : RW}
theorem btm_le (hI : Inv r) {p d : Nat} (hp : p < nv r 7) (hd : d < nv r 6) : btm r p d ≤ 9603 := by
  obtain ⟨⟨x1, -⟩, x3⟩ := hI.drv d hd
  have x2 := x1.l
  have y2 := (hI.plt p hp).1.1.l
  have k2 := hI.pick.1.l
  obtain ⟨t1, t2, t3, -⟩ := hI.tim
  have t1 := t1.l
  have t2 := t2.l
  have t3 := t3.l
  have hm : mvs r p d ≤ 92 := by
    unfold mvs
    by_cases z : r (21 + d) = -1
    · rw [if_pos z]
      have h1 : dst (nv r 11) (nv r (29 + p)) ≤ 23 := dst_le (by omega) (by omega)
      have h2 : dst (nv r (29 + p)) (nv r (17 + d)) ≤ 23 := dst_le (by omega) (by omega)
      omega
    · rw [if_neg z]
      rcases x3 with h | ⟨z1, z2⟩
      · exact absurd h z
      · have w2 := (hI.plt _ z2).1.1.l
        have h1 : dst (nv r 11) (nv r (17 + d)) ≤ 23 := dst_le (by omega) (by omega)
        have h2 : dst (nv r (17 + d)) (nv r (29 + nv r (21 + d))) ≤ 23 := dst_le (by omega) (by omega)
        have h3 : dst (nv r (29 + nv r (21 + d))) (nv r (29 + p)) ≤ 23 := dst_le (by omega) (by omega)
        have h4 : dst (nv r (29 + p)) (nv r (17 + d)) ≤ 23 := dst_le (by omega) (by omega)
        omega
  unfold btm
  have h1 : mvs r p d * nv r 1 ≤ 92 * 99 := Nat.mul_le_mul hm t1
  split <;> omega
/-- the least time to bring a set into a drive -/
def lst (r : RW) (d S : Nat) : Nat := mnS S (fun q => btm r q d + opt (swN r d) (S ^^^ 2 ^ q) (S ^^^ 2 ^ q) q) 10 0 2147483647
theorem opt_b (hI : Inv r) {d S q : Nat} (hd : d < nv r 6) (hS : S < 1024) (hb : ∀ p, S.testBit p = true → p < nv r 7) (hq : S.testBit q = true) : opt (swN r d) (S ^^^ 2 ^ q) (S ^^^ 2 ^ q) q ≤ 7326 * 1024 := by
  have hl := xo_lt hq
  have hs := xo_sub (fun i h => h) hq (S := S)
  refine Nat.le_trans (opt_le (B := 7326) _ _ _ (by omega) (fun a c ha hc => (swN_le hI hd ?_ (hb c (hs c hc))).2)) (Nat.mul_le_mul_left _ (by omega))
  rcases ha with rfl | ha
  · exact hb _ hq
  · exact hb a (hs a ha)
theorem c_least61 (hI : Inv r) (hR : Rel b sd r) {pd : SD} {d S : Nat} (hd : d < nv r 6) (hS : S < 1024) (hb : ∀ p, S.testBit p = true → p < nv r 7) (ha : ∀ q, S.testBit q = true → r (21 + d) ≠ nI q) (ht : ∀ q, S.testBit q = true → pd 23 0 ((S ^^^ 2 ^ q) * 10 + q) = nI (opt (swN r d) (S ^^^ 2 ^ q) (S ^^^ 2 ^ q) q)) : f_X2_leastTime_L61 pd (nI S) sd (nI d) fuel 2147483647 0 = some (nI (lst r d S), pd) := by
  have key : ∀ (n q f acc : Nat), q + n = 10 → n < f → acc < 2 ^ 31 → f_X2_leastTime_L61 pd (nI S) sd (nI d) f (nI acc) (nI q) = some (nI (mnS S (fun q => btm r q d + opt (swN r d) (S ^^^ 2 ^ q) (S ^^^ 2 ^ q) q) n q acc), pd) := by
    intro n
    induction n with
    | zero =>
      intro q f acc h1 h2 h3
      obtain ⟨f, rfl⟩ : ∃ x, f = x + 1 := ⟨f - 1, by omega⟩
      have : q = 10 := by omega
      subst this
      rw [f_X2_leastTime_L61, if_pos (by decide)]
      rfl
    | succ n ih =>
      intro q f acc h1 h2 h3
      obtain ⟨f, rfl⟩ : ∃ x, f = x + 1 := ⟨f - 1, by omega⟩
      have hq : q < 10 := by omega
      have c10 : ¬ ((10 : Int32) ≤ nI q) := by rw [lle (k := 10) (by decide) (by omega)]; show ¬ 10 ≤ q; omega
      rw [f_X2_leastTime_L61, if_neg c10, mnS]
      by_cases z : S.testBit q = true
      · have z1 : ¬ (((nI S >>> (nI q &&& 31)) &&& (1 : Int32)) = 0) := by rw [bit_tt hS hq, z]; decide
        have hx := xo_lt z
        rw [if_neg z1, if_pos z, sh1n q hq, nI_xor]
        have e1 : nI (S ^^^ 2 ^ q) * (10 : Int32) + nI q = nI ((S ^^^ 2 ^ q) * 10 + q) := by rw [rmu, nI_add]
        rw [e1]
        simp (disch := omega) only [xl, xg, vinT, nI_clamp, ra]
        rw [ht q z, c_bringTime hI hR (hb q z) hd, xb, if_neg (ha q z), nI_add]
        have hb1 := opt_b hI hd hS hb z
        have hb2 := btm_le hI (hb q z) hd
        by_cases y : btm r q d + opt (swN r d) (S ^^^ 2 ^ q) (S ^^^ 2 ^ q) q < acc
        · rw [if_pos y, if_pos (by rw [nI_ltI (by omega) (by omega)]; exact y)]
          exact ih (q + 1) f _ (by omega) (by omega) (by omega)
        · rw [if_neg y, if_neg (by rw [nI_ltI (by omega) (by omega)]; exact y)]
          exact ih (q + 1) f _ (by omega) (by omega) (by omega)
      · have z0 : S.testBit q = false := by simpa using z
        rw [if_pos ((bit_tt hS hq).mpr z0), if_neg z]
        simp only [xl, ra]
        exact ih (q + 1) f acc (by omega) (by omega) h3
  have h := key 10 0 fuel 2147483647 (by omega) (by unfold fuel; omega) (by decide)
  rw [nI_0] at h
  exact h
/-- the table serves a drive and a set -/
def TbS (r : RW) (pd : SD) (d S : Nat) : Prop := ∀ s p, (∀ i, s.testBit i = true → S.testBit i = true) → S.testBit p = true → s.testBit p = false → pd 23 0 (s * 10 + p) = nI (opt (swN r d) s s p)
theorem c_leastTime (hI : Inv r) (hR : Rel b sd r) {pd : SD} {d S : Nat} (hd : d < nv r 6) (h0 : S ≠ 0) (hS : S < 1024) (hb : ∀ p, S.testBit p = true → p < nv r 7) (ha : ∀ q, S.testBit q = true → r (21 + d) ≠ nI q) (hP : pd 2 0 5 = -1 ∨ PTok pd r) : ∃ pd', f_X2_leastTime sd pd (nI d) (nI S) = some (nI (lst r d S), pd') ∧ (pd' 2 0 5 = -1 ∨ PTok pd' r) ∧ TbS r pd' d S ∧ (∀ p q, p < nv r 7 → q < nv r 7 → pd' 24 0 (p * 10 + q) = nI (swN r d p q)) ∧ ∀ k j t, k ≠ 23 → k ≠ 24 → ¬ (k = 2 ∧ j = 0 ∧ (t = 5 ∨ t = 6)) → pd' k j t = pd k j t := by
  have l6 := hI.l6
  unfold f_X2_leastTime
  rw [if_neg (by rw [req (k := 0) (by decide) (by omega)]; exact h0), c_hasDrive hI hR, xb, hasV_in hd (by omega), if_neg i1]
  simp only [xl]
  have fresh : ∃ pd', (x_bind (f_X2_fillSwap sd pd (nI d)) fun q11 => x_bind (f_X2_fillRest q11 (nI S)) fun q12 => f_X2_leastTime_L61 (upS (upS q12 2 0 5 (nI d)) 2 0 6 (nI S)) (nI S) sd (nI d) fuel 2147483647 0) = some (nI (lst r d S), pd') ∧ (pd' 2 0 5 = -1 ∨ PTok pd' r) ∧ TbS r pd' d S ∧ (∀ p q, p < nv r 7 → q < nv r 7 → pd' 24 0 (p * 10 + q) = nI (swN r d p q)) ∧ ∀ k j t, k ≠ 23 → k ≠ 24 → ¬ (k = 2 ∧ j = 0 ∧ (t = 5 ∨ t = 6)) → pd' k j t = pd k j t := by
    obtain ⟨p1, g1, g2, g3⟩ := c_fillSwap hI hR pd hd
    obtain ⟨p2, e1, e2, e3⟩ := c_fillRest (w := swN r d) (B := 7326) hS (by decide) (fun a c h1 h2 => (swN_le hI hd (hb a h1) (hb c h2)).2) (pd := p1) (fun a c h1 h2 => g3 a c (hb a h1) (hb c h2))
    have hT : TbS r (upS (upS p2 2 0 5 (nI d)) 2 0 6 (nI S)) d S := fun s p h1 h2 h3 => by
      rw [upS_k (by decide), upS_k (by decide)]
      exact e3 s p (sub_lt h1 h2 h3) h1 h2 h3
    have hW : ∀ p q, p < nv r 7 → q < nv r 7 → upS (upS p2 2 0 5 (nI d)) 2 0 6 (nI S) 24 0 (p * 10 + q) = nI (swN r d p q) := fun p q h1 h2 => by
      rw [upS_k (by decide), upS_k (by decide), e2 24 0 _ (by decide)]
      exact g3 p q h1 h2
    refine ⟨upS (upS p2 2 0 5 (nI d)) 2 0 6 (nI S), ?_, Or.inr ⟨d, S, hd, hS, hb, ?_, ?_, fun s p _ h1 h2 h3 => hT s p h1 h2 h3, hW⟩, hT, hW, fun k j t k1 k2 k3 => ?_⟩
    · rw [g1, xb, e1, xb]
      exact c_least61 hI hR hd hS hb ha (fun q hq => hT _ q (xo_sub (fun i h => h) hq) hq (xo_off hq))
    · rw [upS_t (by decide), upS_hit]
    · rw [upS_hit]
    · have : upS (upS p2 2 0 5 (nI d)) 2 0 6 (nI S) k j t = p2 k j t := by
        simp only [upS]
        rw [if_neg (by omega), if_neg (by omega)]
      rw [this, e2 k j t k1, g2 k j t k2]
  by_cases z : pd 2 0 5 = nI d
  · rcases hP with h | ⟨d', S', h1, h2, h3, h4, h5, h6, h7⟩
    · rw [h, m1n (by omega)] at z
      exact z.elim
    · have hdd : d' = d := (nI_eq (by omega) (by omega)).mp (h4.symm.trans z)
      subst hdd
      rw [if_pos z, h5]
      by_cases y : ∀ i, S.testBit i = true → S'.testBit i = true
      · rw [if_pos ((sub_iff hS h2).mpr y)]
        have hT : TbS r pd d' S := fun s p k1 k2 k3 => h6 s p (sub_lt (fun i hi => y i (k1 i hi)) (y p k2) k3) (fun i hi => y i (k1 i hi)) (y p k2) k3
        exact ⟨pd, c_least61 hI hR hd hS hb ha (fun q hq => hT _ q (xo_sub (fun i h => h) hq) hq (xo_off hq)), Or.inr ⟨d', S', h1, h2, h3, h4, h5, h6, h7⟩, hT, h7, fun _ _ _ _ _ _ => rfl⟩
      · rw [if_neg (fun v => y ((sub_iff hS h2).mp v))]
        exact fresh
  · rw [if_neg z]
    exact fresh
end LST
