/-! Layer 2: the class's least time -/
theorem sub_lt {s S p : Nat} (h : ∀ i, s.testBit i = true → S.testBit i = true) (h1 : S.testBit p = true) (h2 : s.testBit p = false) : s < S := by
  have e : s &&& S = s := Nat.eq_of_testBit_eq (fun i => by
    rw [Nat.testBit_and]
    cases z : s.testBit i with
    | false => simp
    | true => simp [h i z])
  have h3 : s ≤ S := by
    rw [← e]
    exact Nat.and_le_right
  have h4 : s ≠ S := fun z => by
    subst z
    rw [h1] at h2
    cases h2
  omega
section LST
variable {b : Nat} {sd : SD} {r : RW}
theorem btm_le (hI : Inv r) {p d : Nat} (hp : p < nv r 7) (hd : d < nv r 6) : btm r p d ≤ 9603 := by
  obtain ⟨⟨x1, -⟩, x3⟩ := hI.drv d hd
  have x2 := x1.l
  have y2 := (hI.plt p hp).1.1.l
  have k2 := hI.pick.1.l
  obtain ⟨t1, t2, t3, -⟩ := hI.tim
  have t1 := t1.l
  have t2 := t2.l
  have t3 := t3.l
  have hm : mvs r p d ≤ 92 := by
    unfold mvs
    by_cases z : r (21 + d) = -1
    · rw [if_pos z]
      have h1 : dst (nv r 11) (nv r (29 + p)) ≤ 23 := dst_le (by omega) (by omega)
      have h2 : dst (nv r (29 + p)) (nv r (17 + d)) ≤ 23 := dst_le (by omega) (by omega)
      omega
    · rw [if_neg z]
      rcases x3 with h | ⟨z1, z2⟩
      · exact absurd h z
      · have w2 := (hI.plt _ z2).1.1.l
        have h1 : dst (nv r 11) (nv r (17 + d)) ≤ 23 := dst_le (by omega) (by omega)
        have h2 : dst (nv r (17 + d)) (nv r (29 + nv r (21 + d))) ≤ 23 := dst_le (by omega) (by omega)
        have h3 : dst (nv r (29 + nv r (21 + d))) (nv r (29 + p)) ≤ 23 := dst_le (by omega) (by omega)
        have h4 : dst (nv r (29 + p)) (nv r (17 + d)) ≤ 23 := dst_le (by omega) (by omega)
        omega
  unfold btm
  have h1 : mvs r p d * nv r 1 ≤ 92 * 99 := Nat.mul_le_mul hm t1
  split <;> omega
/-- the least time to bring a set into a drive -/
def lst (r : RW) (d S : Nat) : Nat := mnS S (fun q => btm r q d + opt (swN r d) (S ^^^ 2 ^ q) (S ^^^ 2 ^ q) q) 10 0 2147483647
theorem opt_b (hI : Inv r) {d S q : Nat} (hd : d < nv r 6) (hS : S < 1024) (hb : ∀ p, S.testBit p = true → p < nv r 7) (hq : S.testBit q = true) : opt (swN r d) (S ^^^ 2 ^ q) (S ^^^ 2 ^ q) q ≤ 7326 * 1024 := by
  have hl := xo_lt hq
  have hs := xo_sub (fun i h => h) hq (S := S)
  refine Nat.le_trans (opt_le (B := 7326) _ _ _ (by omega) (fun a c ha hc => (swN_le hI hd ?_ (hb c (hs c hc))).2)) (Nat.mul_le_mul_left _ (by omega))
  rcases ha with rfl | ha
  · exact hb _ hq
  · exact hb a (hs a ha)
theorem c_least49 (hI : Inv r) (hR : Rel b sd r) {pd : SD} {d S : Nat} (hd : d < nv r 6) (hS : S < 1024) (hb : ∀ p, S.testBit p = true → p < nv r 7) (ha : ∀ q, S.testBit q = true → r (21 + d) ≠ nI q) (ht : ∀ q, S.testBit q = true → pd 23 0 ((S ^^^ 2 ^ q) * 10 + q) = nI (opt (swN r d) (S ^^^ 2 ^ q) (S ^^^ 2 ^ q) q)) : f_X2_leastTime_L49 pd (nI S) sd (nI d) fuel 2147483647 0 = some (nI (lst r d S), pd) := by
  have key : ∀ (n q f acc : Nat), q + n = 10 → n < f → acc < 2 ^ 31 → f_X2_leastTime_L49 pd (nI S) sd (nI d) f (nI acc) (nI q) = some (nI (mnS S (fun q => btm r q d + opt (swN r d) (S ^^^ 2 ^ q) (S ^^^ 2 ^ q) q) n q acc), pd) := by
    intro n
    induction n with
    | zero =>
      intro q f acc h1 h2 h3
      obtain ⟨f, rfl⟩ : ∃ x, f = x + 1 := ⟨f - 1, by omega⟩
      have : q = 10 := by omega
      subst this
      rw [f_X2_leastTime_L49, if_pos (by decide)]
      rfl
    | succ n ih =>
      intro q f acc h1 h2 h3
      obtain ⟨f, rfl⟩ : ∃ x, f = x + 1 := ⟨f - 1, by omega⟩
      have hq : q < 10 := by omega
      have c10 : ¬ ((10 : Int32) ≤ nI q) := by rw [lle (k := 10) (by decide) (by omega)]; show ¬ 10 ≤ q; omega
      rw [f_X2_leastTime_L49, if_neg c10, mnS]
      by_cases z : S.testBit q = true
      · have z1 : ¬ (((nI S >>> (nI q &&& 31)) &&& (1 : Int32)) = 0) := by rw [bit_tt hS hq, z]; decide
        have hx := xo_lt z
        rw [if_neg z1, if_pos z, sh1n q hq, nI_xor]
        have e1 : nI (S ^^^ 2 ^ q) * (10 : Int32) + nI q = nI ((S ^^^ 2 ^ q) * 10 + q) := by rw [rmu, nI_add]
        rw [e1]
        simp (disch := omega) only [xl, xg, vinT, nI_clamp, ra]
        rw [ht q z, c_bringTime hI hR (hb q z) hd, xb, if_neg (ha q z), nI_add]
        have hb1 := opt_b hI hd hS hb z
        have hb2 := btm_le hI (hb q z) hd
        by_cases y : btm r q d + opt (swN r d) (S ^^^ 2 ^ q) (S ^^^ 2 ^ q) q < acc
        · rw [if_pos y, if_pos (by rw [nI_ltI (by omega) (by omega)]; exact y)]
          exact ih (q + 1) f _ (by omega) (by omega) (by omega)
        · rw [if_neg y, if_neg (by rw [nI_ltI (by omega) (by omega)]; exact y)]
          exact ih (q + 1) f _ (by omega) (by omega) (by omega)
      · have z0 : S.testBit q = false := by simpa using z
        rw [if_pos ((bit_tt hS hq).mpr z0), if_neg z]
        simp only [xl, ra]
        exact ih (q + 1) f acc (by omega) (by omega) h3
  have h := key 10 0 fuel 2147483647 (by omega) (by unfold fuel; omega) (by decide)
  rw [nI_0] at h
  exact h
/-- the table serves a drive and a set -/
def TbS (r : RW) (pd : SD) (d S : Nat) : Prop := ∀ s p, (∀ i, s.testBit i = true → S.testBit i = true) → S.testBit p = true → s.testBit p = false → pd 23 0 (s * 10 + p) = nI (opt (swN r d) s s p)
end LST
