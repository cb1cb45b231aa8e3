/-! Layer 2: the reference's order of a batch is the class's -/
/-- a set of places and the set of its platters -/
def Im (c : Nat) (W : Nat → Nat) (s S : Nat) : Prop := ∀ p, S.testBit p = true ↔ ∃ i, s.testBit i = true ∧ i < c ∧ W i = p
section ROR
variable {c d : Nat} {W : Nat → Nat} {S0 s S : Nat} {md : SD} {r : RW}
theorem WO.inj {P : Nat} (hW : WO c W S0 P) {i j : Nat} (hi : i < c) (hj : j < c) (h : W i = W j) : i = j := by
  rcases Nat.lt_trichotomy i j with z | z | z
  · have := hW.2.2.1 i j z hj
    omega
  · exact z
  · have := hW.2.2.1 j i z hi
    omega
theorem WO.lt {P : Nat} (hW : WO c W S0 P) {i j : Nat} (hi : i < c) (hj : j < c) (h : W i < W j) : i < j := by
  rcases Nat.lt_trichotomy i j with z | z | z
  · exact z
  · subst z; omega
  · have := hW.2.2.1 j i z hi
    omega
theorem Im.z (h : Im c W 0 S) : S = 0 := Nat.eq_of_testBit_eq (fun p => by
  rw [Nat.zero_testBit]
  refine Bool.eq_false_iff.mpr (fun z => ?_)
  obtain ⟨i, i1, -⟩ := (h p).mp z
  rw [Nat.zero_testBit] at i1
  cases i1)
theorem Im.x {P : Nat} (hW : WO c W S0 P) (h : Im c W s S) {i : Nat} (hi : i < c) (hb : s.testBit i = true) : Im c W (s ^^^ 2 ^ i) (S ^^^ 2 ^ W i) := fun p => by
  rw [tb_x]
  constructor
  · intro z
    by_cases e : W i = p
    · have : S.testBit p = true := (h p).mpr ⟨i, hb, hi, e⟩
      rw [this, decide_eq_true e] at z
      cases z
    · rw [decide_eq_false e, Bool.xor_false] at z
      obtain ⟨j, j1, j2, j3⟩ := (h p).mp z
      refine ⟨j, ?_, j2, j3⟩
      rw [tb_x, j1, decide_eq_false (fun y => e (by rw [y]; exact j3)), Bool.xor_false]
  · rintro ⟨j, j1, j2, j3⟩
    rw [tb_x] at j1
    by_cases e : i = j
    · subst e
      rw [hb, decide_eq_true rfl] at j1
      cases j1
    · rw [decide_eq_false e, Bool.xor_false] at j1
      have hs : S.testBit p = true := (h p).mpr ⟨j, j1, j2, j3⟩
      rw [hs, decide_eq_false (fun y => e (hW.inj hi j2 (y.trans j3.symm))), Bool.xor_false]
theorem Im.lt7 {P : Nat} (hW : WO c W S0 P) (h : Im c W s S) : ∀ p, S.testBit p = true → p < P := fun p hp => by
  obtain ⟨i, -, i2, i3⟩ := (h p).mp hp
  rw [← i3]
  exact (hW.2.1 i i2).2
theorem lt_bits {S : Nat} (h : ∀ p, S.testBit p = true → p < 10) : S < 1024 := Nat.lt_pow_two_of_testBit (n := 10) S (fun i hi => Bool.eq_false_iff.mpr (fun z => by have := h i z; omega))
theorem opt_un {w : Nat → Nat → Nat} {S p : Nat} (h0 : S ≠ 0) : opt w S S p = mnS S (fun q => w p q + opt w (S ^^^ 2 ^ q) (S ^^^ 2 ^ q) q) 10 0 2147483647 := by
  obtain ⟨k, rfl⟩ : ∃ k, S = k + 1 := ⟨S - 1, by omega⟩
  rw [opt, if_neg h0]
  refine mnS_congr _ _ _ (fun j _ _ hj => ?_)
  have := xo_lt hj
  rw [opt_fuel k ((k + 1) ^^^ 2 ^ j) _ _ (by omega) (Nat.le_refl _)]
theorem Im.ne {s S : Nat} (h : Im c W s S) (hs : s < 2 ^ c) (hc : c ≤ 10) (h0 : s ≠ 0) : S ≠ 0 := by
  have l2 := two_c hc
  obtain ⟨q, q1, q2⟩ := ex_bit h0 (by omega)
  intro z
  have := (h (W q)).mpr ⟨q, q2, bit_c hs q2, rfl⟩
  rw [z, Nat.zero_testBit] at this
  cases this
theorem opt_rel (hI : Inv r) (hW : WO c W S0 (nv r 7)) (hd : d < nv r 6) : ∀ (k s S i : Nat), crd s = k → s < 2 ^ c → Im c W s S → i < c → opt (swN r d) S S (W i) = nv r 1 * opt (wyI r d W) s s i + k * (4 * nv r 2 + nv r 3) := by
  have lc := hW.1
  have l2 := two_c hW.1
  have l7 := hI.l7
  intro k
  induction k with
  | zero =>
    intro s S i hk hs hm hi
    have : s = 0 := crd_0 (by omega) hk
    subst this
    have := hm.z
    subst this
    rw [opt, opt]
    omega
  | succ k ih =>
    intro s S i hk hs hm hi
    have h0 : s ≠ 0 := by
      intro z
      rw [z] at hk
      rw [crd_z] at hk; omega
    have hS0 := hm.ne hs lc h0
    have hS7 := hm.lt7 hW
    have hS : S < 1024 := lt_bits (fun p hp => by have := hS7 p hp; omega)
    have hv : ∀ j, s.testBit j = true → swN r d (W i) (W j) + opt (swN r d) (S ^^^ 2 ^ W j) (S ^^^ 2 ^ W j) (W j) = nv r 1 * (wyI r d W i j + opt (wyI r d W) (s ^^^ 2 ^ j) (s ^^^ 2 ^ j) j) + (k + 1) * (4 * nv r 2 + nv r 3) := fun j hj => by
      have hjc := bit_c hs hj
      have hx := xo_lt hj
      rw [ih (s ^^^ 2 ^ j) (S ^^^ 2 ^ W j) j (by have := (crd_all s (by omega) j (by omega) hj).1; omega) (by omega) (hm.x hW hjc hj) hjc]
      show bwN r d (W i) (W j) * nv r 1 + (4 * nv r 2 + nv r 3) + _ = nv r 1 * (bwN r d (W i) (W j) + _) + _
      generalize 4 * nv r 2 + nv r 3 = K
      generalize bwN r d (W i) (W j) = B
      generalize opt (wyI r d W) (s ^^^ 2 ^ j) (s ^^^ 2 ^ j) j = O
      rw [Nat.mul_add, Nat.succ_mul, Nat.mul_comm B]
      omega
    obtain ⟨q, q1, q2⟩ := ex_bit h0 (by omega)
    have hqc := bit_c hs q2
    have hqS : S.testBit (W q) = true := (hm _).mpr ⟨q, q2, hqc, rfl⟩
    have b1 := (swN_le hI hd (hW.2.1 i hi).2 (hW.2.1 q hqc).2).2
    have b2 := opt_b hI hd hS hS7 hqS
    have hx := xo_lt q2
    have b3 := wyI_le hI hW hd hi hqc
    have b4 := optI_le (k := s ^^^ 2 ^ q) hI hW hd (s := s ^^^ 2 ^ q) (by omega) hqc
    rw [opt_un hS0, opt_big hI hW hd hs h0 hi]
    obtain ⟨x1, y, y1, y2, y3⟩ := mnS_min (s := S) (f := fun q => swN r d (W i) q + opt (swN r d) (S ^^^ 2 ^ q) (S ^^^ 2 ^ q) q) (acc := 2147483647) (i := W q) (by have := hS7 _ hqS; omega) hqS (by show swN r d (W i) (W q) + _ ≤ _; omega)
    obtain ⟨v1, u, u1, u2, u3⟩ := mnS_min (s := s) (f := fun q => wyI r d W i q + opt (wyI r d W) (s ^^^ 2 ^ q) (s ^^^ 2 ^ q) q) (acc := 1000000000) (i := q) q1 q2 (by show wyI r d W i q + _ ≤ _; omega)
    obtain ⟨j, j1, j2, j3⟩ := (hm y).mp y2
    subst j3
    have a1 := v1 j (by omega) j1
    have huc := bit_c hs u2
    have huS : S.testBit (W u) = true := (hm _).mpr ⟨u, u2, huc, rfl⟩
    have a2 := x1 (W u) (by have := hS7 _ huS; omega) huS
    have e1 := hv j j1
    have e2 := hv u u2
    have a3 := Nat.mul_le_mul_left (nv r 1) a1
    rw [e1] at y3
    rw [e2] at a2
    rw [← u3] at a2
    omega
/-- the best of the places up to q -/
def Gb (s : Nat) (V : Nat → Nat) (q : Nat) : Option Nat → Prop
  | none => ∀ i, i < q → s.testBit i = false
  | some p => s.testBit p = true ∧ p < q ∧ ∀ i, i < q → s.testBit i = true → V p ≤ V i ∧ (i < p → V p < V i)
def vOf (V : Nat → Nat) : Option Nat → Int32
  | none => 1000000000
  | some p => nI (V p)
theorem nxS_first {o : Option Nat} {S x : Nat} : ∀ (n q i : Nat), q ≤ i → i < q + n → S.testBit i = true → stp r d o i + opt (swN r d) (S ^^^ 2 ^ i) (S ^^^ 2 ^ i) i = x → (∀ j, j < i → S.testBit j = true → stp r d o j + opt (swN r d) (S ^^^ 2 ^ j) (S ^^^ 2 ^ j) j ≠ x) → nxS r d o S x n q = some i
  | 0, q, i, h1, h2, _, _, _ => by omega
  | n + 1, q, i, h1, h2, h3, h4, h5 => by
    unfold nxS
    by_cases e : i = q
    · subst e
      rw [if_pos h3, if_pos h4]
    · have ih := nxS_first (o := o) n (q + 1) i (by omega) (by omega) h3 h4 h5
      by_cases z : S.testBit q = true
      · rw [if_pos z, if_neg (h5 q (by omega) z)]
        exact ih
      · rw [if_neg z]
        exact ih
theorem choice (hW : WO c W S0 (nv r 7)) (hI : Inv r) (hs : s < 2 ^ c) (hm : Im c W s S) {o : Option Nat} {V : Nat → Nat} {C j : Nat} (hV : ∀ i, s.testBit i = true → stp r d o (W i) + opt (swN r d) (S ^^^ 2 ^ W i) (S ^^^ 2 ^ W i) (W i) = V i + C) (hB : ∀ i, s.testBit i = true → V i + C ≤ 2147483647) (hG : Gb s V c (some j)) : mnS S (fun q => stp r d o q + opt (swN r d) (S ^^^ 2 ^ q) (S ^^^ 2 ^ q) q) 10 0 2147483647 = V j + C ∧ nxS r d o S (mnS S (fun q => stp r d o q + opt (swN r d) (S ^^^ 2 ^ q) (S ^^^ 2 ^ q) q) 10 0 2147483647) 10 0 = some (W j) := by
  have l7 := hI.l7
  obtain ⟨g1, g2, g3⟩ := hG
  have hjS : S.testBit (W j) = true := (hm _).mpr ⟨j, g1, g2, rfl⟩
  have h10 : ∀ p, S.testBit p = true → p < 10 := fun p hp => by have := hm.lt7 hW p hp; omega
  have e1 := hV j g1
  have e2 := hB j g1
  obtain ⟨x1, y, y1, y2, y3⟩ := mnS_min (s := S) (f := fun q => stp r d o q + opt (swN r d) (S ^^^ 2 ^ q) (S ^^^ 2 ^ q) q) (acc := 2147483647) (i := W j) (h10 _ hjS) hjS (by show stp r d o (W j) + _ ≤ _; omega)
  obtain ⟨u, u1, u2, u3⟩ := (hm y).mp y2
  subst u3
  have a1 := x1 (W j) (h10 _ hjS) hjS
  have a2 := (g3 u u2 u1).1
  have e3 := hV u u1
  have hx : mnS S (fun q => stp r d o q + opt (swN r d) (S ^^^ 2 ^ q) (S ^^^ 2 ^ q) q) 10 0 2147483647 = V j + C := by omega
  refine ⟨hx, ?_⟩
  rw [hx]
  refine nxS_first 10 0 (W j) (by omega) (by have := h10 _ hjS; omega) hjS e1 (fun q hq hqS => ?_)
  obtain ⟨t, t1, t2, t3⟩ := (hm q).mp hqS
  subst t3
  have := (g3 t t2 t1).2 (hW.lt t2 g2 hq)
  rw [hV t t1]
  omega
theorem mvs_le (hI : Inv r) {p : Nat} (hp : p < nv r 7) (hd : d < nv r 6) : mvs r p d ≤ 92 := by
  obtain ⟨⟨x1, -⟩, x3⟩ := hI.drv d hd
  have x2 := x1.l
  have y2 := (hI.plt p hp).1.1.l
  have k2 := hI.pick.1.l
  unfold mvs
  by_cases z : r (21 + d) = -1
  · rw [if_pos z]
    have h1 : dst (nv r 11) (nv r (29 + p)) ≤ 23 := dst_le (by omega) (by omega)
    have h2 : dst (nv r (29 + p)) (nv r (17 + d)) ≤ 23 := dst_le (by omega) (by omega)
    omega
  · rw [if_neg z]
    rcases x3 with h | ⟨z1, z2⟩
    · exact absurd h z
    · have w2 := (hI.plt _ z2).1.1.l
      have h1 : dst (nv r 11) (nv r (17 + d)) ≤ 23 := dst_le (by omega) (by omega)
      have h2 : dst (nv r (17 + d)) (nv r (29 + nv r (21 + d))) ≤ 23 := dst_le (by omega) (by omega)
      have h3 : dst (nv r (29 + nv r (21 + d))) (nv r (29 + p)) ≤ 23 := dst_le (by omega) (by omega)
      have h4 : dst (nv r (29 + p)) (nv r (17 + d)) ≤ 23 := dst_le (by omega) (by omega)
      omega
theorem m_firstWay (hr : md 30 0 = r) (hI : Inv r) (hW : WO c W S0 (nv r 7)) (h34 : ∀ i, i < c → md 34 0 i = nI (W i)) (hd : d < nv r 6) {i : Nat} (hi : i < c) : f_X8_firstWay md (nI i) (nI d) = some (nI (mvs r (W i) d)) := by
  have l0 := hI.l0
  have l6 := hI.l6
  have l7 := hI.l7
  obtain ⟨⟨x1, x2⟩, x3⟩ := hI.drv d hd
  have e2 := (hI.plt _ (hW.2.1 i hi).2).1.2
  obtain ⟨k1, k2⟩ := hI.pick
  unfold f_X8_firstWay mvs
  simp (disch := omega) only [xl, xg, vinT, nI_clamp, la, ra]
  rw [hr, m_homeOf hr hI hW h34 hi, k1.e, x1.e]
  simp only [xb]
  by_cases z : r (21 + d) = -1
  · rw [if_pos z, if_pos z, m_far (by omega) (by omega), xb, m_far (by omega) (by omega), xb]
    rw [← nI_0]
    simp only [nI_add]
    congr 2
    omega
  · rcases x3 with h | ⟨z1, z2⟩
    · exact absurd h z
    · have w := (hI.plt _ z2).1
      have w2 := w.2
      rw [if_neg z, if_neg z, z1.e]
      simp (disch := omega) only [xl, xg, vinT, nI_clamp, la, ra]
      rw [w.1.e, m_far (by omega) (by omega), xb, m_far (by omega) (by omega), xb, m_far (by omega) (by omega), xb, m_far (by omega) (by omega), xb]
      simp only [nI_add]
end ROR
