/-! Layer 2: the class's time of a batch, and its order -/
section WTH
variable {b : Nat} {sd : SD} {r : RW}
theorem hold_ne {q : Nat} (hI : Inv r) (h : holdQ r (nI q) = -1) : ∀ d, d < nv r 6 → r (21 + d) ≠ nI q := fun d hd => by
  have l6 := hI.l6
  rcases holdQ_cases r (nI q) with ⟨-, h2⟩ | ⟨e, he, h1, -⟩
  · exact h2 d hd
  · rw [h, m1n (by omega)] at h1
    exact h1.elim
theorem awS_lt7 (hI : Inv r) (a : Int32) : ∀ p, (awS r a).testBit p = true → p < nv r 7 := fun p hp => by
  obtain ⟨i, h1, -, h3, -⟩ := (awS_bit r a p).mp hp
  rw [← h3]
  exact pq_lt hI h1
theorem c_leastTime (hI : Inv r) (hR : Rel b sd r) {pd : SD} {d S : Nat} (hd : d < nv r 6) (h0 : S ≠ 0) (hS : S < 1024) (hs : ∀ p, S.testBit p = true → (awS r (-1)).testBit p = true) (hP : pd 2 0 5 = -1 ∨ PTok pd r) : ∃ pd', f_X2_leastTime sd pd (nI d) (nI S) = some (nI (lst r d S), pd') ∧ (pd' 2 0 5 = -1 ∨ PTok pd' r) ∧ TbS r pd' d S ∧ (∀ p q, p < nv r 7 → q < nv r 7 → pd' 24 0 (p * 10 + q) = nI (swN r d p q)) ∧ ∀ k j t, k ≠ 23 → k ≠ 24 → ¬ (k = 2 ∧ j = 0 ∧ t = 5) → pd' k j t = pd k j t := by
  have l6 := hI.l6
  have hA := awS_lt hI (-1)
  have hA7 := awS_lt7 hI (-1)
  have hb : ∀ p, S.testBit p = true → p < nv r 7 := fun p hp => hA7 p (hs p hp)
  have ha : ∀ q, S.testBit q = true → r (21 + d) ≠ nI q := fun q hq => by
    obtain ⟨i, -, -, -, h5⟩ := (awS_bit r (-1) q).mp (hs q hq)
    exact hold_ne hI h5 d hd
  have sub : ∀ {pd : SD}, Tb (swN r d) pd (awS r (-1)) (awS r (-1)) → TbS r pd d S := fun h s p k1 k2 k3 => h s p (sub_lt (fun i hi => hs i (k1 i hi)) (hs p k2) k3) (fun i hi => hs i (k1 i hi)) (hs p k2) k3
  unfold f_X2_leastTime
  rw [if_neg (by rw [req (k := 0) (by decide) (by omega)]; exact h0), c_hasDrive hI hR, xb, hasV_in hd (by omega), if_neg i1]
  simp only [xl]
  by_cases z : pd 2 0 5 = nI d
  · rcases hP with h | ⟨d', h1, h4, h6, h7⟩
    · rw [h, m1n (by omega)] at z
      exact z.elim
    · have hdd : d' = d := (nI_eq (by omega) (by omega)).mp (h4.symm.trans z)
      subst hdd
      rw [if_pos z]
      have hT := sub h6
      exact ⟨pd, c_least49 hI hR hd hS hb ha (fun q hq => hT _ q (xo_sub (fun i h => h) hq) hq (xo_off hq)), Or.inr ⟨d', h1, h4, h6, h7⟩, hT, h7, fun _ _ _ _ _ _ => rfl⟩
  · rw [if_neg z]
    obtain ⟨p1, g1, g2, g3⟩ := c_fillSwap hI hR pd hd
    obtain ⟨p2, e1, e2, e3⟩ := c_fillRest (w := swN r d) (B := 7326) hA (by decide) (fun a c h1 h2 => (swN_le hI hd (hA7 a h1) (hA7 c h2)).2) (pd := p1) (fun a c h1 h2 => g3 a c (hA7 a h1) (hA7 c h2))
    have hT0 : Tb (swN r d) (upS p2 2 0 5 (nI d)) (awS r (-1)) (awS r (-1)) := fun s p h0 h1 h2 h3 => by
      rw [upS_k (by decide)]
      exact e3 s p h0 h1 h2 h3
    have hT := sub hT0
    have hW : ∀ p q, p < nv r 7 → q < nv r 7 → upS p2 2 0 5 (nI d) 24 0 (p * 10 + q) = nI (swN r d p q) := fun p q h1 h2 => by
      rw [upS_k (by decide), e2 24 0 _ (by decide)]
      exact g3 p q h1 h2
    refine ⟨upS p2 2 0 5 (nI d), ?_, Or.inr ⟨d, hd, upS_hit _ _ _ _ _, hT0, hW⟩, hT, hW, fun k j t k1 k2 k3 => ?_⟩
    · rw [g1, xb, c_awayPlatters hI hR, xb, e1, xb]
      exact c_least49 hI hR hd hS hb ha (fun q hq => hT _ q (xo_sub (fun i h => h) hq) hq (xo_off hq))
    · have : upS p2 2 0 5 (nI d) k j t = p2 k j t := by
        simp only [upS]
        rw [if_neg (by omega)]
      rw [this, e2 k j t k1, g2 k j t k2]
/-- without a request no other platter is wanted -/
theorem awS_sub (r : RW) (a : Int32) (h : ∀ i, i < nv r 16 → nI i ≠ -1) : ∀ p, (awS r a).testBit p = true → (awS r (-1)).testBit p = true := fun p hp => by
  obtain ⟨i, h1, -, h3, h4⟩ := (awS_bit r a p).mp hp
  exact (awS_bit r (-1) p).mpr ⟨i, h1, h i h1, h3, h4⟩
/-- the time of a batch without the request a -/
theorem c_timeWithout (hI : Inv r) (hR : Rel b sd r) (hb : b < 2 ^ 29) (h0 : 0 < nv r 6) {pd : SD} (hP : pd 2 0 5 = -1 ∨ PTok pd r) (a : Int32) : ∃ d pd', d < nv r 6 ∧ freQ r (useC sd (mkF r a (nv r 16) 0 0)) = nI d ∧ f_X2_timeWithout sd pd a = some (rtF r a (nv r 16) 0 0 + (if awS r a = 0 then 0 else nI (lst r d (awS r a))), pd') ∧ (pd' 2 0 5 = -1 ∨ PTok pd' r) ∧ ∀ k j t, k ≠ 23 → k ≠ 24 → ¬ (k = 2 ∧ j = 0 ∧ t = 5) → pd' k j t = pd k j t := by
  obtain ⟨d, hd, hq⟩ := freQ_cases r (useC sd (mkF r a (nv r 16) 0 0)) h0
  unfold f_X2_timeWithout
  rw [c_awayPlatters hI hR, xb, c_driveAfterReading hI hR hb h0, xb, hq]
  by_cases z : awS r a = 0
  · refine ⟨d, pd, hd, rfl, ?_, hP, fun _ _ _ _ _ _ => rfl⟩
    have e : f_X2_leastTime sd pd (nI d) (nI (awS r a)) = some (0, pd) := by
      unfold f_X2_leastTime
      rw [z, nI_0, if_pos rfl]
    rw [e, xb, c_requestsReadTime hI hR, if_pos z]
    rfl
  · obtain ⟨pd', g1, g2, -, -, g4⟩ := c_leastTime hI hR (pd := pd) hd z (awS_lt hI a) (awS_sub r a (fun i hi e => by
      have l16 := hI.l16
      rw [nm1 (by omega)] at e
      exact e)) hP
    refine ⟨d, pd', hd, rfl, ?_, g2, g4⟩
    rw [g1, xb, c_requestsReadTime hI hR, if_neg z]
    rfl
/-- a step of the order: to the first platter, or from one to another -/
def stp (r : RW) (d : Nat) : Option Nat → Nat → Nat
  | none, q => btm r q d
  | some p, q => swN r d p q
def pvI : Option Nat → Int32
  | none => -1
  | some p => nI p
theorem c_stepTime (hI : Inv r) (hR : Rel b sd r) {pd : SD} {d q : Nat} (hd : d < nv r 6) (h4 : pd 2 0 4 = nI d) (hw : ∀ p q, p < nv r 7 → q < nv r 7 → pd 24 0 (p * 10 + q) = nI (swN r d p q)) (o : Option Nat) (ho : ∀ p, o = some p → p < nv r 7) (hq : q < nv r 7) (ha : r (21 + d) ≠ nI q) : f_X2_stepTime sd pd (pvI o) (nI q) = some (nI (stp r d o q)) := by
  have l7 := hI.l7
  unfold f_X2_stepTime
  cases o with
  | none =>
    rw [if_pos (show pvI none = -1 from rfl), h4, c_bringTime hI hR hq hd, xb, if_neg ha]
    rfl
  | some p =>
    have hp := ho p rfl
    have e : ¬ (pvI (some p) = -1) := by
      show ¬ (nI p = -1)
      rw [nm1 (by omega)]; exact id
    rw [if_neg e]
    show x_guard (vp_in (nI p * (10 : Int32) + nI q) 100) (some (pd 24 0 (nI p * (10 : Int32) + nI q).toNatClampNeg)) = _
    have e1 : nI p * (10 : Int32) + nI q = nI (p * 10 + q) := by rw [rmu, nI_add]
    rw [e1]
    simp (disch := omega) only [xg, vinT, nI_clamp]
    rw [hw p q hp hq]
    rfl
/-- the lowest next platter of a set whose least time is x -/
def nxS (r : RW) (d : Nat) (o : Option Nat) (S x : Nat) : Nat → Nat → Option Nat
  | 0, _ => none
  | n + 1, q => if S.testBit q = true then (if stp r d o q + opt (swN r d) (S ^^^ 2 ^ q) (S ^^^ 2 ^ q) q = x then some q else nxS r d o S x n (q + 1)) else nxS r d o S x n (q + 1)
theorem c_lowestNext (hI : Inv r) (hR : Rel b sd r) {pd : SD} {d S x : Nat} (hd : d < nv r 6) (hS : S < 1024) (hb : ∀ p, S.testBit p = true → p < nv r 7) (ha : ∀ q, S.testBit q = true → r (21 + d) ≠ nI q) (h4 : pd 2 0 4 = nI d) (hw : ∀ p q, p < nv r 7 → q < nv r 7 → pd 24 0 (p * 10 + q) = nI (swN r d p q)) (ht : ∀ q, S.testBit q = true → pd 23 0 ((S ^^^ 2 ^ q) * 10 + q) = nI (opt (swN r d) (S ^^^ 2 ^ q) (S ^^^ 2 ^ q) q)) (o : Option Nat) (ho : ∀ p, o = some p → p < nv r 7) (hx : x < 2 ^ 31) : f_X2_lowestNext sd pd (pvI o) (nI S) (nI x) = some (pvI (nxS r d o S x 10 0)) := by
  have key : ∀ (n q f : Nat), q + n = 10 → n < f → f_X2_lowestNext_L3 (nI S) sd pd (pvI o) (nI x) f (nI q) = some (pvI (nxS r d o S x n q)) := by
    intro n
    induction n with
    | zero =>
      intro q f h1 h2
      obtain ⟨f, rfl⟩ : ∃ y, f = y + 1 := ⟨f - 1, by omega⟩
      have : q = 10 := by omega
      subst this
      rw [f_X2_lowestNext_L3, if_pos (by decide)]
      rfl
    | succ n ih =>
      intro q f h1 h2
      obtain ⟨f, rfl⟩ : ∃ y, f = y + 1 := ⟨f - 1, by omega⟩
      have hq : q < 10 := by omega
      have c10 : ¬ ((10 : Int32) ≤ nI q) := by rw [lle (k := 10) (by decide) (by omega)]; show ¬ 10 ≤ q; omega
      rw [f_X2_lowestNext_L3, if_neg c10, nxS]
      by_cases z : S.testBit q = true
      · have z1 : ¬ (((nI S >>> (nI q &&& 31)) &&& (1 : Int32)) = 0) := by rw [bit_tt hS hq, z]; decide
        have hl := xo_lt z
        rw [if_neg z1, if_pos z, sh1n q hq, nI_xor]
        have e1 : nI (S ^^^ 2 ^ q) * (10 : Int32) + nI q = nI ((S ^^^ 2 ^ q) * 10 + q) := by rw [rmu, nI_add]
        rw [e1, c_stepTime hI hR hd h4 hw o ho (hb q z) (ha q z), xb]
        simp (disch := omega) only [xl, xg, vinT, nI_clamp, ra]
        have b1 := opt_b hI hd hS hb z
        have b2 : stp r d o q ≤ 9603 := by
          cases o with
          | none => exact btm_le hI (hb q z) hd
          | some p => exact Nat.le_trans (swN_le hI hd (ho p rfl) (hb q z)).2 (by decide)
        rw [ht q z, nI_add]
        by_cases y : stp r d o q + opt (swN r d) (S ^^^ 2 ^ q) (S ^^^ 2 ^ q) q = x
        · rw [if_pos y, if_pos (by rw [y])]
          rfl
        · rw [if_neg y, if_neg (by rw [nI_eq (by omega) (by omega)]; exact y)]
          exact ih (q + 1) f (by omega) (by omega)
      · have z0 : S.testBit q = false := by simpa using z
        rw [if_pos ((bit_tt hS hq).mpr z0), if_neg z]
        simp only [xl, ra]
        exact ih (q + 1) f (by omega) (by omega)
  unfold f_X2_lowestNext
  have h := key 10 0 fuel (by omega) (by unfold fuel; omega)
  rw [nI_0] at h
  exact h
end WTH
