/-! Layer 2: the whole relation -/
/-- the least of the values over a set of at most ten -/
def mnS (s : Nat) (f : Nat → Nat) : Nat → Nat → Nat → Nat
  | 0, _, acc => acc
  | n + 1, q, acc => mnS s f n (q + 1) (if s.testBit q = true then (if f q < acc then f q else acc) else acc)
/-- the least sum over the orders of a set, by steps w, from p on -/
def opt (w : Nat → Nat → Nat) : Nat → Nat → Nat → Nat
  | 0, _, _ => 0
  | k + 1, s, p => if s = 0 then 0 else mnS s (fun q => w p q + opt w k (s ^^^ 2 ^ q) q) 10 0 2147483647
/-- the way and the time of an exchange of one platter for another in a drive -/
def bwN (r : RW) (d p q : Nat) : Nat := dst (nv r (17 + d)) (nv r (29 + p)) + dst (nv r (29 + p)) (nv r (29 + q)) + dst (nv r (29 + q)) (nv r (17 + d))
def swN (r : RW) (d p q : Nat) : Nat := bwN r d p q * nv r 1 + (4 * nv r 2 + nv r 3)
/-- the table up to a set -/
def Tb (w : Nat → Nat → Nat) (pd : SD) (S s : Nat) : Prop := ∀ s' p', s' < s → (∀ i, s'.testBit i = true → S.testBit i = true) → S.testBit p' = true → s'.testBit p' = false → pd 23 0 (s' * 10 + p') = nI (opt w s' s' p')
/-- the platter of a request -/
def pq (r : RW) (q : Nat) : Nat := nv r (349 + nv r (289 + nv r (589 + q)))
/-- the platters that are wanted and in no drive -/
def awF (r : RW) (a : Int32) : Nat → Nat → Nat → Nat
  | 0, _, s => s
  | n + 1, q, s => awF r a n (q + 1) (if nI q = a then s else if holdQ r (nI (pq r q)) = -1 then s ||| 2 ^ pq r q else s)
/-- the set of the wanted platters that are away -/
def awS (r : RW) (a : Int32) : Nat := awF r a (nv r 16) 0 0
/-- the planner's table is right for a drive and all wanted platters that are away -/
def PTok (pd : SD) (r : RW) : Prop := ∃ d, d < nv r 6 ∧ pd 2 0 5 = nI d ∧ Tb (swN r d) pd (awS r (-1)) (awS r (-1)) ∧ ∀ p q, p < nv r 7 → q < nv r 7 → pd 24 0 (p * 10 + q) = nI (swN r d p q)
def PT (cs : CT) (r : RW) : Prop := k_pl cs = none ∨ k_pd cs 2 0 5 = -1 ∨ PTok (k_pd cs) r
/-- the text that was fed, and the last error -/
def TX (cs : CT) (m : SD) : Prop := (∃ n, n ≤ 900 ∧ k_rd cs 5 0 1 = nI n ∧ m 8 0 15 = nI n ∧ ∀ t, t < n → k_rd cs 20 0 t = m 38 0 t) ∧ k_jd cs 7 0 1 = m 8 0 16 ∧ m 8 0 17 = if k_jd cs 7 0 1 = 0 then -1000005 else k_jd cs 7 0 2
/-- the catalogue that was written -/
def OU (cs : CT) (m : SD) : Prop := ∃ n, n ≤ 280 ∧ k_jd cs 7 0 8 = nI n ∧ m 8 0 12 = nI n ∧ ∀ t, t < n → k_jd cs 26 0 t = m 37 0 t
def JJ (b : Nat) (cs : CT) (m : SD) : Prop := Inv (m 30 0) ∧ Rel b (k_xs cs (k_st cs)) (m 30 0) ∧ (∃ f0 c, HSx b cs m f0 c) ∧ DS cs ∧ TX cs m ∧ OU cs m ∧ PT cs (m 30 0)
theorem scr_no {k t : Nat} (h : ¬ (k = 8 ∧ (t = 0 ∨ t = 6 ∨ t = 10)) ∧ k ≠ 32 ∧ k ≠ 34 ∧ k ≠ 35 ∧ k ≠ 36) : ¬ scr k t := by
  unfold scr
  omega
section JJS
variable {b b' : Nat} {cs cs' : CT} {m m' : SD}
theorem HSx.same {f0 c : Nat} (h : HSx b cs m f0 c) (h5 : m' 8 0 5 = m 8 0 5) (h33 : ∀ t, m' 33 0 t = m 33 0 t) : HSx b cs m' f0 c := by
  obtain ⟨a1, a2, a3, a4, a5, a6⟩ := h
  have e : ∀ k, prow m' k = prow m k := fun k => by
    funext i
    exact h33 _
  refine ⟨a1, a2, a3, a4, h5.trans a5, fun k hk => ?_⟩
  rw [e]
  exact a6 k hk
/-- the reference's own scratch cells don't matter -/
theorem JJ.same (h : JJ b cs m) (hs : MSame m m') : JJ b cs m' := by
  obtain ⟨h1, h2, ⟨f0, c, h3⟩, h4, h5, h6, h7⟩ := h
  have hr := hs.row
  have e : ∀ k j t, ¬ (k = 8 ∧ (t = 0 ∨ t = 6 ∨ t = 10)) ∧ k ≠ 32 ∧ k ≠ 34 ∧ k ≠ 35 ∧ k ≠ 36 → m' k j t = m k j t := fun k j t h => hs k j t (scr_no h)
  refine ⟨by rw [hr]; exact h1, by rw [hr]; exact h2, ⟨f0, c, h3.same (e _ _ _ (by omega)) (fun t => e _ _ _ (by omega))⟩, h4, ?_, ?_, by rw [hr]; exact h7⟩
  · obtain ⟨⟨n, t1, t2, t3, t4⟩, t5, t6⟩ := h5
    refine ⟨⟨n, t1, t2, ?_, fun t ht => ?_⟩, ?_, ?_⟩
    · rw [e _ _ _ (by omega)]; exact t3
    · rw [e _ _ _ (by omega)]; exact t4 t ht
    · rw [e _ _ _ (by omega)]; exact t5
    · rw [e _ _ _ (by omega)]; exact t6
  · obtain ⟨n, t1, t2, t3, t4⟩ := h6
    refine ⟨n, t1, t2, ?_, fun t ht => ?_⟩
    · rw [e _ _ _ (by omega)]; exact t3
    · rw [e _ _ _ (by omega)]; exact t4 t ht
/-- an edit: remembering, then the same change on both sides -/
theorem JJ.edit {m1 m2 : SD} {cs1 : CT} {f1 c1 : Nat} {sd' : SD} (h : JJ b cs m) (hs : MSame m m') (hb : b ≤ b') (e3 : HSx b cs1 m1 f1 c1) (e4 : DS cs1) (e5 : KS cs cs1) (e6 : FG cs cs1) (e7 : ∀ k j t, k ≠ 33 → ¬ (k = 8 ∧ j = 0 ∧ t = 5) → m1 k j t = m' k j t) (hX : MX m1 m2) (hI2 : Inv (m2 30 0)) (hR2 : Rel b' sd' (m2 30 0)) : JJ b' (kS cs1 (k_st cs1) sd') m2 := by
  obtain ⟨-, -, -, -, h5, h6, h7⟩ := h
  obtain ⟨k1, k2, k3, k4, k5, k6⟩ := e5
  obtain ⟨d1, d2, d3, d4, d5, d6⟩ := e4
  have e : ∀ k j t, ¬ (k = 8 ∧ (t = 0 ∨ t = 5 ∨ t = 6 ∨ t = 10)) ∧ k ≠ 30 ∧ k ≠ 32 ∧ k ≠ 33 ∧ k ≠ 34 ∧ k ≠ 35 ∧ k ≠ 36 → m2 k j t = m k j t := fun k j t h => by
    rw [hX k j t (by omega) (by omega), e7 k j t (by omega) (by omega), hs k j t (scr_no (by omega))]
  have x1 : k_xs (kS cs1 (k_st cs1) sd') (k_st cs1) = sd' := va_hit _ _ _
  refine ⟨hI2, ?_, ⟨f1, c1, ?_⟩, ⟨d1, d2, d3, d4, d5, d6⟩, ?_, ?_, ?_⟩
  · show Rel b' (k_xs (kS cs1 (k_st cs1) sd') (k_st cs1)) _
    rw [x1]; exact hR2
  · obtain ⟨a1, a2, a3, a4, a5, a6⟩ := e3
    have ep : ∀ k, prow m2 k = prow m1 k := fun k => by
      funext i
      exact hX 33 0 _ (by omega) (by omega)
    refine ⟨a1, a2, a3, a4, ?_, fun k hk => ?_⟩
    · rw [hX 8 0 5 (by omega) (by omega)]; exact a5
    · obtain ⟨q, q1, q2, q3⟩ := a6 k hk
      refine ⟨q, q1, by rw [ep]; exact q2, ?_⟩
      rw [ep]
      have : k_xs (kS cs1 (k_st cs1) sd') q = k_xs cs1 q := va_off _ _ (d2 _ _ q1).1
      rw [this]
      exact q3.more hb
  · obtain ⟨⟨n, t1, t2, t3, t4⟩, t5, t6⟩ := h5
    refine ⟨⟨n, t1, ?_, ?_, fun t ht => ?_⟩, ?_, ?_⟩
    · show k_rd cs1 5 0 1 = _
      rw [k4]; exact t2
    · rw [e _ _ _ (by omega)]; exact t3
    · show k_rd cs1 20 0 t = _
      rw [k4, e _ _ _ (by omega)]; exact t4 t ht
    · show k_jd cs1 7 0 1 = _
      rw [k6, e _ _ _ (by omega)]; exact t5
    · show _ = if k_jd cs1 7 0 1 = 0 then _ else k_jd cs1 7 0 2
      rw [k6, e _ _ _ (by omega)]; exact t6
  · obtain ⟨n, t1, t2, t3, t4⟩ := h6
    refine ⟨n, t1, ?_, ?_, fun t ht => ?_⟩
    · show k_jd cs1 7 0 8 = _
      rw [k6]; exact t2
    · rw [e _ _ _ (by omega)]; exact t3
    · show k_jd cs1 26 0 t = _
      rw [k6, e _ _ _ (by omega)]; exact t4 t ht
  · show k_pl cs1 = none ∨ k_pd cs1 2 0 5 = -1 ∨ _
    obtain ⟨g1, g2⟩ := e6
    by_cases z : k_pl cs = none
    · exact Or.inl (g1.trans z)
    · refine Or.inr (Or.inl ?_)
      rw [g2 z, upS_hit]
end JJS
