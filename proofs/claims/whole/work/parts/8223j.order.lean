/-! Layer 2: the class's order of a batch -/
section ORD
variable {b : Nat} {sd : SD} {r : RW}
/-- the order in which a set is brought -/
def ordL (r : RW) (d : Nat) : Nat → Option Nat → Nat → Nat → List Nat
  | 0, _, _, _ => []
  | n + 1, o, S, x => if S = 0 then [] else match nxS r d o S x 10 0 with
    | none => []
    | some q => q :: ordL r d n (some q) (S ^^^ 2 ^ q) (opt (swN r d) (S ^^^ 2 ^ q) (S ^^^ 2 ^ q) q)
theorem nxS_bit {r : RW} {d : Nat} {o : Option Nat} {S x : Nat} : ∀ (n q i : Nat), nxS r d o S x n q = some i → S.testBit i = true
  | 0, _, _, h => by cases h
  | n + 1, q, i, h => by
    unfold nxS at h
    by_cases z : S.testBit q = true
    · rw [if_pos z] at h
      by_cases y : stp r d o q + opt (swN r d) (S ^^^ 2 ^ q) (S ^^^ 2 ^ q) q = x
      · rw [if_pos y] at h
        cases h
        exact z
      · rw [if_neg y] at h
        exact nxS_bit n (q + 1) i h
    · rw [if_neg z] at h
      exact nxS_bit n (q + 1) i h
theorem c_plan49 (hI : Inv r) (hR : Rel b sd r) {d S0 : Nat} (hd : d < nv r 6) (hS0 : S0 < 1024) (hb : ∀ p, S0.testBit p = true → p < nv r 7) (ha : ∀ q, S0.testBit q = true → r (21 + d) ≠ nI q) : ∀ (n i f S x : Nat) (o : Option Nat) (pd : SD), i + n = 10 → n < f → S ≤ S0 → (∀ p, S.testBit p = true → S0.testBit p = true) → x < 2 ^ 31 → (∀ p, o = some p → p < nv r 7) → pd 2 0 3 = nI i → pd 2 0 4 = nI d → (∀ p q, p < nv r 7 → q < nv r 7 → pd 24 0 (p * 10 + q) = nI (swN r d p q)) → TbS r pd d S0 → ∃ pd', f_X2_planOrder_L49 sd f (nI S) (nI x) (pvI o) (nI i) pd = some pd' ∧ (∀ k j t, k ≠ 25 → ¬ (k = 2 ∧ j = 0 ∧ t = 3) → pd' k j t = pd k j t) ∧ pd' 2 0 3 = nI (i + (ordL r d n o S x).length) ∧ (∀ t, t < i → pd' 25 0 t = pd 25 0 t) ∧ ∀ t, t < (ordL r d n o S x).length → pd' 25 0 (i + t) = nI ((ordL r d n o S x).getD t 0) := by
  have l7 := hI.l7
  intro n
  induction n with
  | zero =>
    intro i f S x o pd h1 h2 h3 h4 h5 h6 h7 h8 h9 h10
    obtain ⟨f, rfl⟩ : ∃ y, f = y + 1 := ⟨f - 1, by omega⟩
    have : i = 10 := by omega
    subst this
    rw [f_X2_planOrder_L49, if_pos (by decide)]
    exact ⟨pd, rfl, fun _ _ _ _ _ => rfl, h7, fun _ _ => rfl, fun t ht => by simp [ordL] at ht⟩
  | succ n ih =>
    intro i f S x o pd h1 h2 h3 h4 h5 h6 h7 h8 h9 h10
    obtain ⟨f, rfl⟩ : ∃ y, f = y + 1 := ⟨f - 1, by omega⟩
    have c10 : ¬ ((10 : Int32) ≤ nI i) := by rw [lle (k := 10) (by decide) (by omega)]; show ¬ 10 ≤ i; omega
    rw [f_X2_planOrder_L49, if_neg c10, ordL]
    by_cases z : S = 0
    · rw [if_pos z, if_pos (by rw [z]; rfl)]
      exact ⟨pd, rfl, fun _ _ _ _ _ => rfl, h7, fun _ _ => rfl, fun t ht => by simp at ht⟩
    · have hS : S < 1024 := by omega
      rw [if_neg z, if_neg (by rw [req (k := 0) (by decide) (by omega)]; exact z)]
      have hln := c_lowestNext hI hR (pd := pd) (x := x) hd hS (fun p hp => hb p (h4 p hp)) (fun q hq => ha q (h4 q hq)) h8 h9 (fun q hq => h10 _ q (xo_sub h4 hq) (h4 q hq) (xo_off hq)) o h6 h5
      rw [hln, xb]
      cases hn : nxS r d o S x 10 0 with
      | none =>
        rw [if_pos (show pvI none = -1 from rfl)]
        exact ⟨pd, rfl, fun _ _ _ _ _ => rfl, h7, fun _ _ => rfl, fun t ht => by simp at ht⟩
      | some q =>
        have hq := nxS_bit 10 0 q hn
        have hq0 := h4 q hq
        have hql := hb q hq0
        have hxl := xo_lt hq
        have e : ¬ (pvI (some q) = -1) := by
          show ¬ (nI q = -1)
          rw [nm1 (by omega)]; exact id
        rw [if_neg e]
        show ∃ pd', (x_let (nI S ^^^ ((1 : Int32) <<< (nI q &&& 31))) fun (x9 : Int32) => x_guard (vp_in ((x9 * (10 : Int32)) + nI q) 10240) <| x_let ((pd 23 0 (((x9 * (10 : Int32)) + nI q)).toNatClampNeg)) fun (x11 : Int32) => x_guard (vp_in (nI i) 10) <| x_let (upS pd 25 0 (nI i).toNatClampNeg (nI q)) fun (pd13 : SD) => x_let (upS pd13 2 0 3 ((pd13 2 0 3) + (1 : Int32))) fun (pd14 : SD) => x_let (nI i + (1 : Int32)) fun (x15 : Int32) => f_X2_planOrder_L49 sd f (x9) (x11) (nI q) (x15) (pd14)) = some pd' ∧ _
        rw [sh1n q (by omega), nI_xor]
        simp only [xl]
        have e1 : nI (S ^^^ 2 ^ q) * (10 : Int32) + nI q = nI ((S ^^^ 2 ^ q) * 10 + q) := by rw [rmu, nI_add]
        rw [e1]
        simp (disch := omega) only [xg, vinT, nI_clamp, ra]
        rw [h10 _ q (xo_sub h4 hq) hq0 (xo_off hq), upS_k (show (2 : Nat) ≠ 25 by decide), h7, nI_1]
        have hob := opt_b hI hd hS (fun p hp => hb p (h4 p hp)) hq
        have s1 : ∀ k j t, k ≠ 25 → ¬ (k = 2 ∧ j = 0 ∧ t = 3) → upS (upS pd 25 0 i (nI q)) 2 0 3 (nI (i + 1)) k j t = pd k j t := fun k j t k1 k2 => by
          simp only [upS]
          rw [if_neg k2, if_neg (by omega)]
        obtain ⟨pd', g1, g2, g3, g4, g5⟩ := ih (i + 1) f (S ^^^ 2 ^ q) (opt (swN r d) (S ^^^ 2 ^ q) (S ^^^ 2 ^ q) q) (some q) (upS (upS pd 25 0 i (nI q)) 2 0 3 (nI (i + 1))) (by omega) (by omega) (by omega) (xo_sub h4 hq) (by omega) (fun p hp => by cases hp; exact hql) (upS_hit _ _ _ _ _) (by rw [s1 _ _ _ (by decide) (by decide)]; exact h8) (fun p q hp hq => by rw [s1 _ _ _ (by decide) (by omega)]; exact h9 p q hp hq) (fun s p k1 k2 k3 => by rw [s1 _ _ _ (by decide) (by omega)]; exact h10 s p k1 k2 k3)
        refine ⟨pd', g1, fun k j t k1 k2 => by rw [g2 k j t k1 k2, s1 k j t k1 k2], ?_, fun t ht => ?_, fun t ht => ?_⟩
        · rw [g3, List.length_cons]
          congr 1
          omega
        · rw [g4 t (by omega), upS_k (by decide), upS_t (by omega)]
        · rw [List.length_cons] at ht
          cases t with
          | zero =>
            show pd' 25 0 i = nI q
            rw [g4 i (by omega), upS_k (by decide), upS_hit]
          | succ t =>
            have := g5 t (by omega)
            rw [show i + (t + 1) = i + 1 + t by omega, this]
            rfl
end ORD
