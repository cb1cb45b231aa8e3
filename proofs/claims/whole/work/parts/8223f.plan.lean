/-! Layer 2: the class's table of least times -/
theorem sub_iff {s S : Nat} (hs : s < 1024) (hS : S < 1024) : ((nI s &&& (nI S ^^^ (-1 : Int32))) = 0) ↔ ∀ i, s.testBit i = true → S.testBit i = true := by
  have key : ∀ i, i < 32 → (nI s &&& (nI S ^^^ (-1 : Int32))).toBitVec.getLsbD i = (s.testBit i && !S.testBit i) := by
    intro i hi
    show ((nI s).toBitVec &&& ((nI S).toBitVec ^^^ (-1 : Int32).toBitVec)).getLsbD i = _
    have e1 : (-1 : Int32).toBitVec = BitVec.allOnes 32 := by decide
    have f : ∀ n, (nI n).toBitVec.getLsbD i = n.testBit i := fun n => by
      show (BitVec.ofNat 32 n).getLsbD i = _
      rw [BitVec.getLsbD_ofNat]
      simp only [hi, decide_true, Bool.true_and]
    rw [e1, BitVec.getLsbD_and, BitVec.getLsbD_xor, BitVec.getLsbD_allOnes, f s, f S]
    simp [hi]
  constructor
  · intro h i hi
    have h10 := tb_lt hs hi
    have := key i (by omega)
    rw [h, hi] at this
    simp at this
    exact this
  · intro h
    apply Int32.toBitVec_inj.mp
    apply BitVec.eq_of_getLsbD_eq
    intro i hi
    rw [key i hi]
    cases z : s.testBit i with
    | false => simp
    | true => simp [h i z]
section PLN
variable {b : Nat} {sd : SD} {r : RW}
theorem swN_le (hI : Inv r) {d p q : Nat} (hd : d < nv r 6) (hp : p < nv r 7) (hq : q < nv r 7) : bwN r d p q ≤ 69 ∧ swN r d p q ≤ 7326 := by
  obtain ⟨⟨x1, -⟩, -⟩ := hI.drv d hd
  have x2 := x1.l
  have y2 := (hI.plt p hp).1.1.l
  have z2 := (hI.plt q hq).1.1.l
  obtain ⟨t1, t2, t3, -⟩ := hI.tim
  have t1 := t1.l
  have t2 := t2.l
  have t3 := t3.l
  have h1 : dst (nv r (17 + d)) (nv r (29 + p)) ≤ 23 := dst_le (by omega) (by omega)
  have h2 : dst (nv r (29 + p)) (nv r (29 + q)) ≤ 23 := dst_le (by omega) (by omega)
  have h3 : dst (nv r (29 + q)) (nv r (17 + d)) ≤ 23 := dst_le (by omega) (by omega)
  have hb : bwN r d p q ≤ 69 := by unfold bwN; omega
  refine ⟨hb, ?_⟩
  unfold swN
  have : bwN r d p q * nv r 1 ≤ 69 * 99 := Nat.mul_le_mul hb t1
  omega
theorem c_swap54 (hI : Inv r) (hR : Rel b sd r) {d p : Nat} (hd : d < nv r 6) (hp : p < nv r 7) : ∀ (k q f : Nat) (pd : SD), q + k = nv r 7 → k < f → ∃ pd', f_X2_fillSwap_L54 sd (nI (nv r (17 + d))) (nI (nv r (29 + p))) (nI p) (nI (4 * nv r 2 + nv r 3)) f (nI q) pd = some (nI (nv r 7), pd') ∧ (∀ k j t, ¬ (k = 24 ∧ j = 0 ∧ p * 10 + q ≤ t ∧ t < p * 10 + 10) → pd' k j t = pd k j t) ∧ ∀ i, q ≤ i → i < nv r 7 → pd' 24 0 (p * 10 + i) = nI (swN r d p i) := by
  have l7 := hI.l7
  intro k
  induction k with
  | zero =>
    intro q f pd h1 h2
    obtain ⟨f, rfl⟩ : ∃ x, f = x + 1 := ⟨f - 1, by omega⟩
    have : q = nv r 7 := by omega
    subst this
    rw [f_X2_fillSwap_L54, hR.s6, hI.c7, if_pos (nI_le (Nat.le_refl _) (by omega))]
    exact ⟨pd, rfl, fun _ _ _ _ => rfl, fun i h3 h4 => by omega⟩
  | succ k ih =>
    intro q f pd h1 h2
    obtain ⟨f, rfl⟩ : ∃ x, f = x + 1 := ⟨f - 1, by omega⟩
    have hq : q < nv r 7 := by omega
    obtain ⟨⟨x1, -⟩, -⟩ := hI.drv d hd
    have x2 := x1.l
    have y2 := (hI.plt p hp).1.1.l
    have z1 := (hI.plt q hq).1.1
    have z2 := z1.l
    rw [f_X2_fillSwap_L54, hR.s6, hI.c7, if_neg (by rw [nI_leI (by omega) (by omega)]; omega)]
    simp (disch := omega) only [xl, xg, vinT, nI_clamp, (hR.pl q hq).1, z1.e, c_abs, nI_add, rmu, ra]
    rw [hR.tm.1, hI.tim.1.e, pk_mul, nI_add]
    obtain ⟨pd', g1, g2, g3⟩ := ih (q + 1) f (upS pd 24 0 (p * 10 + q) (nI (swN r d p q))) (by omega) (by omega)
    refine ⟨pd', g1, fun k j t h => ?_, fun i h3 h4 => ?_⟩
    · rw [g2 k j t (by omega)]
      simp only [upS]
      rw [if_neg (by omega)]
    · by_cases z : i = q
      · subst z
        rw [g2 24 0 _ (by omega), upS_hit]
      · exact g3 i (by omega) h4
theorem c_fillSwap (hI : Inv r) (hR : Rel b sd r) (pd : SD) {d : Nat} (hd : d < nv r 6) : ∃ pd', f_X2_fillSwap sd pd (nI d) = some pd' ∧ (∀ k j t, k ≠ 24 → pd' k j t = pd k j t) ∧ ∀ p q, p < nv r 7 → q < nv r 7 → pd' 24 0 (p * 10 + q) = nI (swN r d p q) := by
  have l7 := hI.l7
  have l6 := hI.l6
  have key : ∀ (k p f : Nat) (pd : SD), p + k = nv r 7 → k < f → ∃ pd', f_X2_fillSwap_L30 sd (nI (nv r (17 + d))) (nI (4 * nv r 2 + nv r 3)) f (nI p) pd = some pd' ∧ (∀ k j t, ¬ (k = 24 ∧ j = 0 ∧ p * 10 ≤ t) → pd' k j t = pd k j t) ∧ ∀ i q, p ≤ i → i < nv r 7 → q < nv r 7 → pd' 24 0 (i * 10 + q) = nI (swN r d i q) := by
    intro k
    induction k with
    | zero =>
      intro p f pd h1 h2
      obtain ⟨f, rfl⟩ : ∃ x, f = x + 1 := ⟨f - 1, by omega⟩
      have : p = nv r 7 := by omega
      subst this
      rw [f_X2_fillSwap_L30, hR.s6, hI.c7, if_pos (nI_le (Nat.le_refl _) (by omega))]
      exact ⟨pd, rfl, fun _ _ _ _ => rfl, fun i q h3 h4 => by omega⟩
    | succ k ih =>
      intro p f pd h1 h2
      obtain ⟨f, rfl⟩ : ∃ x, f = x + 1 := ⟨f - 1, by omega⟩
      have hp : p < nv r 7 := by omega
      have y1 := (hI.plt p hp).1.1
      have y2 := y1.l
      rw [f_X2_fillSwap_L30, hR.s6, hI.c7, if_neg (by rw [nI_leI (by omega) (by omega)]; omega)]
      simp (disch := omega) only [xl, xg, vinT, nI_clamp, (hR.pl p hp).1, y1.e, ra]
      obtain ⟨pd1, g1, g2, g3⟩ := c_swap54 hI hR hd hp (nv r 7) 0 fuel pd (by omega) (by unfold fuel; omega)
      rw [nI_0] at g1
      rw [g1, xb]
      obtain ⟨pd', e1, e2, e3⟩ := ih (p + 1) f pd1 (by omega) (by omega)
      refine ⟨pd', e1, fun k j t h => ?_, fun i q h3 h4 h5 => ?_⟩
      · rw [e2 k j t (by omega), g2 k j t (by omega)]
      · by_cases z : i = p
        · subst z
          rw [e2 24 0 _ (by omega)]
          exact g3 q (by omega) h5
        · exact e3 i q (by omega) h4 h5
  obtain ⟨⟨x1, -⟩, -⟩ := hI.drv d hd
  obtain ⟨t1, t2, t3, -⟩ := hI.tim
  have t2l := t2.l
  have t3l := t3.l
  obtain ⟨pd', g1, g2, g3⟩ := key (nv r 7) 0 fuel pd (by omega) (by unfold fuel; omega)
  refine ⟨pd', ?_, fun k j t h => g2 k j t (by omega), fun p q hp hq => g3 p q (by omega) hp hq⟩
  unfold f_X2_fillSwap
  simp (disch := omega) only [xl, xg, vinT, nI_clamp, (hR.dr d hd).1, x1.e, hR.tm.2.1, hR.tm.2.2.1, t2.e, t3.e, lm, nI_add]
  rw [nI_0] at g1
  exact g1
theorem c_rest17 {w : Nat → Nat → Nat} {B S s : Nat} (hS : S < 1024) (hs : s < 1024) (hsub : ∀ i, s.testBit i = true → S.testBit i = true) (hB : B ≤ 10000) (hwB : ∀ a c, S.testBit a = true → S.testBit c = true → w a c ≤ B) : ∀ (k p f : Nat) (pd : SD), p + k = 10 → k < f → (∀ a c, S.testBit a = true → S.testBit c = true → pd 24 0 (a * 10 + c) = nI (w a c)) → Tb w pd S s → ∃ pd', f_X2_fillRest_L17 (nI S) (nI s) f (nI p) pd = some (nI 10, pd') ∧ (∀ k j t, ¬ (k = 23 ∧ j = 0 ∧ s * 10 + p ≤ t ∧ t < s * 10 + 10) → pd' k j t = pd k j t) ∧ ∀ i, p ≤ i → S.testBit i = true → s.testBit i = false → pd' 23 0 (s * 10 + i) = nI (opt w s s i) := by
  intro k
  induction k with
  | zero =>
    intro p f pd h1 h2 hw ht
    obtain ⟨f, rfl⟩ : ∃ x, f = x + 1 := ⟨f - 1, by omega⟩
    have : p = 10 := by omega
    subst this
    rw [f_X2_fillRest_L17, if_pos (by decide)]
    exact ⟨pd, rfl, fun _ _ _ _ => rfl, fun i h3 h4 _ => by have := tb_lt hS h4; omega⟩
  | succ k ih =>
    intro p f pd h1 h2 hw ht
    obtain ⟨f, rfl⟩ : ∃ x, f = x + 1 := ⟨f - 1, by omega⟩
    have hp : p < 10 := by omega
    have c10 : ¬ ((10 : Int32) ≤ nI p) := by rw [lle (k := 10) (by decide) (by omega)]; show ¬ 10 ≤ p; omega
    rw [f_X2_fillRest_L17, if_neg c10]
    simp only [xl, ra]
    have skip : ¬ (S.testBit p = true ∧ s.testBit p = false) → ∃ pd', f_X2_fillRest_L17 (nI S) (nI s) f (nI (p + 1)) pd = some (nI 10, pd') ∧ (∀ k j t, ¬ (k = 23 ∧ j = 0 ∧ s * 10 + p ≤ t ∧ t < s * 10 + 10) → pd' k j t = pd k j t) ∧ ∀ i, p ≤ i → S.testBit i = true → s.testBit i = false → pd' 23 0 (s * 10 + i) = nI (opt w s s i) := fun hn => by
      obtain ⟨pd', g1, g2, g3⟩ := ih (p + 1) f pd (by omega) (by omega) hw ht
      refine ⟨pd', g1, fun k j t h => g2 k j t (by omega), fun i h3 h4 h5 => ?_⟩
      by_cases z : i = p
      · subst z
        exact absurd ⟨h4, h5⟩ hn
      · exact g3 i (by omega) h4 h5
    by_cases z : S.testBit p = true
    · have z1 : ¬ (((nI S >>> (nI p &&& 31)) &&& (1 : Int32)) = 0) := by rw [bit_tt hS hp, z]; decide
      rw [if_neg z1]
      by_cases y : s.testBit p = true
      · have y1 : ¬ (((nI s >>> (nI p &&& 31)) &&& (1 : Int32)) = 0) := by rw [bit_tt hs hp, y]; decide
        rw [if_neg y1]
        exact skip (fun h => by rw [y] at h; exact absurd h.2 (by decide))
      · have y0 : s.testBit p = false := by simpa using y
        rw [if_pos ((bit_tt hs hp).mpr y0)]
        have ho : ∀ q, s.testBit q = true → opt w (s ^^^ 2 ^ q) (s ^^^ 2 ^ q) q ≤ B * 1024 := fun q hq => by
          have hl := xo_lt hq
          have hsb := xo_sub hsub hq
          refine Nat.le_trans (opt_le (B := B) _ _ _ (by omega) (fun a c ha hc => hwB a c ?_ (hsb c hc))) (Nat.mul_le_mul_left B (by omega))
          rcases ha with rfl | ha
          · exact hsub _ hq
          · exact hsb a ha
        have hra := c_restAfter (pd := pd) (w := w) (s := s) (p := p) hs hp (fun q hq => hw p q z (hsub q hq)) (fun q hq => ht (s ^^^ 2 ^ q) q (xo_lt hq) (xo_sub hsub hq) (hsub q hq) (xo_off hq)) (fun q hq => by
          have h3 := ho q hq
          have h4 := hwB p q z (hsub q hq)
          have h5 : B * 1024 ≤ 10000 * 1024 := Nat.mul_le_mul_right 1024 hB
          omega)
        rw [hra, xb]
        have e1 : nI s * (10 : Int32) + nI p = nI (s * 10 + p) := by rw [rmu, nI_add]
        rw [e1]
        simp (disch := omega) only [xg, vinT, nI_clamp]
        obtain ⟨pd', g1, g2, g3⟩ := ih (p + 1) f (upS pd 23 0 (s * 10 + p) (nI (opt w s s p))) (by omega) (by omega) (fun a c ha hc => by rw [upS_k (by decide)]; exact hw a c ha hc) (fun s' p' h3 h4 h5 h6 => by
          have := tb_lt hS h5
          rw [upS_t (by omega)]; exact ht s' p' h3 h4 h5 h6)
        refine ⟨pd', g1, fun k j t h => ?_, fun i h3 h4 h5 => ?_⟩
        · rw [g2 k j t (by omega)]
          simp only [upS]
          rw [if_neg (by omega)]
        · by_cases v : i = p
          · subst v
            rw [g2 23 0 _ (by omega), upS_hit]
          · exact g3 i (by omega) h4 h5
    · have z0 : S.testBit p = false := by simpa using z
      rw [if_pos ((bit_tt hS hp).mpr z0)]
      exact skip (fun h => z h.1)
theorem c_fillRest {w : Nat → Nat → Nat} {B S : Nat} (hS : S < 1024) (hB : B ≤ 10000) (hwB : ∀ a c, S.testBit a = true → S.testBit c = true → w a c ≤ B) {pd : SD} (hw : ∀ a c, S.testBit a = true → S.testBit c = true → pd 24 0 (a * 10 + c) = nI (w a c)) : ∃ pd', f_X2_fillRest pd (nI S) = some pd' ∧ (∀ k j t, k ≠ 23 → pd' k j t = pd k j t) ∧ Tb w pd' S S := by
  have key : ∀ (k s f : Nat) (pd : SD), s + k = S → k < f → (∀ a c, S.testBit a = true → S.testBit c = true → pd 24 0 (a * 10 + c) = nI (w a c)) → Tb w pd S s → ∃ pd', f_X2_fillRest_L2 (nI S) f (nI s) pd = some pd' ∧ (∀ k j t, k ≠ 23 → pd' k j t = pd k j t) ∧ Tb w pd' S S := by
    intro k
    induction k with
    | zero =>
      intro s f pd h1 h2 hw ht
      obtain ⟨f, rfl⟩ : ∃ x, f = x + 1 := ⟨f - 1, by omega⟩
      have : s = S := by omega
      subst this
      rw [f_X2_fillRest_L2, if_pos (nI_le (Nat.le_refl _) (by omega))]
      exact ⟨pd, rfl, fun _ _ _ _ => rfl, ht⟩
    | succ k ih =>
      intro s f pd h1 h2 hw ht
      obtain ⟨f, rfl⟩ : ∃ x, f = x + 1 := ⟨f - 1, by omega⟩
      have c7 : ¬ (nI S ≤ nI s) := by rw [nI_leI (by omega) (by omega)]; omega
      rw [f_X2_fillRest_L2, if_neg c7]
      simp only [xl, ra]
      by_cases z : ∀ i, s.testBit i = true → S.testBit i = true
      · rw [if_pos ((sub_iff (by omega) hS).mpr z)]
        obtain ⟨pd1, g1, g2, g3⟩ := c_rest17 hS (show s < 1024 by omega) z hB hwB 10 0 fuel pd (by omega) (by unfold fuel; omega) hw ht
        rw [nI_0] at g1
        rw [g1, xb]
        obtain ⟨pd', e1, e2, e3⟩ := ih (s + 1) f pd1 (by omega) (by omega) (fun a c ha hc => by rw [g2 24 0 _ (by omega)]; exact hw a c ha hc) (fun s' p' h3 h4 h5 h6 => by
          have hp' := tb_lt hS h5
          by_cases y : s' = s
          · subst y
            exact g3 p' (by omega) h5 h6
          · rw [g2 23 0 _ (by omega)]
            exact ht s' p' (by omega) h4 h5 h6)
        exact ⟨pd', e1, fun k j t h => by rw [e2 k j t h, g2 k j t (by omega)], e3⟩
      · rw [if_neg (fun y => z ((sub_iff (by omega) hS).mp y))]
        exact ih (s + 1) f pd (by omega) (by omega) hw (fun s' p' h3 h4 h5 h6 => by
          by_cases y : s' = s
          · subst y
            exact absurd h4 z
          · exact ht s' p' (by omega) h4 h5 h6)
  unfold f_X2_fillRest
  have h := key S 0 fuel pd (by omega) (by unfold fuel; omega) hw (fun s' p' h3 => by omega)
  rw [nI_0] at h
  exact h
end PLN
