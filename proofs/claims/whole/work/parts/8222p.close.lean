/-! Layer 2: a session is closed -/
def ldN (r : RW) (p : Nat) : Nat := if nv r (39 + p) - nv r (59 + p) < 2 then nv r (39 + p) - nv r (59 + p) else 2
/-- what the closing does to the row -/
def CV (r r' : RW) (p : Nat) : Prop := (∀ i, i ≠ 59 + p → i ≠ 79 + p → i ≠ 169 + 8 * p + (nv r (69 + p) - 1) → r' i = r i) ∧ r' (59 + p) = nI (nv r (59 + p) + ldN r p) ∧ r' (79 + p) = nI 0 ∧ r' (169 + 8 * p + (nv r (69 + p) - 1)) = r (169 + 8 * p + (nv r (69 + p) - 1)) + nI (ldN r p)
def CC (sd sd' : SD) (r : RW) (p : Nat) : Prop := (∀ k j t, ¬ (k = 3 ∧ j = p ∧ t = 3) → ¬ (k = 3 ∧ j = p ∧ t = 5) → ¬ (k = 17 ∧ j = p ∧ t = nv r (69 + p) - 1) → sd' k j t = sd k j t) ∧ sd' 3 p 3 = nI (nv r (59 + p) + ldN r p) ∧ sd' 3 p 5 = nI 0 ∧ sd' 17 p (nv r (69 + p) - 1) = sd 17 p (nv r (69 + p) - 1) + nI (ldN r p)
section CLO
variable {F : Nat} {b : Nat} {sd sd' md : SD} {r r' : RW} {p k0 : Nat}
theorem m_leadOut (hr : ∀ i, (i = 39 + p ∨ i = 59 + p) → md k0 0 i = r i) (hI : InvF F r) (hp : p < nv r 7) : f_X8_leadOut md k0 (nI p) = some (nI (ldN r p)) := by
  have l7 := hI.l7
  obtain ⟨-, ⟨c1, c2⟩, s1, ⟨e1, e2⟩, n1, o1, o2⟩ := hI.plt p hp
  have lc := c1.l
  have eu : nI (nv r (39 + p)) - nI (nv r (59 + p)) = nI (nv r (39 + p) - nv r (59 + p)) := pk_sub e2
  unfold f_X8_leadOut ldN
  simp (disch := omega) only [xg, vinT, la, nI_clamp, hr (39 + p) (Or.inl rfl), hr (59 + p) (Or.inr rfl), c1.e, e1.e, eu, rlt]
  split <;> rfl
theorem m_closes (hr : md k0 0 = r) (hI : InvF F r) (hp : p < nv r 7) (ho : nv r (79 + p) = 1) : ∃ m', f_X8_closes md k0 (nI p) = some m' ∧ MK k0 md m' ∧ CV r (m' k0 0) p := by
  have l7 := hI.l7
  obtain ⟨-, ⟨c1, c2⟩, s1, ⟨e1, e2⟩, n1, o1, o2⟩ := hI.plt p hp
  have lc := c1.l
  have le := e1.l
  have ln := n1.l
  have hs := o2 ho
  have hi : ∀ i, md k0 0 i = r i := fun i => by rw [hr]
  have ev : f_X8_closes md k0 (nI p) = some (upS (upS (upS md k0 0 (59 + p) (nI (nv r (59 + p) + ldN r p))) k0 0 (169 + 8 * p + (nv r (69 + p) - 1)) (r (169 + 8 * p + (nv r (69 + p) - 1)) + nI (ldN r p))) k0 0 (79 + p) 0) := by
    unfold f_X8_closes
    rw [m_leadOut (fun i _ => hi i) hI hp, xb]
    have es : 169 + 8 * p + nv r (69 + p) - 1 = 169 + 8 * p + (nv r (69 + p) - 1) := by omega
    simp (disch := omega) only [xl, xg, vinT, la, lm, nI_add, nI_clamp, hi, e1.e, upS_t, n1.e, rsu, es]
  refine ⟨_, ev, (((MK.rf k0 md).up (by omega)).up (by omega)).up (by omega), fun i h1 h2 h3 => ?_, ?_, ?_, ?_⟩
  · simp (disch := omega) only [upS_t, hi]
  all_goals simp (disch := omega) only [upS_t, upS_hit]
  all_goals rfl
theorem ld_le (r : RW) (p : Nat) : ldN r p ≤ 2 ∧ ldN r p ≤ nv r (39 + p) - nv r (59 + p) := by
  unfold ldN
  split <;> omega
theorem CV_inv (hI : InvF F r) (h : CV r r' p) (hp : p < nv r 7) (ho : nv r (79 + p) = 1) : InvF F r' := by
  have l6 := hI.l6
  have l7 := hI.l7
  have l8 := hI.l8
  have l9 := hI.lF
  have l10 := hI.l10
  have l16 := hI.l16
  obtain ⟨⟨h1, h2⟩, ⟨c1, c2⟩, s1, ⟨e1, e2⟩, n1, o1, o2⟩ := hI.plt p hp
  have lc := c1.l
  have ln := n1.l
  have hs := o2 ho
  have ll := ld_le r p
  obtain ⟨a0, a59, a79, a169⟩ := h
  have b0 : ∀ i, i ≠ 59 + p → i ≠ 79 + p → i ≠ 169 + 8 * p + (nv r (69 + p) - 1) → nv r' i = nv r i := fun i k1 k2 k3 => nv_eq (a0 i k1 k2 k3)
  have v59 := nv_of a59 (by omega)
  have v79 := nv_of a79 (by decide)
  refine ⟨?_, ?_, ?_, ?_, ?_, ?_, ?_, ?_, ?_, ?_, ?_, ?_, hI.lF⟩
  · have g := hI.1
    unfold I_cnt isN at g ⊢
    simp (disch := omega) only [a0, b0]
    exact g
  · have g := hI.tim
    unfold I_tim isN at g ⊢
    simp (disch := omega) only [a0, b0]
    exact g
  · have g := hI.pick
    unfold I_pick isN at g ⊢
    simp (disch := omega) only [a0, b0]
    exact g
  · intro d hd
    simp (disch := omega) only [b0] at hd
    have g := hI.drv d hd
    unfold isN at g ⊢
    simp (disch := omega) only [a0, b0]
    exact g
  · intro d e hd he
    simp (disch := omega) only [b0] at hd he
    simp (disch := omega) only [a0]
    exact hI.drd d e hd he
  · intro q hq
    simp (disch := omega) only [b0] at hq
    by_cases z : q = p
    · subst z
      have g := hI.plt q hq
      rw [v59, v79]
      have i59 : isN r' (59 + q) 300 := isN_nI a59 (by omega) (by omega)
      have i79 : isN r' (79 + q) 1 := isN_nI a79 (by omega) (by omega)
      unfold isN at g h1 c1 s1 n1 ⊢
      unfold isN at i59 i79
      refine ⟨?_, ?_, ?_, ⟨i59, ?_⟩, ?_, i79, fun h => by omega⟩
      · simp (disch := omega) only [a0, b0]; exact ⟨h1, h2⟩
      · simp (disch := omega) only [a0, b0]; exact ⟨c1, c2⟩
      · simp (disch := omega) only [a0, b0]; exact s1
      · simp (disch := omega) only [b0]; omega
      · simp (disch := omega) only [a0, b0]; exact n1
    · have g := hI.plt q hq
      unfold isN at g ⊢
      simp (disch := omega) only [a0, b0]
      exact g
  · intro x y hx hy hxy
    simp (disch := omega) only [b0] at hx hy
    simp (disch := omega) only [a0] at hxy
    exact hI.hom x y hx hy hxy
  · intro k hk
    simp (disch := omega) only [b0] at hk
    have g := hI.bad k hk
    have g9 := g.1.1.l
    unfold isN at g ⊢
    simp (disch := omega) only [a0, b0]
    exact g
  · intro k l hk hl h3 h4
    simp (disch := omega) only [b0] at hk hl
    simp (disch := omega) only [a0] at h3 h4
    exact hI.bdd k l hk hl h3 h4
  · intro g hg
    have w := hI.cur g hg
    unfold isN at w ⊢
    simp (disch := omega) only [a0, b0]
    exact w
  · intro v hv
    simp (disch := omega) only [b0] at hv
    obtain ⟨g1, ⟨g3, g4⟩, g5, g6, g7, ⟨g8, g9⟩, g10, g11⟩ := hI.ver v hv
    have g3l := g3.l
    have y59 : nv r (59 + nv r (349 + v)) ≤ nv r' (59 + nv r (349 + v)) := by
      by_cases w : nv r (349 + v) = p
      · rw [w, v59]; omega
      · have : nv r' (59 + nv r (349 + v)) = nv r (59 + nv r (349 + v)) := by simp (disch := omega) only [b0]
        omega
    unfold isN at g1 g3 g5 g6 g8 g10 g11 ⊢
    simp (disch := omega) only [a0, b0 (309 + v), b0 (349 + v), b0 (389 + v), b0 (429 + v), b0 (469 + v), b0 (509 + v), b0 (549 + v), b0 7, b0 (69 + nv r (349 + v))]
    exact ⟨g1, ⟨g3, g4⟩, g5, g6, by omega, ⟨g8, g9⟩, g10, g11⟩
  · intro q hq
    simp (disch := omega) only [b0] at hq
    have w := hI.req q hq
    unfold isN at w ⊢
    simp (disch := omega) only [a0, b0]
    exact w
theorem c_addLeadOut (hI : InvF F r) (hR : RelF F b sd r) (hp : p < nv r 7) (ho : nv r (79 + p) = 1) : ∃ sd', f_X3_addLeadOut sd p = some (nI (ldN r p), sd') ∧ CC sd sd' r p := by
  obtain ⟨-, ⟨c1, c2⟩, s1, ⟨e1, e2⟩, n1, o1, o2⟩ := hI.plt p hp
  have lc := c1.l
  have ln := n1.l
  have hs := o2 ho
  obtain ⟨p0, p1, p2, p3, p4, p5⟩ := hR.pl p hp
  have eu : sd 3 p 1 - sd 3 p 3 = nI (nv r (39 + p) - nv r (59 + p)) := by
    rw [p1, p3, c1.e, e1.e]
    exact pk_sub e2
  have el : (if nI (nv r (39 + p) - nv r (59 + p)) < (2 : Int32) then nI (nv r (39 + p) - nv r (59 + p)) else 2) = nI (ldN r p) := by
    unfold ldN
    simp (disch := omega) only [rlt]
    split <;> rfl
  have q4 : sd 3 p 4 = nI (nv r (69 + p)) := by rw [p4]; exact n1.e
  have q3 : sd 3 p 3 = nI (nv r (59 + p)) := by rw [p3]; exact e1.e
  have ev : f_X3_addLeadOut sd p = some (nI (ldN r p), upS (upS (upS sd 17 p (nv r (69 + p) - 1) (sd 17 p (nv r (69 + p) - 1) + nI (ldN r p))) 3 p 3 (nI (nv r (59 + p) + ldN r p))) 3 p 5 0) := by
    unfold f_X3_addLeadOut f_X3_unused f_X3_extendLastSession
    rw [eu, xb, xl, el]
    simp (disch := omega) only [xl, xg, xb, vinT, q4, rle, llt, if_neg, rsu, nI_clamp, upS_k, q3, nI_add]
  refine ⟨_, ev, fun k j t k1 k2 k3 => ?_, ?_, ?_, ?_⟩
  · simp only [upS]
    rw [if_neg k2, if_neg k1, if_neg k3]
  all_goals simp (disch := omega) only [upS_k, upS_t, upS_hit]
  all_goals rfl
theorem CV_rel (hI : InvF F r) (hR : RelF F b sd r) (h : CV r r' p) (hw : CC sd sd' r p) (hp : p < nv r 7) (ho : nv r (79 + p) = 1) : RelF F b sd' r' := by
  have l6 := hI.l6
  have l7 := hI.l7
  have l8 := hI.l8
  have l9 := hI.lF
  have l10 := hI.l10
  have l16 := hI.l16
  obtain ⟨-, -, -, -, n1, o1, o2⟩ := hI.plt p hp
  have ln := n1.l
  have hs := o2 ho
  obtain ⟨a0, a59, a79, a169⟩ := h
  obtain ⟨w0, w3, w5, w17⟩ := hw
  have b0 : ∀ i, i ≠ 59 + p → i ≠ 79 + p → i ≠ 169 + 8 * p + (nv r (69 + p) - 1) → nv r' i = nv r i := fun i k1 k2 k3 => nv_eq (a0 i k1 k2 k3)
  refine ⟨?_, ?_, ?_, ?_, ?_, ?_, ?_, ?_, ?_, ?_⟩
  · have g := hR.sc
    unfold R_sc at g ⊢
    simp (disch := omega) only [a0, w0]
    exact g
  · have g := hR.tm
    unfold R_tm at g ⊢
    simp (disch := omega) only [a0, w0]
    exact g
  · intro d hd
    simp (disch := omega) only [b0] at hd
    simp (disch := omega) only [a0, w0]
    exact hR.dr d hd
  · refine us_same hR.us (Nat.le_refl _) (b0 6 (by omega) (by omega) (by omega)) (w0 _ _ _ (by omega) (by omega) (by omega)) (fun e => w0 _ _ _ (by omega) (by omega) (by omega)) (a0 _ (by omega) (by omega) (by omega)) (fun e he => a0 _ (by omega) (by omega) (by omega))
  · intro q hq
    simp (disch := omega) only [b0] at hq
    have g := hR.pl q hq
    by_cases z : q = p
    · subst z
      rw [w3, w5, a59, a79]
      simp (disch := omega) only [a0, w0]
      exact ⟨g.1, g.2.1, g.2.2.1, trivial, g.2.2.2.2.1, trivial⟩
    · simp (disch := omega) only [a0, w0]
      exact g
  · intro q s hq hs2
    simp (disch := omega) only [b0] at hq
    simp (disch := omega) only [b0] at hs2
    have ln2 := (hI.plt q hq).2.2.2.2.1.l
    have g := hR.se q s hq hs2
    by_cases z : q = p ∧ s = nv r (69 + p) - 1
    · obtain ⟨rfl, rfl⟩ := z
      rw [w17, a169, g.2]
      simp (disch := omega) only [a0, w0]
      exact ⟨g.1, trivial⟩
    · have z2 : 169 + 8 * q + s ≠ 169 + 8 * p + (nv r (69 + p) - 1) := by omega
      rw [w0 17 q s (by omega) (by omega) (by omega), a0 _ (by omega) (by omega) z2]
      simp (disch := omega) only [a0, w0]
      exact g
  · intro q s hq hs2
    simp (disch := omega) only [b0] at hq
    have g := hR.bd q s hq hs2
    unfold bdc bdm at g ⊢
    rw [b0 8 (by omega) (by omega) (by omega), w0 _ _ _ (by omega) (by omega) (by omega), g]
    constructor
    · rintro ⟨k, k1, k2, k3⟩
      refine ⟨k, k1, ?_, ?_⟩
      · simp (disch := omega) only [a0]; exact k2
      · simp (disch := omega) only [a0]; exact k3
    · rintro ⟨k, k1, k2, k3⟩
      simp (disch := omega) only [a0] at k2 k3
      exact ⟨k, k1, k2, k3⟩
  · intro g hg
    have e := hR.cu g hg
    simp (disch := omega) only [a0, w0]
    exact e
  · intro v hv
    simp (disch := omega) only [b0] at hv
    have e := hR.ve v hv
    simp (disch := omega) only [a0, w0]
    exact e
  · intro q hq
    simp (disch := omega) only [b0] at hq
    have e := hR.rq q hq
    simp (disch := omega) only [a0, w0]
    exact e
end CLO
