/-! Layer 2: a version is written: the row stays a jukebox, the class does the same -/
section WR2
variable {F F' : Nat} {b : Nat} {sd sd' md : SD} {r r' : RW} {f p n : Nat}
theorem WV_nv (h : WV r r' f p n) {i : Nat} (k1 : i ≠ 10) (k2 : i ≠ 309 + nv r 10) (k3 : i ≠ 349 + nv r 10) (k4 : i ≠ 389 + nv r 10) (k5 : i ≠ 429 + nv r 10) (k6 : i ≠ 469 + nv r 10) (k7 : i ≠ 509 + nv r 10) (k8 : i ≠ 549 + nv r 10) (k9 : i ≠ 289 + f) (k10 : i ≠ 49 + p) (k11 : i ≠ 59 + p) (k12 : i ≠ 69 + p) (k13 : i ≠ 79 + p) (k14 : i ≠ 89 + 8 * p + (nSe r p - 1)) (k15 : i ≠ 169 + 8 * p + (nSe r p - 1)) : nv r' i = nv r i := nv_eq (h.1 i k1 k2 k3 k4 k5 k6 k7 k8 k9 k10 k11 k12 k13 k14 k15)
theorem WV_inv (hI : InvF F r) (h : WV r r' f p n) (hp : p < nv r 7) (hn : n ≤ 300) (hV : nv r 10 < 40) (hS : nv r (79 + p) = 0 → nv r (69 + p) < 8) (hle : ent r p (nv r (59 + p)) n ≤ nv r (49 + p)) (hc : nv r (59 + p) + n ≤ nv r (39 + p)) (hf : f < F') (hFF : F ≤ F') (hF2 : ∀ g, g < F' → g ≠ f → g < F) (hF3 : F' ≤ 20) : InvF F' r' := by
  have l6 := hI.l6
  have l7 := hI.l7
  have l8 := hI.l8
  have l16 := hI.l16
  have l9 := hI.l9
  obtain ⟨⟨h1, h2⟩, ⟨c1, c2⟩, s1, ⟨e1, e2⟩, n1, o1, o2⟩ := hI.plt p hp
  have lc := c1.l
  have ls := s1.l
  have le := e1.l
  have ln := n1.l
  have lo := o1.l
  have hN : nSe r p ≤ 8 ∧ 1 ≤ nSe r p ∧ nv r (69 + p) ≤ nSe r p := by
    unfold nSe
    by_cases z : nv r (79 + p) = 0
    · rw [if_pos z]; have := hS z; omega
    · rw [if_neg z]; have := o2 (by omega); omega
  have hh := h
  obtain ⟨a0, a10, a309, a349, a389, a429, a469, a509, a549, a289, a49, a59, a69, a79, aO, aC⟩ := h
  have b0 : ∀ i, i ≠ 10 → i ≠ 309 + nv r 10 → i ≠ 349 + nv r 10 → i ≠ 389 + nv r 10 → i ≠ 429 + nv r 10 → i ≠ 469 + nv r 10 → i ≠ 509 + nv r 10 → i ≠ 549 + nv r 10 → i ≠ 289 + f → i ≠ 49 + p → i ≠ 59 + p → i ≠ 69 + p → i ≠ 79 + p → i ≠ 89 + 8 * p + (nSe r p - 1) → i ≠ 169 + 8 * p + (nSe r p - 1) → nv r' i = nv r i := fun i k1 k2 k3 k4 k5 k6 k7 k8 k9 k10 k11 k12 k13 k14 k15 => nv_eq (a0 i k1 k2 k3 k4 k5 k6 k7 k8 k9 k10 k11 k12 k13 k14 k15)
  have v10 := nv_of a10 (by omega)
  have v49 := nv_of a49 (by omega)
  have v59 := nv_of a59 (by omega)
  have v69 := nv_of a69 (by omega)
  have v79 := nv_of a79 (by decide)
  have v7 : nv r' 7 = nv r 7 := by simp (disch := omega) only [b0]
  have v0 : nv r' 0 = nv r 0 := by simp (disch := omega) only [b0]
  have v6 : nv r' 6 = nv r 6 := by simp (disch := omega) only [b0]
  have v8 : nv r' 8 = nv r 8 := by simp (disch := omega) only [b0]
  have v16 : nv r' 16 = nv r 16 := by simp (disch := omega) only [b0]
  refine ⟨?_, ?_, ?_, ?_, ?_, ?_, ?_, ?_, ?_, ?_, ?_, ?_, hF3⟩
  · have g := hI.1
    have g10 : isN r' 10 40 := isN_nI a10 (by omega) (by omega)
    unfold I_cnt at g ⊢
    rw [v0]
    refine ⟨?_, g.2.1, ?_, ?_, ?_, ?_, g10, ?_⟩
    · exact isN_eq (a0 _ (by omega) (by omega) (by omega) (by omega) (by omega) (by omega) (by omega) (by omega) (by omega) (by omega) (by omega) (by omega) (by omega) (by omega) (by omega)) g.1
    · exact isN_eq (a0 _ (by omega) (by omega) (by omega) (by omega) (by omega) (by omega) (by omega) (by omega) (by omega) (by omega) (by omega) (by omega) (by omega) (by omega) (by omega)) g.2.2.1
    · exact isN_eq (a0 _ (by omega) (by omega) (by omega) (by omega) (by omega) (by omega) (by omega) (by omega) (by omega) (by omega) (by omega) (by omega) (by omega) (by omega) (by omega)) g.2.2.2.1
    · exact isN_eq (a0 _ (by omega) (by omega) (by omega) (by omega) (by omega) (by omega) (by omega) (by omega) (by omega) (by omega) (by omega) (by omega) (by omega) (by omega) (by omega)) g.2.2.2.2.1
    · exact isN_eq (a0 _ (by omega) (by omega) (by omega) (by omega) (by omega) (by omega) (by omega) (by omega) (by omega) (by omega) (by omega) (by omega) (by omega) (by omega) (by omega)) g.2.2.2.2.2.1
    · exact isN_eq (a0 _ (by omega) (by omega) (by omega) (by omega) (by omega) (by omega) (by omega) (by omega) (by omega) (by omega) (by omega) (by omega) (by omega) (by omega) (by omega)) g.2.2.2.2.2.2.2
  · have g := hI.tim
    unfold I_tim isN at g ⊢
    simp (disch := omega) only [a0, b0]
    exact g
  · have g := hI.pick
    unfold I_pick isN at g ⊢
    simp (disch := omega) only [a0, b0]
    exact g
  · intro d hd
    rw [v6] at hd
    have g := hI.drv d hd
    unfold isN at g ⊢
    simp (disch := omega) only [a0, b0]
    exact g
  · intro d e hd he
    rw [v6] at hd he
    simp (disch := omega) only [a0]
    exact hI.drd d e hd he
  · intro q hq
    rw [v7] at hq
    by_cases z : q = p
    · subst z
      rw [v0, v59, v69, v79]
      refine ⟨⟨isN_eq (a0 _ (by omega) (by omega) (by omega) (by omega) (by omega) (by omega) (by omega) (by omega) (by omega) (by omega) (by omega) (by omega) (by omega) (by omega) (by omega)) h1, ?_⟩, ⟨isN_eq (a0 _ (by omega) (by omega) (by omega) (by omega) (by omega) (by omega) (by omega) (by omega) (by omega) (by omega) (by omega) (by omega) (by omega) (by omega) (by omega)) c1, ?_⟩, isN_nI a49 (by omega) (by omega), ⟨isN_nI a59 (by omega) (by omega), ?_⟩, isN_nI a69 (by omega) (by omega), isN_nI a79 (by omega) (by omega), fun _ => by omega⟩
      · simp (disch := omega) only [b0]; exact h2
      · simp (disch := omega) only [b0]; exact c2
      · simp (disch := omega) only [b0]; exact hc
    · have g := hI.plt q hq
      unfold isN at g ⊢
      simp (disch := omega) only [a0, b0]
      exact g
  · intro x y hx hy hxy
    rw [v7] at hx hy
    simp (disch := omega) only [a0] at hxy
    exact hI.hom x y hx hy hxy
  · intro k hk
    rw [v8] at hk
    have g := hI.bad k hk
    have g9 := g.1.1.l
    unfold isN at g ⊢
    simp (disch := omega) only [a0, b0]
    exact g
  · intro k l hk hl h3 h4
    rw [v8] at hk hl
    simp (disch := omega) only [a0] at h3 h4
    exact hI.bdd k l hk hl h3 h4
  · intro g hg
    by_cases z : g = f
    · subst z
      rw [v10]
      exact ⟨isN_nI a289 (by omega) (by omega), by rw [nv_of a289 (by omega)]; omega⟩
    · have w := hI.cur g (hF2 g hg z)
      rw [v10]
      have e : r' (289 + g) = r (289 + g) := a0 _ (by omega) (by omega) (by omega) (by omega) (by omega) (by omega) (by omega) (by omega) (by omega) (by omega) (by omega) (by omega) (by omega) (by omega) (by omega)
      exact ⟨isN_eq e w.1, by rw [nv_eq e]; have := w.2; omega⟩
  · intro v hv
    rw [v10] at hv
    by_cases z : v = nv r 10
    · subst z
      rw [nv_of a309 (by omega), nv_of a349 (by omega), nv_of a389 (by omega), nv_of a429 (by omega), nv_of a469 (by omega), v7, v59, v69]
      exact ⟨⟨isN_nI a309 (by omega) (by omega), hf⟩, ⟨isN_nI a349 (by omega) (by omega), hp⟩, isN_nI a389 (by omega) (by omega), isN_nI a429 (by omega) (by omega), by omega, ⟨isN_nI a469 (by omega) (by omega), by omega⟩, isN_nI a509 (by omega) (by omega), isN_nI a549 (by omega) (by omega)⟩
    · have hv2 : v < nv r 10 := by omega
      obtain ⟨⟨g1, g2⟩, ⟨g3, g4⟩, g5, g6, g7, ⟨g8, g9⟩, g10, g11⟩ := hI.ver v hv2
      have g3l := g3.l
      have x1 : r' (309 + v) = r (309 + v) := a0 _ (by omega) (by omega) (by omega) (by omega) (by omega) (by omega) (by omega) (by omega) (by omega) (by omega) (by omega) (by omega) (by omega) (by omega) (by omega)
      have x2 : r' (349 + v) = r (349 + v) := a0 _ (by omega) (by omega) (by omega) (by omega) (by omega) (by omega) (by omega) (by omega) (by omega) (by omega) (by omega) (by omega) (by omega) (by omega) (by omega)
      have x3 : r' (389 + v) = r (389 + v) := a0 _ (by omega) (by omega) (by omega) (by omega) (by omega) (by omega) (by omega) (by omega) (by omega) (by omega) (by omega) (by omega) (by omega) (by omega) (by omega)
      have x4 : r' (429 + v) = r (429 + v) := a0 _ (by omega) (by omega) (by omega) (by omega) (by omega) (by omega) (by omega) (by omega) (by omega) (by omega) (by omega) (by omega) (by omega) (by omega) (by omega)
      have x5 : r' (469 + v) = r (469 + v) := a0 _ (by omega) (by omega) (by omega) (by omega) (by omega) (by omega) (by omega) (by omega) (by omega) (by omega) (by omega) (by omega) (by omega) (by omega) (by omega)
      have x6 : r' (509 + v) = r (509 + v) := a0 _ (by omega) (by omega) (by omega) (by omega) (by omega) (by omega) (by omega) (by omega) (by omega) (by omega) (by omega) (by omega) (by omega) (by omega) (by omega)
      have x7 : r' (549 + v) = r (549 + v) := a0 _ (by omega) (by omega) (by omega) (by omega) (by omega) (by omega) (by omega) (by omega) (by omega) (by omega) (by omega) (by omega) (by omega) (by omega) (by omega)
      have y59 : nv r (59 + nv r (349 + v)) ≤ nv r' (59 + nv r (349 + v)) := by
        by_cases w : nv r (349 + v) = p
        · rw [w, v59]; omega
        · have : nv r' (59 + nv r (349 + v)) = nv r (59 + nv r (349 + v)) := by simp (disch := omega) only [b0]
          omega
      have y69 : nv r (69 + nv r (349 + v)) ≤ nv r' (69 + nv r (349 + v)) := by
        by_cases w : nv r (349 + v) = p
        · rw [w, v69]; omega
        · have : nv r' (69 + nv r (349 + v)) = nv r (69 + nv r (349 + v)) := by simp (disch := omega) only [b0]
          omega
      rw [nv_eq x1, nv_eq x2, nv_eq x3, nv_eq x4, nv_eq x5, v7]
      exact ⟨⟨isN_eq x1 g1, by omega⟩, ⟨isN_eq x2 g3, g4⟩, isN_eq x3 g5, isN_eq x4 g6, by omega, ⟨isN_eq x5 g8, by omega⟩, isN_eq x6 g10, isN_eq x7 g11⟩
  · intro q hq
    rw [v16] at hq
    have g := hI.req q hq
    have e : r' (589 + q) = r (589 + q) := a0 _ (by omega) (by omega) (by omega) (by omega) (by omega) (by omega) (by omega) (by omega) (by omega) (by omega) (by omega) (by omega) (by omega) (by omega) (by omega)
    exact ⟨isN_eq e g.1, by rw [nv_eq e]; have := g.2; omega⟩
/-- what a write does to the class's State -/
def WC (sd sd' : SD) (r : RW) (f p n : Nat) : Prop :=
  (∀ k j t, ¬ (k = 6 ∧ j = nv r 10) → ¬ (k = 3 ∧ j = p) → ¬ (k = 16 ∧ j = p ∧ t = nSe r p - 1) → ¬ (k = 17 ∧ j = p ∧ t = nSe r p - 1) → ¬ (k = 14 ∧ j = 0 ∧ t = f) → ¬ (k = 4 ∧ j = 0 ∧ t = 9) → sd' k j t = sd k j t) ∧
  sd' 4 0 9 = nI (nv r 10 + 1) ∧ sd' 14 0 f = nI (nv r 10) ∧ (sd' 6 (nv r 10) 0 = nI f ∧ sd' 6 (nv r 10) 1 = nI p ∧ sd' 6 (nv r 10) 2 = nI (nv r (59 + p)) ∧ sd' 6 (nv r 10) 3 = nI n ∧ sd' 6 (nv r 10) 4 = nI (nSe r p - 1) ∧ sd' 6 (nv r 10) 5 = nI (ent r p (nv r (59 + p)) n) ∧ sd' 6 (nv r 10) 6 = nI 0) ∧
  (sd' 3 p 0 = sd 3 p 0 ∧ sd' 3 p 1 = sd 3 p 1 ∧ sd' 3 p 2 = nI (nv r (49 + p) - ent r p (nv r (59 + p)) n) ∧ sd' 3 p 3 = nI (nv r (59 + p) + n) ∧ sd' 3 p 4 = nI (nSe r p) ∧ sd' 3 p 5 = nI 1) ∧
  (nv r (79 + p) = 0 → sd' 16 p (nSe r p - 1) = nI (nv r (59 + p)) ∧ sd' 17 p (nSe r p - 1) = nI n) ∧ (nv r (79 + p) ≠ 0 → sd' 16 p (nSe r p - 1) = sd 16 p (nSe r p - 1) ∧ sd' 17 p (nSe r p - 1) = sd 17 p (nSe r p - 1) + nI n)
theorem WV_rel (hI : InvF F r) (hR : RelF F b sd r) (h : WV r r' f p n) (hw : WC sd sd' r f p n) (hp : p < nv r 7) (hV : nv r 10 < 40) (hS : nv r (79 + p) = 0 → nv r (69 + p) < 8) (hf : f < F') (hF2 : ∀ g, g < F' → g ≠ f → g < F) (hF3 : F' ≤ 20) : RelF F' b sd' r' := by
  have l6 := hI.l6
  have l7 := hI.l7
  have l8 := hI.l8
  have l16 := hI.l16
  have o2 := (hI.plt p hp).2.2.2.2.2.2
  have lo := (hI.plt p hp).2.2.2.2.2.1.l
  have ln := (hI.plt p hp).2.2.2.2.1.l
  have hN : nSe r p ≤ 8 ∧ 1 ≤ nSe r p ∧ nv r (69 + p) ≤ nSe r p ∧ (nv r (79 + p) ≠ 0 → nSe r p = nv r (69 + p)) ∧ (nv r (79 + p) = 0 → nSe r p = nv r (69 + p) + 1) := by
    unfold nSe
    by_cases z : nv r (79 + p) = 0
    · rw [if_pos z]; have := hS z; omega
    · rw [if_neg z]; have := o2 (by omega); omega
  obtain ⟨a0, a10, a309, a349, a389, a429, a469, a509, a549, a289, a49, a59, a69, a79, aO, aC⟩ := h
  obtain ⟨w0, w9, w14, w6, w3, wO, wC⟩ := hw
  have b0 : ∀ i, i ≠ 10 → i ≠ 309 + nv r 10 → i ≠ 349 + nv r 10 → i ≠ 389 + nv r 10 → i ≠ 429 + nv r 10 → i ≠ 469 + nv r 10 → i ≠ 509 + nv r 10 → i ≠ 549 + nv r 10 → i ≠ 289 + f → i ≠ 49 + p → i ≠ 59 + p → i ≠ 69 + p → i ≠ 79 + p → i ≠ 89 + 8 * p + (nSe r p - 1) → i ≠ 169 + 8 * p + (nSe r p - 1) → nv r' i = nv r i := fun i k1 k2 k3 k4 k5 k6 k7 k8 k9 k10 k11 k12 k13 k14 k15 => nv_eq (a0 i k1 k2 k3 k4 k5 k6 k7 k8 k9 k10 k11 k12 k13 k14 k15)
  have v7 : nv r' 7 = nv r 7 := by simp (disch := omega) only [b0]
  have v6 : nv r' 6 = nv r 6 := by simp (disch := omega) only [b0]
  have v8 : nv r' 8 = nv r 8 := by simp (disch := omega) only [b0]
  have v10 := nv_of a10 (by omega)
  have v16 : nv r' 16 = nv r 16 := by simp (disch := omega) only [b0]
  have v69 := nv_of a69 (by omega)
  refine ⟨?_, ?_, ?_, ?_, ?_, ?_, ?_, ?_, ?_, ?_⟩
  · have g := hR.sc
    unfold R_sc at g ⊢
    rw [w9, a10]
    simp (disch := omega) only [a0, w0]
    exact ⟨g.1, g.2.1, g.2.2.1, g.2.2.2.1, trivial, g.2.2.2.2.2⟩
  · have g := hR.tm
    unfold R_tm at g ⊢
    simp (disch := omega) only [a0, w0]
    exact g
  · intro d hd
    rw [v6] at hd
    simp (disch := omega) only [a0, w0]
    exact hR.dr d hd
  · refine us_same hR.us (Nat.le_refl _) v6 (w0 _ _ _ (by omega) (by omega) (by omega) (by omega) (by omega) (by omega)) (fun e => w0 _ _ _ (by omega) (by omega) (by omega) (by omega) (by omega) (by omega)) ?_ (fun e he => ?_)
    · simp (disch := omega) only [a0]
    · simp (disch := omega) only [a0]
  · intro q hq
    rw [v7] at hq
    have g := hR.pl q hq
    by_cases z : q = p
    · subst z
      rw [w3.1, w3.2.1, w3.2.2.1, w3.2.2.2.1, w3.2.2.2.2.1, w3.2.2.2.2.2, a49, a59, a69, a79]
      simp (disch := omega) only [a0]
      exact ⟨g.1, g.2.1, trivial, trivial, trivial, trivial⟩
    · simp (disch := omega) only [a0, w0]
      exact g
  · intro q s hq hs
    rw [v7] at hq
    by_cases z : q = p
    · subst z
      rw [v69] at hs
      by_cases y : s = nSe r q - 1
      · subst y
        by_cases x : nv r (79 + q) = 0
        · rw [(wO x).1, (wO x).2, (aO x).1, (aO x).2]
          exact ⟨rfl, rfl⟩
        · rw [(wC x).1, (wC x).2, (aC x).1, (aC x).2]
          have g := hR.se q (nSe r q - 1) hq (by have := hN.2.2.2.1 x; omega)
          rw [g.1, g.2]
          exact ⟨rfl, rfl⟩
      · have g := hR.se q s hq (by
          by_cases x : nv r (79 + q) = 0
          · have := hN.2.2.2.2 x; omega
          · have := hN.2.2.2.1 x; omega)
        simp (disch := omega) only [a0, w0]
        exact g
    · have ln2 := (hI.plt q hq).2.2.2.2.1.l
      have e69 : nv r' (69 + q) = nv r (69 + q) := by simp (disch := omega) only [b0]
      rw [e69] at hs
      simp (disch := omega) only [a0, w0]
      exact hR.se q s hq hs
  · intro q s hq hs
    rw [v7] at hq
    have g := hR.bd q s hq hs
    unfold bdc bdm at g ⊢
    rw [v8, w0 _ _ _ (by omega) (by omega) (by omega) (by omega) (by omega) (by omega), g]
    constructor
    · rintro ⟨k, k1, k2, k3⟩
      refine ⟨k, k1, ?_, ?_⟩
      · simp (disch := omega) only [a0]; exact k2
      · simp (disch := omega) only [a0]; exact k3
    · rintro ⟨k, k1, k2, k3⟩
      simp (disch := omega) only [a0] at k2 k3
      exact ⟨k, k1, k2, k3⟩
  · intro g hg
    by_cases z : g = f
    · subst z
      rw [w14, a289]
    · have e := hR.cu g (hF2 g hg z)
      simp (disch := omega) only [a0, w0]
      exact e
  · intro v hv
    rw [v10] at hv
    by_cases z : v = nv r 10
    · subst z
      rw [w6.1, w6.2.1, w6.2.2.1, w6.2.2.2.1, w6.2.2.2.2.1, w6.2.2.2.2.2.1, w6.2.2.2.2.2.2, a309, a349, a389, a429, a469, a509, a549]
      exact ⟨rfl, rfl, rfl, rfl, rfl, rfl, rfl⟩
    · have e := hR.ve v (by omega)
      simp (disch := omega) only [a0, w0]
      exact e
  · intro q hq
    rw [v16] at hq
    have e := hR.rq q hq
    simp (disch := omega) only [a0, w0]
    exact e
end WR2
