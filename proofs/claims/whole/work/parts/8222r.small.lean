/-! Layer 2: homes, times, requests -/
section SMA
variable {F : Nat} {b : Nat} {sd sd' md : SD} {r r' : RW} {p k0 : Nat}
theorem home_step (hI : InvF F r) (hR : RelF F b sd r) (hp : p < nv r 7) {sl : Nat} (hs : sl < nv r 0) (hn : ∀ q, q < nv r 7 → r (29 + q) ≠ nI sl) : InvF F (rup r (29 + p) (nI sl)) ∧ RelF F b (upS sd 3 p 0 (nI sl)) (rup r (29 + p) (nI sl)) := by
  have l0 := hI.l0
  have l6 := hI.l6
  have l7 := hI.l7
  have l8 := hI.l8
  have l9 := hI.lF
  have l10 := hI.l10
  have l16 := hI.l16
  have a0 : ∀ i, i ≠ 29 + p → rup r (29 + p) (nI sl) i = r i := fun i h => rup_ne h
  have a29 : rup r (29 + p) (nI sl) (29 + p) = nI sl := rup_hit _ _ _
  generalize rup r (29 + p) (nI sl) = r' at a0 a29 ⊢
  have b0 : ∀ i, i ≠ 29 + p → nv r' i = nv r i := fun i k1 => nv_eq (a0 i k1)
  have w0 : ∀ k j t, ¬ (k = 3 ∧ j = p ∧ t = 0) → upS sd 3 p 0 (nI sl) k j t = sd k j t := fun k j t h => by simp only [upS]; rw [if_neg h]
  have w3 : upS sd 3 p 0 (nI sl) 3 p 0 = nI sl := upS_hit _ _ _ _ _
  generalize upS sd 3 p 0 (nI sl) = sd' at w0 w3 ⊢
  refine ⟨⟨?_, ?_, ?_, ?_, ?_, ?_, ?_, ?_, ?_, ?_, ?_, ?_, hI.lF⟩, ?_, ?_, ?_, ?_, ?_, ?_, ?_, ?_, ?_, ?_⟩
  · have g := hI.1
    unfold I_cnt isN at g ⊢
    simp (disch := omega) only [a0, b0]
    exact g
  · have g := hI.tim
    unfold I_tim isN at g ⊢
    simp (disch := omega) only [a0, b0]
    exact g
  · have g := hI.pick
    unfold I_pick isN at g ⊢
    simp (disch := omega) only [a0, b0]
    exact g
  · intro d hd
    simp (disch := omega) only [b0] at hd
    have g := hI.drv d hd
    unfold isN at g ⊢
    simp (disch := omega) only [a0, b0]
    exact g
  · intro d e hd he
    simp (disch := omega) only [b0] at hd he
    simp (disch := omega) only [a0]
    exact hI.drd d e hd he
  · intro q hq
    simp (disch := omega) only [b0] at hq
    have g := hI.plt q hq
    by_cases z : q = p
    · subst z
      have i29 : isN r' (29 + q) 23 := isN_nI a29 (by omega) (by omega)
      have v29 := nv_of a29 (by omega)
      unfold isN at g i29 ⊢
      rw [v29] at i29 ⊢
      simp (disch := omega) only [a0, b0]
      exact ⟨⟨i29, hs⟩, g.2⟩
    · unfold isN at g ⊢
      simp (disch := omega) only [a0, b0]
      exact g
  · intro x y hx hy hxy
    simp (disch := omega) only [b0] at hx hy
    by_cases z : x = p
    · by_cases w : y = p
      · omega
      · subst z
        rw [a29, a0 (29 + y) (by omega)] at hxy
        exact absurd hxy.symm (hn y hy)
    · by_cases w : y = p
      · subst w
        rw [a29, a0 (29 + x) (by omega)] at hxy
        exact absurd hxy (hn x hx)
      · rw [a0 (29 + x) (by omega), a0 (29 + y) (by omega)] at hxy
        exact hI.hom x y hx hy hxy
  · intro k hk
    simp (disch := omega) only [b0] at hk
    have g := hI.bad k hk
    have g9 := g.1.1.l
    unfold isN at g ⊢
    simp (disch := omega) only [a0, b0]
    exact g
  · intro k l hk hl h3 h4
    simp (disch := omega) only [b0] at hk hl
    simp (disch := omega) only [a0] at h3 h4
    exact hI.bdd k l hk hl h3 h4
  · intro g hg
    have w := hI.cur g hg
    unfold isN at w ⊢
    simp (disch := omega) only [a0, b0]
    exact w
  · intro v hv
    simp (disch := omega) only [b0] at hv
    have g := hI.ver v hv
    have g3l := g.2.1.1.l
    unfold isN at g ⊢
    simp (disch := omega) only [a0, b0]
    exact g
  · intro q hq
    simp (disch := omega) only [b0] at hq
    have w := hI.req q hq
    unfold isN at w ⊢
    simp (disch := omega) only [a0, b0]
    exact w
  · have g := hR.sc
    unfold R_sc at g ⊢
    simp (disch := omega) only [a0, w0]
    exact g
  · have g := hR.tm
    unfold R_tm at g ⊢
    simp (disch := omega) only [a0, w0]
    exact g
  · intro d hd
    simp (disch := omega) only [b0] at hd
    simp (disch := omega) only [a0, w0]
    exact hR.dr d hd
  · refine us_same hR.us (Nat.le_refl _) (b0 6 (by omega)) (w0 _ _ _ (by omega)) (fun e => w0 _ _ _ (by omega)) (a0 _ (by omega)) (fun e he => a0 _ (by omega))
  · intro q hq
    simp (disch := omega) only [b0] at hq
    have g := hR.pl q hq
    by_cases z : q = p
    · subst z
      rw [w3, a29]
      simp (disch := omega) only [a0, w0]
      exact ⟨trivial, g.2⟩
    · simp (disch := omega) only [a0, w0]
      exact g
  · intro q t hq ht
    simp (disch := omega) only [b0] at hq
    simp (disch := omega) only [b0] at ht
    have g := hR.se q t hq ht
    simp (disch := omega) only [a0, w0]
    exact g
  · intro q u hq hu
    simp (disch := omega) only [b0] at hq
    have g := hR.bd q u hq hu
    unfold bdc bdm at g ⊢
    simp (disch := omega) only [a0, b0, w0]
    exact g
  · intro g hg
    have e := hR.cu g hg
    simp (disch := omega) only [a0, w0]
    exact e
  · intro v hv
    simp (disch := omega) only [b0] at hv
    have e := hR.ve v hv
    simp (disch := omega) only [a0, w0]
    exact e
  · intro q hq
    simp (disch := omega) only [b0] at hq
    have e := hR.rq q hq
    simp (disch := omega) only [a0, w0]
    exact e
theorem time_step (hI : InvF F r) (hR : RelF F b sd r) {t1 t2 t3 t4 t5 : Nat} (h1 : t1 < 100) (h2 : t2 < 100) (h3 : t3 < 100) (h4 : t4 < 100) (h5 : t5 < 100) (a0 : ∀ i, ¬ (1 ≤ i ∧ i ≤ 5) → r' i = r i) (a1 : r' 1 = nI t1) (a2 : r' 2 = nI t2) (a3 : r' 3 = nI t3) (a4 : r' 4 = nI t4) (a5 : r' 5 = nI t5) (w0 : ∀ k j t, ¬ (k = 10 ∧ j = 0) → sd' k j t = sd k j t) (w1 : sd' 10 0 0 = nI t1) (w2 : sd' 10 0 1 = nI t2) (w3 : sd' 10 0 2 = nI t3) (w4 : sd' 10 0 3 = nI t4) (w5 : sd' 10 0 4 = nI t5) : InvF F r' ∧ RelF F b sd' r' := by
  have l6 := hI.l6
  have l7 := hI.l7
  have b0 : ∀ i, ¬ (1 ≤ i ∧ i ≤ 5) → nv r' i = nv r i := fun i k1 => nv_eq (a0 i k1)
  refine ⟨⟨?_, ?_, ?_, ?_, ?_, ?_, ?_, ?_, ?_, ?_, ?_, ?_, hI.lF⟩, ?_, ?_, ?_, ?_, ?_, ?_, ?_, ?_, ?_, ?_⟩
  · have g := hI.1
    unfold I_cnt isN at g ⊢
    simp (disch := omega) only [a0, b0]
    exact g
  · exact ⟨isN_nI a1 (by omega) (by omega), isN_nI a2 (by omega) (by omega), isN_nI a3 (by omega) (by omega), isN_nI a4 (by omega) (by omega), isN_nI a5 (by omega) (by omega)⟩
  · have g := hI.pick
    unfold I_pick isN at g ⊢
    simp (disch := omega) only [a0, b0]
    exact g
  · intro d hd
    simp (disch := omega) only [b0] at hd
    have g := hI.drv d hd
    unfold isN at g ⊢
    simp (disch := omega) only [a0, b0]
    exact g
  · intro d e hd he
    simp (disch := omega) only [b0] at hd he
    simp (disch := omega) only [a0]
    exact hI.drd d e hd he
  · intro q hq
    simp (disch := omega) only [b0] at hq
    have g := hI.plt q hq
    unfold isN at g ⊢
    simp (disch := omega) only [a0, b0]
    exact g
  · intro x y hx hy hxy
    simp (disch := omega) only [b0] at hx hy
    simp (disch := omega) only [a0] at hxy
    exact hI.hom x y hx hy hxy
  · intro k hk
    simp (disch := omega) only [b0] at hk
    have g := hI.bad k hk
    unfold isN at g ⊢
    simp (disch := omega) only [a0, b0]
    exact g
  · intro k l hk hl h3 h4
    simp (disch := omega) only [b0] at hk hl
    simp (disch := omega) only [a0] at h3 h4
    exact hI.bdd k l hk hl h3 h4
  · intro g hg
    have w := hI.cur g hg
    unfold isN at w ⊢
    simp (disch := omega) only [a0, b0]
    exact w
  · intro v hv
    simp (disch := omega) only [b0] at hv
    have g := hI.ver v hv
    unfold isN at g ⊢
    simp (disch := omega) only [a0, b0]
    exact g
  · intro q hq
    simp (disch := omega) only [b0] at hq
    have w := hI.req q hq
    unfold isN at w ⊢
    simp (disch := omega) only [a0, b0]
    exact w
  · have g := hR.sc
    unfold R_sc at g ⊢
    simp (disch := omega) only [a0, w0]
    exact g
  · exact ⟨w1.trans a1.symm, w2.trans a2.symm, w3.trans a3.symm, w4.trans a4.symm, w5.trans a5.symm⟩
  · intro d hd
    simp (disch := omega) only [b0] at hd
    simp (disch := omega) only [a0, w0]
    exact hR.dr d hd
  · refine us_same hR.us (Nat.le_refl _) (b0 6 (by omega)) (w0 _ _ _ (by omega)) (fun e => w0 _ _ _ (by omega)) (a0 _ (by omega)) (fun e he => a0 _ (by omega))
  · intro q hq
    simp (disch := omega) only [b0] at hq
    have g := hR.pl q hq
    simp (disch := omega) only [a0, w0]
    exact g
  · intro q t hq ht
    simp (disch := omega) only [b0] at hq
    simp (disch := omega) only [b0] at ht
    have g := hR.se q t hq ht
    simp (disch := omega) only [a0, w0]
    exact g
  · intro q u hq hu
    simp (disch := omega) only [b0] at hq
    have g := hR.bd q u hq hu
    unfold bdc bdm at g ⊢
    simp (disch := omega) only [a0, b0, w0]
    exact g
  · intro g hg
    have e := hR.cu g hg
    simp (disch := omega) only [a0, w0]
    exact e
  · intro v hv
    simp (disch := omega) only [b0] at hv
    have e := hR.ve v hv
    simp (disch := omega) only [a0, w0]
    exact e
  · intro q hq
    simp (disch := omega) only [b0] at hq
    have e := hR.rq q hq
    simp (disch := omega) only [a0, w0]
    exact e
theorem req_step (hI : InvF F r) (hR : RelF F b sd r) {Q : Nat} (hQ : Q ≤ 16) (a0 : ∀ i, i ≠ 16 → ¬ (589 ≤ i ∧ i < 605) → r' i = r i) (a16 : r' 16 = nI Q) (aq : ∀ k, k < Q → isN r' (589 + k) 19 ∧ nv r' (589 + k) < F) (w0 : ∀ k j t, ¬ (k = 15 ∧ j = 0) → ¬ (k = 4 ∧ j = 0 ∧ t = 13) → sd' k j t = sd k j t) (w13 : sd' 4 0 13 = nI Q) (wq : ∀ k, k < Q → sd' 15 0 k = r' (589 + k)) : InvF F r' ∧ RelF F b sd' r' := by
  have l6 := hI.l6
  have l7 := hI.l7
  have l8 := hI.l8
  have l9 := hI.lF
  have l10 := hI.l10
  have b0 : ∀ i, i ≠ 16 → ¬ (589 ≤ i ∧ i < 605) → nv r' i = nv r i := fun i k1 k2 => nv_eq (a0 i k1 k2)
  have v16 := nv_of a16 (by omega)
  refine ⟨⟨?_, ?_, ?_, ?_, ?_, ?_, ?_, ?_, ?_, ?_, ?_, ?_, hI.lF⟩, ?_, ?_, ?_, ?_, ?_, ?_, ?_, ?_, ?_, ?_⟩
  · have g := hI.1
    have i16 : isN r' 16 16 := isN_nI a16 hQ (by omega)
    unfold I_cnt at g ⊢
    unfold isN at g ⊢
    unfold isN at i16
    simp (disch := omega) only [a0, b0]
    exact ⟨g.1, g.2.1, g.2.2.1, g.2.2.2.1, g.2.2.2.2.1, g.2.2.2.2.2.1, g.2.2.2.2.2.2.1, i16⟩
  · have g := hI.tim
    unfold I_tim isN at g ⊢
    simp (disch := omega) only [a0, b0]
    exact g
  · have g := hI.pick
    unfold I_pick isN at g ⊢
    simp (disch := omega) only [a0, b0]
    exact g
  · intro d hd
    simp (disch := omega) only [b0] at hd
    have g := hI.drv d hd
    unfold isN at g ⊢
    simp (disch := omega) only [a0, b0]
    exact g
  · intro d e hd he
    simp (disch := omega) only [b0] at hd he
    simp (disch := omega) only [a0]
    exact hI.drd d e hd he
  · intro q hq
    simp (disch := omega) only [b0] at hq
    have g := hI.plt q hq
    unfold isN at g ⊢
    simp (disch := omega) only [a0, b0]
    exact g
  · intro x y hx hy hxy
    simp (disch := omega) only [b0] at hx hy
    simp (disch := omega) only [a0] at hxy
    exact hI.hom x y hx hy hxy
  · intro k hk
    simp (disch := omega) only [b0] at hk
    have g := hI.bad k hk
    have g9 := g.1.1.l
    unfold isN at g ⊢
    simp (disch := omega) only [a0, b0]
    exact g
  · intro k l hk hl h3 h4
    simp (disch := omega) only [b0] at hk hl
    simp (disch := omega) only [a0] at h3 h4
    exact hI.bdd k l hk hl h3 h4
  · intro g hg
    have w := hI.cur g hg
    unfold isN at w ⊢
    simp (disch := omega) only [a0, b0]
    exact w
  · intro v hv
    simp (disch := omega) only [b0] at hv
    have g := hI.ver v hv
    have g3l := g.2.1.1.l
    unfold isN at g ⊢
    simp (disch := omega) only [a0, b0]
    exact g
  · intro q hq
    rw [v16] at hq
    exact aq q hq
  · have g := hR.sc
    unfold R_sc at g ⊢
    rw [w13, a16]
    simp (disch := omega) only [a0, w0]
    exact ⟨g.1, g.2.1, g.2.2.1, g.2.2.2.1, g.2.2.2.2.1, g.2.2.2.2.2.1, trivial, g.2.2.2.2.2.2.2⟩
  · have g := hR.tm
    unfold R_tm at g ⊢
    simp (disch := omega) only [a0, w0]
    exact g
  · intro d hd
    simp (disch := omega) only [b0] at hd
    simp (disch := omega) only [a0, w0]
    exact hR.dr d hd
  · refine us_same hR.us (Nat.le_refl _) (b0 6 (by omega) (by omega)) (w0 _ _ _ (by omega) (by omega)) (fun e => w0 _ _ _ (by omega) (by omega)) (a0 _ (by omega) (by omega)) (fun e he => a0 _ (by omega) (by omega))
  · intro q hq
    simp (disch := omega) only [b0] at hq
    have g := hR.pl q hq
    simp (disch := omega) only [a0, w0]
    exact g
  · intro q t hq ht
    simp (disch := omega) only [b0] at hq
    simp (disch := omega) only [b0] at ht
    have ln2 := (hI.plt q hq).2.2.2.2.1.l
    have g := hR.se q t hq ht
    simp (disch := omega) only [a0, w0]
    exact g
  · intro q u hq hu
    simp (disch := omega) only [b0] at hq
    have g := hR.bd q u hq hu
    unfold bdc bdm at g ⊢
    rw [b0 8 (by omega) (by omega), w0 _ _ _ (by omega) (by omega), g]
    constructor
    · rintro ⟨k, k1, k2, k3⟩
      refine ⟨k, k1, ?_, ?_⟩
      · simp (disch := omega) only [a0]; exact k2
      · simp (disch := omega) only [a0]; exact k3
    · rintro ⟨k, k1, k2, k3⟩
      simp (disch := omega) only [a0] at k2 k3
      exact ⟨k, k1, k2, k3⟩
  · intro g hg
    have e := hR.cu g hg
    simp (disch := omega) only [a0, w0]
    exact e
  · intro v hv
    simp (disch := omega) only [b0] at hv
    have e := hR.ve v hv
    simp (disch := omega) only [a0, w0]
    exact e
  · intro q hq
    rw [v16] at hq
    exact wq q hq
end SMA
