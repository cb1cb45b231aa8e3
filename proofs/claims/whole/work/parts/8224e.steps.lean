/-! Layer 2: what the lines of a text change -/
/-- what lies beyond the counts of a jukebox that is being read -/
def FRs (r : RW) : Prop := (∀ d, nv r 6 ≤ d → d < 4 → r (21 + d) = -1 ∧ r (25 + d) = 0) ∧ (∀ p, nv r 7 ≤ p → p < 10 → r (59 + p) = 0 ∧ r (69 + p) = 0 ∧ r (79 + p) = 0) ∧ r 11 = 0 ∧ nv r 10 = nv r 9
section STP
variable {F b : Nat} {sd sd' : SD} {r r' : RW}
/-- one cell below 6 changes: the slots or a time -/
theorem low_step {c v : Nat} (hI : Inv r) (hR : Rel b sd r) (hF : FRs r) (hc : c < 6) (a0 : ∀ i, i ≠ c → r' i = r i) (ac : r' c = nI v) (h0 : c = 0 → 4 ≤ v ∧ v ≤ 24 ∧ nv r 6 = 0 ∧ nv r 7 = 0) (h1 : c ≠ 0 → v ≤ 99) (w0 : ∀ k j t, ¬ (k = (if c = 0 then 4 else 10) ∧ j = 0 ∧ t = c - 1) → sd' k j t = sd k j t) (wc : sd' (if c = 0 then 4 else 10) 0 (c - 1) = nI v) : Inv r' ∧ Rel b sd' r' ∧ FRs r' := by
  have l6 := hI.l6
  have l7 := hI.l7
  have l8 := hI.l8
  have l9 := hI.lF
  have l10 := hI.l10
  have l16 := hI.l16
  have b0 : ∀ i, i ≠ c → nv r' i = nv r i := fun i k1 => nv_eq (a0 i k1)
  have hv : v < 2 ^ 31 := by
    by_cases z : c = 0
    · have := h0 z; omega
    · have := h1 z; omega
  have vc := nv_of ac hv
  have n9 := b0 9 (by omega)
  have hInv : InvF (nv r 9) r' := by
    refine ⟨?_, ?_, ?_, ?_, ?_, ?_, ?_, ?_, ?_, ?_, ?_, ?_, hI.lF⟩
    · have g := hI.1
      unfold I_cnt at g ⊢
      obtain ⟨g1, g2, g3, g4, g5, g6, g7, g8⟩ := g
      refine ⟨?_, ?_, isN_eq (a0 _ (by omega)) g3, isN_eq (a0 _ (by omega)) g4, isN_eq (a0 _ (by omega)) g5, isN_eq (a0 _ (by omega)) g6, isN_eq (a0 _ (by omega)) g7, isN_eq (a0 _ (by omega)) g8⟩
      · by_cases z : c = 0
        · obtain ⟨z1, z2, -⟩ := h0 z
          subst z
          exact isN_nI ac z2 (by omega)
        · exact isN_eq (a0 _ (fun y => z y.symm)) g1
      · by_cases z : c = 0
        · obtain ⟨z1, z2, -⟩ := h0 z
          subst z
          rw [vc]
          exact z1
        · rw [b0 0 (fun y => z y.symm)]
          exact g2
    · have g := hI.tim
      have key : ∀ i, 1 ≤ i → i ≤ 5 → isN r i 99 → isN r' i 99 := fun i i1 i2 h => by
        by_cases z : i = c
        · subst z
          exact isN_nI ac (h1 (by omega)) (by omega)
        · exact isN_eq (a0 _ z) h
      obtain ⟨g1, g2, g3, g4, g5⟩ := g
      exact ⟨key 1 (by omega) (by omega) g1, key 2 (by omega) (by omega) g2, key 3 (by omega) (by omega) g3, key 4 (by omega) (by omega) g4, key 5 (by omega) (by omega) g5⟩
    · have g := hI.pick
      refine ⟨isN_eq (a0 _ (by omega)) g.1, ?_⟩
      rw [b0 11 (by omega)]
      by_cases z : c = 0
      · obtain ⟨z1, z2, -⟩ := h0 z
        subst z
        rw [vc, nv_of (n := 0) hF.2.2.1 (by omega)]
        omega
      · rw [b0 0 (fun y => z y.symm)]
        exact g.2
    · intro d hd
      rw [b0 6 (by omega)] at hd
      have g := hI.drv d hd
      by_cases z : c = 0
      · have := h0 z; omega
      · unfold isN at g ⊢
        simp (disch := omega) only [a0, b0]
        exact g
    · intro d e hd he
      rw [b0 6 (by omega)] at hd he
      simp (disch := omega) only [a0]
      exact hI.drd d e hd he
    · intro q hq
      rw [b0 7 (by omega)] at hq
      have g := hI.plt q hq
      by_cases z : c = 0
      · have := h0 z; omega
      · unfold isN at g ⊢
        simp (disch := omega) only [a0, b0]
        exact g
    · intro x y hx hy hxy
      rw [b0 7 (by omega)] at hx hy
      simp (disch := omega) only [a0] at hxy
      exact hI.hom x y hx hy hxy
    · intro k hk
      rw [b0 8 (by omega)] at hk
      have g := hI.bad k hk
      unfold isN at g ⊢
      simp (disch := omega) only [a0, b0]
      exact g
    · intro k l hk hl h3 h4
      rw [b0 8 (by omega)] at hk hl
      simp (disch := omega) only [a0] at h3 h4
      exact hI.bdd k l hk hl h3 h4
    · intro g hg
      have w := hI.cur g hg
      unfold isN at w ⊢
      simp (disch := omega) only [a0, b0]
      exact w
    · intro v hv
      rw [b0 10 (by omega)] at hv
      have g := hI.ver v hv
      unfold isN at g ⊢
      simp (disch := omega) only [a0, b0]
      exact g
    · intro q hq
      rw [b0 16 (by omega)] at hq
      have g := hI.req q hq
      unfold isN at g ⊢
      simp (disch := omega) only [a0, b0]
      exact g
  have w4 : ∀ t, t ≠ 0 → sd' 4 0 t = sd 4 0 t := fun t ht => w0 4 0 t (fun z => by
    by_cases y : c = 0
    · rw [if_pos y] at z; omega
    · rw [if_neg y] at z; omega)
  have wk : ∀ k j t, k ≠ 4 → k ≠ 10 → sd' k j t = sd k j t := fun k j t k1 k2 => w0 k j t (fun z => by
    split at z <;> omega)
  have hRel : RelF (nv r 9) b sd' r' := by
    refine ⟨?_, ?_, ?_, ?_, ?_, ?_, ?_, ?_, ?_, ?_⟩
    · have g := hR.sc
      unfold R_sc at g ⊢
      simp (disch := omega) only [a0, w4]
      refine ⟨?_, g.2⟩
      by_cases z : c = 0
      · subst z
        rw [ac]
        exact wc
      · rw [a0 0 (fun y => z y.symm), w0 4 0 0 (fun y => by rw [if_neg z] at y; omega)]
        exact g.1
    · have g := hR.tm
      have key : ∀ t, t < 5 → sd 10 0 t = r (1 + t) → sd' 10 0 t = r' (1 + t) := fun t ht h => by
        by_cases z : c = 1 + t
        · subst z
          rw [ac]
          have := wc
          rw [if_neg (by omega), show 1 + t - 1 = t by omega] at this
          exact this
        · rw [a0 _ (fun y => z y.symm), w0 10 0 t (fun y => by
            by_cases w : c = 0
            · rw [if_pos w] at y; omega
            · rw [if_neg w] at y; omega)]
          exact h
      obtain ⟨g1, g2, g3, g4, g5⟩ := g
      exact ⟨key 0 (by omega) g1, key 1 (by omega) g2, key 2 (by omega) g3, key 3 (by omega) g4, key 4 (by omega) g5⟩
    · intro d hd
      rw [b0 6 (by omega)] at hd
      simp (disch := omega) only [a0, wk]
      exact hR.dr d hd
    · exact us_same hR.us (Nat.le_refl _) (b0 6 (by omega)) (w4 _ (by omega)) (fun e => wk _ _ _ (by omega) (by omega)) (a0 _ (by omega)) (fun e he => a0 _ (by omega))
    · intro q hq
      rw [b0 7 (by omega)] at hq
      simp (disch := omega) only [a0, wk]
      exact hR.pl q hq
    · intro q t hq ht
      rw [b0 7 (by omega)] at hq
      rw [b0 _ (by omega)] at ht
      simp (disch := omega) only [a0, wk]
      exact hR.se q t hq ht
    · intro q u hq hu
      rw [b0 7 (by omega)] at hq
      have g := hR.bd q u hq hu
      unfold bdc bdm at g ⊢
      rw [b0 8 (by omega), wk _ _ _ (by omega) (by omega), g]
      simp (disch := omega) only [a0]
    · intro g hg
      rw [a0 _ (by omega), wk _ _ _ (by omega) (by omega)]
      exact hR.cu g hg
    · intro v hv
      rw [b0 10 (by omega)] at hv
      simp (disch := omega) only [a0, wk]
      exact hR.ve v hv
    · intro q hq
      rw [b0 16 (by omega)] at hq
      rw [a0 _ (by omega), wk _ _ _ (by omega) (by omega)]
      exact hR.rq q hq
  refine ⟨inv_of hInv n9, rel_of hRel n9, ?_, ?_, ?_, ?_⟩
  · intro d h1 h2
    rw [b0 6 (by omega)] at h1
    rw [a0 _ (by omega), a0 _ (by omega)]
    exact hF.1 d h1 h2
  · intro p h1 h2
    rw [b0 7 (by omega)] at h1
    rw [a0 _ (by omega), a0 _ (by omega), a0 _ (by omega)]
    exact hF.2.1 p h1 h2
  · rw [a0 _ (by omega)]; exact hF.2.2.1
  · rw [b0 _ (by omega), b0 _ (by omega)]; exact hF.2.2.2
theorem c_addDrive {a : Int32} (hR : Rel b sd r) (hI : Inv r) (hd : nv r 6 < 4) : f_X4_addDrive sd a = some (upS (upS (upS (upS sd 0 (nv r 6) 0 a) 0 (nv r 6) 1 (-1)) 0 (nv r 6) 2 0) 4 0 3 (nI (nv r 6 + 1))) := by
  have i4 : ¬ (4 : Int32) ≤ nI (nv r 6) := fun h => by have := (nI_leI (a := 4) (by omega) (by omega)).mp h; omega
  unfold f_X4_addDrive
  rw [hR.s3, hI.c6, if_neg i4, x_guard_pos (vp_in_nI hd (by omega)), nI_clamp (by omega)]
  simp only [xl]
  rw [upS_k (by omega), upS_k (by omega), upS_k (by omega), hR.s3, hI.c6, ra (k := 1)]
theorem drive_step {v : Nat} (hI : Inv r) (hR : Rel 0 sd r) (hF : FRs r) (hd : nv r 6 < 4) (hv : v < nv r 0) (a0 : ∀ i, i ≠ 6 → i ≠ 17 + nv r 6 → r' i = r i) (a6 : r' 6 = nI (nv r 6 + 1)) (a17 : r' (17 + nv r 6) = nI v) : Inv r' ∧ Rel 0 (upS (upS (upS (upS sd 0 (nv r 6) 0 (nI v)) 0 (nv r 6) 1 (-1)) 0 (nv r 6) 2 0) 4 0 3 (nI (nv r 6 + 1))) r' ∧ FRs r' := by
  have l0 := hI.l0
  have l7 := hI.l7
  have l8 := hI.l8
  have l9 := hI.lF
  have l10 := hI.l10
  have l16 := hI.l16
  have b0 : ∀ i, i ≠ 6 → i ≠ 17 + nv r 6 → nv r' i = nv r i := fun i k1 k2 => nv_eq (a0 i k1 k2)
  have v6 := nv_of a6 (by omega)
  have v17 := nv_of a17 (by omega)
  have n9 := b0 9 (by omega) (by omega)
  obtain ⟨f21, f25⟩ := hF.1 (nv r 6) (Nat.le_refl _) hd
  have hInv : InvF (nv r 9) r' := by
    refine ⟨?_, ?_, ?_, ?_, ?_, ?_, ?_, ?_, ?_, ?_, ?_, ?_, hI.lF⟩
    · obtain ⟨g1, g2, g3, g4, g5, g6, g7, g8⟩ := hI.1
      exact ⟨isN_eq (a0 _ (by omega) (by omega)) g1, by rw [b0 _ (by omega) (by omega)]; exact g2, isN_nI a6 (by omega) (by omega), isN_eq (a0 _ (by omega) (by omega)) g4, isN_eq (a0 _ (by omega) (by omega)) g5, isN_eq (a0 _ (by omega) (by omega)) g6, isN_eq (a0 _ (by omega) (by omega)) g7, isN_eq (a0 _ (by omega) (by omega)) g8⟩
    · obtain ⟨g1, g2, g3, g4, g5⟩ := hI.tim
      exact ⟨isN_eq (a0 _ (by omega) (by omega)) g1, isN_eq (a0 _ (by omega) (by omega)) g2, isN_eq (a0 _ (by omega) (by omega)) g3, isN_eq (a0 _ (by omega) (by omega)) g4, isN_eq (a0 _ (by omega) (by omega)) g5⟩
    · have g := hI.pick
      unfold I_pick isN at g ⊢
      simp (disch := omega) only [a0, b0]
      exact g
    · intro d hd2
      rw [v6] at hd2
      by_cases z : d = nv r 6
      · subst z
        refine ⟨⟨isN_nI a17 (by omega) (by omega), by rw [v17, b0 0 (by omega) (by omega)]; exact hv⟩, Or.inl ?_⟩
        rw [a0 _ (by omega) (by omega)]
        exact f21
      · have g := hI.drv d (by omega)
        unfold isN at g ⊢
        simp (disch := omega) only [a0, b0]
        exact g
    · intro d e hd2 he2
      rw [v6] at hd2 he2
      simp (disch := omega) only [a0]
      intro h
      by_cases z : d = nv r 6
      · subst z
        exact Or.inr f21
      · by_cases y : e = nv r 6
        · subst y
          right
          rw [h]
          exact f21
        · exact hI.drd d e (by omega) (by omega) h
    · intro q hq
      rw [b0 7 (by omega) (by omega)] at hq
      have g := hI.plt q hq
      unfold isN at g ⊢
      simp (disch := omega) only [a0, b0]
      exact g
    · intro x y hx hy hxy
      rw [b0 7 (by omega) (by omega)] at hx hy
      simp (disch := omega) only [a0] at hxy
      exact hI.hom x y hx hy hxy
    · intro k hk
      rw [b0 8 (by omega) (by omega)] at hk
      have g := hI.bad k hk
      unfold isN at g ⊢
      simp (disch := omega) only [a0, b0]
      exact g
    · intro k l hk hl h3 h4
      rw [b0 8 (by omega) (by omega)] at hk hl
      simp (disch := omega) only [a0] at h3 h4
      exact hI.bdd k l hk hl h3 h4
    · intro g hg
      have w := hI.cur g hg
      unfold isN at w ⊢
      simp (disch := omega) only [a0, b0]
      exact w
    · intro v hv
      rw [b0 10 (by omega) (by omega)] at hv
      have g := hI.ver v hv
      unfold isN at g ⊢
      simp (disch := omega) only [a0, b0]
      exact g
    · intro q hq
      rw [b0 16 (by omega) (by omega)] at hq
      have g := hI.req q hq
      unfold isN at g ⊢
      simp (disch := omega) only [a0, b0]
      exact g
  have wk : ∀ k j t, ¬ (k = 0 ∧ j = nv r 6) → ¬ (k = 4 ∧ j = 0 ∧ t = 3) → (upS (upS (upS (upS sd 0 (nv r 6) 0 (nI v)) 0 (nv r 6) 1 (-1)) 0 (nv r 6) 2 0) 4 0 3 (nI (nv r 6 + 1))) k j t = sd k j t := fun k j t h1 h2 => by
    unfold upS
    rw [if_neg (by omega), if_neg (by omega), if_neg (by omega), if_neg (by omega)]
  have e3 : (upS (upS (upS (upS sd 0 (nv r 6) 0 (nI v)) 0 (nv r 6) 1 (-1)) 0 (nv r 6) 2 0) 4 0 3 (nI (nv r 6 + 1))) 4 0 3 = nI (nv r 6 + 1) := upS_hit _ _ _ _ _
  have d0 : (upS (upS (upS (upS sd 0 (nv r 6) 0 (nI v)) 0 (nv r 6) 1 (-1)) 0 (nv r 6) 2 0) 4 0 3 (nI (nv r 6 + 1))) 0 (nv r 6) 0 = nI v := by
    rw [upS_k (by omega), upS_t (by omega), upS_t (by omega), upS_hit]
  have d1 : (upS (upS (upS (upS sd 0 (nv r 6) 0 (nI v)) 0 (nv r 6) 1 (-1)) 0 (nv r 6) 2 0) 4 0 3 (nI (nv r 6 + 1))) 0 (nv r 6) 1 = -1 := by
    rw [upS_k (by omega), upS_t (by omega), upS_hit]
  have d2 : (upS (upS (upS (upS sd 0 (nv r 6) 0 (nI v)) 0 (nv r 6) 1 (-1)) 0 (nv r 6) 2 0) 4 0 3 (nI (nv r 6 + 1))) 0 (nv r 6) 2 = 0 := by
    rw [upS_k (by omega), upS_hit]
  generalize upS (upS (upS (upS sd 0 (nv r 6) 0 (nI v)) 0 (nv r 6) 1 (-1)) 0 (nv r 6) 2 0) 4 0 3 (nI (nv r 6 + 1)) = s' at *
  have hRel : RelF (nv r 9) 0 s' r' := by
    refine ⟨?_, ?_, ?_, ?_, ?_, ?_, ?_, ?_, ?_, ?_⟩
    · have g := hR.sc
      unfold R_sc at g ⊢
      rw [e3, a6]
      simp (disch := omega) only [a0, wk]
      exact ⟨g.1, trivial, g.2.2⟩
    · have g := hR.tm
      unfold R_tm at g ⊢
      simp (disch := omega) only [a0, wk]
      exact g
    · intro d hd2
      rw [v6] at hd2
      by_cases z : d = nv r 6
      · subst z
        rw [d0, d1, a17, a0 _ (by omega) (by omega), f21]
        exact ⟨rfl, rfl⟩
      · rw [a0 _ (by omega) (by omega), a0 _ (by omega) (by omega), wk _ _ _ (by omega) (by omega), wk _ _ _ (by omega) (by omega)]
        exact hR.dr d (by omega)
    · obtain ⟨⟨u1, u2⟩, u3, u4, u5⟩ := hR.us
      have n4 : ns s' 4 0 4 = ns sd 4 0 4 := by unfold ns; rw [wk _ _ _ (by omega) (by omega)]
      have ne : ∀ e, e ≠ nv r 6 → ns s' 0 e 2 = ns sd 0 e 2 := fun e he => by unfold ns; rw [wk _ _ _ (by omega) (by omega)]
      have nd : ns s' 0 (nv r 6) 2 = 0 := by unfold ns; rw [d2]; rfl
      have n25 : nv r' (25 + nv r 6) = 0 := nv_of (n := 0) (by rw [a0 _ (by omega) (by omega)]; exact f25) (by omega)
      have z0 : ∀ e, e < nv r 6 → ns sd 0 e 2 = 0 ∧ nv r (25 + e) = 0 := fun e he => by
        have g := u4 e he
        have := u3.l
        have := g.1.2
        have := g.2.l
        omega
      have all : ∀ e, e < nv r 6 + 1 → ns s' 0 e 2 = 0 ∧ nv r' (25 + e) = 0 := fun e he => by
        by_cases z : e = nv r 6
        · subst z; exact ⟨nd, n25⟩
        · rw [ne e z, b0 _ (by omega) (by omega)]
          exact z0 e (by omega)
      refine ⟨⟨?_, by rw [n4]; exact u2⟩, isN_eq (a0 _ (by omega) (by omega)) u3, fun e he => ?_, fun d e hd2 he => ?_⟩
      · rw [n4, wk _ _ _ (by omega) (by omega)]; exact u1
      · rw [v6] at he
        obtain ⟨q1, q2⟩ := all e he
        refine ⟨⟨?_, by omega⟩, ?_, by omega⟩
        · rw [q1]
          by_cases z : e = nv r 6
          · subst z; exact d2
          · rw [wk _ _ _ (by omega) (by omega), (u4 e (by omega)).1.1, (z0 e (by omega)).1]
        · rw [q2]
          by_cases z : e = nv r 6
          · subst z
            rw [a0 _ (by omega) (by omega)]; exact f25
          · rw [a0 _ (by omega) (by omega), (u4 e (by omega)).2.e, (z0 e (by omega)).2]
      · rw [v6] at hd2 he
        obtain ⟨q1, q2⟩ := all d hd2
        obtain ⟨q3, q4⟩ := all e he
        omega
    · intro q hq
      rw [b0 7 (by omega) (by omega)] at hq
      simp (disch := omega) only [a0, wk]
      exact hR.pl q hq
    · intro q t hq ht
      rw [b0 7 (by omega) (by omega)] at hq
      rw [b0 _ (by omega) (by omega)] at ht
      simp (disch := omega) only [a0, wk]
      exact hR.se q t hq ht
    · intro q u hq hu
      rw [b0 7 (by omega) (by omega)] at hq
      have g := hR.bd q u hq hu
      unfold bdc bdm at g ⊢
      rw [b0 8 (by omega) (by omega), wk _ _ _ (by omega) (by omega), g]
      simp (disch := omega) only [a0]
    · intro g hg
      rw [a0 _ (by omega) (by omega), wk _ _ _ (by omega) (by omega)]
      exact hR.cu g hg
    · intro v hv
      rw [b0 10 (by omega) (by omega)] at hv
      simp (disch := omega) only [a0, wk]
      exact hR.ve v hv
    · intro q hq
      rw [b0 16 (by omega) (by omega)] at hq
      rw [a0 _ (by omega) (by omega), wk _ _ _ (by omega) (by omega)]
      exact hR.rq q hq
  refine ⟨inv_of hInv n9, rel_of hRel n9, ?_, ?_, ?_, ?_⟩
  · intro d h1 h2
    rw [v6] at h1
    rw [a0 _ (by omega) (by omega), a0 _ (by omega) (by omega)]
    exact hF.1 d (by omega) h2
  · intro p h1 h2
    rw [b0 7 (by omega) (by omega)] at h1
    rw [a0 _ (by omega) (by omega), a0 _ (by omega) (by omega), a0 _ (by omega) (by omega)]
    exact hF.2.1 p h1 h2
  · rw [a0 _ (by omega) (by omega)]; exact hF.2.2.1
  · rw [b0 _ (by omega) (by omega), b0 _ (by omega) (by omega)]; exact hF.2.2.2
end STP
