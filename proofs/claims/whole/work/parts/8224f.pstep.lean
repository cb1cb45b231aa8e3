/-! Layer 2: a platter is read -/
section PST
variable {F b : Nat} {sd : SD} {r r' : RW}
/-- the class's State with one platter more -/
def plN (sd : SD) (p : Nat) (a c e : Int32) : SD := upS (cpS (upS (upS (upS (upS (upS (upS sd 3 p 0 a) 3 p 1 c) 3 p 2 e) 3 p 3 0) 3 p 4 0) 3 p 5 0) 18 p 10 (fun _ => 0)) 4 0 6 (nI (p + 1))
theorem c_addPlatter (a c e : Int32) (hR : Rel b sd r) (hI : Inv r) (hp : nv r 7 < 10) : f_X4_addPlatter sd a c e = some (plN sd (nv r 7) a c e) := by
  have i4 : ¬ (10 : Int32) ≤ nI (nv r 7) := fun h => by have := (nI_leI (a := 10) (by omega) (by omega)).mp h; omega
  unfold f_X4_addPlatter f_X3_begin plN
  rw [hR.s6, hI.c7, if_neg i4, x_guard_pos (vp_in_nI hp (by omega)), nI_clamp (by omega)]
  simp only [xl, xb]
  rw [cpS_k (by omega), upS_k (by omega), upS_k (by omega), upS_k (by omega), upS_k (by omega), upS_k (by omega), upS_k (by omega), hR.s6, hI.c7, ra (k := 1)]
theorem plN_cells (sd : SD) (p : Nat) (a c e : Int32) : (∀ k j t, ¬ ((k = 3 ∨ k = 18) ∧ j = p) → ¬ (k = 4 ∧ j = 0 ∧ t = 6) → plN sd p a c e k j t = sd k j t) ∧ plN sd p a c e 4 0 6 = nI (p + 1) ∧ (plN sd p a c e 3 p 0 = a ∧ plN sd p a c e 3 p 1 = c ∧ plN sd p a c e 3 p 2 = e ∧ plN sd p a c e 3 p 3 = 0 ∧ plN sd p a c e 3 p 4 = 0 ∧ plN sd p a c e 3 p 5 = 0) ∧ ∀ t, t < 10 → plN sd p a c e 18 p t = 0 := by
  unfold plN
  refine ⟨fun k j t h1 h2 => ?_, upS_hit _ _ _ _ _, ⟨?_, ?_, ?_, ?_, ?_, ?_⟩, fun t ht => ?_⟩
  · have e1 : ∀ s : SD, upS s 4 0 6 (nI (p + 1)) k j t = s k j t := fun s => by unfold upS; rw [if_neg h2]
    have e2 : ∀ (s : SD), cpS s 18 p 10 (fun _ => 0) k j t = s k j t := fun s => by
      by_cases z : k = 18
      · exact cpS_j (by omega)
      · exact cpS_k z
    have e3 : ∀ (s : SD) (u : Nat) (v : Int32), upS s 3 p u v k j t = s k j t := fun s u v => by unfold upS; rw [if_neg (by omega)]
    rw [e1, e2, e3, e3, e3, e3, e3, e3]
  all_goals rw [upS_k (by omega)]
  all_goals try rw [cpS_k (by omega)]
  · rw [upS_t (by omega), upS_t (by omega), upS_t (by omega), upS_t (by omega), upS_t (by omega), upS_hit]
  · rw [upS_t (by omega), upS_t (by omega), upS_t (by omega), upS_t (by omega), upS_hit]
  · rw [upS_t (by omega), upS_t (by omega), upS_t (by omega), upS_hit]
  · rw [upS_t (by omega), upS_t (by omega), upS_hit]
  · rw [upS_t (by omega), upS_hit]
  · rw [upS_hit]
  · rw [cpS_in ht]
theorem plat_step {h c e : Nat} (hI : Inv r) (hR : Rel 0 sd r) (hF : FRs r) (hp : nv r 7 < 10) (hh : h < nv r 0) (hc : 10 ≤ c ∧ c ≤ 300) (he : e ≤ 9) (hnew : homeQ r (nI h) = -1) (a0 : ∀ i, i ≠ 7 → i ≠ 29 + nv r 7 → i ≠ 39 + nv r 7 → i ≠ 49 + nv r 7 → r' i = r i) (a7 : r' 7 = nI (nv r 7 + 1)) (a29 : r' (29 + nv r 7) = nI h) (a39 : r' (39 + nv r 7) = nI c) (a49 : r' (49 + nv r 7) = nI e) : Inv r' ∧ Rel 0 (plN sd (nv r 7) (nI h) (nI c) (nI e)) r' ∧ FRs r' := by
  have l0 := hI.l0
  have l6 := hI.l6
  have l8 := hI.l8
  have l9 := hI.lF
  have l10 := hI.l10
  have l16 := hI.l16
  have b0 : ∀ i, i ≠ 7 → i ≠ 29 + nv r 7 → i ≠ 39 + nv r 7 → i ≠ 49 + nv r 7 → nv r' i = nv r i := fun i k1 k2 k3 k4 => nv_eq (a0 i k1 k2 k3 k4)
  have v7 := nv_of a7 (by omega)
  have v29 := nv_of a29 (by omega)
  have v39 := nv_of a39 (by omega)
  have v49 := nv_of a49 (by omega)
  have n9 := b0 9 (by omega) (by omega) (by omega) (by omega)
  obtain ⟨f59, f69, f79⟩ := hF.2.1 (nv r 7) (Nat.le_refl _) hp
  have hno : ∀ q, q < nv r 7 → r (29 + q) ≠ nI h := by
    rcases homeQ_cases r (nI h) with ⟨-, z⟩ | ⟨d, d1, d2, -⟩
    · exact z
    · rw [d2, nm1 (by omega)] at hnew
      exact hnew.elim
  have a59 : r' (59 + nv r 7) = nI 0 := (a0 _ (by omega) (by omega) (by omega) (by omega)).trans f59
  have a69 : r' (69 + nv r 7) = nI 0 := (a0 _ (by omega) (by omega) (by omega) (by omega)).trans f69
  have a79 : r' (79 + nv r 7) = nI 0 := (a0 _ (by omega) (by omega) (by omega) (by omega)).trans f79
  have v59 := nv_of a59 (by omega)
  have v69 := nv_of a69 (by omega)
  have v79 := nv_of a79 (by omega)
  have hInv : InvF (nv r 9) r' := by
    refine ⟨?_, ?_, ?_, ?_, ?_, ?_, ?_, ?_, ?_, ?_, ?_, ?_, hI.lF⟩
    · obtain ⟨g1, g2, g3, g4, g5, g6, g7, g8⟩ := hI.1
      exact ⟨isN_eq (a0 _ (by omega) (by omega) (by omega) (by omega)) g1, by rw [b0 _ (by omega) (by omega) (by omega) (by omega)]; exact g2, isN_eq (a0 _ (by omega) (by omega) (by omega) (by omega)) g3, isN_nI a7 (by omega) (by omega), isN_eq (a0 _ (by omega) (by omega) (by omega) (by omega)) g5, isN_eq (a0 _ (by omega) (by omega) (by omega) (by omega)) g6, isN_eq (a0 _ (by omega) (by omega) (by omega) (by omega)) g7, isN_eq (a0 _ (by omega) (by omega) (by omega) (by omega)) g8⟩
    · have g := hI.tim
      unfold I_tim isN at g ⊢
      simp (disch := omega) only [a0, b0]
      exact g
    · have g := hI.pick
      unfold I_pick isN at g ⊢
      simp (disch := omega) only [a0, b0]
      exact g
    · intro d hd
      rw [b0 6 (by omega) (by omega) (by omega) (by omega)] at hd
      have g := hI.drv d hd
      rw [v7]
      refine ⟨?_, ?_⟩
      · have g1 := g.1
        unfold isN at g1 ⊢
        simp (disch := omega) only [a0, b0]
        exact g1
      · rcases g.2 with z | ⟨z1, z2⟩
        · left
          rw [a0 _ (by omega) (by omega) (by omega) (by omega)]
          exact z
        · right
          refine ⟨isN_eq (a0 _ (by omega) (by omega) (by omega) (by omega)) z1, ?_⟩
          rw [b0 _ (by omega) (by omega) (by omega) (by omega)]
          omega
    · intro d e hd he
      rw [b0 6 (by omega) (by omega) (by omega) (by omega)] at hd he
      simp (disch := omega) only [a0]
      exact hI.drd d e hd he
    · intro q hq
      rw [v7] at hq
      by_cases z : q = nv r 7
      · subst z
        refine ⟨⟨isN_nI a29 (by omega) (by omega), ?_⟩, ⟨isN_nI a39 hc.2 (by omega), by omega⟩, isN_nI a49 he (by omega), ⟨isN_nI a59 (by omega) (by omega), by omega⟩, isN_nI a69 (by omega) (by omega), isN_nI a79 (by omega) (by omega), fun y => by omega⟩
        rw [v29, b0 0 (by omega) (by omega) (by omega) (by omega)]
        exact hh
      · have g := hI.plt q (by omega)
        unfold isN at g ⊢
        simp (disch := omega) only [a0, b0]
        exact g
    · intro x y hx hy hxy
      rw [v7] at hx hy
      by_cases z : x = nv r 7
      · by_cases w : y = nv r 7
        · omega
        · subst z
          rw [a29, a0 (29 + y) (by omega) (by omega) (by omega) (by omega)] at hxy
          exact absurd hxy.symm (hno y (by omega))
      · by_cases w : y = nv r 7
        · subst w
          rw [a29, a0 (29 + x) (by omega) (by omega) (by omega) (by omega)] at hxy
          exact absurd hxy (hno x (by omega))
        · simp (disch := omega) only [a0] at hxy
          exact hI.hom x y (by omega) (by omega) hxy
    · intro k hk
      rw [b0 8 (by omega) (by omega) (by omega) (by omega)] at hk
      have g := hI.bad k hk
      have g2 := g.1.2
      rw [v7]
      have e1 := b0 (249 + k) (by omega) (by omega) (by omega) (by omega)
      have e2 := b0 (39 + nv r (249 + k)) (by omega) (by omega) (by omega) (by omega)
      refine ⟨⟨isN_eq (a0 _ (by omega) (by omega) (by omega) (by omega)) g.1.1, by omega⟩, isN_eq (a0 _ (by omega) (by omega) (by omega) (by omega)) g.2.1, ?_⟩
      rw [e1, e2, b0 (269 + k) (by omega) (by omega) (by omega) (by omega)]
      exact g.2.2
    · intro k l hk hl h3 h4
      rw [b0 8 (by omega) (by omega) (by omega) (by omega)] at hk hl
      simp (disch := omega) only [a0] at h3 h4
      exact hI.bdd k l hk hl h3 h4
    · intro g hg
      have w := hI.cur g hg
      unfold isN at w ⊢
      simp (disch := omega) only [a0, b0]
      exact w
    · intro v hv
      rw [b0 10 (by omega) (by omega) (by omega) (by omega)] at hv
      have g := hI.ver v hv
      have g2 := g.2.1.2
      have e1 := b0 (349 + v) (by omega) (by omega) (by omega) (by omega)
      rw [v7]
      obtain ⟨g1, g3, g4, g5, g6, g7, g8, g9⟩ := g
      refine ⟨?_, ⟨isN_eq (a0 _ (by omega) (by omega) (by omega) (by omega)) g3.1, by omega⟩, isN_eq (a0 _ (by omega) (by omega) (by omega) (by omega)) g4, isN_eq (a0 _ (by omega) (by omega) (by omega) (by omega)) g5, ?_, ?_, isN_eq (a0 _ (by omega) (by omega) (by omega) (by omega)) g8, isN_eq (a0 _ (by omega) (by omega) (by omega) (by omega)) g9⟩
      · exact ⟨isN_eq (a0 _ (by omega) (by omega) (by omega) (by omega)) g1.1, by rw [b0 _ (by omega) (by omega) (by omega) (by omega)]; exact g1.2⟩
      · rw [e1, b0 (59 + nv r (349 + v)) (by omega) (by omega) (by omega) (by omega), b0 (389 + v) (by omega) (by omega) (by omega) (by omega), b0 (429 + v) (by omega) (by omega) (by omega) (by omega)]
        exact g6
      · refine ⟨isN_eq (a0 _ (by omega) (by omega) (by omega) (by omega)) g7.1, ?_⟩
        rw [e1, b0 (69 + nv r (349 + v)) (by omega) (by omega) (by omega) (by omega), b0 (469 + v) (by omega) (by omega) (by omega) (by omega)]
        exact g7.2
    · intro q hq
      rw [b0 16 (by omega) (by omega) (by omega) (by omega)] at hq
      have g := hI.req q hq
      unfold isN at g ⊢
      simp (disch := omega) only [a0, b0]
      exact g
  obtain ⟨wk, w6, ⟨w30, w31, w32, w33, w34, w35⟩, w18⟩ := plN_cells sd (nv r 7) (nI h) (nI c) (nI e)
  generalize plN sd (nv r 7) (nI h) (nI c) (nI e) = s' at *
  have hRel : RelF (nv r 9) 0 s' r' := by
    refine ⟨?_, ?_, ?_, ?_, ?_, ?_, ?_, ?_, ?_, ?_⟩
    · have g := hR.sc
      unfold R_sc at g ⊢
      rw [w6, a7]
      simp (disch := omega) only [a0, wk]
      exact ⟨g.1, g.2.1, trivial, g.2.2.2⟩
    · have g := hR.tm
      unfold R_tm at g ⊢
      simp (disch := omega) only [a0, wk]
      exact g
    · intro d hd
      rw [b0 6 (by omega) (by omega) (by omega) (by omega)] at hd
      rw [a0 _ (by omega) (by omega) (by omega) (by omega), a0 _ (by omega) (by omega) (by omega) (by omega), wk _ _ _ (by omega) (by omega), wk _ _ _ (by omega) (by omega)]
      exact hR.dr d hd
    · exact us_same hR.us (Nat.le_refl _) (b0 6 (by omega) (by omega) (by omega) (by omega)) (wk _ _ _ (by omega) (by omega)) (fun e => wk _ _ _ (by omega) (by omega)) (a0 _ (by omega) (by omega) (by omega) (by omega)) (fun e he => a0 _ (by omega) (by omega) (by omega) (by omega))
    · intro q hq
      rw [v7] at hq
      by_cases z : q = nv r 7
      · subst z
        rw [w30, w31, w32, w33, w34, w35, a29, a39, a49, a59, a69, a79]
        exact ⟨rfl, rfl, rfl, rfl, rfl, rfl⟩
      · have g := hR.pl q (by omega)
        simp (disch := omega) only [a0, wk]
        exact g
    · intro q t hq ht
      rw [v7] at hq
      by_cases z : q = nv r 7
      · subst z
        omega
      · rw [b0 _ (by omega) (by omega) (by omega) (by omega)] at ht
        have g := hR.se q t (by omega) ht
        simp (disch := omega) only [a0, wk]
        exact g
    · intro q u hq hu
      rw [v7] at hq
      by_cases z : q = nv r 7
      · subst z
        unfold bdc bdm
        rw [w18 _ (by omega)]
        constructor
        · intro y
          simp at y
        · rintro ⟨k, k1, k2, -⟩
          rw [b0 8 (by omega) (by omega) (by omega) (by omega)] at k1
          have g := (hI.bad k k1).1
          rw [a0 _ (by omega) (by omega) (by omega) (by omega), g.1.e, nI_eq (by omega) (by omega)] at k2
          omega
      · have g := hR.bd q u (by omega) hu
        unfold bdc bdm at g ⊢
        rw [b0 8 (by omega) (by omega) (by omega) (by omega), wk _ _ _ (by omega) (by omega), g]
        constructor
        · rintro ⟨k, k1, k2, k3⟩
          refine ⟨k, k1, ?_, ?_⟩
          · rw [a0 _ (by omega) (by omega) (by omega) (by omega)]; exact k2
          · rw [a0 _ (by omega) (by omega) (by omega) (by omega)]; exact k3
        · rintro ⟨k, k1, k2, k3⟩
          rw [a0 _ (by omega) (by omega) (by omega) (by omega)] at k2 k3
          exact ⟨k, k1, k2, k3⟩
    · intro g hg
      rw [a0 _ (by omega) (by omega) (by omega) (by omega), wk _ _ _ (by omega) (by omega)]
      exact hR.cu g hg
    · intro v hv
      rw [b0 10 (by omega) (by omega) (by omega) (by omega)] at hv
      have g := hR.ve v hv
      simp (disch := omega) only [a0, wk]
      exact g
    · intro q hq
      rw [b0 16 (by omega) (by omega) (by omega) (by omega)] at hq
      rw [a0 _ (by omega) (by omega) (by omega) (by omega), wk _ _ _ (by omega) (by omega)]
      exact hR.rq q hq
  refine ⟨inv_of hInv n9, rel_of hRel n9, ?_, ?_, ?_, ?_⟩
  · intro d h1 h2
    rw [b0 6 (by omega) (by omega) (by omega) (by omega)] at h1
    rw [a0 _ (by omega) (by omega) (by omega) (by omega), a0 _ (by omega) (by omega) (by omega) (by omega)]
    exact hF.1 d h1 h2
  · intro p h1 h2
    rw [v7] at h1
    rw [a0 _ (by omega) (by omega) (by omega) (by omega), a0 _ (by omega) (by omega) (by omega) (by omega), a0 _ (by omega) (by omega) (by omega) (by omega)]
    exact hF.2.1 p (by omega) h2
  · rw [a0 _ (by omega) (by omega) (by omega) (by omega)]; exact hF.2.2.1
  · rw [b0 _ (by omega) (by omega) (by omega) (by omega), b0 _ (by omega) (by omega) (by omega) (by omega)]; exact hF.2.2.2
end PST
