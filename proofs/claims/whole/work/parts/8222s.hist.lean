/-! Layer 2: the states before the edits -/
section CON
variable {F : Nat} {b : Nat} {sd : SD} {r r' : RW}
theorem InvF.congr (hI : InvF F r) (a0 : ∀ i, i < 605 → r' i = r i) : InvF F r' := by
  have l6 := hI.l6
  have l7 := hI.l7
  have l8 := hI.l8
  have l9 := hI.lF
  have l10 := hI.l10
  have l16 := hI.l16
  have b0 : ∀ i, i < 605 → nv r' i = nv r i := fun i k1 => nv_eq (a0 i k1)
  refine ⟨?_, ?_, ?_, ?_, ?_, ?_, ?_, ?_, ?_, ?_, ?_, ?_, hI.lF⟩
  · have g := hI.1
    unfold I_cnt isN at g ⊢
    simp (disch := omega) only [a0, b0]
    exact g
  · have g := hI.tim
    unfold I_tim isN at g ⊢
    simp (disch := omega) only [a0, b0]
    exact g
  · have g := hI.pick
    unfold I_pick isN at g ⊢
    simp (disch := omega) only [a0, b0]
    exact g
  · intro d hd
    simp (disch := omega) only [b0] at hd
    have g := hI.drv d hd
    unfold isN at g ⊢
    simp (disch := omega) only [a0, b0]
    exact g
  · intro d e hd he
    simp (disch := omega) only [b0] at hd he
    simp (disch := omega) only [a0]
    exact hI.drd d e hd he
  · intro q hq
    simp (disch := omega) only [b0] at hq
    have g := hI.plt q hq
    unfold isN at g ⊢
    simp (disch := omega) only [a0, b0]
    exact g
  · intro x y hx hy hxy
    simp (disch := omega) only [b0] at hx hy
    simp (disch := omega) only [a0] at hxy
    exact hI.hom x y hx hy hxy
  · intro k hk
    simp (disch := omega) only [b0] at hk
    have g := hI.bad k hk
    have g9 := g.1.1.l
    unfold isN at g ⊢
    simp (disch := omega) only [a0, b0]
    exact g
  · intro k l hk hl h3 h4
    simp (disch := omega) only [b0] at hk hl
    simp (disch := omega) only [a0] at h3 h4
    exact hI.bdd k l hk hl h3 h4
  · intro g hg
    have w := hI.cur g hg
    unfold isN at w ⊢
    simp (disch := omega) only [a0, b0]
    exact w
  · intro v hv
    simp (disch := omega) only [b0] at hv
    have g := hI.ver v hv
    have g3l := g.2.1.1.l
    unfold isN at g ⊢
    simp (disch := omega) only [a0, b0]
    exact g
  · intro q hq
    simp (disch := omega) only [b0] at hq
    have w := hI.req q hq
    unfold isN at w ⊢
    simp (disch := omega) only [a0, b0]
    exact w
theorem RelF.congr (hI : InvF F r) (hR : RelF F b sd r) (a0 : ∀ i, i < 605 → r' i = r i) : RelF F b sd r' := by
  have l6 := hI.l6
  have l7 := hI.l7
  have l8 := hI.l8
  have l9 := hI.lF
  have l10 := hI.l10
  have l16 := hI.l16
  have b0 : ∀ i, i < 605 → nv r' i = nv r i := fun i k1 => nv_eq (a0 i k1)
  refine ⟨?_, ?_, ?_, ?_, ?_, ?_, ?_, ?_, ?_, ?_⟩
  · have g := hR.sc
    unfold R_sc at g ⊢
    simp (disch := omega) only [a0]
    exact g
  · have g := hR.tm
    unfold R_tm at g ⊢
    simp (disch := omega) only [a0]
    exact g
  · intro d hd
    simp (disch := omega) only [b0] at hd
    simp (disch := omega) only [a0]
    exact hR.dr d hd
  · exact us_same hR.us (Nat.le_refl _) (b0 6 (by omega)) rfl (fun _ => rfl) (a0 _ (by omega)) (fun e he => a0 _ (by omega))
  · intro q hq
    simp (disch := omega) only [b0] at hq
    have g := hR.pl q hq
    simp (disch := omega) only [a0]
    exact g
  · intro q t hq ht
    simp (disch := omega) only [b0] at hq
    simp (disch := omega) only [b0] at ht
    have ln2 := (hI.plt q hq).2.2.2.2.1.l
    have g := hR.se q t hq ht
    simp (disch := omega) only [a0]
    exact g
  · intro q u hq hu
    simp (disch := omega) only [b0] at hq
    have g := hR.bd q u hq hu
    unfold bdm at g ⊢
    rw [b0 8 (by omega), g]
    constructor
    · rintro ⟨k, k1, k2, k3⟩
      refine ⟨k, k1, ?_, ?_⟩
      · simp (disch := omega) only [a0]; exact k2
      · simp (disch := omega) only [a0]; exact k3
    · rintro ⟨k, k1, k2, k3⟩
      simp (disch := omega) only [a0] at k2 k3
      exact ⟨k, k1, k2, k3⟩
  · intro g hg
    have e := hR.cu g hg
    simp (disch := omega) only [a0]
    exact e
  · intro v hv
    simp (disch := omega) only [b0] at hv
    have e := hR.ve v hv
    simp (disch := omega) only [a0]
    exact e
  · intro q hq
    simp (disch := omega) only [b0] at hq
    have e := hR.rq q hq
    simp (disch := omega) only [a0]
    exact e
theorem RelF.more {b' : Nat} (hR : RelF F b sd r) (h : b ≤ b') : RelF F b' sd r := ⟨hR.1, hR.2.1, hR.2.2.1, us_same hR.us h rfl rfl (fun _ => rfl) rfl (fun _ _ => rfl), hR.2.2.2.2⟩
theorem Inv.congr (hI : Inv r) (a0 : ∀ i, i < 605 → r' i = r i) : Inv r' := by
  have h := InvF.congr hI a0
  have e : nv r' 9 = nv r 9 := nv_eq (a0 9 (by omega))
  rw [← e] at h
  exact h
theorem Rel.congr (hI : Inv r) (hR : Rel b sd r) (a0 : ∀ i, i < 605 → r' i = r i) : Rel b sd r' := by
  have h := RelF.congr hI hR a0
  have e : nv r' 9 = nv r 9 := nv_eq (a0 9 (by omega))
  rw [← e] at h
  exact h
end CON
/-- a row of the past -/
def prow (m : SD) (k : Nat) : RW := fun i => m 33 0 (605 * k + i)
theorem m_rem52 {m : SD} {e : Nat} (he : e < 16) (h5 : m 8 0 5 = nI e) : ∃ m', f_X8_remembers_L52 fuel 0 m = some m' ∧ f_X8_remembers_L52b fuel 0 m = some m' ∧ m' 8 0 5 = nI (e + 1) ∧ (∀ k j t, k ≠ 33 → ¬ (k = 8 ∧ j = 0 ∧ t = 5) → m' k j t = m k j t) ∧ (∀ t, ¬ (605 * e ≤ t ∧ t < 605 * e + 605) → m' 33 0 t = m 33 0 t) ∧ ∀ i, i < 605 → m' 33 0 (605 * e + i) = m 30 0 i := by
  have hI : ∀ d (s : SD), (∀ k j t, s k j t = if k = 33 ∧ j = 0 ∧ 605 * e ≤ t ∧ t < 605 * e + d then m 30 0 (t - 605 * e) else m k j t) → s 8 0 5 = nI e := fun d s h => by rw [h, if_neg (by omega)]; exact h5
  have hstep : ∀ d (s : SD), d < 605 → (∀ k j t, s k j t = if k = 33 ∧ j = 0 ∧ 605 * e ≤ t ∧ t < 605 * e + d then m 30 0 (t - 605 * e) else m k j t) → ∀ k j t, upS s 33 0 (605 * e + d) (s 30 0 d) k j t = if k = 33 ∧ j = 0 ∧ 605 * e ≤ t ∧ t < 605 * e + (d + 1) then m 30 0 (t - 605 * e) else m k j t := by
    intro d s hd h k j t
    unfold upS
    by_cases z : k = 33 ∧ j = 0 ∧ t = 605 * e + d
    · obtain ⟨rfl, rfl, rfl⟩ := z
      rw [if_pos ⟨rfl, rfl, rfl⟩, if_pos ⟨rfl, rfl, by omega, by omega⟩, h, if_neg (by omega), Nat.add_sub_cancel_left]
    · rw [if_neg z, h]
      by_cases y : k = 33 ∧ j = 0 ∧ 605 * e ≤ t ∧ t < 605 * e + d
      · rw [if_pos y, if_pos ⟨y.1, y.2.1, y.2.2.1, by omega⟩]
      · rw [if_neg y, if_neg (by omega)]
  obtain ⟨h1, h2⟩ := loop0 (L := fun n v s => f_X8_remembers_L52 n v s) (N := 605) (fun d s => upS s 33 0 (605 * e + d) (s 30 0 d)) (fun d s => ∀ k j t, s k j t = if k = 33 ∧ j = 0 ∧ 605 * e ≤ t ∧ t < 605 * e + d then m 30 0 (t - 605 * e) else m k j t) (fun s => some (upS s 8 0 5 (s 8 0 5 + 1))) (by decide) (fun n s _ => by
      show f_X8_remembers_L52 (n + 1) (nI 605) s = _
      rw [f_X8_remembers_L52, if_pos (by decide)]
      rfl) (fun n d s hd hs => by
      refine ⟨?_, hstep d s hd hs⟩
      show f_X8_remembers_L52 (n + 1) (nI d) s = f_X8_remembers_L52 n (nI (d + 1)) _
      rw [f_X8_remembers_L52, hI d s hs]
      simp (disch := omega) only [xl, xg, vinT, nI_clamp, lm, ra, nI_add, lle, if_neg]) m (fun k j t => by rw [if_neg (by omega)])
  obtain ⟨g1, g2⟩ := loop0 (L := fun n v s => f_X8_remembers_L52b n v s) (N := 605) (fun d s => upS s 33 0 (605 * e + d) (s 30 0 d)) (fun d s => ∀ k j t, s k j t = if k = 33 ∧ j = 0 ∧ 605 * e ≤ t ∧ t < 605 * e + d then m 30 0 (t - 605 * e) else m k j t) (fun s => some (upS s 8 0 5 (s 8 0 5 + 1))) (by decide) (fun n s _ => by
      show f_X8_remembers_L52b (n + 1) (nI 605) s = _
      rw [f_X8_remembers_L52b, if_pos (by decide)]
      rfl) (fun n d s hd hs => by
      refine ⟨?_, hstep d s hd hs⟩
      show f_X8_remembers_L52b (n + 1) (nI d) s = f_X8_remembers_L52b n (nI (d + 1)) _
      rw [f_X8_remembers_L52b, hI d s hs]
      simp (disch := omega) only [xl, xg, vinT, nI_clamp, lm, ra, nI_add, lle, if_neg]) m (fun k j t => by rw [if_neg (by omega)])
  have h8 := hI _ _ h2
  refine ⟨_, h1, g1, ?_, fun k j t hk hn => ?_, fun t ht => ?_, fun i hi => ?_⟩
  · rw [upS_hit, h8, nI_1]
  · simp only [upS]
    rw [if_neg hn, h2, if_neg (by omega)]
  · rw [upS_k (by omega), h2, if_neg (by omega)]
  · rw [upS_k (by omega), h2, if_pos ⟨rfl, rfl, by omega, by omega⟩, Nat.add_sub_cancel_left]
theorem m_remembers {m : SD} {c : Nat} (hc : c ≤ 16) (h5 : m 8 0 5 = nI c) : ∃ m', f_X8_remembers m = some m' ∧ m' 8 0 5 = nI (if c = 16 then 16 else c + 1) ∧ (∀ k j t, k ≠ 33 → ¬ (k = 8 ∧ j = 0 ∧ t = 5) → m' k j t = m k j t) ∧ (c < 16 → (∀ k i, k < c → i < 605 → prow m' k i = prow m k i) ∧ ∀ i, i < 605 → prow m' c i = m 30 0 i) ∧ (c = 16 → (∀ k i, k < 15 → i < 605 → prow m' k i = prow m (k + 1) i) ∧ ∀ i, i < 605 → prow m' 15 i = m 30 0 i) := by
  unfold f_X8_remembers
  by_cases z : c = 16
  · subst z
    rw [h5, if_pos (by decide)]
    obtain ⟨h1, h2⟩ := loop0 (L := fun n v s => f_X8_remembers_L11 n v s) (N := 9075) (fun d s => upS s 33 0 d (s 33 0 (d + 605))) (fun d s => ∀ k j t, s k j t = if k = 33 ∧ j = 0 ∧ t < d then m 33 0 (t + 605) else m k j t) (fun s => f_X8_remembers_L52b fuel 0 (upS s 8 0 5 (s 8 0 5 - 1))) (by decide) (fun n s _ => by
        show f_X8_remembers_L11 (n + 1) (nI 9075) s = _
        rw [f_X8_remembers_L11, if_pos (by decide)]
        rfl) (fun n d s hd hs => by
        refine ⟨?_, fun k j t => ?_⟩
        · show f_X8_remembers_L11 (n + 1) (nI d) s = f_X8_remembers_L11 n (nI (d + 1)) _
          rw [f_X8_remembers_L11]
          simp (disch := omega) only [xl, xg, vinT, nI_clamp, ra, nI_add, lle, if_neg]
        · show upS s 33 0 d (s 33 0 (d + 605)) k j t = _
          unfold upS
          by_cases z : k = 33 ∧ j = 0 ∧ t = d
          · obtain ⟨rfl, rfl, rfl⟩ := z
            rw [if_pos ⟨rfl, rfl, rfl⟩, if_pos ⟨rfl, rfl, by omega⟩, hs, if_neg (by omega)]
          · rw [if_neg z, hs]
            by_cases y : k = 33 ∧ j = 0 ∧ t < d
            · rw [if_pos y, if_pos ⟨y.1, y.2.1, by omega⟩]
            · rw [if_neg y, if_neg (by omega)]) m (fun k j t => by rw [if_neg (by omega)])
    obtain ⟨sF, hsF⟩ : ∃ sF, sF = itr (fun d s => upS s 33 0 d (s 33 0 (d + 605))) 9075 0 m := ⟨_, rfl⟩
    rw [← hsF] at h1 h2
    have h8 : upS sF 8 0 5 (sF 8 0 5 - 1) 8 0 5 = nI 15 := by rw [upS_hit, h2, if_neg (by omega), h5]; rfl
    obtain ⟨m', -, e2, e3, e4, e5, e6⟩ := m_rem52 (e := 15) (by omega) h8
    refine ⟨m', h1.trans e2, by rw [e3, if_pos rfl], fun k j t hk hn => ?_, fun h => by omega, fun _ => ⟨fun k i hk hi => ?_, fun i hi => ?_⟩⟩
    · rw [e4 k j t hk hn]
      simp only [upS]
      rw [if_neg hn, h2, if_neg (by omega)]
    · unfold prow
      rw [e5 _ (by omega), upS_k (by omega), h2, if_pos ⟨rfl, rfl, by omega⟩]
      congr 1
      omega
    · unfold prow
      rw [e6 i hi, upS_k (by omega), h2, if_neg (by omega)]
  · have hlt : c < 16 := by omega
    have hne : ¬ (nI c = 16) := by
      rw [req (k := 16) (by decide) (by omega)]
      exact z
    rw [h5, if_neg hne]
    obtain ⟨m', e1, -, e3, e4, e5, e6⟩ := m_rem52 hlt h5
    refine ⟨m', e1, by rw [e3, if_neg z], e4, fun _ => ⟨fun k i hk hi => ?_, fun i hi => ?_⟩, fun h => absurd h z⟩
    · unfold prow
      exact e5 _ (by omega)
    · unfold prow
      exact e6 i hi
