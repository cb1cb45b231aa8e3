/-! Layer 2: the empty jukebox -/
def dfR : RW := fun t => if t = 0 then 12 else if t = 1 then 1 else if t = 2 then 2 else if t = 3 then 5 else if t = 4 then 1 else if t = 5 then 3 else if 21 ≤ t ∧ t < 25 then -1 else 0
theorem m_def21 (k0 : Nat) (s0 : SD) : ∃ m', f_X8_defaults_L21 k0 fuel 0 s0 = some m' ∧ (∀ k j t, ¬ (k = k0 ∧ j = 0 ∧ t < 605) → m' k j t = s0 k j t) ∧ ∀ t, t < 605 → m' k0 0 t = if t < 6 ∨ (21 ≤ t ∧ t < 25) then dfR t else s0 k0 0 t := by
  obtain ⟨h1, h2⟩ := loop0 (L := fun n v s => f_X8_defaults_L21 k0 n v s) (N := 4) (fun d s => upS s k0 0 (21 + d) (-1)) (fun d s => ∀ k j t, s k j t = if k = k0 ∧ j = 0 ∧ 21 ≤ t ∧ t < 21 + d then -1 else s0 k j t) (fun s => some (upS (upS (upS (upS (upS (upS s k0 0 0 12) k0 0 1 1) k0 0 2 2) k0 0 3 5) k0 0 4 1) k0 0 5 3)) (by decide) (fun n s _ => by
      show f_X8_defaults_L21 k0 (n + 1) (nI 4) s = _
      rw [f_X8_defaults_L21, if_pos (by decide)]
      rfl) (fun n d s hd hs => by
      refine ⟨?_, fun k j t => ?_⟩
      · show f_X8_defaults_L21 k0 (n + 1) (nI d) s = f_X8_defaults_L21 k0 n (nI (d + 1)) _
        rw [f_X8_defaults_L21]
        simp (disch := omega) only [xl, xg, vinT, nI_clamp, la, ra, lle, if_neg]
      · show upS s k0 0 (21 + d) (-1) k j t = _
        unfold upS
        by_cases z : k = k0 ∧ j = 0 ∧ t = 21 + d
        · rw [if_pos z, if_pos ⟨z.1, z.2.1, by omega, by omega⟩]
        · rw [if_neg z, hs]
          by_cases y : k = k0 ∧ j = 0 ∧ 21 ≤ t ∧ t < 21 + d
          · rw [if_pos y, if_pos ⟨y.1, y.2.1, y.2.2.1, by omega⟩]
          · rw [if_neg y, if_neg (by omega)]) s0 (fun k j t => by rw [if_neg (by omega)])
  obtain ⟨sF, hsF⟩ : ∃ sF, sF = itr (fun d s => upS s k0 0 (21 + d) (-1)) 4 0 s0 := ⟨_, rfl⟩
  rw [← hsF] at h1 h2
  refine ⟨_, h1, fun k j t h => ?_, fun t ht => ?_⟩
  · simp only [upS]
    rw [if_neg (by omega), if_neg (by omega), if_neg (by omega), if_neg (by omega), if_neg (by omega), if_neg (by omega), h2, if_neg (by omega)]
  · simp only [upS, true_and]
    unfold dfR
    by_cases c5 : t = 5
    · subst c5; simp
    by_cases c4 : t = 4
    · subst c4; simp
    by_cases c3 : t = 3
    · subst c3; simp
    by_cases c2 : t = 2
    · subst c2; simp
    by_cases c1 : t = 1
    · subst c1; simp
    by_cases c0 : t = 0
    · subst c0; simp
    rw [if_neg c5, if_neg c4, if_neg c3, if_neg c2, if_neg c1, if_neg c0, if_neg c0, if_neg c1, if_neg c2, if_neg c3, if_neg c4, if_neg c5, h2]
    by_cases y : 21 ≤ t ∧ t < 25
    · rw [if_pos ⟨rfl, rfl, y.1, by omega⟩, if_pos (Or.inr y), if_pos y]
    · rw [if_neg (by omega), if_neg (by omega)]
theorem m_defaults (k0 : Nat) (md : SD) : ∃ m', f_X8_defaults md k0 = some m' ∧ (∀ k j t, ¬ (k = k0 ∧ j = 0 ∧ t < 605) → m' k j t = md k j t) ∧ ∀ t, t < 605 → m' k0 0 t = dfR t := by
  unfold f_X8_defaults
  obtain ⟨h1, h2⟩ := loop0 (L := fun n v s => f_X8_defaults_L2 k0 n v s) (N := 605) (fun d s => upS s k0 0 d 0) (fun d s => ∀ k j t, s k j t = if k = k0 ∧ j = 0 ∧ t < d then 0 else md k j t) (fun s => f_X8_defaults_L21 k0 fuel 0 s) (by decide) (fun n s _ => by
      show f_X8_defaults_L2 k0 (n + 1) (nI 605) s = _
      rw [f_X8_defaults_L2, if_pos (by decide)]) (fun n d s hd hs => by
      refine ⟨?_, fun k j t => ?_⟩
      · show f_X8_defaults_L2 k0 (n + 1) (nI d) s = f_X8_defaults_L2 k0 n (nI (d + 1)) _
        rw [f_X8_defaults_L2]
        simp (disch := omega) only [xl, xg, vinT, nI_clamp, la, ra, lle, if_neg]
      · show upS s k0 0 d 0 k j t = _
        unfold upS
        by_cases z : k = k0 ∧ j = 0 ∧ t = d
        · rw [if_pos z, if_pos ⟨z.1, z.2.1, by omega⟩]
        · rw [if_neg z, hs]
          by_cases y : k = k0 ∧ j = 0 ∧ t < d
          · rw [if_pos y, if_pos ⟨y.1, y.2.1, by omega⟩]
          · rw [if_neg y, if_neg (by omega)]) md (fun k j t => by rw [if_neg (by omega)])
  obtain ⟨sF, hsF⟩ : ∃ sF, sF = itr (fun d s => upS s k0 0 d 0) 605 0 md := ⟨_, rfl⟩
  rw [← hsF] at h1 h2
  obtain ⟨m', e1, e2, e3⟩ := m_def21 k0 sF
  refine ⟨m', h1.trans e1, fun k j t h => ?_, fun t ht => ?_⟩
  · rw [e2 k j t h, h2, if_neg h]
  · have h3 : sF k0 0 t = 0 := by rw [h2, if_pos ⟨rfl, rfl, ht⟩]
    rw [e3 t ht, h3]
    by_cases y : t < 6 ∨ (21 ≤ t ∧ t < 25)
    · rw [if_pos y]
    · rw [if_neg y]
      unfold dfR
      rw [if_neg (by omega), if_neg (by omega), if_neg (by omega), if_neg (by omega), if_neg (by omega), if_neg (by omega), if_neg (by omega)]
theorem dfR_n (i n : Nat) (h : dfR i = nI n) (hn : n < 2 ^ 31) : nv dfR i = n := nv_of h hn
theorem dfR_inv : Inv dfR := by
  have n0 : nv dfR 0 = 12 := dfR_n 0 12 rfl (by decide)
  have n6 : nv dfR 6 = 0 := dfR_n 6 0 rfl (by decide)
  have n7 : nv dfR 7 = 0 := dfR_n 7 0 rfl (by decide)
  have n8 : nv dfR 8 = 0 := dfR_n 8 0 rfl (by decide)
  have n9 : nv dfR 9 = 0 := dfR_n 9 0 rfl (by decide)
  have n10 : nv dfR 10 = 0 := dfR_n 10 0 rfl (by decide)
  have n16 : nv dfR 16 = 0 := dfR_n 16 0 rfl (by decide)
  have n11 : nv dfR 11 = 0 := dfR_n 11 0 rfl (by decide)
  show InvF (nv dfR 9) dfR
  refine ⟨⟨isN_nI (n := 12) rfl (by decide) (by decide), by omega, isN_nI (n := 0) rfl (by decide) (by decide), isN_nI (n := 0) rfl (by decide) (by decide), isN_nI (n := 0) rfl (by decide) (by decide), isN_nI (n := 0) rfl (by decide) (by decide), isN_nI (n := 0) rfl (by decide) (by decide), isN_nI (n := 0) rfl (by decide) (by decide)⟩, ⟨isN_nI (n := 1) rfl (by decide) (by decide), isN_nI (n := 2) rfl (by decide) (by decide), isN_nI (n := 5) rfl (by decide) (by decide), isN_nI (n := 1) rfl (by decide) (by decide), isN_nI (n := 3) rfl (by decide) (by decide)⟩, ⟨isN_nI (n := 0) rfl (by decide) (by decide), by omega⟩, fun d h => by omega, fun d e h => by omega, fun p h => by omega, fun p q h => by omega, fun k h => by omega, fun k l h => by omega, fun f h => by omega, fun v h => by omega, fun q h => by omega, by omega⟩
theorem dfR_rel (s : SD) : ∃ s', f_X4_beginEmpty s = some s' ∧ Rel 0 s' dfR := by
  have n6 : nv dfR 6 = 0 := dfR_n 6 0 rfl (by decide)
  have n7 : nv dfR 7 = 0 := dfR_n 7 0 rfl (by decide)
  have n9 : nv dfR 9 = 0 := dfR_n 9 0 rfl (by decide)
  have n10 : nv dfR 10 = 0 := dfR_n 10 0 rfl (by decide)
  have n16 : nv dfR 16 = 0 := dfR_n 16 0 rfl (by decide)
  refine ⟨_, rfl, ⟨rfl, rfl, rfl, rfl, rfl, rfl, rfl, rfl, rfl, rfl, rfl⟩, ⟨rfl, rfl, rfl, rfl, rfl⟩, fun d h => by omega, ⟨⟨rfl, Nat.le_refl _⟩, isN_nI (n := 0) rfl (by decide) (by decide), fun d h => by omega, fun d e h => by omega⟩, fun p h => by omega, fun p t h => by omega, fun p t h => by omega, fun f h => by omega, fun v h => by omega, fun q h => by omega⟩
/-- the relation holds at the start -/
theorem JJ_start {cs : CT} {md m : SD} (hm : f_X8_defaults md 30 = some m) (hx : f_X4_beginEmpty (fun _ _ _ => 0) = some (k_xs cs (k_st cs))) (hz : ∀ t, k_hz cs t = none) (h1 : k_hd cs 1 0 1 = 0) (h2 : k_hd cs 1 0 2 = 0) (h5 : md 8 0 5 = 0) (hr : k_rd cs 5 0 1 = 0) (h15 : md 8 0 15 = 0) (hj1 : k_jd cs 7 0 1 = 0) (h16 : md 8 0 16 = 0) (h17 : md 8 0 17 = -1000005) (hj8 : k_jd cs 7 0 8 = 0) (h12 : md 8 0 12 = 0) (hp : k_pl cs = none) (d1 : k_st cs ≠ k_sp cs) (d2 : k_st cs < k_sz cs) (d3 : k_sp cs < k_sz cs) : JJ 0 cs m := by
  obtain ⟨m', e1, e2, e3⟩ := m_defaults 30 md
  have hmm : m' = m := Option.some.inj (e1.symm.trans hm)
  subst hmm
  obtain ⟨s', g1, g2⟩ := dfR_rel (fun _ _ _ => 0)
  have hss : s' = k_xs cs (k_st cs) := Option.some.inj (g1.symm.trans hx)
  subst hss
  have e8 : ∀ t, m' 8 0 t = md 8 0 t := fun t => e2 8 0 t (by omega)
  refine ⟨Inv.congr dfR_inv e3, Rel.congr dfR_inv g2 e3, ⟨0, 0, by omega, by omega, h1, h2, (e8 5).trans h5, fun k hk => by omega⟩, ⟨d1, fun t q h => ?_, fun t u q h => ?_, d2, d3, fun t q h => ?_⟩, ⟨⟨0, by omega, hr, (e8 15).trans h15, fun t ht => by omega⟩, ?_, ?_⟩, ⟨0, by omega, hj8, (e8 12).trans h12, fun t ht => by omega⟩, Or.inl hp⟩
  · rw [hz] at h; cases h
  · rw [hz] at h; cases h
  · rw [hz] at h; cases h
  · rw [hj1, e8 16, h16]
  · rw [hj1, if_pos rfl, e8 17, h17]
