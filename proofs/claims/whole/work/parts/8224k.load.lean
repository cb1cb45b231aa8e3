/-! Layer 2: load -/
section LDJ
variable {b : Nat} {cs : CT} {m : SD}
theorem dfR_fr : FRs dfR ∧ nv dfR 6 = 0 ∧ nv dfR 7 = 0 ∧ nv dfR 9 = 0 := by
  have h6 : nv dfR 6 = 0 := dfR_n 6 0 rfl (by omega)
  have h7 : nv dfR 7 = 0 := dfR_n 7 0 rfl (by omega)
  have h9 : nv dfR 9 = 0 := dfR_n 9 0 rfl (by omega)
  have h10 : nv dfR 10 = 0 := dfR_n 10 0 rfl (by omega)
  refine ⟨⟨fun d _ hd => ?_, fun p _ hp => ?_, rfl, by rw [h9, h10]⟩, h6, h7, h9⟩
  · unfold dfR
    constructor
    · rw [if_neg (by omega), if_neg (by omega), if_neg (by omega), if_neg (by omega), if_neg (by omega), if_neg (by omega), if_pos (by omega)]
    · rw [if_neg (by omega), if_neg (by omega), if_neg (by omega), if_neg (by omega), if_neg (by omega), if_neg (by omega), if_neg (by omega)]
  · unfold dfR
    refine ⟨?_, ?_, ?_⟩
    all_goals rw [if_neg (by omega), if_neg (by omega), if_neg (by omega), if_neg (by omega), if_neg (by omega), if_neg (by omega), if_neg (by omega)]
theorem FRs.congr {r r' : RW} (h : FRs r) (hI : Inv r) (a0 : ∀ i, i < 605 → r' i = r i) : FRs r' := by
  have b0 : ∀ i, i < 605 → nv r' i = nv r i := fun i hi => nv_eq (a0 i hi)
  refine ⟨fun d h1 h2 => ?_, fun p h1 h2 => ?_, ?_, ?_⟩
  · rw [b0 6 (by omega)] at h1
    rw [a0 _ (by omega), a0 _ (by omega)]
    exact h.1 d h1 h2
  · rw [b0 7 (by omega)] at h1
    rw [a0 _ (by omega), a0 _ (by omega), a0 _ (by omega)]
    exact h.2.1 p h1 h2
  · rw [a0 _ (by omega)]; exact h.2.2.1
  · rw [b0 _ (by omega), b0 _ (by omega)]; exact h.2.2.2
theorem st_load (hJ : JJ b cs m) (a : Int32) (mn : Nat → Int64) (mw : Int64) : ∃ v cs' m' mn' mw', f_X7_load cs a = some (v, cs') ∧ f_X8_load m mn mw a = some (v, m', mn', mw') ∧ JJ b cs' m' := by
  obtain ⟨m1, e1, r1, s1⟩ := thr m
  have hJ1 := hJ.same s1
  obtain ⟨hI, hR, ⟨f0, c, hH⟩, hD, ⟨⟨n0, t1, t2, t3, t4⟩, t5, t6⟩, hO, hP⟩ := hJ.same s1
  unfold f_X7_load f_X8_load
  rw [xl, e1, t3, t2, show (0 : Int64) = (0 : Int32).toInt64 from rfl, isIn32, xb]
  by_cases z : a < 0
  · rw [if_pos z, if_pos z, if_pos rfl]
    exact ⟨_, _, _, _, _, rfl, rfl, hJ1⟩
  · rw [if_neg z, if_neg z]
    by_cases y : a ≤ nI n0
    · rw [if_pos y, if_neg (i32_lt_le.mpr y), if_neg i1]
      obtain ⟨E, -, hE, rfl⟩ := in_nat (a := 0) (b := n0) (by omega) (i32_lt_le.mp z) y (by omega)
      simp only [xl]
      -- the class's start
      obtain ⟨s0, g1, g2⟩ := dfR_rel (k_xs cs (k_sp cs))
      have h2 : (if (k_rd cs 5 0 1) < nI E then (k_rd cs 5 0 1) else nI E) = nI E := by
        rw [t2, if_neg (by rw [nI_ltI (by omega) (by omega)]; omega)]
      obtain ⟨rd4, hrd4⟩ : ∃ rd4, rd4 = upS (upS (upS (upS (k_rd cs) 5 0 2 (nI E)) 5 0 4 0) 5 0 7 0) 5 0 8 0 := ⟨_, rfl⟩
      have hread : f_X5_readText (k_xs cs (k_sp cs)) (k_rd cs) (k_rn cs) (nI E) = f_X5_readText_L33 fuel 0 s0 rd4 (k_rn cs) := by
        unfold f_X5_readText
        simp only [xl]
        rw [h2, g1, xb, hrd4]
      -- the reference's start
      obtain ⟨m6, hm6⟩ : ∃ m6, m6 = upS (upS (upS (upS m1 8 0 24 (nI E)) 8 0 21 0) 8 0 18 0) 8 0 25 0 := ⟨_, rfl⟩
      obtain ⟨m7, d1, d2, d3⟩ := m_defaults 31 m6
      have c24 : m7 8 0 24 = nI E := by rw [d2 _ _ _ (by omega), hm6]; simp (disch := omega) only [upS_t, upS_hit]
      have c21 : m7 8 0 21 = nI 0 := by rw [d2 _ _ _ (by omega), hm6]; simp (disch := omega) only [upS_t, upS_hit]; rfl
      have c18 : m7 8 0 18 = 0 := by rw [d2 _ _ _ (by omega), hm6]; simp (disch := omega) only [upS_t, upS_hit]
      have c25 : m7 8 0 25 = 0 := by rw [d2 _ _ _ (by omega), hm6, upS_hit]
      have cT : ∀ t, t < E → m7 38 0 t = k_rd cs 20 0 t := fun t ht => by
        rw [d2 _ _ _ (by omega), hm6, upS_k (by omega), upS_k (by omega), upS_k (by omega), upS_k (by omega)]
        exact (t4 t (by omega)).symm
      have cF : MF m1 m7 := fun k j t k1 k2 => by
        rw [d2 k j t (by omega), hm6]
        unfold upS
        rw [if_neg (by omega), if_neg (by omega), if_neg (by omega), if_neg (by omega)]
      obtain ⟨m8, mw8, f1, f2, f3⟩ := m_next (T := k_rd cs 20 0) (E := E) (by omega) (x := 0) (by omega) mw c24 c21 cT
      have hrow8 : ∀ t, t < 605 → m8 31 0 t = dfR t := fun t ht => by rw [f2 _ _ _ (by omega)]; exact d3 t ht
      obtain ⟨q1, q2, q3, q4⟩ := dfR_fr
      have n9 : nv (m8 31 0) 9 = 0 := by rw [← q4]; exact nv_eq (hrow8 9 (by omega))
      have hGS : GS (k_rd cs 20 0) E 0 rd4 m8 mw8 := by
        refine ⟨⟨by omega, ?_, fun t ht => (f2 _ _ _ (by omega)).trans (cT t ht), ⟨?_, ?_⟩, (f2 _ _ _ (by omega)).trans c24, (f2 _ _ _ (by omega)).trans c18⟩, by omega, ?_, f3⟩
        · rw [hrd4]; funext t; rw [upS_k (by omega), upS_k (by omega), upS_k (by omega), upS_k (by omega)]
        · rw [hrd4]; simp (disch := omega) only [upS_t, upS_hit]
        · rw [hrd4]; simp (disch := omega) only [upS_t, upS_hit]
        · rw [hrd4]; simp (disch := omega) only [upS_t, upS_hit]; rfl
      have hLS : LSt 0 s0 m8 := ⟨Inv.congr dfR_inv hrow8, Rel.congr dfR_inv g2 hrow8, FRs.congr q1 dfR_inv hrow8, fun _ => ⟨(nv_eq (hrow8 6 (by omega))).trans q2, (nv_eq (hrow8 7 (by omega))).trans q3⟩⟩
      have hNM : NM (nv (m8 31 0) 9) (k_rn cs) mn := fun f hf => by omega
      have key := text_loop (T := k_rd cs 20 0) (E := E) (rd0 := rd4) (md0 := m8) 900 0 0 fuel fuel s0 rd4 m8 (k_rn cs) mn mw8 (by omega) (by unfold fuel; omega) (by unfold fuel; omega) (by omega) hGS hLS hNM ((f2 _ _ _ (by omega)).trans c25) (RF.rf _) (MF.rf _)
      rw [nI_0] at key
      have hMF8 : MF m1 m8 := cF.tr f2.f
      have rf4 : ∀ k j t, k ≠ 5 → rd4 k j t = k_rd cs k j t := fun k j t hk => by
        rw [hrd4, upS_k hk, upS_k hk, upS_k hk, upS_k hk]
      rw [← hm6, d1, xb, f1, xb]
      simp only
      unfold f_X7_load_c
      rw [hread]
      obtain ⟨dd1, dd2, dd3, dd4, dd5, dd6⟩ := hD
      obtain ⟨hh1, hh2, hh3, hh4, hh5, hh6⟩ := hH
      obtain ⟨no, o1, o2, o3, o4⟩ := hO
      rcases key with ⟨sd', rd', rn', md', mn', mw', k1, k2, k3, k4, k5, k6, k7, k8⟩ | ⟨sd', rd', rn', md', mn', mw', k1, k2, k3, k4, k5⟩
      · have hMF := hMF8.tr k8
        rw [k1, xb, k2]
        simp only [xl]
        rw [if_neg i1]
        -- the reference's end
        unfold ldK
        simp only [xl]
        have v18 : (upS (upS md' 8 0 15 0) 8 0 16 ((upS md' 8 0 15 0) 8 0 18)) 8 0 18 = 0 := by
          simp (disch := omega) only [upS_t]; exact k4
        rw [v18, if_pos (show (0 : Int32) ≤ 0 by decide)]
        have v18' : (upS (upS (upS md' 8 0 15 0) 8 0 16 ((upS md' 8 0 15 0) 8 0 18)) 8 0 17 (-1000005)) 8 0 18 = 0 := by
          rw [upS_t (by omega)]; exact v18
        rw [v18', if_pos (show (0 : Int32) ≤ 0 by decide), m_copies _ (by decide), xb]
        obtain ⟨mE, hmE⟩ : ∃ mE, mE = upS (cpM (upS (upS (upS md' 8 0 15 0) 8 0 16 ((upS md' 8 0 15 0) 8 0 18)) 8 0 17 (-1000005)) 31 30) 8 0 5 0 := ⟨_, rfl⟩
        have er : ∀ t, t < 605 → mE 30 0 t = md' 31 0 t := fun t ht => by
          rw [hmE, upS_k (by omega)]
          unfold cpM
          rw [if_pos ⟨rfl, rfl, ht⟩, upS_k (by omega), upS_k (by omega), upS_k (by omega)]
        have eo : ∀ k j t, ¬ (k = 30 ∧ j = 0 ∧ t < 605) → ¬ (k = 8 ∧ j = 0 ∧ (t = 5 ∨ t = 15 ∨ t = 16 ∨ t = 17)) → mE k j t = md' k j t := fun k j t h1 h2 => by
          rw [hmE]
          have q5 : ∀ s : SD, upS s 8 0 5 0 k j t = s k j t := fun s => by unfold upS; rw [if_neg (by omega)]
          have q6 : ∀ (s : SD) (u : Nat) (v : Int32), (u = 15 ∨ u = 16 ∨ u = 17) → upS s 8 0 u v k j t = s k j t := fun s u v hu => by unfold upS; rw [if_neg (by omega)]
          have q7 : ∀ s : SD, cpM s 31 30 k j t = s k j t := fun s => by unfold cpM; rw [if_neg h1]
          rw [q5, q7, q6 _ _ _ (by omega), q6 _ _ _ (by omega), q6 _ _ _ (by omega)]
        have e5 : mE 8 0 5 = 0 := by rw [hmE, upS_hit]
        have ec : ∀ t, mE 8 0 t = if t = 5 then 0 else (upS (upS (upS md' 8 0 15 0) 8 0 16 ((upS md' 8 0 15 0) 8 0 18)) 8 0 17 (-1000005)) 8 0 t := fun t => by
          rw [hmE]
          by_cases w : t = 5
          · subst w; rw [upS_hit, if_pos rfl]
          · rw [upS_t w, if_neg w]
            unfold cpM
            rw [if_neg (by omega)]
        have e15 : mE 8 0 15 = nI 0 := by rw [ec, if_neg (by omega)]; simp (disch := omega) only [upS_t, upS_hit]; rfl
        have e16 : mE 8 0 16 = 0 := by rw [ec, if_neg (by omega)]; simp (disch := omega) only [upS_t, upS_hit]; exact k4
        have e17 : mE 8 0 17 = -1000005 := by rw [ec, if_neg (by omega), upS_hit]
        rw [← hmE]
        -- the class's end
        unfold f_X7_load_ok f_X1_forgetAll
        simp only [xl, xb]
        generalize hc3 : (kH (kZ (kZ (kJ (kJ (kR (kS (kR cs rd' rn') (k_sp cs) sd') (upS rd' 5 0 1 0) rn') (upS (k_jd cs) 7 0 1 ((upS rd' 5 0 1 0) 5 0 7))) (upS (upS (k_jd cs) 7 0 1 ((upS rd' 5 0 1 0) 5 0 7)) 7 0 2 ((upS rd' 5 0 1 0) 5 0 8))) (k_sp cs, k_sp cs, k_pl cs)) (k_sp cs, k_st cs, k_pl cs)) (upS (k_hd cs) 1 0 2 0) (k_hz cs) : CT) = c3
        have x1 : k_xs c3 = va_up (k_xs cs) (k_sp cs) sd' := by rw [← hc3]
        have x2 : k_rd c3 = upS rd' 5 0 1 0 := by rw [← hc3]
        have x3 : k_st c3 = k_sp cs := by rw [← hc3]
        have x4 : k_sp c3 = k_st cs := by rw [← hc3]
        have x5 : k_pl c3 = k_pl cs := by rw [← hc3]
        have x6 : k_hd c3 = upS (k_hd cs) 1 0 2 0 := by rw [← hc3]
        have x7 : k_hz c3 = k_hz cs := by rw [← hc3]
        have x8 : k_jd c3 = upS (upS (k_jd cs) 7 0 1 ((upS rd' 5 0 1 0) 5 0 7)) 7 0 2 ((upS rd' 5 0 1 0) 5 0 8) := by rw [← hc3]
        have x9 : k_sz c3 = k_sz cs := by rw [← hc3]
        obtain ⟨c4, w1, w2, w3, w4, w5, w6, w7, w8, w9, w10, w11, w12⟩ := forget_both c3
        have xs : k_xs c4 (k_st c4) = sd' := by
          rw [w3, w4, x1, x3]
          exact va_hit _ _ _
        rw [w1, xb]
        refine ⟨_, c4, mE, mn', mw', rfl, ?_, ?_⟩
        · rw [xs, k6.s11, er 9 (by omega)]
        · refine ⟨Inv.congr k5 er, ?_, ⟨f0, 0, hh1, by omega, ?_, ?_, e5, fun k hk => by omega⟩, ⟨?_, fun t q hq => ?_, fun t u q hq hu => ?_, ?_, ?_, fun t q hq => ?_⟩, ⟨⟨0, by omega, ?_, e15, fun t ht => by omega⟩, ?_, ?_⟩, ⟨no, o1, ?_, ?_, fun t ht => ?_⟩, ?_⟩
          · rw [xs]
            exact (Rel.congr k5 k6 er).more (by omega)
          · rw [w6, x6, upS_t (by omega)]; exact hh3
          · rw [w6, x6, upS_hit]; rfl
          · rw [w4, w5, x3, x4]; exact fun u => dd1 u.symm
          · rw [w7, x7] at hq
            rw [w4, w5, x3, x4]
            exact ⟨(dd2 t q hq).2, (dd2 t q hq).1⟩
          · rw [w7, x7] at hq hu
            exact dd3 t u q hq hu
          · rw [w4, w11, x3, x9]; exact dd5
          · rw [w5, w11, x4, x9]; exact dd4
          · rw [w7, x7] at hq
            rw [w11, x9]
            exact dd6 t q hq
          · rw [w8, x2, upS_hit]; rfl
          · rw [w10, x8, upS_t (by omega), upS_hit, upS_t (by omega), k3, e16]
          · rw [w10, x8, upS_t (by omega), upS_hit, upS_t (by omega), k3, if_pos rfl, e17]
          · rw [w10, x8, upS_t (by omega), upS_t (by omega)]; exact o2
          · rw [eo _ _ _ (by omega) (by omega), hMF _ _ _ (by omega) (by omega)]; exact o3
          · rw [w10, x8, upS_k (by omega), upS_k (by omega), eo _ _ _ (by omega) (by omega), hMF _ _ _ (by omega) (by omega)]; exact o4 t ht
          · show k_pl c4 = none ∨ k_pd c4 2 0 5 = -1 ∨ _
            obtain ⟨p1, p2⟩ := w2
            by_cases u : k_pl c3 = none
            · exact Or.inl (p1.trans u)
            · refine Or.inr (Or.inl ?_)
              rw [p2 u, upS_hit]
      · have hMF := hMF8.tr k5
        obtain ⟨k, kk1, kk2, kk3, kk4, kk5⟩ := k3
        rw [k1, xb, k2]
        simp only [xl]
        rw [if_pos trivial]
        have knz : ¬ nI k ≤ (0 : Int32) := fun u => by
          have := (nI_leI (b := 0) (by omega) (by omega)).mp u
          omega
        have kn0 : ¬ nI k = (0 : Int32) := fun u => by
          have := (nI_eq (b := 0) (by omega) (by omega)).mp u
          omega
        unfold ldK
        simp only [xl]
        have v18 : (upS (upS md' 8 0 15 0) 8 0 16 ((upS md' 8 0 15 0) 8 0 18)) 8 0 18 = nI k := by
          simp (disch := omega) only [upS_t]; exact kk4
        have v19 : (upS (upS md' 8 0 15 0) 8 0 16 ((upS md' 8 0 15 0) 8 0 18)) 8 0 19 = md' 8 0 19 := by
          simp (disch := omega) only [upS_t]
        rw [v18, v19, if_neg knz]
        have v18' : (upS (upS (upS md' 8 0 15 0) 8 0 16 ((upS md' 8 0 15 0) 8 0 18)) 8 0 17 (md' 8 0 19)) 8 0 18 = nI k := by
          rw [upS_t (by omega)]; exact v18
        rw [v18', if_neg knz]
        have eo : ∀ k j t, ¬ (k = 8 ∧ j = 0 ∧ (t = 15 ∨ t = 16 ∨ t = 17)) → (upS (upS (upS md' 8 0 15 0) 8 0 16 ((upS md' 8 0 15 0) 8 0 18)) 8 0 17 (md' 8 0 19)) k j t = md' k j t := fun k j t h => by
          unfold upS
          rw [if_neg (by omega), if_neg (by omega), if_neg (by omega)]
        have e15 : (upS (upS (upS md' 8 0 15 0) 8 0 16 ((upS md' 8 0 15 0) 8 0 18)) 8 0 17 (md' 8 0 19)) 8 0 15 = nI 0 := by simp (disch := omega) only [upS_t, upS_hit]; rfl
        have e16 : (upS (upS (upS md' 8 0 15 0) 8 0 16 ((upS md' 8 0 15 0) 8 0 18)) 8 0 17 (md' 8 0 19)) 8 0 16 = nI k := by simp (disch := omega) only [upS_t, upS_hit]; exact kk4
        have e17 : (upS (upS (upS md' 8 0 15 0) 8 0 16 ((upS md' 8 0 15 0) 8 0 18)) 8 0 17 (md' 8 0 19)) 8 0 17 = rd' 5 0 8 := by rw [upS_hit, kk5]
        generalize upS (upS (upS md' 8 0 15 0) 8 0 16 ((upS md' 8 0 15 0) 8 0 18)) 8 0 17 (md' 8 0 19) = mE at *
        have er : mE 30 0 = m1 30 0 := by
          funext t
          rw [eo _ _ _ (by omega), hMF _ _ _ (by omega) (by omega)]
        have em : ∀ k j t, k ≠ 31 → ¬ (k = 8 ∧ j = 0 ∧ 15 ≤ t ∧ t ≤ 25) → mE k j t = m1 k j t := fun k j t h1 h2 => by
          rw [eo _ _ _ (by omega), hMF _ _ _ h1 (by omega)]
        refine ⟨_, _, mE, mn', mw', rfl, rfl, ?_⟩
        refine ⟨by rw [er]; exact hI, ?_, ⟨f0, c, hh1, hh2, hh3, hh4, ?_, fun u hu => ?_⟩, ⟨dd1, dd2, dd3, dd4, dd5, dd6⟩, ⟨⟨0, by omega, ?_, e15, fun t ht => by omega⟩, ?_, ?_⟩, ⟨no, o1, ?_, ?_, fun t ht => ?_⟩, ?_⟩
        · rw [er]
          show Rel b (va_up (k_xs cs) (k_sp cs) sd' (k_st cs)) _
          rw [va_off _ _ dd1]
          exact hR
        · rw [em _ _ _ (by omega) (by omega)]; exact hh5
        · obtain ⟨q, p1, p2, p3⟩ := hh6 u hu
          have ep : prow mE u = prow m1 u := by
            funext i
            exact em _ _ _ (by omega) (by omega)
          refine ⟨q, p1, by rw [ep]; exact p2, ?_⟩
          rw [ep]
          show Rel b (va_up (k_xs cs) (k_sp cs) sd' q) _
          rw [va_off _ _ (dd2 _ _ p1).2]
          exact p3
        · show (upS rd' 5 0 1 0) 5 0 1 = nI 0
          exact upS_hit _ _ _ _ _
        · show (upS (upS (k_jd cs) 7 0 1 ((upS rd' 5 0 1 0) 5 0 7)) 7 0 2 ((upS rd' 5 0 1 0) 5 0 8)) 7 0 1 = _
          rw [upS_t (by omega), upS_hit, upS_t (by omega), kk3, e16]
        · show _ = if (upS (upS (k_jd cs) 7 0 1 ((upS rd' 5 0 1 0) 5 0 7)) 7 0 2 ((upS rd' 5 0 1 0) 5 0 8)) 7 0 1 = 0 then _ else (upS (upS (k_jd cs) 7 0 1 ((upS rd' 5 0 1 0) 5 0 7)) 7 0 2 ((upS rd' 5 0 1 0) 5 0 8)) 7 0 2
          rw [upS_t (show (1 : Nat) ≠ 2 by omega), upS_hit, upS_t (show (7 : Nat) ≠ 1 by omega), kk3, if_neg kn0, upS_hit, upS_t (by omega), e17]
        · show (upS (upS (k_jd cs) 7 0 1 ((upS rd' 5 0 1 0) 5 0 7)) 7 0 2 ((upS rd' 5 0 1 0) 5 0 8)) 7 0 8 = _
          rw [upS_t (by omega), upS_t (by omega)]; exact o2
        · rw [em _ _ _ (by omega) (by omega)]; exact o3
        · show (upS (upS (k_jd cs) 7 0 1 ((upS rd' 5 0 1 0) 5 0 7)) 7 0 2 ((upS rd' 5 0 1 0) 5 0 8)) 26 0 t = _
          rw [upS_k (by omega), upS_k (by omega), em _ _ _ (by omega) (by omega)]; exact o4 t ht
        · rw [er]; exact hP
    · rw [if_neg y, if_pos (i32_le_lt.mp y), if_pos rfl]
      exact ⟨_, _, _, _, _, rfl, rfl, hJ1⟩
end LDJ
