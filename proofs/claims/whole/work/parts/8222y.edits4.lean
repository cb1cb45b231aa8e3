/-! Layer 2: homes, times, requests, undo -/
section ED4
variable {F : Nat} {b b' : Nat} {cs : CT} {m md : SD} {sd sd' : SD} {r r' : RW}
theorem st_moveHome (hJ : JJ b cs m) (hb : b < 2 ^ 27) (a c : Int32) : ST (b + 64) (f_X7_moveHome cs a c) (f_X8_moveHome m a c) := by
  obtain ⟨m1, e1, r1, s1⟩ := thr m
  obtain ⟨cs1, m2, f1, c1, q1, q2, hrow, hI, hR0, hR, hx, q3, q4, q5, q6, q7⟩ := edit_go hJ s1
  have l7 := hI.l7
  have l0 := hI.l0
  unfold f_X7_moveHome f_X8_moveHome
  rw [c_hasPlatter hI hR0, xb]
  simp only [xl]
  rw [e1, m_isPlatter rfl hI, xb]
  rcases hasV_cases a (n := nv (m1 30 0) 7) (by omega) with h | ⟨h, p, hp, rfl⟩
  · rw [h, if_pos rfl, if_pos rfl]
    exact ⟨_, _, _, rfl, rfl, (hJ.same s1).more (by omega)⟩
  · rw [h, if_neg i1, if_neg i1, c_hasSlot hI hR0, xb, m_isSlot rfl hI, xb]
    rcases hasV_cases c (n := nv (m1 30 0) 0) (by omega) with g | ⟨g, sl, hsl, rfl⟩
    · rw [g, if_pos rfl, if_pos rfl]
      exact ⟨_, _, _, rfl, rfl, (hJ.same s1).more (by omega)⟩
    · rw [g, if_neg i1, if_neg i1]
      simp (disch := omega) only [xl, xg, vinT, la, nI_clamp, (hR0.pl p hp).1]
      by_cases y : (m1 30 0) (29 + p) = nI sl
      · rw [if_pos y, if_pos y]
        exact ⟨_, _, _, rfl, rfl, (hJ.same s1).more (by omega)⟩
      · rw [if_neg y, if_neg y, c_driveHolding hI hR0, xb, m_inDrive rfl hI, xb]
        by_cases z : holdQ (m1 30 0) (nI p) = -1
        · rw [if_pos z, if_pos z, c_platterWithHome hI hR0, xb, m_homeAt rfl hI, xb]
          by_cases w : homeQ (m1 30 0) (nI sl) = -1
          · rw [if_pos w, if_pos w, q1, xb, q2, xb]
            have hn : ∀ q, q < nv (m1 30 0) 7 → (m1 30 0) (29 + q) ≠ nI sl := by
              rcases fst_cases0 (P := fun p => decide ((m1 30 0) (29 + p) = nI sl)) (n := nv (m1 30 0) 7) with ⟨-, h2⟩ | ⟨e, h1, h2, h3, -⟩
              · exact fun q hq => of_decide_eq_false (h2 q hq)
              · have : nI e = -1 := h2.symm.trans w
                exact absurd this (by rw [nm1 (by omega)]; exact id)
            obtain ⟨hI3, hR3⟩ := home_step hI hR hp hsl hn
            have n9 : nv (rup (m1 30 0) (29 + p) (nI sl)) 9 = nv (m1 30 0) 9 := nv_eq (rup_ne (by omega))
            have hrow3 : (upS m2 30 0 (29 + p) (nI sl)) 30 0 = rup (m1 30 0) (29 + p) (nI sl) := by rw [row_up, hrow]
            refine ⟨_, _, _, rfl, ?_, hJ.edit s1 (by omega) q3 q4 q5 q6 q7 ((MX.rf m2).up (t := 29 + p) (v := nI sl) (by omega)) (by rw [hrow3]; exact inv_of hI3 n9) (by rw [hrow3]; exact (rel_of hR3 n9).more (by omega))⟩
            rw [hrow]
          · rw [if_neg w, if_neg w]
            exact ⟨_, _, _, rfl, rfl, (hJ.same s1).more (by omega)⟩
        · rw [if_neg z, if_neg z]
          exact ⟨_, _, _, rfl, rfl, (hJ.same s1).more (by omega)⟩
theorem c_isTime (x : Int32) : f_X7_isTime x = some (hasV x 100) := by
  unfold f_X7_isTime hasV
  have e : ((99 : Int32) < x) ↔ (nI 100 ≤ x) := nI_m1 (n := 100) (by decide) x
  simp only [e]
  split
  · rfl
  · split <;> rfl
theorem st_setTimes (hJ : JJ b cs m) (hb : b < 2 ^ 27) (x1 x2 x3 x4 x5 : Int32) : ST (b + 64) (f_X7_setTimes cs x1 x2 x3 x4 x5) (f_X8_setTimes m x1 x2 x3 x4 x5) := by
  obtain ⟨m1, e1, r1, s1⟩ := thr m
  obtain ⟨cs1, m2, f1, c1, q1, q2, hrow, hI, hR0, hR, hx, q3, q4, q5, q6, q7⟩ := edit_go hJ s1
  unfold f_X7_setTimes f_X8_setTimes
  rw [xl, e1]
  simp only [c_isTime, isInT, xb, xl]
  rcases hasV_cases x1 (n := 100) (by omega) with h | ⟨h, t1, h1, rfl⟩
  · rw [h, if_pos rfl, if_pos rfl]; exact ⟨_, _, _, rfl, rfl, (hJ.same s1).more (by omega)⟩
  rw [h, if_neg i1, if_neg i1]
  rcases hasV_cases x2 (n := 100) (by omega) with h | ⟨h, t2, h2, rfl⟩
  · rw [h, if_pos rfl, if_pos rfl]; exact ⟨_, _, _, rfl, rfl, (hJ.same s1).more (by omega)⟩
  rw [h, if_neg i1, if_neg i1]
  rcases hasV_cases x3 (n := 100) (by omega) with h | ⟨h, t3, h3, rfl⟩
  · rw [h, if_pos rfl, if_pos rfl]; exact ⟨_, _, _, rfl, rfl, (hJ.same s1).more (by omega)⟩
  rw [h, if_neg i1, if_neg i1]
  rcases hasV_cases x4 (n := 100) (by omega) with h | ⟨h, t4, h4, rfl⟩
  · rw [h, if_pos rfl, if_pos rfl]; exact ⟨_, _, _, rfl, rfl, (hJ.same s1).more (by omega)⟩
  rw [h, if_neg i1, if_neg i1]
  rcases hasV_cases x5 (n := 100) (by omega) with h | ⟨h, t5, h5, rfl⟩
  · rw [h, if_pos rfl, if_pos rfl]; exact ⟨_, _, _, rfl, rfl, (hJ.same s1).more (by omega)⟩
  rw [h, if_neg i1, if_neg i1, hR0.tm.1, hR0.tm.2.1, hR0.tm.2.2.1, hR0.tm.2.2.2.1, hR0.tm.2.2.2.2]
  have go : ST (b + 64) (x_bind (f_X7_remember cs) fun (q7 : CT) => x_bind (f_X4_putTimes ((k_xs q7 (k_st q7))) (nI t1) (nI t2) (nI t3) (nI t4) (nI t5)) fun (q9 : SD) => some (((((((k_xs q7 (k_st q7)) 10 0 0) + ((k_xs q7 (k_st q7)) 10 0 1)) + ((k_xs q7 (k_st q7)) 10 0 2)) + ((k_xs q7 (k_st q7)) 10 0 3)) + ((k_xs q7 (k_st q7)) 10 0 4)), (kS q7 (k_st q7) q9))) (x_bind (f_X8_remembers m1) fun (q8 : SD) => some ((((((q8 30 0 1) + (q8 30 0 2)) + (q8 30 0 3)) + (q8 30 0 4)) + (q8 30 0 5)), upS (upS (upS (upS (upS q8 30 0 1 (nI t1)) 30 0 2 (nI t2)) 30 0 3 (nI t3)) 30 0 4 (nI t4)) 30 0 5 (nI t5))) := by
    rw [q1, xb, q2, xb]
    obtain ⟨sd3, hsd3⟩ : ∃ s, s = upS (upS (upS (upS (upS (k_xs cs1 (k_st cs1)) 10 0 0 (nI t1)) 10 0 1 (nI t2)) 10 0 2 (nI t3)) 10 0 3 (nI t4)) 10 0 4 (nI t5) := ⟨_, rfl⟩
    obtain ⟨m3, hm3⟩ : ∃ s, s = upS (upS (upS (upS (upS m2 30 0 1 (nI t1)) 30 0 2 (nI t2)) 30 0 3 (nI t3)) 30 0 4 (nI t4)) 30 0 5 (nI t5) := ⟨_, rfl⟩
    have hi2 : ∀ i, m2 30 0 i = (m1 30 0) i := fun i => by rw [hrow]
    obtain ⟨hI3, hR3⟩ := time_step (r' := m3 30 0) (sd' := sd3) hI hR h1 h2 h3 h4 h5 (fun i h => by rw [hm3]; simp (disch := omega) only [upS_t, hi2]) (by rw [hm3]; simp (disch := omega) only [upS_t, upS_hit]) (by rw [hm3]; simp (disch := omega) only [upS_t, upS_hit]) (by rw [hm3]; simp (disch := omega) only [upS_t, upS_hit]) (by rw [hm3]; simp (disch := omega) only [upS_t, upS_hit]) (by rw [hm3]; simp (disch := omega) only [upS_hit]) (fun k j t h => by rw [hsd3]; simp only [upS]; rw [if_neg (by omega), if_neg (by omega), if_neg (by omega), if_neg (by omega), if_neg (by omega)]) (by rw [hsd3]; simp (disch := omega) only [upS_t, upS_hit]) (by rw [hsd3]; simp (disch := omega) only [upS_t, upS_hit]) (by rw [hsd3]; simp (disch := omega) only [upS_t, upS_hit]) (by rw [hsd3]; simp (disch := omega) only [upS_t, upS_hit]) (by rw [hsd3]; simp (disch := omega) only [upS_hit])
    have n9 : nv (m3 30 0) 9 = nv (m1 30 0) 9 := nv_eq (by rw [hm3]; simp (disch := omega) only [upS_t, hi2])
    have hX : MX m2 m3 := by rw [hm3]; exact (((((MX.rf m2).up (by omega)).up (by omega)).up (by omega)).up (by omega)).up (by omega)
    have ev : f_X4_putTimes (k_xs cs1 (k_st cs1)) (nI t1) (nI t2) (nI t3) (nI t4) (nI t5) = some sd3 := by rw [hsd3]; rfl
    rw [ev, xb, hR.tm.1, hR.tm.2.1, hR.tm.2.2.1, hR.tm.2.2.2.1, hR.tm.2.2.2.2, ← hm3]
    simp only [hi2]
    exact ⟨_, _, m3, rfl, rfl, hJ.edit s1 (by omega) q3 q4 q5 q6 q7 hX (inv_of hI3 n9) ((rel_of hR3 n9).more (by omega))⟩
  by_cases z1 : (m1 30 0) 1 = nI t1
  · rw [if_pos z1, if_pos z1]
    by_cases z2 : (m1 30 0) 2 = nI t2
    · rw [if_pos z2, if_pos z2]
      by_cases z3 : (m1 30 0) 3 = nI t3
      · rw [if_pos z3, if_pos z3]
        by_cases z4 : (m1 30 0) 4 = nI t4
        · rw [if_pos z4, if_pos z4]
          by_cases z5 : (m1 30 0) 5 = nI t5
          · rw [if_pos z5, if_pos z5]
            exact ⟨_, _, _, rfl, rfl, (hJ.same s1).more (by omega)⟩
          · rw [if_neg z5, if_neg z5]; exact go
        · rw [if_neg z4, if_neg z4]; exact go
      · rw [if_neg z3, if_neg z3]; exact go
    · rw [if_neg z2, if_neg z2]; exact go
  · rw [if_neg z1, if_neg z1]; exact go
theorem st_request (hJ : JJ b cs m) (hb : b < 2 ^ 27) (a : Int32) : ST (b + 64) (f_X7_request cs a) (f_X8_request m a) := by
  obtain ⟨m1, e1, r1, s1⟩ := thr m
  obtain ⟨cs1, m2, f1, c1, q1, q2, hrow, hI, hR0, hR, hx, q3, q4, q5, q6, q7⟩ := edit_go hJ s1
  have l9 := hI.l9
  have l16 := hI.l16
  unfold f_X7_request f_X8_request
  rw [c_hasFile hI hR0, xb, xl, e1, m_isFile rfl hI, xb]
  rcases hasV_cases a (n := nv (m1 30 0) 9) (by omega) with h | ⟨h, f, hf, rfl⟩
  · rw [h, if_pos rfl, if_pos rfl]; exact ⟨_, _, _, rfl, rfl, (hJ.same s1).more (by omega)⟩
  · rw [h, if_neg i1, if_neg i1, c_isReadable hI hR0 hf, xb, m_isReadable rfl hI hf, xb]
    by_cases z : gdV (m1 30 0) (nv (m1 30 0) (289 + f)) = 0
    · rw [if_pos z, if_pos z]; exact ⟨_, _, _, rfl, rfl, (hJ.same s1).more (by omega)⟩
    · rw [if_neg z, if_neg z, hR0.s13, hI.c16]
      by_cases y : nv (m1 30 0) 16 < 16
      · have y1 : nI (nv (m1 30 0) 16) < 16 := by rw [rlt (k := 16) (by decide) (by omega)]; exact y
        have y2 : ¬ nI (nv (m1 30 0) 16) = 16 := by rw [req (k := 16) (by decide) (by omega)]; show ¬ nv (m1 30 0) 16 = 16; omega
        rw [if_pos y1, if_neg y2, q1, xb, q2, xb]
        have hi2 : ∀ i, m2 30 0 i = (m1 30 0) i := fun i => by rw [hrow]
        simp (disch := omega) only [xl, xg, vinT, hi2, hR.s13, hI.c16, la, ra, nI_clamp, upS_k, upS_t, upS_hit]
        obtain ⟨sd3, hsd3⟩ : ∃ s, s = upS (upS (k_xs cs1 (k_st cs1)) 15 0 (nv (m1 30 0) 16) (nI f)) 4 0 13 (nI (nv (m1 30 0) 16 + 1)) := ⟨_, rfl⟩
        obtain ⟨m3, hm3⟩ : ∃ s, s = upS (upS m2 30 0 (589 + nv (m1 30 0) 16) (nI f)) 30 0 16 (nI (nv (m1 30 0) 16 + 1)) := ⟨_, rfl⟩
        rw [← hsd3, ← hm3]
        obtain ⟨hI3, hR3⟩ := req_step (r' := m3 30 0) (sd' := sd3) (Q := nv (m1 30 0) 16 + 1) hI hR (by omega) (fun i h1 h2 => by rw [hm3]; simp (disch := omega) only [upS_t, hi2]) (by rw [hm3, upS_hit]) (fun k hk => by
            by_cases w : k = nv (m1 30 0) 16
            · subst w
              have e : m3 30 0 (589 + nv (m1 30 0) 16) = nI f := by rw [hm3]; simp (disch := omega) only [upS_t, upS_hit]
              exact ⟨isN_nI e (by omega) (by omega), by rw [nv_of e (by omega)]; exact hf⟩
            · have e : m3 30 0 (589 + k) = (m1 30 0) (589 + k) := by rw [hm3]; simp (disch := omega) only [upS_t, hi2]
              have g := hI.req k (by omega)
              exact ⟨isN_eq e g.1, by rw [nv_eq e]; exact g.2⟩) (fun k j t h1 h2 => by rw [hsd3]; simp only [upS]; rw [if_neg h2, if_neg (by omega)]) (by rw [hsd3, upS_hit]) (fun k hk => by
            by_cases w : k = nv (m1 30 0) 16
            · subst w
              rw [hsd3, hm3]; simp (disch := omega) only [upS_t, upS_k, upS_hit]
            · have g := hR.rq k (by omega)
              rw [hsd3, hm3]; simp (disch := omega) only [upS_t, upS_k, hi2, g])
        have n9 : nv (m3 30 0) 9 = nv (m1 30 0) 9 := nv_eq (by rw [hm3]; simp (disch := omega) only [upS_t, hi2])
        have hX : MX m2 m3 := by rw [hm3]; exact ((MX.rf m2).up (by omega)).up (by omega)
        exact ⟨_, _, m3, rfl, rfl, hJ.edit s1 (by omega) q3 q4 q5 q6 q7 hX (inv_of hI3 n9) ((rel_of hR3 n9).more (by omega))⟩
      · have y1 : ¬ nI (nv (m1 30 0) 16) < 16 := by rw [rlt (k := 16) (by decide) (by omega)]; exact y
        have y2 : nI (nv (m1 30 0) 16) = 16 := by rw [req (k := 16) (by decide) (by omega)]; show nv (m1 30 0) 16 = 16; omega
        rw [if_neg y1, if_pos y2]
        exact ⟨_, _, _, rfl, rfl, (hJ.same s1).more (by omega)⟩
/-- a request goes: the row -/
def DV (r r' : RW) (q : Nat) : Prop := (∀ i, i ≠ 16 → ¬ (589 ≤ i ∧ i < 605) → r' i = r i) ∧ r' 16 = nI (nv r 16 - 1) ∧ ∀ k, k < nv r 16 - 1 → r' (589 + k) = if k < q then r (589 + k) else r (589 + k + 1)
theorem m_drops (hr : md 30 0 = r) (hI : InvF F r) {q : Nat} (hq : q < nv r 16) : ∃ m', f_X8_drops md (nI q) = some m' ∧ MX md m' ∧ DV r (m' 30 0) q := by
  have l16 := hI.l16
  have hi : ∀ i, md 30 0 i = r i := fun i => by rw [hr]
  unfold f_X8_drops
  rw [xl, hi 16, hI.c16, rsu (by show 1 ≤ nv r 16; omega)]
  have key : ∀ (k d n : Nat) (s : SD), d + k = nv r 16 - 1 → k < n → q ≤ d → MX md s → (∀ i, i ≠ 16 → ¬ (589 ≤ i ∧ i < 605) → s 30 0 i = r i) → s 30 0 16 = nI (nv r 16 - 1) → (∀ k, k < nv r 16 → s 30 0 (589 + k) = if k < q then r (589 + k) else if k < d then r (589 + k + 1) else r (589 + k)) → ∃ m', f_X8_drops_L13 n (nI d) s = some m' ∧ MX md m' ∧ DV r (m' 30 0) q := by
    intro k
    induction k with
    | zero =>
      intro d n s h1 h2 h3 hX h4 h5 h6
      obtain ⟨n, rfl⟩ : ∃ x, n = x + 1 := ⟨n - 1, by omega⟩
      rw [f_X8_drops_L13, h5]
      simp (disch := omega) only [nI_leI, if_pos]
      refine ⟨s, rfl, hX, h4, h5, fun k hk => ?_⟩
      rw [h6 k (by omega)]
      by_cases z : k < q
      · rw [if_pos z, if_pos z]
      · rw [if_neg z, if_neg z, if_pos (by omega)]
    | succ k ih =>
      intro d n s h1 h2 h3 hX h4 h5 h6
      obtain ⟨n, rfl⟩ : ∃ x, n = x + 1 := ⟨n - 1, by omega⟩
      rw [f_X8_drops_L13, h5]
      simp (disch := omega) only [xl, xg, vinT, la, ra, nI_clamp, nI_leI, if_neg]
      refine ih (d + 1) n _ (by omega) (by omega) (by omega) (hX.up (by omega)) (fun i k1 k2 => ?_) ?_ (fun k hk => ?_)
      · rw [upS_t (by omega)]; exact h4 i k1 k2
      · rw [upS_t (by omega)]; exact h5
      · by_cases w : k = d
        · subst w
          have e : 589 + k + 1 = 589 + (k + 1) := by omega
          rw [upS_hit, e, h6 (k + 1) (by omega), if_neg (by omega), if_neg (by omega), if_neg (by omega), if_pos (by omega)]
        · rw [upS_t (by omega), h6 k hk]
          by_cases z : k < q
          · rw [if_pos z, if_pos z]
          · rw [if_neg z, if_neg z]
            by_cases y : k < d
            · rw [if_pos y, if_pos (by omega)]
            · rw [if_neg y, if_neg (by omega)]
  refine key (nv r 16 - 1 - q) q fuel _ (by omega) (by unfold fuel; omega) (Nat.le_refl _) ((MX.rf md).up (by omega)) (fun i k1 k2 => ?_) ?_ (fun k hk => ?_)
  · rw [upS_t (by omega)]; exact hi i
  · rw [upS_hit]
  · rw [upS_t (by omega), hi]
    by_cases z : k < q
    · rw [if_pos z]
    · rw [if_neg z, if_neg (by omega)]
theorem c_removeRequest (hI : InvF F r) (hR : RelF F b sd r) {q : Nat} (hq : q < nv r 16) : ∃ sd', f_X4_removeRequest sd (nI q) = some (r (589 + q), sd') ∧ (∀ k j t, ¬ (k = 15 ∧ j = 0) → ¬ (k = 4 ∧ j = 0 ∧ t = 13) → sd' k j t = sd k j t) ∧ sd' 4 0 13 = nI (nv r 16 - 1) ∧ ∀ k, k < nv r 16 - 1 → sd' 15 0 k = if k < q then r (589 + k) else r (589 + k + 1) := by
  have l16 := hI.l16
  unfold f_X4_removeRequest
  rw [hR.s13, hI.c16, rsu (by show 1 ≤ nv r 16; omega)]
  simp (disch := omega) only [xg, vinT, xl, nI_clamp, hR.rq q hq]
  have key : ∀ (k d n : Nat) (s : SD), d + k = nv r 16 - 1 → k < n → q ≤ d → (∀ k j t, ¬ (k = 15 ∧ j = 0) → ¬ (k = 4 ∧ j = 0 ∧ t = 13) → s k j t = sd k j t) → s 4 0 13 = nI (nv r 16 - 1) → (∀ k, k < nv r 16 → s 15 0 k = if k < q then r (589 + k) else if k < d then r (589 + k + 1) else r (589 + k)) → ∃ sd', f_X4_removeRequest_L19 (r (589 + q)) n (nI d) s = some (r (589 + q), sd') ∧ (∀ k j t, ¬ (k = 15 ∧ j = 0) → ¬ (k = 4 ∧ j = 0 ∧ t = 13) → sd' k j t = sd k j t) ∧ sd' 4 0 13 = nI (nv r 16 - 1) ∧ ∀ k, k < nv r 16 - 1 → sd' 15 0 k = if k < q then r (589 + k) else r (589 + k + 1) := by
    intro k
    induction k with
    | zero =>
      intro d n s h1 h2 h3 h4 h5 h6
      obtain ⟨n, rfl⟩ : ∃ x, n = x + 1 := ⟨n - 1, by omega⟩
      rw [f_X4_removeRequest_L19, h5]
      simp (disch := omega) only [nI_leI, if_pos]
      refine ⟨s, rfl, h4, h5, fun k hk => ?_⟩
      rw [h6 k (by omega)]
      by_cases z : k < q
      · rw [if_pos z, if_pos z]
      · rw [if_neg z, if_neg z, if_pos (by omega)]
    | succ k ih =>
      intro d n s h1 h2 h3 h4 h5 h6
      obtain ⟨n, rfl⟩ : ∃ x, n = x + 1 := ⟨n - 1, by omega⟩
      rw [f_X4_removeRequest_L19, h5]
      simp (disch := omega) only [xl, xg, vinT, ra, nI_clamp, nI_leI, if_neg]
      refine ih (d + 1) n _ (by omega) (by omega) (by omega) (fun k j t k1 k2 => ?_) ?_ (fun k hk => ?_)
      · simp only [upS]
        rw [if_neg (by omega)]
        exact h4 k j t k1 k2
      · rw [upS_k (by omega)]; exact h5
      · by_cases w : k = d
        · subst w
          have e : 589 + k + 1 = 589 + (k + 1) := by omega
          rw [upS_hit, h6 (k + 1) (by omega), if_neg (by omega), if_neg (by omega), if_neg (by omega), if_pos (by omega), e]
        · rw [upS_t (by omega), h6 k hk]
          by_cases z : k < q
          · rw [if_pos z, if_pos z]
          · rw [if_neg z, if_neg z]
            by_cases y : k < d
            · rw [if_pos y, if_pos (by omega)]
            · rw [if_neg y, if_neg (by omega)]
  refine key (nv r 16 - 1 - q) q fuel _ (by omega) (by unfold fuel; omega) (Nat.le_refl _) (fun k j t k1 k2 => ?_) ?_ (fun k hk => ?_)
  · simp only [upS]
    rw [if_neg k2]
  · rw [upS_hit]
  · rw [upS_k (by omega), hR.rq k hk]
    by_cases z : k < q
    · rw [if_pos z]
    · rw [if_neg z, if_neg (by omega)]
theorem st_dropRequest (hJ : JJ b cs m) (hb : b < 2 ^ 27) (a : Int32) : ST (b + 64) (f_X7_dropRequest cs a) (f_X8_dropRequest m a) := by
  obtain ⟨m1, e1, r1, s1⟩ := thr m
  obtain ⟨cs1, m2, f1, c1, q1, q2, hrow, hI, hR0, hR, hx, q3, q4, q5, q6, q7⟩ := edit_go hJ s1
  have l16 := hI.l16
  unfold f_X7_dropRequest f_X8_dropRequest
  rw [c_hasRequest hI hR0, xb, xl, e1, m_isRequest rfl hI, xb]
  rcases hasV_cases a (n := nv (m1 30 0) 16) (by omega) with h | ⟨h, q, hq, rfl⟩
  · rw [h, if_pos rfl, if_pos rfl]; exact ⟨_, _, _, rfl, rfl, (hJ.same s1).more (by omega)⟩
  · rw [h, if_neg i1, if_neg i1, q1, xb, q2, xb]
    obtain ⟨m3, g1, hX, g3⟩ := m_drops hrow hI hq
    obtain ⟨sd3, k1, k2, k3, k4⟩ := c_removeRequest hI hR hq
    have hi2 : ∀ i, m2 30 0 i = (m1 30 0) i := fun i => by rw [hrow]
    rw [k1, xb]
    simp (disch := omega) only [xl, xg, vinT, la, nI_clamp, hi2]
    rw [g1, xb]
    obtain ⟨d0, d16, dq⟩ := g3
    have sh : ∀ k, k < nv (m1 30 0) 16 - 1 → isN (m3 30 0) (589 + k) 19 ∧ nv (m3 30 0) (589 + k) < nv (m1 30 0) 9 := fun k hk => by
      have e := dq k hk
      by_cases z : k < q
      · rw [if_pos z] at e
        have g := hI.req k (by omega)
        exact ⟨isN_eq e g.1, by rw [nv_eq e]; exact g.2⟩
      · rw [if_neg z] at e
        have g := hI.req (k + 1) (by omega)
        have e2 : 589 + k + 1 = 589 + (k + 1) := by omega
        rw [e2] at e
        have e3 := nv_eq e
        exact ⟨⟨by rw [e3, e]; exact g.1.1, by rw [e3]; exact g.1.2⟩, by rw [e3]; exact g.2⟩
    obtain ⟨hI3, hR3⟩ := req_step (r' := m3 30 0) (sd' := sd3) (Q := nv (m1 30 0) 16 - 1) hI hR (by omega) d0 d16 sh k2 k3 (fun k hk => by rw [k4 k hk, dq k hk])
    have n9 : nv (m3 30 0) 9 = nv (m1 30 0) 9 := nv_eq (d0 9 (by omega) (by omega))
    exact ⟨_, _, m3, rfl, rfl, hJ.edit s1 (by omega) q3 q4 q5 q6 q7 hX (inv_of hI3 n9) ((rel_of hR3 n9).more (by omega))⟩
end ED4
