/-! Layer 2: the text that is fed, the last error, the catalogue's bytes -/
section TXT
variable {b : Nat} {cs : CT} {m : SD}
theorem q_errorKind (hJ : JJ b cs m) : Ans m (f_X7_errorKind (k_jd cs)) (f_X8_errorKind m) := by
  obtain ⟨m1, e1, r1, s1⟩ := thr m
  obtain ⟨-, -, -, -, ⟨-, t5, t6⟩, -⟩ := hJ.same s1
  unfold f_X7_errorKind f_X8_errorKind
  rw [xl, e1, t5]
  exact ⟨_, _, rfl, rfl, s1⟩
theorem q_errorPosition (hJ : JJ b cs m) : Ans m (f_X7_errorPosition (k_jd cs)) (f_X8_errorPosition m) := by
  obtain ⟨m1, e1, r1, s1⟩ := thr m
  obtain ⟨-, -, -, -, ⟨-, t5, t6⟩, -⟩ := hJ.same s1
  unfold f_X7_errorPosition f_X8_errorPosition
  rw [xl, e1, t6]
  by_cases z : k_jd cs 7 0 1 = 0
  · rw [if_pos z, if_pos z]
    exact ⟨_, _, rfl, rfl, s1⟩
  · rw [if_neg z, if_neg z]
    exact ⟨_, _, rfl, rfl, s1⟩
theorem q_outputByte (hJ : JJ b cs m) (a : Int32) : Ans m (f_X7_outputByte (k_jd cs) a) (f_X8_outputByte m a) := by
  obtain ⟨m1, e1, r1, s1⟩ := thr m
  obtain ⟨-, -, -, -, -, ⟨n, o1, o2, o3, o4⟩, -⟩ := hJ.same s1
  unfold f_X7_outputByte f_X8_outputByte
  rw [xl, e1, o2, o3, isIn0 a (by omega), xb]
  rcases pk_ix a (n := n) (by omega) with h | h | ⟨j, hj, rfl⟩
  · have : hasV a n = 0 := by unfold hasV; rw [if_pos h]
    rw [if_pos h, this, if_pos rfl]
    exact ⟨_, _, rfl, rfl, s1⟩
  · have hv : hasV a n = 0 := by
      unfold hasV
      by_cases y : a < 0
      · rw [if_pos y]
      · rw [if_neg y, if_pos h]
    have hn : ¬ (a < nI n) := i32_lt_le.mpr h
    rw [hv, if_pos rfl, if_neg hn]
    refine ⟨-1000001, m1, ?_, rfl, s1⟩
    split <;> rfl
  · have h1 : ¬ (nI j < 0) := by rw [nneg (by omega)]; exact id
    have h2 : nI j < nI n := by rw [nI_ltI (by omega) (by omega)]; exact hj
    rw [if_neg h1, if_pos h2, hasV_in hj (by omega), if_neg i1]
    simp (disch := omega) only [xg, vinT, nI_clamp]
    rw [o4 j hj]
    exact ⟨_, _, rfl, rfl, s1⟩
/-- the text on both sides -/
def T2 (rd m : SD) (n : Nat) : Prop := n ≤ 900 ∧ rd 5 0 1 = nI n ∧ m 8 0 15 = nI n ∧ ∀ t, t < n → rd 20 0 t = m 38 0 t
def apR (rd : SD) (n : Nat) (x : Int32) : SD := upS (upS rd 20 0 n x) 5 0 1 (nI (n + 1))
def apM (m : SD) (n : Nat) (x : Int32) : SD := upS (upS m 38 0 n x) 8 0 15 (nI (n + 1))
theorem T2.ap {rd m : SD} {n : Nat} (h : T2 rd m n) (hn : n < 900) (x : Int32) : T2 (apR rd n x) (apM m n x) (n + 1) := by
  obtain ⟨h1, h2, h3, h4⟩ := h
  refine ⟨hn, ?_, ?_, fun t ht => ?_⟩
  · unfold apR
    rw [upS_hit]
  · unfold apM
    rw [upS_hit]
  · unfold apR apM
    rw [upS_k (show (20 : Nat) ≠ 5 by decide), upS_k (show (38 : Nat) ≠ 8 by decide)]
    by_cases z : t = n
    · subst z
      rw [upS_hit, upS_hit]
    · rw [upS_t z, upS_t z]
      exact h4 t (by omega)
def btV (a v : Int32) : Int32 := (((a >>> (v &&& 31))).toInt8.toInt32).toInt8.toInt32
theorem c_ap {rd m : SD} {n : Nat} (h : T2 rd m n) (hn : n < 900) (a v : Int32) (hv : ¬ v < 0) (k : Nat) : f_X5_appendFourBytes_L3 a (k + 1) v rd = f_X5_appendFourBytes_L3 a k (v + -8) (apR rd n (btV a v)) := by
  have h900 : ¬ ((900 : Int32) ≤ nI n) := by rw [lle (k := 900) (by decide) (by omega)]; show ¬ 900 ≤ n; omega
  rw [f_X5_appendFourBytes_L3, if_neg hv, h.2.1, if_neg h900]
  simp (disch := omega) only [xl, xg, vinT, nI_clamp]
  rw [upS_k (show (5 : Nat) ≠ 20 by decide), h.2.1, nI_1]
  rfl
theorem m_ap {rd m : SD} {n : Nat} (h : T2 rd m n) (hn : n < 900) (a v : Int32) (hv : ¬ v < 0) (k : Nat) : f_X8_feeds_L3 a (k + 1) v m = f_X8_feeds_L3 a k (v + -8) (apM m n (btV a v)) := by
  rw [f_X8_feeds_L3, if_neg hv, h.2.2.1]
  simp (disch := omega) only [xl, xg, vinT, nI_clamp]
  rw [upS_k (show (8 : Nat) ≠ 38 by decide), h.2.2.1, nI_1]
  rfl
theorem apM_off {m : SD} {n : Nat} {x : Int32} {k j t : Nat} (h1 : k ≠ 38) (h2 : ¬ (k = 8 ∧ j = 0 ∧ t = 15)) : apM m n x k j t = m k j t := by
  unfold apM
  have : upS (upS m 38 0 n x) 8 0 15 (nI (n + 1)) k j t = upS m 38 0 n x k j t := by
    simp only [upS]
    rw [if_neg h2]
  rw [this, upS_k h1]
theorem four {rd m : SD} {n : Nat} (h : T2 rd m n) (hn : n + 4 ≤ 900) (a : Int32) : ∃ rd' m', f_X5_appendFourBytes rd a = some rd' ∧ f_X8_feeds m a = some m' ∧ T2 rd' m' (n + 4) ∧ ∀ k j t, k ≠ 38 → ¬ (k = 8 ∧ j = 0 ∧ t = 15) → m' k j t = m k j t := by
  have h1 := h.ap (by omega) (btV a 24)
  have h2 := h1.ap (by omega) (btV a 16)
  have h3 := h2.ap (by omega) (btV a 8)
  have h4 := h3.ap (by omega) (btV a 0)
  refine ⟨_, _, ?_, ?_, h4, fun k j t k1 k2 => ?_⟩
  · show f_X5_appendFourBytes_L3 a (19995 + 1 + 1 + 1 + 1 + 1) 24 rd = _
    rw [c_ap h (by omega) a 24 (by decide) _, show (24 : Int32) + -8 = 16 by decide, c_ap h1 (by omega) a 16 (by decide) _, show (16 : Int32) + -8 = 8 by decide, c_ap h2 (by omega) a 8 (by decide) _, show (8 : Int32) + -8 = 0 by decide, c_ap h3 (by omega) a 0 (by decide) _, f_X5_appendFourBytes_L3, if_pos (by decide)]
  · show f_X8_feeds_L3 a (19995 + 1 + 1 + 1 + 1 + 1) 24 m = _
    rw [m_ap h (by omega) a 24 (by decide) _, show (24 : Int32) + -8 = 16 by decide, m_ap h1 (by omega) a 16 (by decide) _, show (16 : Int32) + -8 = 8 by decide, m_ap h2 (by omega) a 8 (by decide) _, show (8 : Int32) + -8 = 0 by decide, m_ap h3 (by omega) a 0 (by decide) _, f_X8_feeds_L3, if_pos (by decide)]
  · rw [apM_off k1 k2, apM_off k1 k2, apM_off k1 k2, apM_off k1 k2]
/-- only the text changes -/
theorem JJ.text {m' : SD} {rd' : SD} {n : Nat} (h : JJ b cs m) (hT : T2 rd' m' n) (he : ∀ k j t, k ≠ 38 → ¬ (k = 8 ∧ j = 0 ∧ t = 15) → m' k j t = m k j t) : JJ b (kR cs rd' (k_rn cs)) m' := by
  obtain ⟨h1, h2, ⟨f0, c, h3⟩, h4, ⟨-, t5, t6⟩, ⟨n2, o1, o2, o3, o4⟩, h7⟩ := h
  have hr : m' 30 0 = m 30 0 := funext fun t => he 30 0 t (by decide) (by omega)
  refine ⟨by rw [hr]; exact h1, by rw [hr]; exact h2, ⟨f0, c, HSx.same h3 (he _ _ _ (by decide) (by omega)) (fun t => he _ _ _ (by decide) (by omega))⟩, h4, ⟨⟨n, hT⟩, ?_, ?_⟩, ⟨n2, o1, o2, ?_, fun t ht => ?_⟩, by rw [hr]; exact h7⟩
  · rw [he _ _ _ (by decide) (by omega)]; exact t5
  · rw [he _ _ _ (by decide) (by omega)]; exact t6
  · rw [he _ _ _ (by decide) (by omega)]; exact o3
  · rw [he _ _ _ (by decide) (by omega)]; exact o4 t ht
theorem st_feed (hJ : JJ b cs m) (a1 a2 a3 a4 a5 : Int32) : ∃ v rd' m', f_X7_feed (k_rd cs) a1 a2 a3 a4 a5 = some (v, rd') ∧ f_X8_feed m a1 a2 a3 a4 a5 = some (v, m') ∧ JJ b (kR cs rd' (k_rn cs)) m' := by
  obtain ⟨m1, e1, r1, s1⟩ := thr m
  have hJ1 := hJ.same s1
  obtain ⟨-, -, -, -, ⟨⟨n, hT⟩, -⟩, -⟩ := hJ.same s1
  have hT : T2 (k_rd cs) m1 n := hT
  have n9 := hT.1
  unfold f_X7_feed f_X8_feed
  rw [xl, e1, hT.2.1, hT.2.2.1]
  by_cases z : n + 20 ≤ 900
  · have z1 : nI n + 20 ≤ (900 : Int32) := by
      rw [ra]
      exact (rle (k := 900) (by decide) (by show n + 20 < 2 ^ 31; omega)).mpr z
    rw [if_pos z1, if_pos z1]
    obtain ⟨r1, p1, x1, y1, u1, w1⟩ := four hT (by omega) a1
    obtain ⟨r2, p2, x2, y2, u2, w2⟩ := four u1 (by omega) a2
    obtain ⟨r3, p3, x3, y3, u3, w3⟩ := four u2 (by omega) a3
    obtain ⟨r4, p4, x4, y4, u4, w4⟩ := four u3 (by omega) a4
    obtain ⟨r5, p5, x5, y5, u5, w5⟩ := four u4 (by omega) a5
    rw [x1, xb, x2, xb, x3, xb, x4, xb, x5, xb, y1, xb, y2, xb, y3, xb, y4, xb, y5, xb, u5.2.1, u5.2.2.1]
    refine ⟨_, _, _, rfl, rfl, hJ1.text u5 (fun k j t k1 k2 => ?_)⟩
    rw [w5 k j t k1 k2, w4 k j t k1 k2, w3 k j t k1 k2, w2 k j t k1 k2, w1 k j t k1 k2]
  · have z1 : ¬ (nI n + 20 ≤ (900 : Int32)) := by
      rw [ra]
      exact fun y => z ((rle (k := 900) (by decide) (by show n + 20 < 2 ^ 31; omega)).mp y)
    rw [if_neg z1, if_neg z1]
    exact ⟨_, _, _, rfl, rfl, hJ1⟩
end TXT
