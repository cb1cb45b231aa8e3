/-! Layer 2: undoing; the kind of a sector; the nearest home -/
section UND
variable {b : Nat} {cs : CT} {m : SD}
theorem m_undo27 {m0 : SD} {c : Nat} (hc : c < 16) (h5 : m0 8 0 5 = nI c) : ∃ m', f_X8_undo_L27 fuel 0 m0 = some (nI c, m') ∧ (∀ k j t, ¬ (k = 30 ∧ j = 0 ∧ t < 605) → m' k j t = m0 k j t) ∧ ∀ t, t < 605 → m' 30 0 t = prow m0 c t := by
  have h8 : ∀ d (s : SD), (∀ k j t, s k j t = if k = 30 ∧ j = 0 ∧ t < d then prow m0 c t else m0 k j t) → s 8 0 5 = nI c := fun d s h => by rw [h, if_neg (by omega)]; exact h5
  obtain ⟨h1, h2⟩ := loop0 (L := fun n v s => f_X8_undo_L27 n v s) (N := 605) (fun d s => upS s 30 0 d (s 33 0 (605 * c + d))) (fun d s => ∀ k j t, s k j t = if k = 30 ∧ j = 0 ∧ t < d then prow m0 c t else m0 k j t) (fun s => some (s 8 0 5, s)) (by decide) (fun n s _ => by
      show f_X8_undo_L27 (n + 1) (nI 605) s = _
      rw [f_X8_undo_L27]
      exact if_pos (by decide)) (fun n d s hd hs => by
      refine ⟨?_, fun k j t => ?_⟩
      · show f_X8_undo_L27 (n + 1) (nI d) s = f_X8_undo_L27 n (nI (d + 1)) _
        rw [f_X8_undo_L27, h8 d s hs]
        simp (disch := omega) only [xl, xg, vinT, nI_clamp, lm, ra, nI_add, lle, if_neg]
      · show upS s 30 0 d (s 33 0 (605 * c + d)) k j t = _
        unfold upS
        by_cases z : k = 30 ∧ j = 0 ∧ t = d
        · obtain ⟨rfl, rfl, rfl⟩ := z
          rw [if_pos ⟨rfl, rfl, rfl⟩, if_pos ⟨rfl, rfl, by omega⟩, hs, if_neg (by omega)]
          rfl
        · rw [if_neg z, hs]
          by_cases y : k = 30 ∧ j = 0 ∧ t < d
          · rw [if_pos y, if_pos ⟨y.1, y.2.1, by omega⟩]
          · rw [if_neg y, if_neg (by omega)]) m0 (fun k j t => by rw [if_neg (by omega)])
  rw [h8 _ _ h2] at h1
  exact ⟨_, h1, fun k j t h => by rw [h2, if_neg h], fun t ht => by rw [h2, if_pos ⟨rfl, rfl, ht⟩]⟩
theorem st_undo (hJ : JJ b cs m) : ST b (f_X7_undo cs) (f_X8_undo m) := by
  obtain ⟨m1, e1, r1, s1⟩ := thr m
  have hJ1 := hJ.same s1
  obtain ⟨hI, hR, ⟨f0, c, hf, hc, h1, h2, h3, h4⟩, ⟨d1, d2, d3, d4, d5, d6⟩, ⟨⟨n1, t1, t2, t3, t4⟩, t5, t6⟩, ⟨n2, o1, o2, o3, o4⟩, hP⟩ := hJ.same s1
  unfold f_X7_undo f_X8_undo
  rw [xl, e1, h2, h3]
  by_cases z : c = 0
  · subst z
    rw [nI_0, if_pos rfl, if_pos rfl]
    exact ⟨_, _, _, rfl, rfl, hJ1⟩
  · have z' : ¬ (nI c = 0) := by
      rw [req (k := 0) (by decide) (by omega)]
      exact z
    have zm : nI c - 1 = nI (c - 1) := rsu (k := 1) (by show 1 ≤ c; omega)
    obtain ⟨q, g1, g2, g3⟩ := h4 (c - 1) (by omega)
    obtain ⟨c1, hc1⟩ : ∃ c1 : CT, c1 = kH (kH cs (upS (k_hd cs) 1 0 2 (nI (c - 1))) (k_hz cs)) (upS (k_hd cs) 1 0 2 (nI (c - 1))) (va_up (k_hz cs) ((f0 + (c - 1)) % 16) (some (k_st cs))) := ⟨_, rfl⟩
    have ev : f_X1_goBack cs = some (q, c1) := by
      have a1 : k_hd (kH cs (upS (k_hd cs) 1 0 2 (nI (c - 1))) (k_hz cs)) 1 0 1 = nI f0 := by
        show upS (k_hd cs) 1 0 2 (nI (c - 1)) 1 0 1 = _
        rw [upS_t (by omega)]; exact h1
      have a2 : k_hd (kH cs (upS (k_hd cs) 1 0 2 (nI (c - 1))) (k_hz cs)) 1 0 2 = nI (c - 1) := by
        show upS (k_hd cs) 1 0 2 (nI (c - 1)) 1 0 2 = _
        rw [upS_hit]
      have a3 : k_hz (kH cs (upS (k_hd cs) 1 0 2 (nI (c - 1))) (k_hz cs)) ((f0 + (c - 1)) % 16) = some q := g1
      unfold f_X1_goBack
      rw [h2, if_neg z', zm, xl, a1, a2, nI_add, rem16 (by omega), xl]
      simp (disch := omega) only [xg, vinT, nI_clamp, xl, a3]
      rw [hc1]
    rw [if_neg z', if_neg z', ev, xb, xl, xl, zm]
    obtain ⟨c2, k1, k2, k3, k4, k5, k6, k7, k8, k9, k10, k11, k12⟩ := forget_both (kZ c1 (q, k_sp c1, k_pl c1))
    rw [k1, xb]
    have est : k_st c2 = q := k4
    have esp : k_sp c2 = k_sp cs := by rw [k5, hc1]
    have exs : k_xs c2 = k_xs cs := by rw [k3, hc1]
    have ehd : k_hd c2 = upS (k_hd cs) 1 0 2 (nI (c - 1)) := by rw [k6, hc1]
    have ehz : k_hz c2 = va_up (k_hz cs) ((f0 + (c - 1)) % 16) (some (k_st cs)) := by rw [k7, hc1]
    have erd : k_rd c2 = k_rd cs := by rw [k8, hc1]
    have ejd : k_jd c2 = k_jd cs := by rw [k10, hc1]
    have esz : k_sz c2 = k_sz cs := by rw [k11, hc1]
    have hz2 : ∀ t u, k_hz c2 t = some u → (t = (f0 + (c - 1)) % 16 ∧ u = k_st cs) ∨ (t ≠ (f0 + (c - 1)) % 16 ∧ k_hz cs t = some u) := fun t u h => by
      rw [ehz] at h
      by_cases y : t = (f0 + (c - 1)) % 16
      · subst y
        rw [va_hit] at h
        exact Or.inl ⟨rfl, (Option.some.inj h).symm⟩
      · rw [va_off _ _ y] at h
        exact Or.inr ⟨y, h⟩
    obtain ⟨m', u1, u2, u3⟩ := m_undo27 (m0 := upS m1 8 0 5 (nI (c - 1))) (c := c - 1) (by omega) (by rw [upS_hit])
    rw [u1]
    have ue : ∀ k j t, ¬ (k = 30 ∧ j = 0 ∧ t < 605) → ¬ (k = 8 ∧ j = 0 ∧ t = 5) → m' k j t = m1 k j t := fun k j t a1 a2 => by
      rw [u2 k j t a1]
      simp only [upS]
      rw [if_neg a2]
    have up : ∀ k, prow m' k = prow m1 k := fun k => by
      funext i
      exact ue 33 0 _ (by omega) (by omega)
    have ur : ∀ i, i < 605 → m' 30 0 i = prow m1 (c - 1) i := fun i hi => by
      rw [u3 i hi]
      unfold prow
      rw [upS_k (by omega)]
    have hv : k_hd c2 1 0 2 = nI (c - 1) := by rw [ehd, upS_hit]
    refine ⟨nI (c - 1), c2, m', by rw [hv], rfl, Inv.congr g2 ur, ?_, ⟨f0, c - 1, hf, by omega, ?_, hv, ?_, fun k hk => ?_⟩, ⟨?_, fun t u h => ?_, fun t u w h h' => ?_, ?_, ?_, fun t u h => ?_⟩, ⟨⟨n1, t1, ?_, ?_, fun t ht => ?_⟩, ?_, ?_⟩, ⟨n2, o1, ?_, ?_, fun t ht => ?_⟩, ?_⟩
    · rw [est, exs]
      exact Rel.congr g2 g3 ur
    · rw [ehd, upS_t (by omega)]; exact h1
    · rw [u2 8 0 5 (by omega), upS_hit]
    · obtain ⟨q', w1, w2, w3⟩ := h4 k (by omega)
      refine ⟨q', ?_, by rw [up]; exact w2, by rw [up, exs]; exact w3⟩
      rw [ehz, va_off _ _ (by omega)]; exact w1
    · rw [est, esp]; exact (d2 _ _ g1).2
    · rw [est, esp]
      rcases hz2 t u h with ⟨-, rfl⟩ | ⟨w1, w2⟩
      · exact ⟨fun w => (d2 _ _ g1).1 w.symm, d1⟩
      · exact ⟨fun w => by subst w; exact w1 (d3 _ _ _ w2 g1), (d2 _ _ w2).2⟩
    · rcases hz2 t w h with ⟨w1, w2⟩ | ⟨w1, w2⟩
      · rcases hz2 u w h' with ⟨w3, w4⟩ | ⟨w3, w4⟩
        · omega
        · exact absurd w2 (d2 _ _ w4).1
      · rcases hz2 u w h' with ⟨w3, w4⟩ | ⟨w3, w4⟩
        · exact absurd w4 (d2 _ _ w2).1
        · exact d3 t u w w2 w4
    · rw [est, esz]; exact d6 _ _ g1
    · rw [esp, esz]; exact d5
    · rw [esz]
      rcases hz2 t u h with ⟨-, rfl⟩ | ⟨w1, w2⟩
      · exact d4
      · exact d6 t u w2
    · rw [erd]; exact t2
    · rw [ue _ _ _ (by omega) (by omega)]; exact t3
    · rw [erd, ue _ _ _ (by omega) (by omega)]; exact t4 t ht
    · rw [ejd, ue _ _ _ (by omega) (by omega)]; exact t5
    · rw [ejd, ue _ _ _ (by omega) (by omega)]; exact t6
    · rw [ejd]; exact o2
    · rw [ue _ _ _ (by omega) (by omega)]; exact o3
    · rw [ejd, ue _ _ _ (by omega) (by omega)]; exact o4 t ht
    · obtain ⟨w1, w2⟩ := k2
      by_cases y : k_pl c2 = none
      · exact Or.inl y
      · refine Or.inr (Or.inl ?_)
        rw [w2 (by rw [← w1]; exact y), upS_hit]
end UND
section SEK
variable {b : Nat} {sd md : SD} {r : RW}
theorem q_sectorKind (hr : md 30 0 = r) (hI : Inv r) (hR : Rel b sd r) (a c : Int32) : Ans md (f_X7_sectorKind sd a c) (f_X8_sectorKind md a c) := by
  obtain ⟨m1, e1, r1, s1⟩ := thr md
  have hr1 : m1 30 0 = r := r1.trans hr
  have l7 := hI.l7
  have l10 := hI.l10
  unfold f_X7_sectorKind f_X8_sectorKind
  rcases hasV_cases a (n := nv r 7) (by omega) with h | ⟨h, p, hp, rfl⟩
  · have e2 : f_X4_hasSector sd a c = some 0 := by
      unfold f_X4_hasSector
      rw [c_hasPlatter hI hR, xb, h, if_pos rfl]
    have e3 : f_X8_isSector m1 a c = some 0 := by
      unfold f_X8_isSector
      rw [m_isPlatter hr1 hI, xb, h, if_pos rfl]
    rw [e2, xb, xl, e1, e3, xb, if_pos rfl, if_pos rfl]; exact ⟨_, _, rfl, rfl, s1⟩
  · have w := (hI.plt p hp).2.1.1.l
    obtain ⟨w2, w3⟩ := (hI.plt p hp).2.2.2.1
    rw [c_hasSector hI hR hp, xb, xl, e1, m_isSector hr1 hI hp, xb]
    rcases hasV_cases c (n := nv r (39 + p)) (by omega) with g | ⟨g, s, hs, rfl⟩
    · rw [g, if_pos rfl, if_pos rfl]; exact ⟨_, _, rfl, rfl, s1⟩
    · have hs3 : s < 300 := by omega
      rw [g, if_neg i1, if_neg i1, m_versionAt hr1 hI hs3, xb]
      unfold f_X4_kindOfSector
      rw [c_versionAt hI hR hs3]
      simp (disch := omega) only [xl, xg, vinT, nI_clamp, la, c_isBad sd p hs3, m_isBad2 hr1 hI hR.bd hp hs3, xb]
      rw [hr1, (hR.pl p hp).2.2.2.1, w2.e]
      have fin : ∀ y : Int32, Ans md (x_bind (if b01 (bdc sd p s) = 0 then some y else some (y + 10)) fun q => some q) (if b01 (bdc sd p s) = 0 then some (y + 0, m1) else some (y + 10, m1)) := fun y => by
        by_cases k : b01 (bdc sd p s) = 0
        · rw [if_pos k, if_pos k, xb]
          have : y + 0 = y := by grind
          rw [this]
          exact ⟨_, _, rfl, rfl, s1⟩
        · rw [if_neg k, if_neg k, xb]
          exact ⟨_, _, rfl, rfl, s1⟩
      by_cases k : s < nv r (59 + p)
      · have k1 : ¬ (nI (nv r (59 + p)) ≤ nI s) := by rw [nI_leI (by omega) (by omega)]; omega
        have k2 : nI s < nI (nv r (59 + p)) := by rw [nI_ltI (by omega) (by omega)]; exact k
        rw [if_neg k1, if_pos k2]
        rcases verQ_cases r p s with ⟨h1, h2⟩ | ⟨v, h1, h2, h3⟩
        · rw [if_pos h1, if_pos h1]
          exact fin 3
        · have nz : ¬ (verQ r p s = -1) := by rw [h2, nm1 (by omega)]; exact id
          rw [if_neg nz, if_neg nz, h2, c_isCurrent hI hR h1, xb, m_isCurrent hr1 hI h1, xb]
          by_cases y : cuV r v = 0
          · rw [if_pos y, if_pos y]
            exact fin 2
          · rw [if_neg y, if_neg y]
            exact fin 1
      · have k1 : nI (nv r (59 + p)) ≤ nI s := by rw [nI_leI (by omega) (by omega)]; omega
        have k2 : ¬ (nI s < nI (nv r (59 + p))) := by rw [nI_ltI (by omega) (by omega)]; exact k
        rw [if_pos k1, if_neg k2]
        exact fin 0
/-- the least way from a slot to a drive -/
def wyS (r : RW) (s : Nat) : Nat → Nat → Nat → Nat
  | 0, _, x => x
  | n + 1, d, x => wyS r s n (d + 1) (if dst s (nv r (17 + d)) < x then dst s (nv r (17 + d)) else x)
theorem wyS_cap (r : RW) (s : Nat) : ∀ (n d x y : Nat), x ≤ y → (∀ e, d ≤ e → e < d + n → dst s (nv r (17 + e)) < x) → 0 < n → wyS r s n d x = wyS r s n d y := by
  intro n
  cases n with
  | zero => intro d x y _ _ h; omega
  | succ n =>
    intro d x y hxy h _
    unfold wyS
    have h1 := h d (Nat.le_refl _) (by omega)
    rw [if_pos h1, if_pos (by omega)]
theorem c_dist5 (hI : Inv r) (hR : Rel b sd r) {s : Nat} (hs : s < 24) : ∀ (k d n x : Nat), d + k = nv r 6 → k < n → x < 2 ^ 31 → f_X4_distanceToDrive_L5 sd (nI s) n (nI x) (nI d) = some (nI (wyS r s k d x)) := by
  have l6 := hI.l6
  intro k
  induction k with
  | zero =>
    intro d n x hd hn hx
    obtain ⟨n, rfl⟩ : ∃ q, n = q + 1 := ⟨n - 1, by omega⟩
    have : d = nv r 6 := by omega
    subst this
    rw [f_X4_distanceToDrive_L5, hR.s3, hI.c6, if_pos (nI_le (Nat.le_refl _) (by omega)), wyS]
  | succ k ih =>
    intro d n x hd hn hx
    obtain ⟨n, rfl⟩ : ∃ q, n = q + 1 := ⟨n - 1, by omega⟩
    have hd6 : d < nv r 6 := by omega
    obtain ⟨⟨y1, y2⟩, -⟩ := hI.drv d hd6
    have y3 := y1.l
    have dl : dst s (nv r (17 + d)) ≤ 23 := dst_le (by omega) (by omega)
    rw [f_X4_distanceToDrive_L5, hR.s3, hI.c6, if_neg (by rw [nI_leI (by omega) (by omega)]; omega)]
    simp (disch := omega) only [xl, xg, vinT, nI_clamp, (hR.dr d hd6).1, y1.e, c_abs, nI_ltI, ra]
    rw [wyS, ← ih (d + 1) n (if dst s (nv r (17 + d)) < x then dst s (nv r (17 + d)) else x) (by omega) (by omega) (by split <;> omega)]
    split <;> rfl
theorem m_near5 (hr : md 30 0 = r) (hI : Inv r) {s : Nat} (hs : s < 24) : ∀ (k d n x : Nat), d + k = nv r 6 → k < n → x < 2 ^ 31 → f_X8_nearest_L5 md (nI s) n (nI x) (nI d) = some (nI (wyS r s k d x)) := by
  have l6 := hI.l6
  intro k
  induction k with
  | zero =>
    intro d n x hd hn hx
    obtain ⟨n, rfl⟩ : ∃ q, n = q + 1 := ⟨n - 1, by omega⟩
    have : d = nv r 6 := by omega
    subst this
    rw [f_X8_nearest_L5, hr, hI.c6, if_pos (nI_le (Nat.le_refl _) (by omega)), wyS]
  | succ k ih =>
    intro d n x hd hn hx
    obtain ⟨n, rfl⟩ : ∃ q, n = q + 1 := ⟨n - 1, by omega⟩
    have hd6 : d < nv r 6 := by omega
    obtain ⟨⟨y1, y2⟩, -⟩ := hI.drv d hd6
    have y3 := y1.l
    have dl : dst s (nv r (17 + d)) ≤ 23 := dst_le (by omega) (by omega)
    rw [f_X8_nearest_L5, hr, hI.c6, if_neg (by rw [nI_leI (by omega) (by omega)]; omega)]
    simp (disch := omega) only [xl, xg, xb, vinT, nI_clamp, la, y1.e, m_far, nI_ltI, ra]
    rw [wyS, ← ih (d + 1) n (if dst s (nv r (17 + d)) < x then dst s (nv r (17 + d)) else x) (by omega) (by omega) (by split <;> omega)]
    split <;> rfl
theorem wyS_le (r : RW) (s : Nat) : ∀ (n d x : Nat), wyS r s n d x ≤ x := by
  intro n
  induction n with
  | zero => intro d x; exact Nat.le_refl _
  | succ n ih =>
    intro d x
    unfold wyS
    refine Nat.le_trans (ih _ _) ?_
    split <;> omega
/-- the way from a slot to its nearest drive -/
def wyQ (r : RW) (s : Nat) : Nat := wyS r s (nv r 6) 0 24
theorem c_distanceToDrive (hI : Inv r) (hR : Rel b sd r) {s : Nat} (hs : s < 24) : f_X4_distanceToDrive sd (nI s) = some (nI (wyQ r s)) := by
  have l6 := hI.l6
  unfold f_X4_distanceToDrive
  have h := c_dist5 hI hR hs (nv r 6) 0 fuel 24 (by omega) (by unfold fuel; omega) (by decide)
  rw [nI_0] at h
  exact h
theorem m_nearest (hr : md 30 0 = r) (hI : Inv r) (h0 : 0 < nv r 6) {s : Nat} (hs : s < 24) : f_X8_nearest md (nI s) = some (nI (wyQ r s)) := by
  have l6 := hI.l6
  unfold f_X8_nearest wyQ
  have h := m_near5 hr hI hs (nv r 6) 0 fuel 1000000000 (by omega) (by unfold fuel; omega) (by decide)
  rw [nI_0] at h
  rw [wyS_cap r s (nv r 6) 0 24 1000000000 (by decide) (fun e _ he => by
    obtain ⟨⟨y1, y2⟩, -⟩ := hI.drv e (by omega)
    have y3 := y1.l
    have : dst s (nv r (17 + e)) ≤ 23 := dst_le (by omega) (by omega)
    omega) h0]
  exact h
theorem near_go (hr : md 30 0 = r) (hI : Inv r) (hR : Rel b sd r) (h0 : 0 < nv r 6) (p : Nat) (hp : p < nv r 7) : ∀ (k d n n' : Nat) (x : Int32) (o : Nat) (w : Int32), d + k = nv r 0 → k < n → k < n' → (x = -1 ∨ (o < nv r 0 ∧ x = nI o ∧ w = nI (wyQ r o))) → ∃ v, f_X7_nearestHome_L20 sd (nI p) n x w (nI d) = some (if v = -1 then -1000005 else v) ∧ f_X8_nearestHome_L33 md (nI p) n' x (nI d) = some (v, md) ∧ (v = -1 → x = -1 ∧ ∀ e, d ≤ e → e < nv r 0 → homeQ r (nI e) ≠ -1 ∧ homeQ r (nI e) ≠ nI p) := by
  have l0 := hI.l0
  intro k
  induction k with
  | zero =>
    intro d n n' x o w hd hn hn' ho
    obtain ⟨n, rfl⟩ : ∃ q, n = q + 1 := ⟨n - 1, by omega⟩
    obtain ⟨n', rfl⟩ : ∃ q, n' = q + 1 := ⟨n' - 1, by omega⟩
    have : d = nv r 0 := by omega
    subst this
    rw [f_X7_nearestHome_L20, f_X8_nearestHome_L33, hR.s0, hr, hI.c0, if_pos (nI_le (Nat.le_refl _) (by omega)), if_pos (nI_le (Nat.le_refl _) (by omega))]
    unfold f_X7_foundOrNot
    refine ⟨x, ?_, rfl, fun h => ⟨h, fun e h1 h2 => by omega⟩⟩
    split <;> rfl
  | succ k ih =>
    intro d n n' x o w hd hn hn' ho
    obtain ⟨n, rfl⟩ : ∃ q, n = q + 1 := ⟨n - 1, by omega⟩
    obtain ⟨n', rfl⟩ : ∃ q, n' = q + 1 := ⟨n' - 1, by omega⟩
    have c7 : ¬ (nI (nv r 0) ≤ nI d) := by rw [nI_leI (by omega) (by omega)]; omega
    rw [f_X7_nearestHome_L20, f_X8_nearestHome_L33, hR.s0, hr, hI.c0, if_neg c7, if_neg c7, c_platterWithHome hI hR, xb, m_homeAt (k0 := 30) hr hI, xb, c_distanceToDrive hI hR (by omega), xb]
    simp only [xl, ra]
    have ld : wyQ r d ≤ 24 := wyS_le _ _ _ _ _
    by_cases a : homeQ r (nI d) = -1 ∨ homeQ r (nI d) = nI p
    · have e1 : ∀ {α : Type} (A B : α), (if homeQ r (nI d) = -1 then A else if homeQ r (nI d) = nI p then A else B) = A := fun A B => by
        rcases a with a | a
        · rw [if_pos a]
        · rw [if_pos a]; split <;> rfl
      rw [e1, e1]
      have tk : ∃ v, f_X7_nearestHome_L20 sd (nI p) n (nI d) (nI (wyQ r d)) (nI (d + 1)) = some (if v = -1 then -1000005 else v) ∧ f_X8_nearestHome_L33 md (nI p) n' (nI d) (nI (d + 1)) = some (v, md) ∧ (v = -1 → x = -1 ∧ ∀ e, d ≤ e → e < nv r 0 → homeQ r (nI e) ≠ -1 ∧ homeQ r (nI e) ≠ nI p) := by
        obtain ⟨v, g1, g2, g3⟩ := ih (d + 1) n n' (nI d) d (nI (wyQ r d)) (by omega) (by omega) (by omega) (Or.inr ⟨by omega, rfl, rfl⟩)
        refine ⟨v, g1, g2, fun h => ?_⟩
        have := (g3 h).1
        rw [nm1 (by omega)] at this
        exact this.elim
      by_cases y : x = -1
      · rw [if_pos y, if_pos y]
        exact tk
      · rw [if_neg y, if_neg y]
        rcases ho with ho | ⟨ho, rfl, rfl⟩
        · exact absurd ho y
        · have lo : wyQ r o ≤ 24 := wyS_le _ _ _ _ _
          rw [m_nearest hr hI h0 (by omega), xb, m_nearest hr hI h0 (by omega), xb]
          by_cases u : nI (wyQ r o) ≤ nI (wyQ r d)
          · rw [if_pos u, if_pos u]
            obtain ⟨v, g1, g2, g3⟩ := ih (d + 1) n n' (nI o) o (nI (wyQ r o)) (by omega) (by omega) (by omega) (Or.inr ⟨ho, rfl, rfl⟩)
            refine ⟨v, g1, g2, fun h => ?_⟩
            exact absurd (g3 h).1 y
          · rw [if_neg u, if_neg u]
            exact tk
    · have n1 : ¬ (homeQ r (nI d) = -1) := fun z => a (Or.inl z)
      have n2 : ¬ (homeQ r (nI d) = nI p) := fun z => a (Or.inr z)
      rw [if_neg n1, if_neg n2, if_neg n1, if_neg n2]
      obtain ⟨v, g1, g2, g3⟩ := ih (d + 1) n n' x o w (by omega) (by omega) (by omega) ho
      refine ⟨v, g1, g2, fun h => ⟨(g3 h).1, fun e h1 h2 => ?_⟩⟩
      by_cases u : e = d
      · subst u
        exact ⟨n1, n2⟩
      · exact (g3 h).2 e (by omega) h2
theorem q_nearestHome (hr : md 30 0 = r) (hI : Inv r) (hR : Rel b sd r) (a : Int32) : Ans md (f_X7_nearestHome sd a) (f_X8_nearestHome md a) := by
  obtain ⟨m1, e1, r1, s1⟩ := thr md
  have hr1 : m1 30 0 = r := r1.trans hr
  have l7 := hI.l7
  have l0 := hI.l0
  unfold f_X7_nearestHome f_X8_nearestHome
  rw [c_mountProblem hI hR, xb, xl, e1, m_isPlatter hr1 hI, xb, hr1]
  rcases hasV_cases a (n := nv r 7) (by omega) with h | ⟨h, p, hp, rfl⟩
  · rw [h, if_pos rfl, if_neg (by decide), if_pos rfl]; exact ⟨_, _, rfl, rfl, s1⟩
  · rw [h, if_neg i1, if_neg i1]
    by_cases z : r 6 = 0
    · rw [if_pos z, if_neg (by decide), if_pos z]; exact ⟨_, _, rfl, rfl, s1⟩
    · have h0 : 0 < nv r 6 := Nat.pos_of_ne_zero (fun y => z ((z6 hI).mpr y))
      rw [if_neg z, if_pos rfl, if_neg z]
      obtain ⟨v, g1, g2, g3⟩ := near_go hr1 hI hR h0 p hp (nv r 0) 0 fuel fuel (-1) 0 0 (by omega) (by unfold fuel; omega) (by unfold fuel; omega) (Or.inl rfl)
      rw [nI_0] at g1 g2
      have hv : ¬ (v = -1) := fun y => by
        obtain ⟨w1, w2⟩ := (hI.plt p hp).1
        have w3 := (g3 y).2 (nv r (29 + p)) (by omega) w2
        rcases homeQ_cases r (nI (nv r (29 + p))) with ⟨-, q2⟩ | ⟨e, q1, q2, q3⟩
        · exact q2 p hp w1.e
        · have : e = p := hI.hom e p q1 hp (q3.trans w1.e.symm)
          subst this
          exact w3.2 q2
      rw [g1, g2, if_neg hv]
      exact ⟨_, _, rfl, rfl, s1⟩
end SEK
