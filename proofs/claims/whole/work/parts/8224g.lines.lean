/-! Layer 2: the lines of a text -/
/-- the State that is being read, and the reference's row -/
def LSt (n : Nat) (sd md : SD) : Prop := Inv (md 31 0) ∧ Rel 0 sd (md 31 0) ∧ FRs (md 31 0) ∧ (n = 0 → nv (md 31 0) 6 = 0 ∧ nv (md 31 0) 7 = 0)
/-- the outcome of a line -/
def LOt (T : Nat → Int32) (E x : Nat) (rd md : SD) (o1 : Option (Int32 × SD × SD)) (o2 : Option (SD × Int64)) : Prop := (∃ sd' rd' md' mw' x', o1 = some (1, sd', rd') ∧ o2 = some (md', mw') ∧ x < x' ∧ GS T E x' rd' md' mw' ∧ LSt 1 sd' md' ∧ RF rd rd' ∧ MF md md' ∧ md' 8 0 25 = md 8 0 25 ∧ nv (md' 31 0) 9 = nv (md 31 0) 9) ∨ ∃ sd' rd' md' mw', o1 = some (0, sd', rd') ∧ o2 = some (md', mw') ∧ BD rd' md' ∧ RF rd rd' ∧ MF md md'
theorem GS.cg {T : Nat → Int32} {E x : Nat} {rd md md' : SD} {mw : Int64} (h : GS T E x rd md mw) (hm : ∀ k j t, k ≠ 31 → md' k j t = md k j t) : GS T E x rd md' mw := by
  obtain ⟨⟨h1, h2, h3, h4, h5, h6⟩, h7, h8, t1, t2, t3, t4, t5⟩ := h
  exact ⟨⟨h1, h2, fun t ht => (hm _ _ _ (by omega)).trans (h3 t ht), h4, (hm _ _ _ (by omega)).trans h5, (hm _ _ _ (by omega)).trans h6⟩, h7, h8, (hm _ _ _ (by omega)).trans t1, (hm _ _ _ (by omega)).trans t2, fun z => (hm _ _ _ (by omega)).trans (t3 z), fun z => (hm _ _ _ (by omega)).trans (t4 z), t5⟩
theorem BD.cg {rd md md' : SD} (h : BD rd md) (hm : ∀ k j t, k ≠ 31 → md' k j t = md k j t) : BD rd md' := by
  obtain ⟨k, k1, k2, k3, k4, k5⟩ := h
  exact ⟨k, k1, k2, k3, (hm _ _ _ (by omega)).trans k4, by rw [hm 8 0 19 (by omega)]; exact k5⟩
theorem up31 (m : SD) (t : Nat) (v : Int32) : ∀ k j q, k ≠ 31 → upS m 31 0 t v k j q = m k j q := fun k j q h => upS_k h
theorem RM.row31 {x y : SD} (h : RM x y) : y 31 0 = x 31 0 := by funext t; exact h _ _ _ (by omega)
theorem M2.row31 {x y : SD} (h : M2 x y) : y 31 0 = x 31 0 := by funext t; exact h _ _ _ (by omega)
section LNS
variable {T : Nat → Int32} {E x n : Nat} {sd rd md : SD} {mw : Int64}
theorem gc_x (h : GC T E x rd md mw) (hk : tkK T E x ≠ 0) : x < tkE T E x := by
  obtain ⟨c1, -⟩ := tkS_b T h.2.1
  obtain ⟨-, -, d3, -⟩ := tkE_b T h.2.1
  have := d3 hk
  omega
theorem slots_ok (h : GC T E x rd md mw) (hk : tkK T E x ≠ 0) (hL : LSt 0 sd md) (h25 : md 8 0 25 = 0) : LOt T E x rd md (f_X5_readSlots sd rd) (f_X8_slotsLine md mw) := by
  have hx := gc_x h hk
  obtain ⟨md1, mw1, a1, a2, a3⟩ := h.on hk
  obtain ⟨hI, hR, hF, hZ⟩ := hL
  unfold f_X5_readSlots f_X8_slotsLine
  simp only [xl]
  rw [h25, if_pos rfl, must_1, xb, a1, xb]
  rcases take_both a2 4 24 with ⟨rd2, md2, mw2, c1, c2, c3, c4, c5, c6, c7, c8⟩ | ⟨rd2, md2, c3, c4, c5, c6, c7⟩
  · obtain ⟨v, v1, v2, v3⟩ := in_nat (a := 4) (b := 24) (by omega) c1 c2 (by omega)
    rw [v3] at c3 c4
    have hr2 : md2 31 0 = md 31 0 := c7.row31.trans a3.row31
    obtain ⟨i1, i2, i3⟩ := low_step (c := 0) (v := v) (r' := (upS md2 31 0 0 (nI v)) 31 0) (sd' := upS sd 4 0 0 (nI v)) hI hR hF (by omega) (fun i hi => by rw [row_up, rup_ne hi, hr2]) (by rw [row_up, rup_hit]) (fun _ => ⟨v1, v2, hZ rfl⟩) (fun z => absurd rfl z) (fun k j t hn => if_neg (fun z => hn z)) (upS_hit _ _ _ _ _)
    rw [c3, xb, c4, xb]
    simp only
    rw [if_neg (nm1' (by omega))]
    refine Or.inl ⟨_, rd2, _, mw2, _, rfl, rfl, Nat.lt_trans hx c8, c5.cg (up31 _ _ _), ⟨i1, i2, i3, fun z => by omega⟩, c6, a3.f.tr (c7.f.r31), ?_, ?_⟩
    · rw [upS_k (by omega), c7 _ _ _ (by omega), a3 _ _ _ (by omega)]
    · rw [row_up, nv_eq (rup_ne (by omega)), hr2]
  · rw [c3, xb, c4, xb]
    simp only
    rw [if_pos trivial]
    exact Or.inr ⟨_, rd2, _, mw1, rfl, rfl, c5.cg (up31 _ _ _), c6, a3.f.tr (c7.f.r31)⟩
theorem slots_no (h : GC T E x rd md mw) (h25 : ¬ md 8 0 25 = 0) : ∃ rd' md', f_X5_fail rd 5 = some (0, rd') ∧ f_X8_slotsLine md mw = some (md', mw) ∧ BD rd' md' ∧ RF rd rd' ∧ MF md md' := by
  obtain ⟨rd1, md1, a1, a2, a3, a4, a5⟩ := fail_must h (k := 5) (by omega) (by omega) (by omega)
  have a2 : f_X8_must md 0 5 = some md1 := a2
  refine ⟨rd1, _, a1, ?_, a3.cg (up31 _ 0 0), a4, a5.f.r31⟩
  unfold f_X8_slotsLine
  simp only [xl]
  rw [if_neg h25, a2, xb, e_on a3.er, xb, e_takes a3.er, xb]
theorem drive_line (h : GC T E x rd md mw) (hk : tkK T E x ≠ 0) (hL : LSt n sd md) : LOt T E x rd md (f_X5_readDrive sd rd) (f_X8_driveLine md mw) := by
  have hx := gc_x h hk
  obtain ⟨hI, hR, hF, hZ⟩ := hL
  have l6 := hI.l6
  have l0 := hI.l0
  unfold f_X5_readDrive f_X8_driveLine
  simp only [xl]
  rw [hR.s3, hI.c6, hR.s0, hI.c0]
  have e1 : (nI (nv (md 31 0) 6) < (4 : Int32)) ↔ nv (md 31 0) 6 < 4 := nI_ltI (b := 4) (by omega) (by omega)
  have e2 : ((4 : Int32) ≤ nI (nv (md 31 0) 6)) ↔ 4 ≤ nv (md 31 0) 6 := nI_leI (a := 4) (by omega) (by omega)
  by_cases z : nv (md 31 0) 6 < 4
  · obtain ⟨md1, mw1, a1, a2, a3⟩ := h.on hk
    rw [if_pos (e1.mpr z), if_neg (fun y => by have := e2.mp y; omega), must_1, xb, a1, xb]
    have r0 : md1 31 0 0 = nI (nv (md 31 0) 0) := by rw [a3.row31]; exact hI.c0
    simp only
    rw [r0]
    rcases take_both a2 0 (nI (nv (md 31 0) 0) - 1) with ⟨rd2, md2, mw2, c1, c2, c3, c4, c5, c6, c7, c8⟩ | ⟨rd2, md2, c3, c4, c5, c6, c7⟩
    · obtain ⟨v, v1, v3⟩ := in_nat1 (by omega) c1 c2
      rw [v3] at c3 c4
      have hr2 : md2 31 0 = md 31 0 := c7.row31.trans a3.row31
      have g2 : md2 8 0 18 = 0 := c5.1.2.2.2.2.2
      rw [c3, xb, c4, xb]
      simp only
      rw [if_neg (nm1' (by omega)), c_addDrive hR hI z, xb, g_good g2, xb, if_neg i1]
      have r6 : md2 31 0 6 = nI (nv (md 31 0) 6) := by rw [hr2]; exact hI.c6
      rw [r6]
      simp (disch := omega) only [xg, vinT, nI_clamp, la]
      rw [upS_t (show (6 : Nat) ≠ 17 + nv (md 31 0) 6 by omega), r6, ra (k := 1)]
      have hrow : (upS (upS md2 31 0 (17 + nv (md 31 0) 6) (nI v)) 31 0 6 (nI (nv (md 31 0) 6 + 1))) 31 0 = rup (rup (md 31 0) (17 + nv (md 31 0) 6) (nI v)) 6 (nI (nv (md 31 0) 6 + 1)) := by rw [row_up, row_up, hr2]
      obtain ⟨i1, i2, i3⟩ := drive_step (v := v) (r' := rup (rup (md 31 0) (17 + nv (md 31 0) 6) (nI v)) 6 (nI (nv (md 31 0) 6 + 1))) hI hR hF z v1 (fun i h1 h2 => by rw [rup_ne h1, rup_ne h2]) (rup_hit _ _ _) (by rw [rup_ne (by omega), rup_hit])
      refine Or.inl ⟨_, rd2, _, mw2, _, rfl, rfl, Nat.lt_trans hx c8, (c5.cg (up31 _ _ _)).cg (up31 _ _ _), ?_, c6, a3.f.tr (c7.f.r31.r31), ?_, ?_⟩
      · unfold LSt
        rw [hrow]
        exact ⟨i1, i2, i3, fun z => by omega⟩
      · rw [upS_k (by omega), upS_k (by omega), c7 _ _ _ (by omega), a3 _ _ _ (by omega)]
      · rw [hrow, nv_eq ((rup_ne (by omega)).trans (rup_ne (by omega)))]
    · rw [c3, xb, c4, xb]
      simp only
      rw [if_pos trivial, e_good c5.er, xb, if_pos rfl]
      exact Or.inr ⟨_, rd2, md2, mw1, rfl, rfl, c5, c6, a3.f.tr c7.f⟩
  · obtain ⟨rd1, md1, a1, a2, a3, a4, a5⟩ := fail_must h (k := 5) (by omega) (by omega) (by omega)
    have a1 : f_X5_fail rd 5 = some (0, rd1) := a1
    have a2 : f_X8_must md 0 5 = some md1 := a2
    rw [if_neg (fun y => z (e1.mp y)), if_pos (e2.mpr (by omega)), a1, xb, x_guard_pos (Or.inl rfl), a2, xb, e_on a3.er, xb]
    simp only
    rw [e_takes a3.er, xb]
    simp only
    rw [e_good a3.er, xb, if_pos rfl]
    exact Or.inr ⟨_, rd1, md1, mw, rfl, rfl, a3, a4, a5.f⟩
theorem time_err (hE : ER md) (mw : Int64) : ∀ (k d f : Nat) (md : SD), ER md → d + k = 5 → k < f → ∃ md', f_X8_timeLine_L6 f (nI d) md mw = some (md', mw) ∧ ∀ k j t, k ≠ 31 → md' k j t = md k j t := by
  intro k
  induction k with
  | zero =>
    intro d f md he hd hf
    obtain ⟨f, rfl⟩ : ∃ q, f = q + 1 := ⟨f - 1, by omega⟩
    have : d = 5 := by omega
    subst this
    rw [f_X8_timeLine_L6, if_pos (by decide)]
    exact ⟨md, rfl, fun _ _ _ _ => rfl⟩
  | succ k ih =>
    intro d f md he hd hf
    obtain ⟨f, rfl⟩ : ∃ q, f = q + 1 := ⟨f - 1, by omega⟩
    have e5 : ¬ (5 : Int32) ≤ nI d := fun y => by have := (nI_leI (a := 5) (by omega) (by omega)).mp y; omega
    rw [f_X8_timeLine_L6, if_neg e5, e_takes he, xb]
    simp (disch := omega) only [xl, xg, vinT, nI_clamp, la, ra]
    obtain ⟨c, c1, c2, c3⟩ := he
    obtain ⟨md', q1, q2⟩ := ih (d + 1) f (upS md 31 0 (1 + d) 0) ⟨c, c1, c2, (upS_k (by omega)).trans c3⟩ (by omega) (by omega)
    exact ⟨md', q1, fun k j t hk => by rw [q2 k j t hk, upS_k hk]⟩
theorem time_loop {md0 rd0 : SD} : ∀ (k d f f' x : Nat) (sd rd md : SD) (mw : Int64), d + k = 5 → k < f → k < f' → GS T E x rd md mw → LSt 1 sd md → RF rd0 rd → MF md0 md → md 8 0 25 = md0 8 0 25 → nv (md 31 0) 9 = nv (md0 31 0) 9 → ∀ x0, x0 < x → LOt T E x0 rd0 md0 (f_X5_readTimes_L2 f (nI d) sd rd) (f_X8_timeLine_L6 f' (nI d) md mw) := by
  intro k
  induction k with
  | zero =>
    intro d f f' x sd rd md mw hd hf hf' hG hL hRF hMF h25 h9 x0 hx0
    obtain ⟨f, rfl⟩ : ∃ q, f = q + 1 := ⟨f - 1, by omega⟩
    obtain ⟨f', rfl⟩ : ∃ q, f' = q + 1 := ⟨f' - 1, by omega⟩
    have : d = 5 := by omega
    subst this
    rw [f_X5_readTimes_L2, if_pos (by decide), f_X8_timeLine_L6, if_pos (by decide)]
    exact Or.inl ⟨sd, rd, md, mw, x, rfl, rfl, hx0, hG, hL, hRF, hMF, h25, h9⟩
  | succ k ih =>
    intro d f f' x sd rd md mw hd hf hf' hG hL hRF hMF h25 h9 x0 hx0
    obtain ⟨f, rfl⟩ : ∃ q, f = q + 1 := ⟨f - 1, by omega⟩
    obtain ⟨f', rfl⟩ : ∃ q, f' = q + 1 := ⟨f' - 1, by omega⟩
    obtain ⟨hI, hR, hF, hZ⟩ := hL
    have e5 : ¬ (5 : Int32) ≤ nI d := fun y => by have := (nI_leI (a := 5) (by omega) (by omega)).mp y; omega
    rw [f_X5_readTimes_L2, if_neg e5, f_X8_timeLine_L6, if_neg e5]
    rcases take_both hG 0 99 with ⟨rd2, md2, mw2, c1, c2, c3, c4, c5, c6, c7, c8⟩ | ⟨rd2, md2, c3, c4, c5, c6, c7⟩
    · obtain ⟨v, -, v2, v3⟩ := in_nat (a := 0) (b := 99) (by omega) c1 c2 (by omega)
      rw [v3] at c3 c4
      rw [c3, xb, c4, xb]
      simp (disch := omega) only [xl, xg, vinT, nI_clamp, la, ra]
      rw [if_neg (nm1' (by omega))]
      obtain ⟨i1, i2, i3⟩ := low_step (c := 1 + d) (v := v) (r' := (upS md2 31 0 (1 + d) (nI v)) 31 0) (sd' := upS sd 10 0 d (nI v)) hI hR hF (by omega) (fun i hi => by rw [row_up, rup_ne hi, c7.row31]) (by rw [row_up, rup_hit]) (fun z => by omega) (fun _ => v2) (fun k j t hn => by
        rw [if_neg (by omega), show 1 + d - 1 = d by omega] at hn
        unfold upS
        rw [if_neg hn]) (by
        rw [if_neg (by omega), show 1 + d - 1 = d by omega]
        exact upS_hit _ _ _ _ _)
      refine ih (d + 1) f f' _ _ rd2 _ mw2 (by omega) (by omega) (by omega) (c5.cg (up31 _ _ _)) ⟨i1, i2, i3, fun z => by omega⟩ (hRF.tr c6) (hMF.tr c7.f.r31) ?_ ?_ x0 (Nat.lt_trans hx0 c8)
      · rw [upS_k (by omega), c7 _ _ _ (by omega)]; exact h25
      · rw [row_up, nv_eq (rup_ne (by omega)), c7.row31]; exact h9
    · rw [c3, xb, c4, xb]
      simp (disch := omega) only [xl, xg, vinT, nI_clamp, la, ra]
      rw [if_pos trivial]
      obtain ⟨e, e1, e2, e3⟩ := c5.er
      have c5' : BD rd2 (upS md2 31 0 (1 + d) 0) := c5.cg (up31 _ _ _)
      obtain ⟨md', q1, q2⟩ := time_err c5'.er mw k (d + 1) f' (upS md2 31 0 (1 + d) 0) c5'.er (by omega) (by omega)
      exact Or.inr ⟨sd, rd2, md', mw, rfl, q1, c5'.cg q2, hRF.tr c6, hMF.tr (c7.f.r31.tr (fun k j t h1 _ => q2 k j t h1))⟩
theorem time_line (h : GC T E x rd md mw) (hk : tkK T E x ≠ 0) (hL : LSt n sd md) : LOt T E x rd md (f_X5_readTimes sd rd) (f_X8_timeLine md mw) := by
  have hx := gc_x h hk
  obtain ⟨md1, mw1, a1, a2, a3⟩ := h.on hk
  obtain ⟨hI, hR, hF, hZ⟩ := hL
  unfold f_X5_readTimes f_X8_timeLine
  rw [a1, xb]
  have := time_loop (md0 := md) (rd0 := rd) 5 0 fuel fuel (tkE T E x) sd rd md1 mw1 (by omega) (by unfold fuel; omega) (by unfold fuel; omega) a2 (by unfold LSt; rw [a3.row31]; exact ⟨hI, hR, hF, fun z => by omega⟩) (RF.rf _) a3.f (a3 _ _ _ (by omega)) (by rw [a3.row31]) x hx
  rw [nI_0] at this
  exact this
end LNS
