/-! Layer 2: mounting, reading, emptying, on both sides -/
section MNT
variable {F : Nat} {b b' : Nat} {sd sd' md : SD} {r r' : RW}
theorem brC_use (sd : SD) (p d : Nat) (tm mv : Int32) : (brC sd p d tm mv) 4 0 4 = sd 4 0 4 ∧ ∀ e, (brC sd p d tm mv) 0 e 2 = sd 0 e 2 := by
  unfold brC
  refine ⟨?_, fun e => ?_⟩ <;> simp (disch := omega) only [upS_k, upS_t]
theorem usC_top (hI : InvF F r) (hR : RelF F b sd r) (hb : b < 2 ^ 29) {d : Nat} (hd : d < nv r 6) : ∀ e, e < nv r 6 → e ≠ d → ns (usC sd d) 0 e 2 < ns (usC sd d) 0 d 2 := by
  obtain ⟨c1, c2, c3⟩ := usC_cells sd d
  obtain ⟨⟨u1, u2⟩, u3, u4, u5⟩ := hR.us
  intro e he hne
  have h1 := (u4 e he).1.2
  have e1 : ns (usC sd d) 0 e 2 = ns sd 0 e 2 := by unfold ns; rw [c1 0 e 2 (by omega) (by omega)]
  have e2 : ns (usC sd d) 0 d 2 = ns sd 4 0 4 + 1 := by
    have h : usC sd d 0 d 2 = nI (ns sd 4 0 4 + 1) := by rw [c3, u1, nI_1]
    show (usC sd d 0 d 2).toNatClampNeg = _
    rw [h, nI_clamp (by omega)]
  rw [e1, e2]
  omega
theorem mount_both (hr : md 30 0 = r) (hI : InvF F r) (hR : RelF F b sd r) (hb : b < 2 ^ 28) (h0 : 0 < nv r 6) {p : Nat} (hp : p < nv r 7) : ∃ sd' m' d, d < nv r 6 ∧ chQ r p = nI d ∧ f_X4_bringToChosen sd (nI p) = some sd' ∧ f_X8_mounts md (nI p) = some (nI d, m') ∧ MX md m' ∧ InvF F (m' 30 0) ∧ RelF F (b + 2) sd' (m' 30 0) ∧ (∀ i, ¬ mec i → m' 30 0 i = r i) ∧ (m' 30 0) 12 = r 12 + (if holdQ r (nI p) = -1 then nI (btm r p d) else 0) := by
  have l6 := hI.l6
  obtain ⟨d, hd, hq, hc⟩ := chQ_cases h0 p
  have hU := hR.useN (by omega)
  have e1 : f_X4_driveToChoose sd (nI p) = some (nI d) := by rw [c_driveToChoose hI hR (by omega) h0, hq]
  have e2 : f_X8_chosen md (nI p) = some (nI d) := by rw [m_chosen hr hI hU h0, hq]
  have ne : ¬ (nI d = -1) := by rw [nm1 (by omega)]; exact id
  rcases hc with ⟨hh, hn⟩ | ⟨hh, hq2, hn⟩
  · obtain ⟨m1, f1, g1, q1⟩ := m_brings hr hI hp hd
    obtain ⟨m2, f2, g2, q2⟩ := m_uses q1 (d := d) (by omega)
    obtain ⟨i1, s1⟩ := br_step hI hR hp hd hn
    have d6 : nv (br0 r p d) 6 = nv r 6 := nv_eq (by unfold br0; simp (disch := omega) only [rup_ne])
    obtain ⟨i2, s2⟩ := use_step i1 s1 (by omega) (d := d) (by omega)
    have d7 : nv (useR (br0 r p d) d) 6 = nv r 6 := by rw [nv_eq ((use_rows d (by omega) (br0 r p d)).1 6 (by omega) (by omega)), d6]
    have top := usC_top i1 s1 (by omega) (d := d) (by omega)
    obtain ⟨i3, s3⟩ := use_more i2 s2 (by omega) (d := d) (by omega) (fun e he hne => top e (by omega) hne)
    refine ⟨usC (brC sd p d (nI (btm r p d)) (nI (mvs r p d))) d, m2, d, hd, hq, ?_, ?_, g1.tr g2, by rw [q2]; exact i3, by rw [q2]; exact s3, fun i hi => ?_, ?_⟩
    · unfold f_X4_bringToChosen
      rw [e1, xb, if_neg ne, c_bringInto hI hR hp hd (hn d hd), xb]
    · unfold f_X8_mounts
      rw [e2, xb, m_inDrive hr hI, xb]
      simp only [xl]
      rw [if_pos hh, f1, xb, f2, xb]
    · rw [q2]
      unfold mec at hi
      obtain ⟨a1, -, -⟩ := use_rows d (by omega) (useR (br0 r p d) d)
      obtain ⟨c1, -, -⟩ := use_rows d (by omega) (br0 r p d)
      rw [a1 i (by omega) (by omega), c1 i (by omega) (by omega)]
      unfold br0
      simp (disch := omega) only [rup_ne]
    · rw [q2, if_pos hh]
      obtain ⟨a1, -, -⟩ := use_rows d (by omega) (useR (br0 r p d) d)
      obtain ⟨c1, -, -⟩ := use_rows d (by omega) (br0 r p d)
      rw [a1 12 (by omega) (by omega), c1 12 (by omega) (by omega)]
      unfold br0
      simp (disch := omega) only [rup_ne, rup_hit]
  · obtain ⟨m2, f2, g2, q2⟩ := m_uses hr (d := d) (by omega)
    obtain ⟨i2, s2⟩ := use_step hI hR (by omega) hd
    refine ⟨usC sd d, m2, d, hd, hq, ?_, ?_, g2, by rw [q2]; exact i2, ?_, fun i hi => ?_, ?_⟩
    · unfold f_X4_bringToChosen
      rw [e1, xb, if_neg ne, c_bringSame hI hR hd hn, xb]
    · unfold f_X8_mounts
      rw [e2, xb, m_inDrive hr hI, xb]
      simp only [xl]
      rw [if_neg hh, f2, xb]
    · rw [q2]
      exact ⟨s2.1, s2.2.1, s2.2.2.1, us_same s2.us (by omega) rfl rfl (fun _ => rfl) rfl (fun _ _ => rfl), s2.2.2.2.2⟩
    · rw [q2]
      unfold mec at hi
      exact (use_rows d (by omega) r).1 i (by omega) (by omega)
    · rw [q2, if_neg hh, (use_rows d (by omega) r).1 12 (by omega) (by omega)]
      grind
theorem c_currentVersion (hI : InvF F r) (hR : RelF F b sd r) {f : Nat} (hf : f < F) : f_X4_currentVersion sd (nI f) = some (nv r (289 + f)) := by
  have l9 := hI.lF
  have l10 := hI.l10
  obtain ⟨x1, x2⟩ := hI.cur f hf
  unfold f_X4_currentVersion
  simp (disch := omega) only [xg, vinT, nI_clamp, hR.cu f hf, x1.e]
theorem m_version (hr : md 30 0 = r) (hI : InvF F r) {f : Nat} (hf : f < F) : f_X8_version md (nI f) = some (nI (nv r (289 + f))) := by
  have l9 := hI.lF
  obtain ⟨x1, x2⟩ := hI.cur f hf
  unfold f_X8_version
  rw [hr]
  simp (disch := omega) only [xg, vinT, la, nI_clamp, x1.e]
theorem m_platterOf (hr : md 30 0 = r) (hI : InvF F r) {f : Nat} (hf : f < F) : f_X8_platterOf md (nI f) = some (nI (nv r (349 + nv r (289 + f)))) := by
  have l10 := hI.l10
  obtain ⟨x1, x2⟩ := hI.cur f hf
  have y := (hI.ver _ x2).2.1.1
  unfold f_X8_platterOf
  rw [m_version hr hI hf, xb, hr]
  simp (disch := omega) only [xg, vinT, la, nI_clamp, y.e]
/-- how long the sectors of a version take -/
def rdT (r : RW) (v : Nat) : Int32 := r 4 * (r (429 + v) + r (509 + v))
theorem c_sectors (hI : InvF F r) (hR : RelF F b sd r) {v : Nat} (hv : v < nv r 10) : f_X4_sectorsReadTime sd v = some (rdT r v) := by
  unfold f_X4_sectorsReadTime rdT
  rw [hR.tm.2.2.2.1, (hR.ve v hv).2.2.2.1, (hR.ve v hv).2.2.2.2.2.1]
theorem read_both (hr : md 30 0 = r) (hI : InvF F r) (hR : RelF F b sd r) (hb : b < 2 ^ 28) (h0 : 0 < nv r 6) {f : Nat} (hf : f < F) : ∃ sd' m' d, d < nv r 6 ∧ chQ r (nv r (349 + nv r (289 + f))) = nI d ∧ f_X4_readFile sd (nI f) = some sd' ∧ f_X8_reads md (nI f) = some m' ∧ MX md m' ∧ InvF F (m' 30 0) ∧ RelF F (b + 2) sd' (m' 30 0) ∧ (∀ i, ¬ mec i → m' 30 0 i = r i) ∧ (m' 30 0) 12 = r 12 + (if holdQ r (nI (nv r (349 + nv r (289 + f)))) = -1 then nI (btm r (nv r (349 + nv r (289 + f))) d) else 0) + rdT r (nv r (289 + f)) := by
  have l10 := hI.l10
  obtain ⟨x1, x2⟩ := hI.cur f hf
  obtain ⟨y1, y2⟩ := (hI.ver _ x2).2.1
  obtain ⟨sd1, m1, d, hd, hq, e1, e2, hX, hI1, hR1, hfr, hck⟩ := mount_both hr hI hR hb h0 y2
  have n9 : nv (m1 30 0) 9 = nv r 9 := nv_eq (hfr 9 (by unfold mec; omega))
  have n10 : nv (m1 30 0) 10 = nv r 10 := nv_eq (hfr 10 (by unfold mec; omega))
  have n289 : nv (m1 30 0) (289 + f) = nv r (289 + f) := nv_eq (hfr _ (by unfold mec; omega))
  have hv : m1 30 0 = m1 30 0 := rfl
  have e3 := m_version (md := m1) rfl hI1 (f := f) hf
  have e4 := c_sectors hI1 hR1 (v := nv r (289 + f)) (by rw [n10]; exact x2)
  obtain ⟨hI2, hR2⟩ := clock_step hI1 hR1 ((m1 30 0) 12 + rdT (m1 30 0) (nv r (289 + f)))
  have hT : rdT (m1 30 0) (nv r (289 + f)) = rdT r (nv r (289 + f)) := by
    unfold rdT
    rw [hfr 4 (by unfold mec; omega), hfr _ (by unfold mec; omega), hfr _ (by unfold mec; omega)]
  refine ⟨upS sd1 4 0 15 ((m1 30 0) 12 + rdT (m1 30 0) (nv r (289 + f))), upS m1 30 0 12 ((m1 30 0) 12 + rdT (m1 30 0) (nv r (289 + f))), d, hd, hq, ?_, ?_, hX.up (by omega), ?_, ?_, fun i hi => ?_, ?_⟩
  · unfold f_X4_readFile
    rw [c_currentVersion hI hR hf, xb, (hR.ve _ x2).2.1, y1.e, e1, xb, e4, xb]
    simp only [xl]
    rw [hR1.s15]
  · unfold f_X8_reads
    rw [m_platterOf hr hI hf, xb, e2, xb]
    show x_bind (f_X8_version m1 (nI f)) _ = _
    rw [e3, xb, n289]
    simp (disch := omega) only [xl, xg, vinT, la, nI_clamp]
    rfl
  · rw [row_up]
    exact hI2
  · rw [row_up]
    exact hR2
  · rw [row_up, rup_ne (by unfold mec at hi; omega)]
    exact hfr i hi
  · rw [row_up, rup_hit, hck, hT]
/-- a drive is emptied -/
def emC (sd : SD) (d q : Nat) (tm mv : Int32) : SD := upS (upS (upS (upS sd 4 0 15 (sd 4 0 15 + tm)) 4 0 17 (sd 4 0 17 + mv)) 4 0 14 (sd 3 q 0)) 0 d 1 (-1)
theorem empty_both (hr : md 30 0 = r) (hI : InvF F r) (hR : RelF F b sd r) {d : Nat} (hd : d < nv r 6) (hne : r (21 + d) ≠ -1) : ∃ sd' m', f_X4_carryHome sd (nI d) = some sd' ∧ f_X8_empties md (nI d) = some m' ∧ MX md m' ∧ InvF F (m' 30 0) ∧ RelF F b sd' (m' 30 0) := by
  have l6 := hI.l6
  have l7 := hI.l7
  obtain ⟨⟨x1, x2⟩, x3⟩ := hI.drv d hd
  rcases x3 with h | ⟨z1, z2⟩
  · exact absurd h hne
  obtain ⟨w1, w2⟩ := (hI.plt _ z2).1
  obtain ⟨t1, t2, t3, t4, t5⟩ := hI.tim
  have k1 := hI.pick.1
  have b1 := x1.l
  have b3 := k1.l
  have b4 := w1.l
  have b5 := z1.l
  obtain ⟨m1, e1, f1, a1, a11, a12, a14, a21⟩ := m_empties hr hI hd z1.e z2
  refine ⟨emC sd d (nv r (21 + d)) (nI (dst (nv r 11) (nv r (17 + d)) + dst (nv r (17 + d)) (nv r (29 + nv r (21 + d)))) * r 1 + 2 * r 2) (nI (dst (nv r 11) (nv r (17 + d)) + dst (nv r (17 + d)) (nv r (29 + nv r (21 + d))))), m1, ?_, e1, f1, ?_, ?_⟩
  · unfold f_X4_carryHome emC
    simp (disch := omega) only [xl, xg, vinT, nI_clamp, (hR.dr d hd).1, (hR.dr d hd).2, hR.s14, x1.e, k1.e]
    rw [if_neg hne, z1.e]
    simp (disch := omega) only [xl, xg, vinT, nI_clamp, (hR.pl _ z2).1, w1.e, c_abs, nI_add, hR.tm.1, hR.tm.2.1]
    congr 1
  all_goals
    generalize m1 30 0 = r1 at a1 a11 a12 a14 a21 ⊢
    have hf : ∀ i, ¬ mec i → r1 i = r i := fun i h => by unfold mec at h; exact a1 i (by omega) (by omega) (by omega) (by omega)
    have hn : ∀ i, i ≠ 11 → i ≠ 12 → i ≠ 14 → i ≠ 21 + d → nv r1 i = nv r i := fun i h1 h2 h3 h4 => nv_eq (a1 i h1 h2 h3 h4)
  · refine hI.mech hf ?_ (fun e h => ?_) (fun e f h1 h2 h3 => ?_)
    · have e11 := nv_of a11 (by omega)
      unfold I_pick
      rw [e11, hn 0 (by omega) (by omega) (by omega) (by omega)]
      exact ⟨isN_nI a11 (by omega) (by omega), w2⟩
    · by_cases z : e = d
      · subst z
        exact Or.inl a21
      · have := (hI.drv e h).2
        unfold isN at this ⊢
        simp (disch := omega) only [hn, a1]
        exact this
    · by_cases z : e = d
      · subst z
        exact Or.inr a21
      · by_cases z2 : f = d
        · subst z2
          exact Or.inr (h3.trans a21)
        · simp (disch := omega) only [a1] at h3 ⊢
          exact hI.drd e f h1 h2 h3
  · refine hR.mech hI hf (fun k j t h1 h2 => ?_) (fun t h => ?_) ?_ (fun e h => ?_) ?_
    · unfold emC
      simp (disch := omega) only [upS_k]
    · unfold emC
      simp (disch := omega) only [upS_k, upS_t]
    · rw [a11, a12, a14, a1 13 (by omega) (by omega) (by omega) (by omega)]
      unfold emC
      simp (disch := omega) only [upS_k, upS_t, upS_hit]
      exact ⟨by rw [(hR.pl _ z2).1]; exact w1.e, by rw [hR.s15], hR.s16, by rw [hR.s17]⟩
    · unfold emC
      by_cases z : e = d
      · subst z
        simp (disch := omega) only [upS_k, upS_t, upS_hit, a21]
        exact ⟨(hR.dr e h).1, trivial⟩
      · simp (disch := omega) only [upS_k, upS_j, a1]
        exact hR.dr e h
    · refine us_same hR.us (Nat.le_refl _) (hn 6 (by omega) (by omega) (by omega) (by omega)) ?_ (fun e => ?_) (a1 15 (by omega) (by omega) (by omega) (by omega)) (fun e he => a1 _ (by omega) (by omega) (by omega) (by omega))
      · unfold emC
        simp (disch := omega) only [upS_k, upS_t]
      · unfold emC
        simp (disch := omega) only [upS_k, upS_t]
end MNT
