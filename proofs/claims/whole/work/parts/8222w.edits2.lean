/-! Layer 2: writing edits -/
section ED2
variable {F F' : Nat} {b b' : Nat} {cs : CT} {m md : SD} {sd : SD} {r r' : RW}
theorem ent_congr {p e n : Nat} (h8 : nv r' 8 = nv r 8) (h : ∀ k, k < nv r 8 → r' (249 + k) = r (249 + k) ∧ nv r' (269 + k) = nv r (269 + k)) : ent r' p e n = ent r p e n := by
  unfold ent
  rw [h8]
  refine cnt_congr (fun k hk => ?_)
  rw [(h k hk).1, (h k hk).2]
theorem ctV_1 {p n : Nat} (h : ctV r p n ≠ 0) : (nv r (79 + p) = 0 → nv r (69 + p) ≠ 8) ∧ n ≤ nv r (39 + p) - nv r (59 + p) ∧ ent r p (nv r (59 + p)) n ≤ nv r (49 + p) := by
  unfold ctV at h
  by_cases z : nv r (79 + p) = 0 ∧ nv r (69 + p) = 8
  · rw [if_pos z] at h; exact absurd rfl h
  · rw [if_neg z] at h
    by_cases y : nv r (39 + p) - nv r (59 + p) < n
    · rw [if_pos y] at h; exact absurd rfl h
    · rw [if_neg y] at h
      by_cases x : nv r (49 + p) < ent r p (nv r (59 + p)) n
      · rw [if_pos x] at h; exact absurd rfl h
      · exact ⟨fun w1 w2 => z ⟨w1, w2⟩, by omega, by omega⟩
theorem write_both {f p n : Nat} (hr : md 30 0 = r) (hI : InvF F r) (hR : RelF F b sd r) (hb : b < 2 ^ 28) (h0 : 0 < nv r 6) (hp : p < nv r 7) (hn : n ≤ 300) (hV : nv r 10 < 40) (hct : ctV r p n ≠ 0) (hf9 : f < nv r 9) (hf : f < F') (hFF : F ≤ F') (hF2 : ∀ g, g < F' → g ≠ f → g < F) (hF3 : F' ≤ 20) : ∃ sd' m', f_X4_writeVersion sd (nI f) (nI n) (nI p) = some sd' ∧ f_X8_writesOn md (nI f) (nI n) (nI p) = some m' ∧ MX md m' ∧ InvF F' (m' 30 0) ∧ RelF F' (b + 2) sd' (m' 30 0) ∧ nv (m' 30 0) 9 = nv r 9 := by
  obtain ⟨sd1, m1, d, hd, hq, e1, e2, hX, hI1, hR1, hfr, hck⟩ := mount_both hr hI hR hb h0 hp
  obtain ⟨hI2, hR2⟩ := clock_step hI1 hR1 ((m1 30 0) 12 + (m1 30 0) 5 * nI n)
  have l7 := hI.l7
  have l8 := hI.l8
  have hs : ∀ i, ¬ mec i → rup (m1 30 0) 12 ((m1 30 0) 12 + (m1 30 0) 5 * nI n) i = r i := fun i h => by
    rw [rup_ne (by unfold mec at h; omega)]; exact hfr i h
  obtain ⟨r2, hr2⟩ : ∃ r2, r2 = rup (m1 30 0) 12 ((m1 30 0) 12 + (m1 30 0) 5 * nI n) := ⟨_, rfl⟩
  rw [← hr2] at hI2 hR2 hs
  have hn2 : ∀ i, ¬ mec i → nv r2 i = nv r i := fun i h => nv_eq (hs i h)
  have n7 := hn2 7 (by unfold mec; omega)
  have n8 := hn2 8 (by unfold mec; omega)
  have n9 := hn2 9 (by unfold mec; omega)
  have n10 := hn2 10 (by unfold mec; omega)
  have n39 := hn2 (39 + p) (by unfold mec; omega)
  have n49 := hn2 (49 + p) (by unfold mec; omega)
  have n59 := hn2 (59 + p) (by unfold mec; omega)
  have n69 := hn2 (69 + p) (by unfold mec; omega)
  have n79 := hn2 (79 + p) (by unfold mec; omega)
  have hent : ∀ e k, ent r2 p e k = ent r p e k := fun e k => ent_congr n8 (fun k hk => ⟨hs _ (by unfold mec; omega), hn2 _ (by unfold mec; omega)⟩)
  obtain ⟨c1, c2, c3⟩ := ctV_1 hct
  have pl := hI.plt p hp
  have lc := pl.2.1.1.l
  have ln := pl.2.2.2.2.1.l
  have le := pl.2.2.2.1.2
  have hS : nv r2 (79 + p) = 0 → nv r2 (69 + p) < 8 := fun h => by rw [n79] at h; rw [n69]; have := c1 h; omega
  have hle : ent r2 p (nv r2 (59 + p)) n ≤ nv r2 (49 + p) := by rw [hent, n59, n49]; exact c3
  have hc : nv r2 (59 + p) + n ≤ nv r2 (39 + p) := by rw [n59, n39]; omega
  have hrow2 : (upS m1 30 0 12 ((m1 30 0) 12 + (m1 30 0) 5 * nI n)) 30 0 = r2 := by rw [row_up, hr2]
  obtain ⟨m3, g1, g2, g3⟩ := m_writesVersion (k0 := 30) (f := f) hrow2 hI2 (by omega) (by rw [n7]; exact hp) hn (by rw [n10]; exact hV) hS hle
  obtain ⟨sd3, k1, k2⟩ := c_addVersion (f := f) (n := n) hI2 hR2 (by rw [n9]; exact hf9) (by rw [n7]; exact hp) (by omega) (by rw [n10]; exact hV) hS hle
  have hI3 := WV_inv hI2 g3 (by rw [n7]; exact hp) hn (by rw [n10]; exact hV) hS hle hc hf hFF hF2 hF3
  have hR3 := WV_rel hI2 hR2 g3 k2 (by rw [n7]; exact hp) (by rw [n10]; exact hV) hS hf hF2 hF3
  refine ⟨sd3, m3, ?_, ?_, (hX.up (by omega)).tr g2.mx, hI3, hR3, ?_⟩
  · unfold f_X4_writeVersion
    rw [e1, xb, xl, hR1.s15, hR1.tm.2.2.2.2, k1, xb]
  · unfold f_X8_writesOn
    rw [e2, xb]
    simp only [xl]
    rw [g1, xb]
  · rw [← n9]
    have ln2 : nSe r2 p ≤ 9 := by unfold nSe; split <;> omega
    exact nv_eq (g3.1 9 (by omega) (by omega) (by omega) (by omega) (by omega) (by omega) (by omega) (by omega) (by omega) (by omega) (by omega) (by omega) (by omega) (by omega) (by omega))
theorem c_isSize (x : Int32) : f_X7_isSize x = some (szV x) := by
  unfold f_X7_isSize szV
  split
  · rfl
  · split <;> rfl
theorem c_writeProblem (hI : Inv r) (hR : Rel b sd r) {p n : Nat} (hp : p < nv r 7) (hn : n ≤ 300) : f_X7_writeProblem sd (nI n) (nI p) = some (if nv r 10 < 40 then (if r 6 = 0 then -1000007 else if ctV r p n = 0 then -1000008 else 0) else -1000003) := by
  have l7 := hI.l7
  have l10 := hI.l10
  unfold f_X7_writeProblem
  rw [hR.s9, hI.c10, hR.s3]
  simp (disch := omega) only [rlt, xg, vinT, nI_clamp, c_canTake hI hR hp hn, xb]
  split
  · split
    · rfl
    · split <;> rfl
  · rfl
theorem m_whyNotWritten (hr : md 30 0 = r) (hI : Inv r) {p n : Nat} (hp : p < nv r 7) (h1 : 0 < n) (hn : n ≤ 300) (x : Int32) : f_X8_whyNotWritten md (nI n) (nI p) x = some (if x = 0 then (if r 6 = 0 then -1000007 else if ctV r p n = 0 then -1000008 else 0) else -1000003) := by
  have l7 := hI.l7
  unfold f_X8_whyNotWritten
  rw [m_isPlatter hr hI, xb, hasV_in hp (by omega), if_neg (by decide), isInS, xb, szV_in h1 hn, if_neg (by decide), m_canWrite hr hI hp hn, xb, hr]
  split
  · split
    · rfl
    · split <;> rfl
  · rfl
theorem m_wnw0 (hr : md 30 0 = r) (hI : Inv r) (a c x : Int32) (h : hasV c (nv r 7) = 0) : f_X8_whyNotWritten md a c x = some (-1000001) := by
  unfold f_X8_whyNotWritten
  rw [m_isPlatter hr hI, xb, h, if_pos rfl]
theorem m_wnw1 (hr : md 30 0 = r) (hI : Inv r) (a c x : Int32) (h : hasV c (nv r 7) = 1) (hz : szV a = 0) : f_X8_whyNotWritten md a c x = some (-1000002) := by
  unfold f_X8_whyNotWritten
  rw [m_isPlatter hr hI, xb, h, if_neg (by decide), isInS, xb, hz, if_pos rfl]
theorem st_write (hJ : JJ b cs m) (hb : b < 2 ^ 27) (a c x : Int32) : ST (b + 64) (f_X7_write cs a c x) (f_X8_write m a c x) := by
  obtain ⟨m1, e1, r1, s1⟩ := thr m
  obtain ⟨cs1, m2, f1, c1, q1, q2, hrow, hI, hR0, hR, hx, q3, q4, q5, q6, q7⟩ := edit_go hJ s1
  have l7 := hI.l7
  have l9 := hI.l9
  have l10 := hI.l10
  unfold f_X7_write f_X8_write
  rw [c_hasFile hI hR0, xb, xl, e1, m_isFile rfl hI, xb]
  rcases hasV_cases a (n := nv (m1 30 0) 9) (by omega) with h | ⟨h, f, hf, rfl⟩
  · rw [h, if_pos rfl, if_pos rfl]
    exact ⟨_, _, _, rfl, rfl, (hJ.same s1).more (by omega)⟩
  · rw [h, if_neg i1, if_neg i1, c_hasPlatter hI hR0, xb]
    simp only [xl]
    rcases hasV_cases x (n := nv (m1 30 0) 7) (by omega) with g | ⟨g, p, hp, rfl⟩
    · simp only [g, if_true, m_wnw0 rfl hI _ _ _ g, xb]
      refine ⟨_, _, m1, rfl, ?_, (hJ.same s1).more (by omega)⟩
      split <;> rfl
    · simp only [g, i10, if_false, c_isSize, xb]
      rcases szV_cases c with y | ⟨y, n, n0, n3, rfl⟩
      · simp only [y, if_true, m_wnw1 rfl hI _ _ _ g y, xb]
        refine ⟨_, _, m1, rfl, ?_, (hJ.same s1).more (by omega)⟩
        split <;> rfl
      · simp only [y, i10, if_false]
        rw [c_writeProblem hI hR0 hp n3, m_whyNotWritten rfl hI hp n0 n3, m_whyNotWritten rfl hI hp n0 n3, hI.c10]
        simp only [xb]
        by_cases z : nv (m1 30 0) 10 < 40
        · have z1 : ¬ nI (nv (m1 30 0) 10) = 40 := by rw [req (k := 40) (by decide) (by omega)]; show ¬ nv (m1 30 0) 10 = 40; omega
          rw [if_pos z, if_neg z1]
          first | rw [if_pos rfl] | rw [if_pos trivial]
          by_cases w : (m1 30 0) 6 = 0
          · rw [if_pos w, if_neg (by decide), if_neg (by decide)]
            exact ⟨_, _, _, rfl, rfl, (hJ.same s1).more (by omega)⟩
          · rw [if_neg w]
            by_cases v : ctV (m1 30 0) p n = 0
            · rw [if_pos v, if_neg (by decide), if_neg (by decide)]
              exact ⟨_, _, _, rfl, rfl, (hJ.same s1).more (by omega)⟩
            · rw [if_neg v, if_pos rfl, if_pos rfl, q1, xb, q2, xb]
              have h0 : 0 < nv (m1 30 0) 6 := Nat.pos_of_ne_zero (fun y => w ((z6 hI).mpr y))
              obtain ⟨sd', m3, g1, g2, hX, hI3, hR3, n9⟩ := write_both (f := f) (F' := nv (m1 30 0) 9) hrow hI hR (by omega) h0 hp n3 z v hf hf (Nat.le_refl _) (fun _ h _ => h) l9
              rw [g1, xb, g2, xb]
              refine ⟨_, _, m3, rfl, ?_, hJ.edit s1 (by omega) q3 q4 q5 q6 q7 hX (inv_of hI3 n9) ((rel_of hR3 n9).more (by omega))⟩
              unfold f_X8_took
              rw [xb, hR3.s15, hR.s15, hrow]
        · have z1 : nI (nv (m1 30 0) 10) = 40 := by rw [req (k := 40) (by decide) (by omega)]; show nv (m1 30 0) 10 = 40; omega
          rw [if_neg z, if_pos z1, if_neg i1, if_neg (by decide), if_neg (by decide)]
          exact ⟨_, _, _, rfl, rfl, (hJ.same s1).more (by omega)⟩
theorem files_step (hI : Inv r) (hR : Rel b sd r) (hF : nv r 9 < 20) : InvF (nv r 9) (rup r 9 (nI (nv r 9 + 1))) ∧ RelF (nv r 9) b (upS sd 4 0 11 (nI (nv r 9 + 1))) (rup r 9 (nI (nv r 9 + 1))) := by
  have l6 := hI.l6
  have l7 := hI.l7
  have l8 := hI.l8
  have l10 := hI.l10
  have l16 := hI.l16
  have a0 : ∀ i, i ≠ 9 → rup r 9 (nI (nv r 9 + 1)) i = r i := fun i h => rup_ne h
  have a9 : rup r 9 (nI (nv r 9 + 1)) 9 = nI (nv r 9 + 1) := rup_hit _ _ _
  have w0 : ∀ k j t, ¬ (k = 4 ∧ j = 0 ∧ t = 11) → upS sd 4 0 11 (nI (nv r 9 + 1)) k j t = sd k j t := fun k j t h => by simp only [upS]; rw [if_neg h]
  have w11 : upS sd 4 0 11 (nI (nv r 9 + 1)) 4 0 11 = nI (nv r 9 + 1) := upS_hit _ _ _ _ _
  have hI : InvF (nv r 9) r := hI
  have hR : RelF (nv r 9) b sd r := hR
  generalize hF9 : nv r 9 = F at *
  generalize rup r 9 (nI (F + 1)) = r' at a0 a9 ⊢
  generalize upS sd 4 0 11 (nI (F + 1)) = sd' at w0 w11 ⊢
  have b0 : ∀ i, i ≠ 9 → nv r' i = nv r i := fun i k1 => nv_eq (a0 i k1)
  refine ⟨⟨?_, ?_, ?_, ?_, ?_, ?_, ?_, ?_, ?_, ?_, ?_, ?_, hI.lF⟩, ?_, ?_, ?_, ?_, ?_, ?_, ?_, ?_, ?_, ?_⟩
  · have g := hI.1
    have i9 : isN r' 9 20 := isN_nI a9 (by omega) (by omega)
    unfold I_cnt at g ⊢
    unfold isN at g ⊢
    unfold isN at i9
    simp (disch := omega) only [a0, b0]
    exact ⟨g.1, g.2.1, g.2.2.1, g.2.2.2.1, g.2.2.2.2.1, i9, g.2.2.2.2.2.2⟩
  · have g := hI.tim
    unfold I_tim isN at g ⊢
    simp (disch := omega) only [a0, b0]
    exact g
  · have g := hI.pick
    unfold I_pick isN at g ⊢
    simp (disch := omega) only [a0, b0]
    exact g
  · intro d hd
    simp (disch := omega) only [b0] at hd
    have g := hI.drv d hd
    unfold isN at g ⊢
    simp (disch := omega) only [a0, b0]
    exact g
  · intro d e hd he
    simp (disch := omega) only [b0] at hd he
    simp (disch := omega) only [a0]
    exact hI.drd d e hd he
  · intro q hq
    simp (disch := omega) only [b0] at hq
    have g := hI.plt q hq
    unfold isN at g ⊢
    simp (disch := omega) only [a0, b0]
    exact g
  · intro x y hx hy hxy
    simp (disch := omega) only [b0] at hx hy
    simp (disch := omega) only [a0] at hxy
    exact hI.hom x y hx hy hxy
  · intro k hk
    simp (disch := omega) only [b0] at hk
    have g := hI.bad k hk
    unfold isN at g ⊢
    simp (disch := omega) only [a0, b0]
    exact g
  · intro k l hk hl h3 h4
    simp (disch := omega) only [b0] at hk hl
    simp (disch := omega) only [a0] at h3 h4
    exact hI.bdd k l hk hl h3 h4
  · intro g hg
    have w := hI.cur g hg
    unfold isN at w ⊢
    simp (disch := omega) only [a0, b0]
    exact w
  · intro v hv
    simp (disch := omega) only [b0] at hv
    have g := hI.ver v hv
    unfold isN at g ⊢
    simp (disch := omega) only [a0, b0]
    exact g
  · intro q hq
    simp (disch := omega) only [b0] at hq
    have w := hI.req q hq
    unfold isN at w ⊢
    simp (disch := omega) only [a0, b0]
    exact w
  · have g := hR.sc
    unfold R_sc at g ⊢
    rw [w11, a9]
    simp (disch := omega) only [a0, w0]
    exact ⟨g.1, g.2.1, g.2.2.1, g.2.2.2.1, g.2.2.2.2.1, trivial, g.2.2.2.2.2.2⟩
  · have g := hR.tm
    unfold R_tm at g ⊢
    simp (disch := omega) only [a0, w0]
    exact g
  · intro d hd
    simp (disch := omega) only [b0] at hd
    simp (disch := omega) only [a0, w0]
    exact hR.dr d hd
  · refine us_same hR.us (Nat.le_refl _) (b0 6 (by omega)) (w0 _ _ _ (by omega)) (fun e => w0 _ _ _ (by omega)) (a0 _ (by omega)) (fun e he => a0 _ (by omega))
  · intro q hq
    simp (disch := omega) only [b0] at hq
    have g := hR.pl q hq
    simp (disch := omega) only [a0, w0]
    exact g
  · intro q t hq ht
    simp (disch := omega) only [b0] at hq
    simp (disch := omega) only [b0] at ht
    have g := hR.se q t hq ht
    simp (disch := omega) only [a0, w0]
    exact g
  · intro q u hq hu
    simp (disch := omega) only [b0] at hq
    have g := hR.bd q u hq hu
    unfold bdc bdm at g ⊢
    simp (disch := omega) only [a0, b0, w0]
    exact g
  · intro g hg
    have e := hR.cu g hg
    simp (disch := omega) only [a0, w0]
    exact e
  · intro v hv
    simp (disch := omega) only [b0] at hv
    have e := hR.ve v hv
    simp (disch := omega) only [a0, w0]
    exact e
  · intro q hq
    simp (disch := omega) only [b0] at hq
    have e := hR.rq q hq
    simp (disch := omega) only [a0, w0]
    exact e
end ED2
