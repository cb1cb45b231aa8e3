/-! Layer 2: the other edits -/
section ED3
variable {F : Nat} {b b' : Nat} {cs : CT} {m md : SD} {sd sd' : SD} {r r' : RW}
theorem st_create (hJ : JJ b cs m) (hb : b < 2 ^ 27) (c x : Int32) : ST (b + 64) (f_X7_create cs c x) (f_X8_create m c x) := by
  obtain ⟨m1, e1, r1, s1⟩ := thr m
  obtain ⟨cs1, m2, f1, c1, q1, q2, hrow, hI, hR0, hR, hx, q3, q4, q5, q6, q7⟩ := edit_go hJ s1
  have l7 := hI.l7
  have l9 := hI.l9
  have l10 := hI.l10
  unfold f_X7_create f_X8_create
  rw [c_hasPlatter hI hR0, xb, xl, e1]
  simp only [xl]
  rcases hasV_cases x (n := nv (m1 30 0) 7) (by omega) with g | ⟨g, p, hp, rfl⟩
  · simp only [g, if_true, m_wnw0 rfl hI _ _ _ g, xb]
    refine ⟨_, _, m1, rfl, ?_, (hJ.same s1).more (by omega)⟩
    split
    · rfl
    · split <;> rfl
  · simp only [g, i10, if_false, c_isSize, xb]
    rcases szV_cases c with y | ⟨y, n, n0, n3, rfl⟩
    · simp only [y, if_true, m_wnw1 rfl hI _ _ _ g y, xb]
      refine ⟨_, _, m1, rfl, ?_, (hJ.same s1).more (by omega)⟩
      split
      · rfl
      · split <;> rfl
    · simp only [y, i10, if_false]
      rw [c_writeProblem hI hR0 hp n3, m_whyNotWritten rfl hI hp n0 n3, m_whyNotWritten rfl hI hp n0 n3, hI.c10, hI.c9, hR0.s11, hI.c9]
      simp only [xb]
      by_cases z9 : nv (m1 30 0) 9 < 20
      · have y9 : ¬ nI (nv (m1 30 0) 9) = 20 := by rw [req (k := 20) (by decide) (by omega)]; show ¬ nv (m1 30 0) 9 = 20; omega
        have x9 : nI (nv (m1 30 0) 9) < 20 := by rw [rlt (k := 20) (by decide) (by omega)]; exact z9
        rw [if_pos x9, if_neg y9]
        by_cases z : nv (m1 30 0) 10 < 40
        · have z1 : ¬ nI (nv (m1 30 0) 10) = 40 := by rw [req (k := 40) (by decide) (by omega)]; show ¬ nv (m1 30 0) 10 = 40; omega
          rw [if_pos z, if_neg z1]
          first | rw [if_pos rfl] | rw [if_pos trivial]
          by_cases w : (m1 30 0) 6 = 0
          · rw [if_pos w, if_neg (by decide), if_neg (by decide)]
            exact ⟨_, _, _, rfl, rfl, (hJ.same s1).more (by omega)⟩
          · rw [if_neg w]
            by_cases v : ctV (m1 30 0) p n = 0
            · rw [if_pos v, if_neg (by decide), if_neg (by decide)]
              exact ⟨_, _, _, rfl, rfl, (hJ.same s1).more (by omega)⟩
            · rw [if_neg v, if_pos rfl, if_pos rfl, q1, xb, q2, xb]
              try simp only [xl]
              have h0 : 0 < nv (m1 30 0) 6 := Nat.pos_of_ne_zero (fun y => w ((z6 hI).mpr y))
              obtain ⟨hIf, hRf⟩ := files_step hI hR z9
              have hrow2 : (upS m2 30 0 9 (nI (nv (m1 30 0) 9 + 1))) 30 0 = rup (m1 30 0) 9 (nI (nv (m1 30 0) 9 + 1)) := by rw [row_up, hrow]
              have hn : ∀ i, i ≠ 9 → nv (rup (m1 30 0) 9 (nI (nv (m1 30 0) 9 + 1))) i = nv (m1 30 0) i := fun i h => nv_eq (rup_ne h)
              have hn9 : nv (rup (m1 30 0) 9 (nI (nv (m1 30 0) 9 + 1))) 9 = nv (m1 30 0) 9 + 1 := nv_of (rup_hit _ _ _) (by omega)
              have hct : ctV (rup (m1 30 0) 9 (nI (nv (m1 30 0) 9 + 1))) p n = ctV (m1 30 0) p n := by
                unfold ctV
                rw [hn (79 + p) (by omega), hn (69 + p) (by omega), hn (39 + p) (by omega), hn (59 + p) (by omega), hn (49 + p) (by omega), ent_congr (hn 8 (by omega)) (fun k hk => ⟨rup_ne (by omega), hn _ (by omega)⟩)]
              obtain ⟨sd', m3, g1, g2, hX, hI3, hR3, n9⟩ := write_both (f := nv (m1 30 0) 9) (F' := nv (m1 30 0) 9 + 1) (n := n) (p := p) hrow2 hIf hRf (by omega) (by rw [hn 6 (by omega)]; exact h0) (by rw [hn 7 (by omega)]; exact hp) n3 (by rw [hn 10 (by omega)]; exact z) (by rw [hct]; exact v) (by rw [hn9]; omega) (by omega) (by omega) (fun g h1 h2 => by omega) (by omega)
              rw [hR.s11, hI.c9, nI_1, hrow, hI.c9, nI_1, g1, xb, g2, xb]
              rw [hn9] at n9
              exact ⟨_, _, m3, rfl, rfl, hJ.edit s1 (by omega) q3 q4 q5 q6 q7 (((MX.rf m2).up (by omega)).tr hX) (inv_of hI3 n9) ((rel_of hR3 n9).more (by omega))⟩
        · have z1 : nI (nv (m1 30 0) 10) = 40 := by rw [req (k := 40) (by decide) (by omega)]; show nv (m1 30 0) 10 = 40; omega
          rw [if_neg z, if_pos z1, if_neg i1, if_neg (by decide), if_neg (by decide)]
          exact ⟨_, _, _, rfl, rfl, (hJ.same s1).more (by omega)⟩
      · have y9 : nI (nv (m1 30 0) 9) = 20 := by rw [req (k := 20) (by decide) (by omega)]; show nv (m1 30 0) 9 = 20; omega
        have x9 : ¬ nI (nv (m1 30 0) 9) < 20 := by rw [rlt (k := 20) (by decide) (by omega)]; exact z9
        rw [if_neg x9, if_pos y9, if_neg i1, if_neg (by decide)]
        exact ⟨_, _, _, rfl, rfl, (hJ.same s1).more (by omega)⟩
theorem st_closeSession (hJ : JJ b cs m) (hb : b < 2 ^ 27) (a : Int32) : ST (b + 64) (f_X7_closeSession cs a) (f_X8_closeSession m a) := by
  obtain ⟨m1, e1, r1, s1⟩ := thr m
  obtain ⟨cs1, m2, f1, c1, q1, q2, hrow, hI, hR0, hR, hx, q3, q4, q5, q6, q7⟩ := edit_go hJ s1
  have l7 := hI.l7
  unfold f_X7_closeSession f_X8_closeSession
  rw [c_hasPlatter hI hR0, xb, xl, e1, m_isPlatter rfl hI, xb]
  rcases hasV_cases a (n := nv (m1 30 0) 7) (by omega) with h | ⟨h, p, hp, rfl⟩
  · rw [h, if_pos rfl, if_pos rfl]
    exact ⟨_, _, _, rfl, rfl, (hJ.same s1).more (by omega)⟩
  · rw [h, if_neg i1, if_neg i1, hR0.s3]
    simp (disch := omega) only [xg, vinT, la, nI_clamp, (hR0.pl p hp).2.2.2.2.2]
    by_cases y : (m1 30 0) (79 + p) = 0
    · rw [if_pos y, if_pos y]
      exact ⟨_, _, _, rfl, rfl, (hJ.same s1).more (by omega)⟩
    · rw [if_neg y, if_neg y]
      by_cases z : (m1 30 0) 6 = 0
      · rw [if_pos z, if_pos z]
        exact ⟨_, _, _, rfl, rfl, (hJ.same s1).more (by omega)⟩
      · rw [if_neg z, if_neg z, q1, xb, q2, xb]
        have h0 : 0 < nv (m1 30 0) 6 := Nat.pos_of_ne_zero (fun y => z ((z6 hI).mpr y))
        have o1 := (hI.plt p hp).2.2.2.2.2.1
        have ol := o1.l
        have ho : nv (m1 30 0) (79 + p) = 1 := by
          rcases nI_01 ol with w | w
          · exact absurd (o1.e.trans w) y
          · exact nv_of (o1.e.trans w) (n := 1) (by omega)
        obtain ⟨sd1, m3, d, hd, hq, g1, g2, hX, hI3, hR3, hfr, -⟩ := mount_both hrow hI hR (by omega) h0 hp
        have hn : ∀ i, ¬ mec i → nv (m3 30 0) i = nv (m1 30 0) i := fun i h => nv_eq (hfr i h)
        have n7 := hn 7 (by unfold mec; omega)
        have n9 := hn 9 (by unfold mec; omega)
        have n79 := hn (79 + p) (by unfold mec; omega)
        have hp3 : p < nv (m3 30 0) 7 := by rw [n7]; exact hp
        have ho3 : nv (m3 30 0) (79 + p) = 1 := by rw [n79]; exact ho
        have hld := m_leadOut (md := m3) (k0 := 30) (p := p) (fun i _ => rfl) hI3 hp3
        obtain ⟨sd2, k1, k2⟩ := c_addLeadOut hI3 hR3 hp3 ho3
        -- the clock moves ahead of the closing on the reference's side, behind it on the class's
        obtain ⟨hI4, hR4⟩ := clock_step hI3 hR3 ((m3 30 0) 12 + (m3 30 0) 5 * nI (ldN (m3 30 0) p))
        obtain ⟨r4, hr4⟩ : ∃ r4, r4 = rup (m3 30 0) 12 ((m3 30 0) 12 + (m3 30 0) 5 * nI (ldN (m3 30 0) p)) := ⟨_, rfl⟩
        rw [← hr4] at hI4 hR4
        have hn4 : ∀ i, i ≠ 12 → nv r4 i = nv (m3 30 0) i := fun i h => by rw [hr4]; exact nv_eq (rup_ne h)
        have hs4 : ∀ i, i ≠ 12 → r4 i = (m3 30 0) i := fun i h => by rw [hr4]; exact rup_ne h
        have hrow4 : (upS m3 30 0 12 ((m3 30 0) 12 + (m3 30 0) 5 * nI (ldN (m3 30 0) p))) 30 0 = r4 := by rw [row_up, hr4]
        have hp4 : p < nv r4 7 := by rw [hn4 7 (by omega)]; exact hp3
        have ho4 : nv r4 (79 + p) = 1 := by rw [hn4 _ (by omega)]; exact ho3
        have hld4 : ldN r4 p = ldN (m3 30 0) p := by unfold ldN; rw [hn4 (39 + p) (by omega), hn4 (59 + p) (by omega)]
        obtain ⟨m5, g5, g6, g7⟩ := m_closes hrow4 hI4 hp4 ho4
        have hI5 := CV_inv hI4 g7 hp4 ho4
        have hC : CC (upS sd1 4 0 15 ((m3 30 0) 12 + (m3 30 0) 5 * nI (ldN (m3 30 0) p))) (upS sd2 4 0 15 ((m3 30 0) 12 + (m3 30 0) 5 * nI (ldN (m3 30 0) p))) r4 p := by
          obtain ⟨k20, k23, k25, k217⟩ := k2
          unfold CC
          rw [hn4 (69 + p) (by omega), hn4 (59 + p) (by omega), hld4]
          refine ⟨fun k j t h1 h2 h3 => ?_, ?_, ?_, ?_⟩
          · simp only [upS]
            by_cases w : k = 4 ∧ j = 0 ∧ t = 15
            · rw [if_pos w, if_pos w]
            · rw [if_neg w, if_neg w]
              exact k20 k j t h1 h2 h3
          · rw [upS_k (by omega)]; exact k23
          · rw [upS_k (by omega)]; exact k25
          · rw [upS_k (by omega), upS_k (by omega)]; exact k217
        have hR5 := CV_rel hI4 hR4 g7 hC hp4 ho4
        have n95 : nv (m5 30 0) 9 = nv (m1 30 0) 9 := by
          have ln4 := (hI4.plt p hp4).2.2.2.2.1.l
          rw [nv_eq (g7.1 9 (by omega) (by omega) (by omega)), hn4 9 (by omega), n9]
        have hcl : f_X4_closeInDrive (k_xs cs1 (k_st cs1)) (nI p) = some (nI (ldN (m3 30 0) p), upS sd2 4 0 15 ((m3 30 0) 12 + (m3 30 0) 5 * nI (ldN (m3 30 0) p))) := by
          obtain ⟨k20, -⟩ := k2
          unfold f_X4_closeInDrive
          rw [g1, xb]
          simp (disch := omega) only [xg, vinT, nI_clamp, k1, xb, xl]
          rw [k20 4 0 15 (by omega) (by omega) (by omega), k20 10 0 4 (by omega) (by omega) (by omega), hR3.s15, hR3.tm.2.2.2.2]
        rw [hcl, xb, g2, xb]
        show ST _ _ (x_bind (f_X8_leadOut m3 30 (nI p)) _)
        rw [hld, xb]
        simp only [xl]
        rw [g5, xb]
        exact ⟨_, _, m5, rfl, rfl, hJ.edit s1 (by omega) q3 q4 q5 q6 q7 ((hX.up (by omega)).tr g6.mx) (inv_of hI5 n95) ((rel_of hR5 n95).more (by omega))⟩
theorem st_markBad (hJ : JJ b cs m) (hb : b < 2 ^ 27) (a c : Int32) : ST (b + 64) (f_X7_markBad cs a c) (f_X8_markBad m a c) := by
  obtain ⟨m1, e1, r1, s1⟩ := thr m
  obtain ⟨cs1, m2, f1, c1, q1, q2, hrow, hI, hR0, hR, hx, q3, q4, q5, q6, q7⟩ := edit_go hJ s1
  have l7 := hI.l7
  have l8 := hI.l8
  have l10 := hI.l10
  unfold f_X7_markBad f_X8_markBad
  rw [xl, e1]
  rcases hasV_cases a (n := nv (m1 30 0) 7) (by omega) with h | ⟨h, p, hp, rfl⟩
  · have e2 : f_X4_hasSector (k_xs cs (k_st cs)) a c = some 0 := by
      unfold f_X4_hasSector
      rw [c_hasPlatter hI hR0, xb, h, if_pos rfl]
    have e3 : f_X8_isSector m1 a c = some 0 := by
      unfold f_X8_isSector
      rw [m_isPlatter rfl hI, xb, h, if_pos rfl]
    rw [e2, xb, e3, xb, if_pos rfl, if_pos rfl]
    exact ⟨_, _, _, rfl, rfl, (hJ.same s1).more (by omega)⟩
  · have w := (hI.plt p hp).2.1.1.l
    rw [c_hasSector hI hR0 hp, xb, m_isSector rfl hI hp, xb]
    rcases hasV_cases c (n := nv (m1 30 0) (39 + p)) (by omega) with g | ⟨g, s, hs, rfl⟩
    · rw [g, if_pos rfl, if_pos rfl]
      exact ⟨_, _, _, rfl, rfl, (hJ.same s1).more (by omega)⟩
    · rw [g, if_neg i1, if_neg i1]
      simp (disch := omega) only [xg, vinT, nI_clamp]
      rw [c_isBad _ p (show s < 300 by omega), xb, m_isBad2 (sd := k_xs cs (k_st cs)) rfl hI hR0.bd hp (show s < 300 by omega), xb]
      by_cases z : bdc (k_xs cs (k_st cs)) p s = true
      · have : ¬ (b01 (bdc (k_xs cs (k_st cs)) p s) = 0) := by rw [b01_0, z]; decide
        rw [if_neg this, if_neg this]
        exact ⟨_, _, _, rfl, rfl, (hJ.same s1).more (by omega)⟩
      · have z1 : b01 (bdc (k_xs cs (k_st cs)) p s) = 0 := by rw [b01_0]; simpa using z
        rw [if_pos z1, if_pos z1, hR0.s7, hI.c8]
        by_cases y : nv (m1 30 0) 8 < 20
        · have y1 : nI (nv (m1 30 0) 8) < 20 := by rw [rlt (k := 20) (by decide) (by omega)]; exact y
          have y2 : ¬ nI (nv (m1 30 0) 8) = 20 := by rw [req (k := 20) (by decide) (by omega)]; show ¬ nv (m1 30 0) 8 = 20; omega
          rw [if_pos y1, if_neg y2, q1, xb, q2, xb]
          obtain ⟨m3, g1, g2, g3⟩ := m_marks (k0 := 30) (p := p) (s := s) hrow hI y (by omega)
          obtain ⟨sd3, k1, k2⟩ := c_spoil (p := p) (s := s) hI hR hp y (by omega)
          have hnew : ¬ bdm (m1 30 0) p s := fun w => z ((hR0.bd p s hp (by omega)).mpr w)
          have hI3 := SV_inv hI g3 hp y hs hnew
          have hR3 := SV_rel hI hR g3 k2 hp y (by omega)
          have n9 : nv (m3 30 0) 9 = nv (m1 30 0) 9 := nv_eq (g3.1 9 (by omega) (by omega) (by omega) (by omega))
          rw [k1, xb, g1, xb]
          -- both count the damaged versions
          have key : ∀ (k d n : Nat) (acc : Int32), d + k = nv (m3 30 0) 10 → k < n → ∃ q, f_X4_countDamaged_L4 sd3 n acc (nI d) = some q ∧ f_X8_markBad_L66 m3 n acc (nI d) = some (q, m3) := by
            have l10' := hI3.l10
            intro k
            induction k with
            | zero =>
              intro d n acc h1 h2
              obtain ⟨n, rfl⟩ : ∃ q, n = q + 1 := ⟨n - 1, by omega⟩
              rw [f_X4_countDamaged_L4, f_X8_markBad_L66, hR3.s9, hI3.c10]
              simp (disch := omega) only [nI_leI, if_pos]
              exact ⟨_, rfl, rfl⟩
            | succ k ih =>
              intro d n acc h1 h2
              obtain ⟨n, rfl⟩ : ∃ q, n = q + 1 := ⟨n - 1, by omega⟩
              have hd : d < nv (m3 30 0) 10 := by omega
              have d1 := (hI3.ver d hd).2.2.2.2.2.2.2
              have d2 := d1.l
              rw [f_X4_countDamaged_L4, f_X8_markBad_L66, hR3.s9, hI3.c10]
              simp (disch := omega) only [xl, xg, vinT, nI_clamp, la, ra, nI_leI, if_neg, (hR3.ve d hd).2.2.2.2.2.2]
              rcases nI_01 d2 with w | w
              · rw [d1.e.trans w, if_pos rfl]
                have e0 : acc + 0 = acc := by grind
                rw [e0]
                exact ih (d + 1) n _ (by omega) (by omega)
              · rw [d1.e.trans w, if_neg (by decide)]
                exact ih (d + 1) n _ (by omega) (by omega)
          obtain ⟨q, k3, k4⟩ := key (nv (m3 30 0) 10) 0 fuel 0 (by omega) (by have := hI3.l10; unfold fuel; omega)
          rw [nI_0] at k3 k4
          unfold f_X4_countDamaged
          rw [k3, xb, k4]
          exact ⟨_, _, m3, rfl, rfl, hJ.edit s1 (by omega) q3 q4 q5 q6 q7 g2.mx (inv_of hI3 n9) ((rel_of hR3 n9).more (by omega))⟩
        · have y1 : ¬ nI (nv (m1 30 0) 8) < 20 := by rw [rlt (k := 20) (by decide) (by omega)]; exact y
          have y2 : nI (nv (m1 30 0) 8) = 20 := by rw [req (k := 20) (by decide) (by omega)]; show nv (m1 30 0) 8 = 20; omega
          rw [if_neg y1, if_pos y2]
          exact ⟨_, _, _, rfl, rfl, (hJ.same s1).more (by omega)⟩
end ED3
