/-! Layer 2: the file line -/
section FIL
variable {T : Nat → Int32} {E x n : Nat} {sd rd md : SD} {mw : Int64} {rn mn : Nat → Int64}
/-- the names that were read, in the class's numbers and in the reference's -/
def NM (c : Nat) (rn mn : Nat → Int64) : Prop := ∀ f, f < c → ∃ L : List Nat, okD L ∧ L.length ≤ 8 ∧ rn f = lN (vB 32 L 0) ∧ mn f = lN (vB 27 L 0)
/-- the outcome of a line, with the names -/
def LOf (T : Nat → Int32) (E x : Nat) (rd md : SD) (o1 : Option (Int32 × SD × SD × (Nat → Int64))) (o2 : Option (SD × (Nat → Int64) × Int64)) : Prop := (∃ sd' rd' rn' md' mn' mw' x', o1 = some (1, sd', rd', rn') ∧ o2 = some (md', mn', mw') ∧ x < x' ∧ GS T E x' rd' md' mw' ∧ LSt 1 sd' md' ∧ NM (nv (md' 31 0) 9) rn' mn' ∧ RF rd rd' ∧ MF md md' ∧ md' 8 0 25 = md 8 0 25) ∨ ∃ sd' rd' rn' md' mn' mw', o1 = some (0, sd', rd', rn') ∧ o2 = some (md', mn', mw') ∧ BD rd' md' ∧ RF rd rd' ∧ MF md md'
def rsv (T : Nat → Int32) (E x : Nat) : Bool := wq T E x 0 || (wq T E x 1 || (wq T E x 2 || (wq T E x 3 || (wq T E x 4 || (wq T E x 5 || wq T E x 6)))))
theorem c_isReserved (h : GC T E x rd md mw) : f_X5_isReserved rd = some (b01 (rsv T E x)) := by
  unfold f_X5_isReserved rsv
  rw [c_wordIs h (i := 0) (by omega), c_wordIs h (i := 1) (by omega), c_wordIs h (i := 2) (by omega), c_wordIs h (i := 3) (by omega), c_wordIs h (i := 4) (by omega), c_wordIs h (i := 5) (by omega), c_wordIs h (i := 6) (by omega)]
  simp only [xb]
  cases wq T E x 0 <;> cases wq T E x 1 <;> cases wq T E x 2 <;> cases wq T E x 3 <;> cases wq T E x 4 <;> cases wq T E x 5 <;> cases wq T E x 6 <;> rfl
theorem m_isReserved (h : GC T E x rd md mw) : f_X8_isReserved md mw = some (b01 (rsv T E x)) := by
  obtain ⟨k0, k1, k2, k3, k4, k5, k6⟩ := kw_val
  unfold f_X8_isReserved rsv
  rw [← k0, ← k1, ← k2, ← k3, ← k4, ← k5, ← k6]
  rw [m_isWord h (i := 0) (by omega), m_isWord h (i := 1) (by omega), m_isWord h (i := 2) (by omega), m_isWord h (i := 3) (by omega), m_isWord h (i := 4) (by omega), m_isWord h (i := 5) (by omega), m_isWord h (i := 6) (by omega)]
  simp only [xb]
  cases wq T E x 0 <;> cases wq T E x 1 <;> cases wq T E x 2 <;> cases wq T E x 3 <;> cases wq T E x 4 <;> cases wq T E x 5 <;> cases wq T E x 6 <;> rfl
theorem c_wnum {e : Nat} (he : e ≤ 900) (h4 : rd 5 0 4 = nI e) : ∀ (k p f v : Nat), p + k = e → k < f → (∀ q, p ≤ q → q < e → ∃ d, 1 ≤ d ∧ d ≤ 26 ∧ rd 20 0 q = nI (96 + d)) → f_X5_wordNumber_L7 rd f (lN v) (nI p) = some (lN (wd 32 (rd 20 0) k p v)) := by
  intro k
  induction k with
  | zero =>
    intro p f v hp hf hl
    obtain ⟨f, rfl⟩ : ∃ q, f = q + 1 := ⟨f - 1, by omega⟩
    have : p = e := by omega
    subst this
    rw [f_X5_wordNumber_L7, h4, if_pos (nI_le (Nat.le_refl _) (by omega))]
    rfl
  | succ k ih =>
    intro p f v hp hf hl
    obtain ⟨f, rfl⟩ : ∃ q, f = q + 1 := ⟨f - 1, by omega⟩
    obtain ⟨d, d1, d2, d3⟩ := hl p (Nat.le_refl _) (by omega)
    rw [f_X5_wordNumber_L7, h4, if_neg (by rw [nI_leI (by omega) (by omega)]; omega)]
    simp (disch := omega) only [xl, xg, vinT, nI_clamp]
    rw [d3, show nI (96 + d) - 97 = nI (96 + d - 97) from pk_sub (b := 97) (by omega), ra (k := 1), ra (k := 1), nI_l (show 96 + d - 97 + 1 < 2 ^ 31 by omega)]
    rw [show lN v * (32 : Int64) + lN (96 + d - 97 + 1) = lN (32 * v + d) by
      show lN v * lN 32 + _ = _
      rw [lN_mul, lN_add]
      congr 1
      omega]
    rw [ih (p + 1) f (32 * v + d) (by omega) (by omega) (fun q h1 h2 => hl q (by omega) h2)]
    congr 2
    rw [wd, d3, nI_clamp (by omega)]
    congr 1
    omega
theorem c_wordNumber (h : GC T E x rd md mw) (hk : tkK T E x = 2) : f_X5_wordNumber rd = some (lN (vB 32 (tokW T E x) 0)) := by
  obtain ⟨⟨g1, g2, g3, g4, g5, g6⟩, h7, h8, h9, h10, -⟩ := id h
  obtain ⟨b1, b2, b3, -⟩ := tkE_b T h7
  obtain ⟨a1, a2⟩ := tok_let hk
  have := c_wnum (rd := rd) (e := tkE T E x) (by omega) h9 (tkE T E x - tkS T E x) (tkS T E x) fuel 0 (by omega) (by unfold fuel; omega) (by rw [g2]; exact a2)
  unfold f_X5_wordNumber
  rw [xl, h8]
  rw [g2, wd_vB] at this
  exact this
/-- what the reference does behind the name -/
noncomputable def flK (w : Int64) (mn : Nat → Int64) (md : SD) : Option (SD × (Nat → Int64) × Int64) := x_bind (f_X8_goesOn md w) fun (q10 : (SD × Int64)) => x_bind (f_X8_takes (q10.1) (q10.2) (1 : Int32) (300 : Int32)) fun (q11 : (Int32 × SD × Int64)) => x_bind (f_X8_sees (q11.2.1) (0 : Int32) (((q11.2.1 31 0 7) - (1 : Int32)))) fun (q13 : (Int32 × SD)) => x_bind (f_X8_good (q13.2)) fun (q15 : Int32) => (x_let (fun (y17 : Int32) => (x_bind (f_X8_must (q13.2) y17 (6 : Int32)) fun (q18 : SD) => x_bind (f_X8_good q18) fun (q19 : Int32) => (x_let (fun (md21 : SD) (mn22 : Nat → Int64) => (x_bind (f_X8_goesOn md21 (q11.2.2)) fun (q23 : (SD × Int64)) => some (q23.1, mn22, q23.2) : Option (SD × (Nat → Int64) × Int64))) fun K20 => (if q19 = 0 then K20 (q18) (mn) else x_guard (vp_in (q18 31 0 9) 20) <| x_let (vp_updL mn ((q18 31 0 9)).toNatClampNeg w) fun (mn25 : Nat → Int64) => x_let (upS q18 31 0 9 ((q18 31 0 9) + (1 : Int32))) fun (md26 : SD) => x_bind (f_X8_writesVersion md26 (31) (((md26 31 0 9) - (1 : Int32))) q13.1 q11.1) fun (q27 : SD) => K20 (q27) (mn25))) : Option (SD × (Nat → Int64) × Int64))) fun K16 => (if q15 = 0 then K16 (0 : Int32) else x_bind (f_X8_canWrite (q13.2) (31) q13.1 q11.1) fun (q29 : Int32) => (if q29 = 0 then K16 (0 : Int32) else K16 ((1 : Int32)))))
theorem flK_err (h : ER md) (w : Int64) (mn : Nat → Int64) : flK w mn md = some (md, mn, w) := by
  unfold flK
  simp only [e_on h, xb, e_takes h, e_sees h, e_good h, xl, e_must h, if_true]
theorem fl_step (q4 : SD × Int64) (mn : Nat → Int64) (f : Nat) (v : Int32) (md : SD) : f_X8_fileLine_L53 q4 mn (f + 1) v md = if (md 31 0 9) ≤ v then flK q4.2 mn md else x_bind (f_X8_good md) fun (q30 : Int32) => (if q30 = 0 then flK q4.2 mn md else x_guard (vp_in v 20) <| if (lg_cmp (mn (v).toNatClampNeg) q4.2) = 0 then x_bind (f_X8_must md 0 (4 : Int32)) fun (q34 : SD) => f_X8_fileLine_L53 q4 mn f (v + 1) (q34) else x_bind (f_X8_must md 1 (4 : Int32)) fun (q34 : SD) => f_X8_fileLine_L53 q4 mn f (v + 1) (q34)) := by
  rw [f_X8_fileLine_L53]
  unfold flK
  simp only [xl]
theorem fl_er (h : ER md) (q4 : SD × Int64) (mn : Nat → Int64) (f : Nat) (v : Int32) : f_X8_fileLine_L53 q4 mn (f + 1) v md = flK q4.2 mn md := by
  rw [fl_step, e_good h, xb, if_pos rfl]
  split <;> rfl
theorem fl_loop {c : Nat} (hc : c < 20) (q4 : SD × Int64) (h : GC T E x rd md mw) (hw : q4.2 = mw) (hk : tkK T E x = 2) (h9 : md 31 0 9 = nI c) (hN : NM c rn mn) : ∀ (k j f f' : Nat), j + k = c → k < f → k + 1 < f' → (f_X5_keepName_L8 (nI c) rn (lN (vB 32 (tokW T E x) 0)) f (nI j) = some (1, vp_updL rn c (lN (vB 32 (tokW T E x) 0))) ∧ f_X8_fileLine_L53 q4 mn f' (nI j) md = flK mw mn md) ∨ (f_X5_keepName_L8 (nI c) rn (lN (vB 32 (tokW T E x) 0)) f (nI j) = some (0, rn) ∧ ∃ rd' md', f_X5_fail rd 4 = some (0, rd') ∧ f_X8_fileLine_L53 q4 mn f' (nI j) md = flK mw mn md' ∧ BD rd' md' ∧ RF rd rd' ∧ M2 md md') := by
  obtain ⟨o1, o2⟩ := tokW_ok hk h.2.1
  have g6 : md 8 0 18 = 0 := h.1.2.2.2.2.2
  have hm : mw = lN (vB 27 (tokW T E x) 0) := by
    have := h.2.2.2.2.2.2.2.2.2 hk
    rw [this, wd_vB]
    rfl
  intro k
  induction k with
  | zero =>
    intro j f f' hj hf hf'
    obtain ⟨f, rfl⟩ : ∃ q, f = q + 1 := ⟨f - 1, by omega⟩
    obtain ⟨f', rfl⟩ : ∃ q, f' = q + 1 := ⟨f' - 1, by omega⟩
    have : j = c := by omega
    subst this
    left
    rw [f_X5_keepName_L8, if_pos (nI_le (Nat.le_refl _) (by omega)), fl_step, h9, if_pos (nI_le (Nat.le_refl _) (by omega)), hw]
    simp (disch := omega) only [xl, xg, vinT, nI_clamp]
    exact ⟨trivial, trivial⟩
  | succ k ih =>
    intro j f f' hj hf hf'
    obtain ⟨f, rfl⟩ : ∃ q, f = q + 1 := ⟨f - 1, by omega⟩
    obtain ⟨f', rfl⟩ : ∃ q, f' = q + 1 := ⟨f' - 1, by omega⟩
    obtain ⟨L, l1, l2, l3, l4⟩ := hN j (by omega)
    have s32 := vB_eq (B := 32) (by omega) (by omega) l1 o1 l2 o2
    have s27 := vB_eq (B := 27) (by omega) (by omega) l1 o1 l2 o2
    have nle : ¬ nI c ≤ nI j := by rw [nI_leI (by omega) (by omega)]; omega
    rw [f_X5_keepName_L8, if_neg nle, fl_step, h9, if_neg nle, g_good g6, xb, if_neg i1]
    simp (disch := omega) only [xl, xg, vinT, nI_clamp, ra]
    rw [l3, l4, hw, hm]
    by_cases z : L = tokW T E x
    · rw [if_pos (s32.mpr z), if_pos (s27.mpr z), ← hm]
      obtain ⟨rd', md', a1, a2, a3, a4, a5⟩ := fail_must h (k := 4) (by omega) (by omega) (by omega)
      have a2 : f_X8_must md 0 4 = some md' := a2
      obtain ⟨f', rfl⟩ : ∃ q, f' = q + 1 := ⟨f' - 1, by omega⟩
      rw [a2, xb, fl_er a3.er, hw]
      exact Or.inr ⟨rfl, rd', md', a1, rfl, a3, a4, a5⟩
    · rw [if_neg (fun y => z (s32.mp y)), if_neg (fun y => z (s27.mp y)), must_1, xb, ← hm]
      exact ih (j + 1) f f' (by omega) (by omega) (by omega)
theorem file_line (h : GC T E x rd md mw) (hk : tkK T E x ≠ 0) (hL : LSt n sd md) (hN : NM (nv (md 31 0) 9) rn mn) : LOf T E x rd md (f_X5_readNewFile sd rd rn) (f_X8_fileLine md mn mw) := by
  have hx := gc_x h hk
  obtain ⟨hI, hR, hF, hZ⟩ := hL
  have l7 := hI.l7
  have l9 := hI.l9
  have l10 := hI.l10
  unfold f_X5_readNewFile f_X8_fileLine
  simp only [xl]
  rw [hR.s11, hI.c9, hR.s6, hI.c7]
  have e1 : (nI (nv (md 31 0) 9) < (20 : Int32)) ↔ nv (md 31 0) 9 < 20 := nI_ltI (b := 20) (by omega) (by omega)
  have e2 : ((20 : Int32) ≤ nI (nv (md 31 0) 9)) ↔ 20 ≤ nv (md 31 0) 9 := nI_leI (a := 20) (by omega) (by omega)
  by_cases z : nv (md 31 0) 9 < 20
  · obtain ⟨md1, mw1, a1, a2, a3⟩ := h.on hk
    obtain ⟨rd1, b1, b2, b3⟩ := a2.tok
    have hr1 := a3.row31
    rw [if_pos (e1.mpr z), if_neg (fun y => by have := e2.mp y; omega), must_1, xb, a1, xb, b1, xb]
    have h10 : rd1 5 0 5 = nI (tkK T E (tkE T E x)) := b2.2.2.2.2.1
    have h22 : md1 8 0 22 = nI (rk (tkK T E (tkE T E x))) := b2.2.2.2.2.2.2.1
    have hkl := tkK_lt T E (tkE T E x)
    have f2 : (nI (tkK T E (tkE T E x)) = (2 : Int32)) ↔ tkK T E (tkE T E x) = 2 := nI_eq (b := 2) (by omega) (by omega)
    have f1 : (nI (rk (tkK T E (tkE T E x))) = (1 : Int32)) ↔ tkK T E (tkE T E x) = 2 := rk_eq (n := 2) hkl (by omega)
    have unexp : LOf T E x rd md (x_bind (f_X5_failUnexpected rd1) fun q3 => x_guard (q3.1 = 0 ∨ q3.1 = 1) (some (q3.1, sd, q3.2, rn))) (x_bind (f_X8_must md1 0 2) fun q7 => f_X8_fileLine_L53 (md1, mw1) mn fuel 0 q7) := by
      obtain ⟨rd2, md2, c1, c2, c3, c4, c5⟩ := failU_must b2
      rw [c1, xb, x_guard_pos (Or.inl rfl), c2, xb, show fuel = 19999 + 1 from rfl, fl_er c3.er, flK_err c3.er]
      exact Or.inr ⟨_, rd2, rn, md2, mn, _, rfl, rfl, c3, b3.f.tr c4, a3.f.tr c5.f⟩
    simp only
    rw [h10, h22]
    by_cases y : tkK T E (tkE T E x) = 2
    · rw [if_pos (f2.mpr y), if_pos (f1.mpr y), c_isReserved b2, xb, m_isReserved b2, xb]
      by_cases w : rsv T E (tkE T E x) = true
      · have nb : ¬ b01 (rsv T E (tkE T E x)) = 0 := by rw [b01_0, w]; decide
        rw [if_neg nb, if_neg nb]
        exact unexp
      · have nb : b01 (rsv T E (tkE T E x)) = 0 := by rw [b01_0]; exact Bool.eq_false_iff.mpr w
        rw [if_pos nb, if_pos nb, must_1, xb]
        have h9 : md1 31 0 9 = nI (nv (md 31 0) 9) := by rw [hr1]; exact hI.c9
        unfold f_X5_keepName
        rw [c_wordNumber b2 y, xb]
        have lp := fl_loop (rn := rn) (mn := mn) z (md1, mw1) b2 rfl y h9 hN (nv (md 31 0) 9) 0 fuel fuel (by omega) (by unfold fuel; omega) (by unfold fuel; omega)
        rw [nI_0] at lp
        rcases lp with ⟨p1, p2⟩ | ⟨p1, rd2, md2, p2, p3, p4, p5, p6⟩
        · rw [p1, xb, p2]
          simp only
          rw [if_neg i1]
          obtain ⟨md2, mw2, c1, c2, c3⟩ := b2.on (by omega)
          have hx2 := gc_x b2 (by omega)
          unfold flK
          simp only [xl]
          rw [c1, xb]
          simp only
          rcases take_both c2 1 300 with ⟨rd3, md3, mw3, d1, d2, d3, d4, d5, d6, d7, d8⟩ | ⟨rd3, md3, d3, d4, d5, d6, d7⟩
          · obtain ⟨s, s1, s2, s3⟩ := in_nat (a := 1) (b := 300) (by omega) d1 d2 (by omega)
            rw [s3] at d3 d4
            have hr3 : md3 31 0 = md 31 0 := by rw [d7.row31, c3.row31, hr1]
            have r7 : md3 31 0 7 = nI (nv (md 31 0) 7) := by rw [hr3]; exact hI.c7
            rw [d3, xb, d4, xb]
            simp only
            rw [if_neg (nm1' (by omega)), r7]
            rcases nmb_both d5 0 (nI (nv (md 31 0) 7) - 1) with ⟨rd4, k4, g1, g2, g3, g4, g5, g6⟩ | ⟨rd4, md4, g3, g4, g5, g6, g7⟩
            · obtain ⟨p, pl, p3⟩ := in_nat1 (by omega) g1 g2
              rw [p3] at g3 g4
              have g18 : md3 8 0 18 = 0 := g5.1.2.2.2.2.2
              rw [g3, xb, g4, xb]
              simp only
              rw [if_neg (nm1' (by omega)), x_guard_pos (vp_in_nI (show p < 10 by omega) (by omega)), nI_clamp (by omega), c_canTake hI hR pl s2, xb, g_good g18, xb, if_neg i1, m_canWrite hr3 hI pl s2, xb]
              by_cases v : ctV (md 31 0) p s = 0
              · obtain ⟨rd5, md5, o1, o2, o3, o4, o5⟩ := fail_must g5 (k := 6) (by omega) (by omega) (by omega)
                have o1 : f_X5_fail rd4 6 = some (0, rd5) := o1
                have o2 : f_X8_must md3 0 6 = some md5 := o2
                rw [if_pos v, if_pos v, o1, xb, x_guard_pos (Or.inl rfl), o2, xb, e_good o3.er, xb, if_pos rfl, e_on o3.er, xb]
                exact Or.inr ⟨_, rd5, _, md5, mn, _, rfl, rfl, o3, b3.f.tr (d6.tr (g6.tr o4)), a3.f.tr (c3.f.tr (d7.f.tr o5.f))⟩
              · obtain ⟨t1, t2, t3⟩ := ctV_1 v
                have r9 : md3 31 0 9 = nI (nv (md 31 0) 9) := by rw [hr3]; exact hI.c9
                rw [if_neg v, if_neg v, must_1, xb, g_good g18, xb, if_neg i1, r9, ra (k := 1), upS_hit, upS_hit]
                simp (disch := omega) only [xg, vinT, nI_clamp]
                rw [show nI (nv (md 31 0) 9 + 1) - 1 = nI (nv (md 31 0) 9) from (rsu (k := 1) (show 1 ≤ nv (md 31 0) 9 + 1 by omega)).trans (by rw [Nat.add_sub_cancel])]
                obtain ⟨hI1, hR1⟩ := files_step hI hR z
                have q9 : nv (rup (md 31 0) 9 (nI (nv (md 31 0) 9 + 1))) 9 = nv (md 31 0) 9 + 1 := nv_of (rup_hit _ _ _) (by omega)
                have qn : ∀ i, i ≠ 9 → nv (rup (md 31 0) 9 (nI (nv (md 31 0) 9 + 1))) i = nv (md 31 0) i := fun i hi => nv_eq (rup_ne hi)
                have qe : ent (rup (md 31 0) 9 (nI (nv (md 31 0) 9 + 1))) p (nv (md 31 0) (59 + p)) s = ent (md 31 0) p (nv (md 31 0) (59 + p)) s := ent_congr (qn 8 (by omega)) (fun k hk => ⟨rup_ne (by omega), qn _ (by omega)⟩)
                have p69 := (hI.plt p pl).2.2.2.2.1.l
                have p59 := (hI.plt p pl).2.2.2.1.2
                have p39 := (hI.plt p pl).2.1.1.l
                have hrow3 : (upS md3 31 0 9 (nI (nv (md 31 0) 9 + 1))) 31 0 = rup (md 31 0) 9 (nI (nv (md 31 0) 9 + 1)) := by rw [row_up, hr3]
                have hV : nv (rup (md 31 0) 9 (nI (nv (md 31 0) 9 + 1))) 10 < 40 := by rw [qn 10 (by omega), hF.2.2.2]; omega
                have hS : nv (rup (md 31 0) 9 (nI (nv (md 31 0) 9 + 1))) (79 + p) = 0 → nv (rup (md 31 0) 9 (nI (nv (md 31 0) 9 + 1))) (69 + p) < 8 := fun u => by
                  rw [qn _ (by omega)] at u ⊢
                  have := t1 u
                  omega
                have hle : ent (rup (md 31 0) 9 (nI (nv (md 31 0) 9 + 1))) p (nv (rup (md 31 0) 9 (nI (nv (md 31 0) 9 + 1))) (59 + p)) s ≤ nv (rup (md 31 0) 9 (nI (nv (md 31 0) 9 + 1))) (49 + p) := by
                  rw [qn (59 + p) (by omega), qn (49 + p) (by omega), qe]
                  exact t3
                have pl' : p < nv (rup (md 31 0) 9 (nI (nv (md 31 0) 9 + 1))) 7 := by rw [qn 7 (by omega)]; exact pl
                obtain ⟨m6, u1, u2, u3⟩ := m_writesVersion hrow3 hI1 (f := nv (md 31 0) 9) (p := p) (n := s) z pl' s2 hV hS hle
                obtain ⟨sd6, w1, w2⟩ := c_addVersion hI1 hR1 (f := nv (md 31 0) 9) (p := p) (n := s) (by rw [q9]; omega) pl' (by rw [qn (59 + p) (by omega)]; omega) hV hS hle
                have hI2 := WV_inv (F' := nv (md 31 0) 9 + 1) hI1 u3 pl' s2 hV hS hle (by rw [qn (59 + p) (by omega), qn (39 + p) (by omega)]; omega) (by omega) (by omega) (fun g h1 h2 => by omega) (by omega)
                have hR2 := WV_rel (F' := nv (md 31 0) 9 + 1) hI1 hR1 u3 w2 pl' hV hS (by omega) (fun g h1 h2 => by omega) (by omega)
                have nS : nSe (rup (md 31 0) 9 (nI (nv (md 31 0) 9 + 1))) p ≤ 9 := by
                  unfold nSe
                  rw [qn (79 + p) (by omega), qn (69 + p) (by omega)]
                  split <;> omega
                have low : ∀ i, i < 309 → i ≠ 9 → i ≠ 10 → ¬ (49 ≤ i ∧ i < 289 ∧ ((i = 49 + p ∨ i = 59 + p ∨ i = 69 + p ∨ i = 79 + p) ∨ 89 ≤ i)) → ¬ 289 ≤ i → (m6 31 0) i = (md 31 0) i := fun i h1 h2 h3 h4 h5 => by
                  rw [u3.1 i h3 (by omega) (by omega) (by omega) (by omega) (by omega) (by omega) (by omega) (by omega) (by omega) (by omega) (by omega) (by omega) (by omega) (by omega), rup_ne h2]
                have m9 : (m6 31 0) 9 = nI (nv (md 31 0) 9 + 1) := by
                  rw [u3.1 9 (by omega) (by omega) (by omega) (by omega) (by omega) (by omega) (by omega) (by omega) (by omega) (by omega) (by omega) (by omega) (by omega) (by omega) (by omega), rup_hit]
                have n9 : nv (m6 31 0) 9 = nv (md 31 0) 9 + 1 := nv_of m9 (by omega)
                have n10 : nv (m6 31 0) 10 = nv (md 31 0) 10 + 1 := by
                  have := u3.2.1
                  rw [qn 10 (by omega)] at this
                  exact nv_of this (by omega)
                have n6 : nv (m6 31 0) 6 = nv (md 31 0) 6 := nv_eq (low 6 (by omega) (by omega) (by omega) (by omega) (by omega))
                have n7 : nv (m6 31 0) 7 = nv (md 31 0) 7 := nv_eq (low 7 (by omega) (by omega) (by omega) (by omega) (by omega))
                have hm6 : ∀ k j t, k ≠ 31 → m6 k j t = md3 k j t := fun k j t hk => by rw [u2 k j t (by omega), upS_k hk]
                have G5 : GC T E (tkE T E (tkE T E (tkE T E x))) rd4 m6 mw3 := by
                  obtain ⟨⟨h1, h2, h3, h4, h5, h6⟩, h7, h8, h9, h10, t1, t2, t3, t4, t5⟩ := g5
                  exact ⟨⟨h1, h2, fun t ht => (hm6 _ _ _ (by omega)).trans (h3 t ht), h4, (hm6 _ _ _ (by omega)).trans h5, (hm6 _ _ _ (by omega)).trans h6⟩, h7, h8, h9, h10, (hm6 _ _ _ (by omega)).trans t1, (hm6 _ _ _ (by omega)).trans t2, fun z => (hm6 _ _ _ (by omega)).trans (t3 z), fun z => (hm6 _ _ _ (by omega)).trans (t4 z), t5⟩
                obtain ⟨md7, mw7, o1, o2, o3⟩ := G5.on (by omega)
                have hx4 := gc_x G5 (by omega)
                rw [w1, xb, u1, xb, o1, xb]
                refine Or.inl ⟨sd6, rd4, _, md7, _, mw7, _, rfl, rfl, Nat.lt_trans hx (Nat.lt_trans hx2 (Nat.lt_trans d8 hx4)), o2, ?_, ?_, b3.f.tr (d6.tr g6), a3.f.tr (c3.f.tr (d7.f.tr (MF.tr (fun k j t h1 _ => hm6 k j t h1) o3.f))), ?_⟩
                · unfold LSt
                  rw [o3.row31]
                  refine ⟨inv_of hI2 n9, rel_of hR2 n9, ⟨fun d h1 h2 => ?_, fun q h1 h2 => ?_, ?_, ?_⟩, fun z => by omega⟩
                  · rw [n6] at h1
                    rw [low _ (by omega) (by omega) (by omega) (by omega) (by omega), low _ (by omega) (by omega) (by omega) (by omega) (by omega)]
                    exact hF.1 d h1 h2
                  · rw [n7] at h1
                    rw [low _ (by omega) (by omega) (by omega) (by omega) (by omega), low _ (by omega) (by omega) (by omega) (by omega) (by omega), low _ (by omega) (by omega) (by omega) (by omega) (by omega)]
                    exact hF.2.1 q h1 h2
                  · rw [low _ (by omega) (by omega) (by omega) (by omega) (by omega)]; exact hF.2.2.1
                  · rw [n10, n9, hF.2.2.2]
                · rw [o3.row31, n9]
                  intro f hf
                  by_cases e : f = nv (md 31 0) 9
                  · subst e
                    obtain ⟨q1, q2⟩ := tokW_ok y b2.2.1
                    refine ⟨tokW T E (tkE T E x), q1, q2, pk_uLs, ?_⟩
                    rw [pk_uLs, b2.2.2.2.2.2.2.2.2.2 y, wd_vB]
                    rfl
                  · rw [pk_uLn e, pk_uLn e]
                    exact hN f (by omega)
                · rw [o3 _ _ _ (by omega), hm6 _ _ _ (by omega), d7 _ _ _ (by omega), c3 _ _ _ (by omega), a3 _ _ _ (by omega)]
            · rw [g3, xb, g4, xb]
              simp only
              rw [if_pos trivial, e_good g5.er, xb, if_pos rfl, e_must g5.er, xb, e_good g5.er, xb, if_pos rfl, e_on g5.er, xb]
              exact Or.inr ⟨_, rd4, _, md4, mn, _, rfl, rfl, g5, b3.f.tr (d6.tr g6), a3.f.tr (c3.f.tr (d7.f.tr g7.f))⟩
          · rw [d3, xb, d4, xb]
            simp only
            rw [if_pos trivial, e_sees d5.er, xb]
            simp only
            rw [e_good d5.er, xb, if_pos rfl, e_must d5.er, xb, e_good d5.er, xb, if_pos rfl, e_on d5.er, xb]
            exact Or.inr ⟨_, rd3, _, md3, mn, _, rfl, rfl, d5, b3.f.tr d6, a3.f.tr (c3.f.tr d7.f)⟩
        · rw [p1, xb, p3, flK_err p4.er]
          simp only
          rw [if_pos trivial, p2, xb, x_guard_pos (Or.inl rfl)]
          exact Or.inr ⟨_, rd2, _, md2, mn, _, rfl, rfl, p4, b3.f.tr p5, a3.f.tr p6.f⟩
    · rw [if_neg (fun v => y (f2.mp v)), if_neg (fun v => y (f1.mp v))]
      exact unexp
  · obtain ⟨rd1, md1, a1, a2, a3, a4, a5⟩ := fail_must h (k := 5) (by omega) (by omega) (by omega)
    have a1 : f_X5_fail rd 5 = some (0, rd1) := a1
    have a2 : f_X8_must md 0 5 = some md1 := a2
    have er : ∀ y : Int32, (x_bind (f_X8_must md1 y 2) fun q7 => f_X8_fileLine_L53 (md1, mw) mn fuel 0 q7) = some (md1, mn, mw) := fun y => by
      rw [e_must a3.er, xb, show fuel = 19999 + 1 from rfl, fl_er a3.er, flK_err a3.er]
    rw [if_neg (fun y => z (e1.mp y)), if_pos (e2.mpr (by omega)), a1, xb, x_guard_pos (Or.inl rfl), a2, xb, e_on a3.er, xb]
    simp only
    refine Or.inr ⟨_, rd1, rn, md1, mn, mw, rfl, ?_, a3, a4, a5.f⟩
    have eres : f_X8_isReserved md1 mw = some 0 := by
      unfold f_X8_isReserved
      simp only [e_isWord a3.er, xb, if_true]
    rw [eres, xb, if_pos rfl, er 1, er 0]
    split <;> rfl
end FIL
