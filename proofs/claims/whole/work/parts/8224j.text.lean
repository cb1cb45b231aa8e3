/-! Layer 2: a statement, a text -/
section TXT
variable {T : Nat → Int32} {E x n : Nat} {sd rd md : SD} {mw : Int64} {rn mn : Nat → Int64}
/-- the outcome of a statement -/
def SO (T : Nat → Int32) (E x n : Nat) (rd md : SD) (o1 : Option (Int32 × SD × SD × (Nat → Int64))) (o2 : Option (SD × (Nat → Int64) × Int64)) : Prop := (∃ sd' rd' rn' md' mn' mw' x', o1 = some (1, sd', rd', rn') ∧ o2 = some (md', mn', mw') ∧ x < x' ∧ GS T E x' rd' md' mw' ∧ LSt 1 sd' md' ∧ NM (nv (md' 31 0) 9) rn' mn' ∧ RF rd rd' ∧ MF md md' ∧ md' 8 0 25 = nI (n + 1)) ∨ ∃ sd' rd' rn' md' mn' mw', o1 = some (0, sd', rd', rn') ∧ o2 = some (md', mn', mw') ∧ BD rd' md' ∧ RF rd rd' ∧ MF md md'
theorem GS.c25 {v : Int32} (h : GS T E x rd md mw) : GS T E x rd (upS md 8 0 25 v) mw := by
  obtain ⟨⟨h1, h2, h3, h4, h5, h6⟩, h7, h8, t1, t2, t3, t4, t5⟩ := h
  exact ⟨⟨h1, h2, h3, h4, (upS_t (by omega)).trans h5, (upS_t (by omega)).trans h6⟩, h7, h8, (upS_t (by omega)).trans t1, (upS_t (by omega)).trans t2, fun z => (upS_t (by omega)).trans (t3 z), fun z => (upS_t (by omega)).trans (t4 z), t5⟩
theorem BD.c25 {v : Int32} (h : BD rd md) : BD rd (upS md 8 0 25 v) := by
  obtain ⟨k, k1, k2, k3, k4, k5⟩ := h
  exact ⟨k, k1, k2, k3, (upS_t (by omega)).trans k4, by rw [upS_t (by omega)]; exact k5⟩
theorem MF.c25 {x y : SD} {v : Int32} (h : MF x y) : MF x (upS y 8 0 25 v) := fun k j q a c => by
  unfold upS
  rw [if_neg (fun z => c ⟨z.1, z.2.1, by omega⟩)]
  exact h k j q a c
theorem so3 {o1 : Option (Int32 × SD × SD)} {o2 : Option (SD × Int64)} (hl : LOt T E x rd md o1 o2) (hN : NM (nv (md 31 0) 9) rn mn) (h25 : md 8 0 25 = nI n) : SO T E x n rd md (x_bind o1 fun q => x_guard (q.1 = 0 ∨ q.1 = 1) (some (q.1, q.2.1, q.2.2, rn))) (x_bind o2 fun q => some (upS q.1 8 0 25 (q.1 8 0 25 + 1), mn, q.2)) := by
  rcases hl with ⟨sd', rd', md', mw', x', a1, a2, a3, a4, a5, a6, a7, a8, a9⟩ | ⟨sd', rd', md', mw', a1, a2, a3, a4, a5⟩
  · rw [a1, a2, xb, xb]
    simp only
    rw [x_guard_pos (Or.inr trivial), a8, h25, ra (k := 1)]
    refine Or.inl ⟨sd', rd', rn, _, mn, mw', x', rfl, rfl, a3, a4.c25, a5, ?_, a6, a7.c25, upS_hit _ _ _ _ _⟩
    show NM (nv (md' 31 0) 9) rn mn
    rw [a9]
    exact hN
  · rw [a1, a2, xb, xb]
    simp only
    rw [x_guard_pos (Or.inl trivial)]
    exact Or.inr ⟨sd', rd', rn, _, mn, mw', rfl, rfl, a3.c25, a4, a5.c25⟩
theorem so4 {o1 : Option (Int32 × SD × SD × (Nat → Int64))} {o2 : Option (SD × (Nat → Int64) × Int64)} (hl : LOf T E x rd md o1 o2) (h25 : md 8 0 25 = nI n) : SO T E x n rd md (x_bind o1 fun q => x_guard (q.1 = 0 ∨ q.1 = 1) (some (q.1, q.2.1, q.2.2.1, q.2.2.2))) (x_bind o2 fun q => some (upS q.1 8 0 25 (q.1 8 0 25 + 1), q.2.1, q.2.2)) := by
  rcases hl with ⟨sd', rd', rn', md', mn', mw', x', a1, a2, a3, a4, a5, a6, a7, a8, a9⟩ | ⟨sd', rd', rn', md', mn', mw', a1, a2, a3, a4, a5⟩
  · rw [a1, a2, xb, xb]
    simp only
    rw [x_guard_pos (Or.inr trivial), a9, h25, ra (k := 1)]
    exact Or.inl ⟨sd', rd', rn', _, mn', mw', x', rfl, rfl, a3, a4.c25, a5, a6, a7, a8.c25, upS_hit _ _ _ _ _⟩
  · rw [a1, a2, xb, xb]
    simp only
    rw [x_guard_pos (Or.inl trivial)]
    exact Or.inr ⟨sd', rd', rn', _, mn', mw', rfl, rfl, a3.c25, a4, a5.c25⟩
theorem b0f {b : Bool} (h : ¬ b = true) : b01 b = 0 := by rw [b01_0]; exact Bool.eq_false_iff.mpr h
theorem b0t {b : Bool} (h : b = true) : ¬ b01 b = 0 := by rw [b01_0, h]; decide
theorem stmt_both (h : GC T E x rd md mw) (hk : tkK T E x ≠ 0) (hL : LSt n sd md) (hN : NM (nv (md 31 0) 9) rn mn) (h25 : md 8 0 25 = nI n) (hn : n < 2 ^ 30) : SO T E x n rd md (f_X5_readStatement sd rd rn (if n = 0 then 1 else 0)) (f_X8_line md mn mw) := by
  obtain ⟨k0, k1, k2, k3, k4, k5, k6⟩ := kw_val
  have g6 : md 8 0 18 = 0 := h.1.2.2.2.2.2
  unfold f_X5_readStatement f_X8_line
  simp only [xl]
  rw [← k0, ← k1, ← k2, ← k3, ← k4, ← k5, ← k6]
  rw [c_wordIs h (i := 0) (by omega), xb, m_isWord h (i := 0) (by omega), xb]
  by_cases z0 : wq T E x 0 = true
  · rw [if_neg (b0t z0), if_neg (b0t z0)]
    by_cases zn : n = 0
    · subst zn
      rw [if_pos rfl, if_neg i1]
      exact so3 (slots_ok h hk hL h25) hN h25
    · have n25 : ¬ md 8 0 25 = 0 := by
        rw [h25]
        intro y
        rw [← nI_0, nI_eq (by omega) (by omega)] at y
        exact zn y
      obtain ⟨rd', md', a1, a2, a3, a4, a5⟩ := slots_no h n25
      rw [if_neg zn, if_pos rfl, a1, xb, x_guard_pos (Or.inl rfl), a2, xb]
      exact Or.inr ⟨sd, rd', rn, _, mn, mw, rfl, rfl, a3.c25, a4, a5.c25⟩
  · rw [if_pos (b0f z0), if_pos (b0f z0), c_wordIs h (i := 1) (by omega), xb, m_isWord h (i := 1) (by omega), xb]
    by_cases z1 : wq T E x 1 = true
    · rw [if_neg (b0t z1), if_neg (b0t z1)]
      exact so3 (drive_line h hk hL) hN h25
    · rw [if_pos (b0f z1), if_pos (b0f z1), c_wordIs h (i := 2) (by omega), xb, m_isWord h (i := 2) (by omega), xb]
      by_cases z2 : wq T E x 2 = true
      · rw [if_neg (b0t z2), if_neg (b0t z2)]
        exact so3 (time_line h hk hL) hN h25
      · rw [if_pos (b0f z2), if_pos (b0f z2), c_wordIs h (i := 3) (by omega), xb, m_isWord h (i := 3) (by omega), xb]
        by_cases z3 : wq T E x 3 = true
        · rw [if_neg (b0t z3), if_neg (b0t z3)]
          exact so3 (platter_line h hk hL) hN h25
        · rw [if_pos (b0f z3), if_pos (b0f z3), c_wordIs h (i := 4) (by omega), xb, m_isWord h (i := 4) (by omega), xb]
          by_cases z4 : wq T E x 4 = true
          · rw [if_neg (b0t z4), if_neg (b0t z4)]
            exact so3 (bad_line h hk hL) hN h25
          · rw [if_pos (b0f z4), if_pos (b0f z4), c_wordIs h (i := 5) (by omega), xb, m_isWord h (i := 5) (by omega), xb]
            by_cases z5 : wq T E x 5 = true
            · rw [if_neg (b0t z5), if_neg (b0t z5)]
              exact so4 (file_line h hk hL hN) h25
            · rw [if_pos (b0f z5), if_pos (b0f z5), c_wordIs h (i := 6) (by omega), xb, m_isWord h (i := 6) (by omega), xb]
              by_cases z6 : wq T E x 6 = true
              · rw [if_neg (b0t z6), show b01 (wq T E x 6) = 1 by rw [z6]; rfl, must_1, xb, g_good g6, xb, if_neg i1]
                exact so3 (close_line h hk hL) hN h25
              · obtain ⟨rd', md', a1, a2, a3, a4, a5⟩ := failU_must h
                rw [if_pos (b0f z6), b0f z6, a1, xb, x_guard_pos (Or.inl rfl), a2, xb, e_good a3.er, xb, if_pos rfl]
                exact Or.inr ⟨sd, rd', rn, _, mn, mw, rfl, rfl, a3.c25, a4, a5.f.c25⟩
/-- how the reference ends a load -/
noncomputable def ldK (md : SD) (mn : Nat → Int64) (mw : Int64) : Option (Int32 × SD × (Nat → Int64) × Int64) := x_let (upS md 8 0 15 (0 : Int32)) fun (md11 : SD) => x_let (upS md11 8 0 16 (md11 8 0 18)) fun (md12 : SD) => (x_let (fun (y14 : Int32) => (x_let (upS md12 8 0 17 y14) fun (md15 : SD) => (if (md15 8 0 18) ≤ 0 then x_bind (f_X8_copies md15 (31) (30)) fun (q16 : SD) => x_let (upS q16 8 0 5 (0 : Int32)) fun (md17 : SD) => some ((md17 30 0 9), md17, mn, mw) else some ((-1000006 : Int32), md15, mn, mw)) : Option (Int32 × SD × (Nat → Int64) × Int64))) fun K13 => (if (md12 8 0 18) ≤ 0 then K13 ((-1000005 : Int32)) else K13 ((md12 8 0 19))))
theorem ld_step (f : Nat) (md : SD) (mn : Nat → Int64) (mw : Int64) : f_X8_load_L53 (f + 1) md mn mw = x_bind (f_X8_good md) fun (q9 : Int32) => if q9 = 0 then ldK md mn mw else if (md 8 0 22) = 0 then ldK md mn mw else x_bind (f_X8_line md mn mw) fun (q18 : (SD × (Nat → Int64) × Int64)) => if (q18.1 8 0 22) = (3 : Int32) then x_bind (f_X8_must (q18.1) 1 (2 : Int32)) fun (q21 : SD) => x_bind (f_X8_goesOn q21 (q18.2.2)) fun (q22 : (SD × Int64)) => f_X8_load_L53 f (q22.1) (q18.2.1) (q22.2) else x_bind (f_X8_must (q18.1) 0 (2 : Int32)) fun (q21 : SD) => x_bind (f_X8_goesOn q21 (q18.2.2)) fun (q22 : (SD × Int64)) => f_X8_load_L53 f (q22.1) (q18.2.1) (q22.2) := by
  rw [f_X8_load_L53]
  unfold ldK
  simp only [xl]
theorem ld_er (h : ER md) (f : Nat) (mn : Nat → Int64) (mw : Int64) : f_X8_load_L53 (f + 1) md mn mw = ldK md mn mw := by
  rw [ld_step, e_good h, xb, if_pos rfl]
/-- the outcome of a text -/
def TO (rd0 md0 : SD) (o1 : Option (Int32 × SD × SD × (Nat → Int64))) (o2 : Option (Int32 × SD × (Nat → Int64) × Int64)) : Prop := (∃ sd' rd' rn' md' mn' mw', o1 = some (1, sd', rd', rn') ∧ o2 = ldK md' mn' mw' ∧ rd' 5 0 7 = 0 ∧ md' 8 0 18 = 0 ∧ Inv (md' 31 0) ∧ Rel 0 sd' (md' 31 0) ∧ RF rd0 rd' ∧ MF md0 md') ∨ ∃ sd' rd' rn' md' mn' mw', o1 = some (0, sd', rd', rn') ∧ o2 = ldK md' mn' mw' ∧ BD rd' md' ∧ RF rd0 rd' ∧ MF md0 md'
theorem text_loop {rd0 md0 : SD} : ∀ (k n x f f' : Nat) (sd rd md : SD) (rn mn : Nat → Int64) (mw : Int64), E - x ≤ k → k < f → k + 1 < f' → n ≤ x → GS T E x rd md mw → LSt n sd md → NM (nv (md 31 0) 9) rn mn → md 8 0 25 = nI n → RF rd0 rd → MF md0 md → TO rd0 md0 (f_X5_readText_L33 f (nI n) sd rd rn) (f_X8_load_L53 f' md mn mw) := by
  intro k
  induction k with
  | zero =>
    intro n x f f' sd rd md rn mn mw hk hf hf' hn hG hL hN h25 hRF hMF
    obtain ⟨f, rfl⟩ : ∃ q, f = q + 1 := ⟨f - 1, by omega⟩
    obtain ⟨f', rfl⟩ : ∃ q, f' = q + 1 := ⟨f' - 1, by omega⟩
    have hE := hG.1.1
    have hxE := hG.2.1
    have g6 : md 8 0 18 = 0 := hG.1.2.2.2.2.2
    have h2 : rd 5 0 2 = nI E := hG.1.2.2.2.1.1
    obtain ⟨rd1, a1, a2, a3⟩ := hG.tok
    have hk0 : tkK T E x = 0 := by
      obtain ⟨c1, c2⟩ := tkS_b T hxE
      unfold tkK
      rw [if_pos (by omega)]
    have h5 : rd1 5 0 5 = 0 := by
      have := a2.2.2.2.2.1
      rw [hk0] at this
      exact this
    have h22 : md 8 0 22 = 0 := by
      have := a2.2.2.2.2.2.2.1
      rw [hk0] at this
      exact this
    rw [f_X5_readText_L33, h2, if_neg (by rw [nI_ltI (by omega) (by omega)]; omega), a1, xb, if_pos h5, ld_step, g_good g6, xb, if_neg i1, if_pos h22]
    exact Or.inl ⟨sd, rd1, rn, md, mn, mw, rfl, rfl, a2.1.2.2.2.1.2, g6, hL.1, hL.2.1, hRF.tr a3.f, hMF⟩
  | succ k ih =>
    intro n x f f' sd rd md rn mn mw hk hf hf' hn hG hL hN h25 hRF hMF
    obtain ⟨f, rfl⟩ : ∃ q, f = q + 1 := ⟨f - 1, by omega⟩
    obtain ⟨f', rfl⟩ : ∃ q, f' = q + 1 := ⟨f' - 1, by omega⟩
    have hE := hG.1.1
    have hxE := hG.2.1
    have g6 : md 8 0 18 = 0 := hG.1.2.2.2.2.2
    have h2 : rd 5 0 2 = nI E := hG.1.2.2.2.1.1
    have hkl := tkK_lt T E x
    obtain ⟨rd1, a1, a2, a3⟩ := hG.tok
    have h5 : rd1 5 0 5 = nI (tkK T E x) := a2.2.2.2.2.1
    have h22 : md 8 0 22 = nI (rk (tkK T E x)) := a2.2.2.2.2.2.2.1
    have e5 : (nI (tkK T E x) = (0 : Int32)) ↔ tkK T E x = 0 := nI_eq (b := 0) (by omega) (by omega)
    have e22 : (nI (rk (tkK T E x)) = (0 : Int32)) ↔ tkK T E x = 0 := rk_eq (n := 0) hkl (by omega)
    rw [f_X5_readText_L33, h2, if_neg (by rw [nI_ltI (by omega) (by omega)]; omega), a1, xb, h5, ld_step, g_good g6, xb, if_neg i1, h22]
    by_cases z : tkK T E x = 0
    · rw [if_pos (e5.mpr z), if_pos (e22.mpr z)]
      exact Or.inl ⟨sd, rd1, rn, md, mn, mw, rfl, rfl, a2.1.2.2.2.1.2, g6, hL.1, hL.2.1, hRF.tr a3.f, hMF⟩
    · rw [if_neg (fun y => z (e5.mp y)), if_neg (fun y => z (e22.mp y))]
      have hs := stmt_both (rn := rn) (mn := mn) a2 z hL hN h25 (by omega)
      have e0 : (nI n = (0 : Int32)) ↔ n = 0 := nI_eq (b := 0) (by omega) (by omega)
      have hflag : ∀ (g : Int32 → Option (Int32 × SD × SD × (Nat → Int64))), (if nI n = 0 then g 1 else g 0) = g (if n = 0 then 1 else 0) := fun g => by
        by_cases y : n = 0
        · rw [if_pos (e0.mpr y), if_pos y]
        · rw [if_neg (fun w => y (e0.mp w)), if_neg y]
      simp only [xl]
      rw [hflag (fun y8 => x_bind (f_X5_readStatement sd rd1 rn y8) fun q9 => if q9.1 = 0 then some (0, q9.2.1, q9.2.2.1, q9.2.2.2) else x_bind (f_X5_readSemicolon q9.2.2.1) fun q10 => if q10.1 = 0 then some (0, q9.2.1, q10.2, q9.2.2.2) else f_X5_readText_L33 f (nI n + 1) q9.2.1 q10.2 q9.2.2.2)]
      rcases hs with ⟨sd', rd', rn', md', mn', mw', x', b1, b2, b3, b4, b5, b6, b7, b8, b9⟩ | ⟨sd', rd', rn', md', mn', mw', b1, b2, b3, b4, b5⟩
      · rw [b1, xb, b2, xb]
        simp only
        rw [if_neg i1]
        obtain ⟨rd2, c1, c2, c3⟩ := b4.tok
        have hx'E := b4.2.1
        have k5 : rd2 5 0 5 = nI (tkK T E x') := c2.2.2.2.2.1
        have k22 : md' 8 0 22 = nI (rk (tkK T E x')) := c2.2.2.2.2.2.2.1
        have hkl' := tkK_lt T E x'
        have j5 : (nI (tkK T E x') = (4 : Int32)) ↔ tkK T E x' = 4 := nI_eq (b := 4) (by omega) (by omega)
        have j22 : (nI (rk (tkK T E x')) = (3 : Int32)) ↔ tkK T E x' = 4 := rk_eq (n := 4) hkl' (by omega)
        unfold f_X5_readSemicolon
        rw [c1, xb, k5, k22]
        by_cases w : tkK T E x' = 4
        · obtain ⟨md2, mw2, d1, d2, d3⟩ := c2.on (by omega)
          have hx'' := gc_x c2 (by omega)
          rw [if_pos (j5.mpr w), if_pos (j22.mpr w), xb, must_1, xb, d1, xb]
          simp only
          rw [if_neg i1, ra (k := 1)]
          refine ih (n + 1) (tkE T E x') f f' sd' rd2 md2 rn' mn' mw2 (by omega) (by omega) (by omega) (by omega) d2 ?_ ?_ ?_ (hRF.tr (a3.f.tr (b7.tr c3.f))) (hMF.tr (b8.tr d3.f))
          · obtain ⟨q1, q2, q3, q4⟩ := b5
            unfold LSt
            rw [d3.row31]
            exact ⟨q1, q2, q3, fun y => by omega⟩
          · rw [d3.row31]; exact b6
          · rw [d3 _ _ _ (by omega)]; exact b9
        · obtain ⟨rd3, md3, d1, d2, d3, d4, d5⟩ := failU_must c2
          obtain ⟨f', rfl⟩ : ∃ q, f' = q + 1 := ⟨f' - 1, by omega⟩
          rw [if_neg (fun y => w (j5.mp y)), if_neg (fun y => w (j22.mp y)), d1, xb, x_guard_pos (Or.inl rfl), xb, d2, xb, e_on d3.er, xb]
          simp only
          rw [if_pos trivial, ld_er d3.er]
          exact Or.inr ⟨sd', rd3, rn', md3, mn', mw', rfl, rfl, d3, hRF.tr (a3.f.tr (b7.tr (c3.f.tr d4))), hMF.tr (b8.tr d5.f)⟩
      · obtain ⟨f', rfl⟩ : ∃ q, f' = q + 1 := ⟨f' - 1, by omega⟩
        rw [b1, xb, b2, xb]
        simp only
        rw [if_pos trivial, e_must b3.er, xb, e_on b3.er, xb, e_must b3.er, xb, e_on b3.er, xb, ld_er b3.er]
        refine Or.inr ⟨sd', rd', rn', md', mn', mw', rfl, ?_, b3, hRF.tr (a3.f.tr b4), hMF.tr b5⟩
        split <;> rfl
end TXT
