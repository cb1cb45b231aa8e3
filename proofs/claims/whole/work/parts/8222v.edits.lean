/-! Layer 2: the edits -/
def ST (b : Nat) (x : Option (Int32 × CT)) (y : Option (Int32 × SD)) : Prop := ∃ v cs' m', x = some (v, cs') ∧ y = some (v, m') ∧ JJ b cs' m'
theorem i1 : ¬ ((1 : Int32) = 0) := by decide
section EDI
variable {b b' : Nat} {cs : CT} {m : SD}
theorem JJ.more (h : JJ b cs m) (hb : b ≤ b') : JJ b' cs m := by
  obtain ⟨h1, h2, ⟨f0, c, a1, a2, a3, a4, a5, a6⟩, h4, h5, h6, h7⟩ := h
  refine ⟨h1, h2.more hb, ⟨f0, c, a1, a2, a3, a4, a5, fun k hk => ?_⟩, h4, h5, h6, h7⟩
  obtain ⟨q, q1, q2, q3⟩ := a6 k hk
  exact ⟨q, q1, q2, q3.more hb⟩
theorem inv_of {F : Nat} {r : RW} (h : InvF F r) (e : nv r 9 = F) : Inv r := by rw [← e] at h; exact h
theorem rel_of {F : Nat} {sd : SD} {r : RW} (h : RelF F b sd r) (e : nv r 9 = F) : Rel b sd r := by rw [← e] at h; exact h
/-- what an edit finds behind its remembering -/
theorem edit_go {m1 : SD} (hJ : JJ b cs m) (s1 : MSame m m1) : ∃ cs1 m2 f1 c1, f_X7_remember cs = some cs1 ∧ f_X8_remembers m1 = some m2 ∧ m2 30 0 = m1 30 0 ∧ Inv (m1 30 0) ∧ Rel b (k_xs cs (k_st cs)) (m1 30 0) ∧ Rel b (k_xs cs1 (k_st cs1)) (m1 30 0) ∧ k_xs cs1 (k_st cs1) = k_xs cs (k_st cs) ∧ HSx b cs1 m2 f1 c1 ∧ DS cs1 ∧ KS cs cs1 ∧ FG cs cs1 ∧ (∀ k j t, k ≠ 33 → ¬ (k = 8 ∧ j = 0 ∧ t = 5) → m2 k j t = m1 k j t) := by
  obtain ⟨hI, hR, ⟨f0, c, hH⟩, hD, -⟩ := hJ.same s1
  obtain ⟨cs1, m2, f1, c1, q1, q2, q3, q4, q5, q6, q7⟩ := rem_both (m := m1) rfl hI hR hH hD
  have hx : k_xs cs1 (k_st cs1) = k_xs cs (k_st cs) := by rw [q5.1]; exact q5.2.2.1
  exact ⟨cs1, m2, f1, c1, q1, q2, funext fun t => q7 30 0 t (by decide) (by omega), hI, hR, by rw [hx]; exact hR, hx, q3, q4, q5, q6, q7⟩
theorem z6 {r : RW} (hI : Inv r) : (r 6 = 0) ↔ nv r 6 = 0 := by
  have l6 := hI.l6
  rw [hI.c6, req (k := 0) (by decide) (by omega)]
theorem st_mount (hJ : JJ b cs m) (hb : b < 2 ^ 27) (a : Int32) : ST (b + 64) (f_X7_mount cs a) (f_X8_mount m a) := by
  obtain ⟨m1, e1, r1, s1⟩ := thr m
  obtain ⟨cs1, m2, f1, c1, q1, q2, hrow, hI, hR0, hR, hx, q3, q4, q5, q6, q7⟩ := edit_go hJ s1
  have l7 := hI.l7
  unfold f_X7_mount f_X8_mount f_X7_mountProblem
  rw [c_hasPlatter hI hR0, xb, xl, e1, m_isPlatter rfl hI, xb]
  rcases hasV_cases a (n := nv (m1 30 0) 7) (by omega) with h | ⟨h, p, hp, rfl⟩
  · rw [h, if_pos rfl, if_pos rfl, xb, if_neg (by decide)]
    exact ⟨_, _, _, rfl, rfl, (hJ.same s1).more (by omega)⟩
  · rw [h, if_neg i1, if_neg i1, hR0.s3]
    by_cases z : (m1 30 0) 6 = 0
    · rw [if_pos z, if_pos z, xb, if_neg (by decide)]
      exact ⟨_, _, _, rfl, rfl, (hJ.same s1).more (by omega)⟩
    · rw [if_neg z, if_neg z, xb, if_pos rfl, q1, xb, q2, xb, xl, xl]
      have h0 : 0 < nv (m1 30 0) 6 := Nat.pos_of_ne_zero (fun y => z ((z6 hI).mpr y))
      obtain ⟨sd', m3, d, hd, hq, g1, g2, hX, hI3, hR3, hfr, -⟩ := mount_both hrow hI hR (by omega) h0 hp
      have n9 : nv (m3 30 0) 9 = nv (m1 30 0) 9 := nv_eq (hfr 9 (by unfold mec; omega))
      rw [g1, xb, g2, xb]
      refine ⟨_, _, m3, rfl, ?_, hJ.edit s1 (by omega) q3 q4 q5 q6 q7 hX (inv_of hI3 n9) ((rel_of hR3 n9).more (by omega))⟩
      unfold f_X8_took
      rw [xb, hR3.s15, hR.s15, hrow]
theorem st_eject (hJ : JJ b cs m) (hb : b < 2 ^ 27) (a : Int32) : ST (b + 64) (f_X7_eject cs a) (f_X8_eject m a) := by
  obtain ⟨m1, e1, r1, s1⟩ := thr m
  obtain ⟨cs1, m2, f1, c1, q1, q2, hrow, hI, hR0, hR, hx, q3, q4, q5, q6, q7⟩ := edit_go hJ s1
  have l6 := hI.l6
  unfold f_X7_eject f_X8_eject
  rw [c_hasDrive hI hR0, xb, xl, e1, m_isDrive rfl hI, xb]
  rcases hasV_cases a (n := nv (m1 30 0) 6) (by omega) with h | ⟨h, d, hd, rfl⟩
  · rw [h, if_pos rfl, if_pos rfl]
    exact ⟨_, _, _, rfl, rfl, (hJ.same s1).more (by omega)⟩
  · rw [h, if_neg i1, if_neg i1]
    simp (disch := omega) only [xg, vinT, la, nI_clamp, (hR0.dr d hd).2]
    by_cases z : (m1 30 0) (21 + d) = -1
    · rw [if_pos z, if_pos z]
      exact ⟨_, _, _, rfl, rfl, (hJ.same s1).more (by omega)⟩
    · rw [if_neg z, if_neg z, q1, xb, q2, xb, xl, xl]
      obtain ⟨sd', m3, g1, g2, hX, hI3, hR3⟩ := empty_both hrow hI hR hd z
      have n9 : nv (m3 30 0) 9 = nv (m1 30 0) 9 := by
        obtain ⟨m4, k1, -, k3, -⟩ := m_empties hrow hI hd (q := nv (m1 30 0) (21 + d)) (by
          rcases (hI.drv d hd).2 with w | ⟨w, -⟩
          · exact absurd w z
          · exact w.e) (by
          rcases (hI.drv d hd).2 with w | ⟨-, w⟩
          · exact absurd w z
          · exact w)
        have : m4 = m3 := Option.some.inj (k1.symm.trans g2)
        subst this
        exact nv_eq (k3 9 (by omega) (by omega) (by omega) (by omega))
      rw [g1, xb, g2, xb]
      refine ⟨_, _, m3, rfl, ?_, hJ.edit s1 (by omega) q3 q4 q5 q6 q7 hX (inv_of hI3 n9) ((rel_of hR3 n9).more (by omega))⟩
      unfold f_X8_took
      rw [xb, hR3.s15, hR.s15, hrow]
theorem c_readProblem {sd : SD} {r : RW} (hI : Inv r) (hR : Rel b sd r) {f : Nat} (hf : f < nv r 9) : f_X7_readProblem sd (nI f) = some (if r 6 = 0 then -1000007 else if gdV r (nv r (289 + f)) = 0 then -1000008 else 0) := by
  have l9 := hI.l9
  unfold f_X7_readProblem
  rw [c_hasFile hI hR, xb, hasV_in hf (by omega), if_neg (by decide), hR.s3, c_isReadable hI hR hf, xb]
  split
  · rfl
  · split <;> rfl
theorem m_whyNotRead {md : SD} {r : RW} (hr : md 30 0 = r) (hI : Inv r) {f : Nat} (hf : f < nv r 9) : f_X8_whyNotRead md (nI f) = some (if r 6 = 0 then -1000007 else if gdV r (nv r (289 + f)) = 0 then -1000008 else 0) := by
  have l9 := hI.l9
  unfold f_X8_whyNotRead
  rw [m_isFile hr hI, xb, hasV_in hf (by omega), if_neg (by decide), m_isReadable hr hI hf, xb, hr]
  split
  · rfl
  · split <;> rfl
theorem st_read (hJ : JJ b cs m) (hb : b < 2 ^ 27) (a : Int32) : ST (b + 64) (f_X7_read cs a) (f_X8_read m a) := by
  obtain ⟨m1, e1, r1, s1⟩ := thr m
  obtain ⟨cs1, m2, f1, c1, q1, q2, hrow, hI, hR0, hR, hx, q3, q4, q5, q6, q7⟩ := edit_go hJ s1
  have l9 := hI.l9
  unfold f_X7_read f_X8_read
  rw [xl, e1]
  rcases hasV_cases a (n := nv (m1 30 0) 9) (by omega) with h | ⟨h, f, hf, rfl⟩
  · have g1 : f_X7_readProblem (k_xs cs (k_st cs)) a = some (-1000001) := by
      unfold f_X7_readProblem
      rw [c_hasFile hI hR0, xb, h, if_pos rfl]
    have g2 : f_X8_whyNotRead m1 a = some (-1000001) := by
      unfold f_X8_whyNotRead
      rw [m_isFile rfl hI, xb, h, if_pos rfl]
    rw [g1, xb, g2, xb, if_neg (by decide), if_neg (by decide)]
    exact ⟨_, _, _, rfl, rfl, (hJ.same s1).more (by omega)⟩
  · rw [c_readProblem hI hR0 hf, xb, m_whyNotRead rfl hI hf, xb]
    by_cases z : (m1 30 0) 6 = 0
    · rw [if_pos z, if_neg (by decide), if_neg (by decide)]
      exact ⟨_, _, _, rfl, rfl, (hJ.same s1).more (by omega)⟩
    · rw [if_neg z]
      by_cases y : gdV (m1 30 0) (nv (m1 30 0) (289 + f)) = 0
      · rw [if_pos y, if_neg (by decide), if_neg (by decide)]
        exact ⟨_, _, _, rfl, rfl, (hJ.same s1).more (by omega)⟩
      · rw [if_neg y, if_pos rfl, if_pos rfl, q1, xb, q2, xb, xl, xl]
        have h0 : 0 < nv (m1 30 0) 6 := Nat.pos_of_ne_zero (fun y => z ((z6 hI).mpr y))
        obtain ⟨sd', m3, d, hd, hq, g1, g2, hX, hI3, hR3, hfr, -⟩ := read_both hrow hI hR (by omega) h0 hf
        have n9 : nv (m3 30 0) 9 = nv (m1 30 0) 9 := nv_eq (hfr 9 (by unfold mec; omega))
        rw [g1, xb, g2, xb]
        refine ⟨_, _, m3, rfl, ?_, hJ.edit s1 (by omega) q3 q4 q5 q6 q7 hX (inv_of hI3 n9) ((rel_of hR3 n9).more (by omega))⟩
        unfold f_X8_took
        rw [xb, hR3.s15, hR.s15, hrow]
end EDI
