/-! Layer 2: can a platter take so much; a version is written -/
/-- only the row k0 changes -/
def MK (k0 : Nat) (m m' : SD) : Prop := ∀ k j t, ¬ (k = k0 ∧ j = 0 ∧ t < 605) → m' k j t = m k j t
theorem MK.rf (k0 : Nat) (m : SD) : MK k0 m m := fun _ _ _ _ => rfl
theorem MK.tr {k0 : Nat} {x y z : SD} (h : MK k0 x y) (g : MK k0 y z) : MK k0 x z := fun k j t a => (g k j t a).trans (h k j t a)
theorem MK.up {k0 : Nat} {m m' : SD} (h : MK k0 m m') {t : Nat} {v : Int32} (ht : t < 605) : MK k0 m (upS m' k0 0 t v) := fun k j q a => by
  unfold upS
  rw [if_neg (fun z => a ⟨z.1, z.2.1, by omega⟩)]
  exact h k j q a
theorem MK.mx {m m' : SD} (h : MK 30 m m') : MX m m' := fun k j t a _ => h k j t a
/-- whether a platter can take so many sectors -/
def ctV (r : RW) (p n : Nat) : Int32 := if nv r (79 + p) = 0 ∧ nv r (69 + p) = 8 then 0 else if nv r (39 + p) - nv r (59 + p) < n then 0 else if nv r (49 + p) < ent r p (nv r (59 + p)) n then 0 else 1
section WRI
variable {F : Nat} {b : Nat} {sd md : SD} {r : RW} {k0 : Nat}
theorem c_canTake (hI : InvF F r) (hR : RelF F b sd r) {p n : Nat} (hp : p < nv r 7) (hn : n ≤ 300) : f_X3_canTake sd p (nI n) = some (ctV r p n) := by
  obtain ⟨-, ⟨c1, c2⟩, s1, ⟨e1, e2⟩, n1, o1, -⟩ := hI.plt p hp
  have lc := c1.l
  have ls := s1.l
  have le := e1.l
  have ln := n1.l
  have lo := o1.l
  obtain ⟨-, p1, p2, p3, p4, p5⟩ := hR.pl p hp
  have eu : sd 3 p 1 - sd 3 p 3 = nI (nv r (39 + p) - nv r (59 + p)) := by
    rw [p1, p3, c1.e, e1.e]
    exact pk_sub e2
  unfold f_X3_canTake f_X3_unused ctV
  rw [eu, p4, p5, p2, n1.e, o1.e, s1.e]
  simp (disch := omega) only [xl, xb, req, rlt, nI_ltI]
  by_cases z : nv r (39 + p) - nv r (59 + p) < n
  · simp only [z, if_true]
    by_cases y : nv r (79 + p) = 0
    · by_cases w : nv r (69 + p) = 8
      · simp only [y, w, and_self, if_true, Nat.lt_irrefl, if_false]
      · have w1 : nv r (69 + p) < 8 := by omega
        simp only [y, w, w1, and_false, if_true, if_false]
    · simp only [y, false_and, if_false]
  · have hb : bads sd p (nv r (59 + p)) n = ent r p (nv r (59 + p)) n := (ent_bads hI hR.bd hp _ n (by omega)).symm
    have hle : ent r p (nv r (59 + p)) n ≤ 20 := Nat.le_trans (cnt_le _ _) hI.l8
    rw [c_badAmong (e := nv r (59 + p)) (by rw [p3]; exact e1.e) (by omega), hb]
    simp (disch := omega) only [z, if_false, xb, nI_ltI]
    by_cases y : nv r (79 + p) = 0
    · by_cases w : nv r (69 + p) = 8
      · simp only [y, w, and_self, if_true, Nat.lt_irrefl, if_false]
      · have w1 : nv r (69 + p) < 8 := by omega
        simp only [y, w, w1, and_false, if_true, if_false]
        split <;> rfl
    · simp only [y, false_and, if_false]
      split <;> rfl
theorem m_canWrite (hr : md k0 0 = r) (hI : InvF F r) {p n : Nat} (hp : p < nv r 7) (hn : n ≤ 300) : f_X8_canWrite md k0 (nI p) (nI n) = some (ctV r p n) := by
  have l7 := hI.l7
  obtain ⟨-, ⟨c1, c2⟩, s1, ⟨e1, e2⟩, n1, o1, -⟩ := hI.plt p hp
  have lc := c1.l
  have ls := s1.l
  have le := e1.l
  have ln := n1.l
  have lo := o1.l
  have hle : ent r p (nv r (59 + p)) n ≤ 20 := Nat.le_trans (cnt_le _ _) hI.l8
  have hbi := m_badsIn (md := md) (k0 := k0) (fun i _ => by rw [hr]) hI (p := p) (e := nv r (59 + p)) (n := n) (by omega) hn
  have eu : nI (nv r (39 + p)) - nI (nv r (59 + p)) = nI (nv r (39 + p) - nv r (59 + p)) := pk_sub e2
  unfold f_X8_canWrite ctV
  rw [hr]
  simp (disch := omega) only [xl, xg, vinT, la, nI_clamp, c1.e, e1.e, n1.e, o1.e, s1.e, eu, hbi, xb, req, nI_ltI]
  by_cases y : nv r (79 + p) = 0
  · by_cases w : nv r (69 + p) = 8
    · simp only [y, w, and_self, if_true]
    · simp only [y, w, and_false, if_true, if_false]
      split
      · rfl
      · split <;> rfl
  · simp only [y, false_and, if_false]
    split
    · rfl
    · split <;> rfl
/-- the sessions of a platter behind a write -/
def nSe (r : RW) (p : Nat) : Nat := if nv r (79 + p) = 0 then nv r (69 + p) + 1 else nv r (69 + p)
/-- what a write does to the row -/
def WV (r r' : RW) (f p n : Nat) : Prop :=
  (∀ i, i ≠ 10 → i ≠ 309 + nv r 10 → i ≠ 349 + nv r 10 → i ≠ 389 + nv r 10 → i ≠ 429 + nv r 10 → i ≠ 469 + nv r 10 → i ≠ 509 + nv r 10 → i ≠ 549 + nv r 10 → i ≠ 289 + f → i ≠ 49 + p → i ≠ 59 + p → i ≠ 69 + p → i ≠ 79 + p → i ≠ 89 + 8 * p + (nSe r p - 1) → i ≠ 169 + 8 * p + (nSe r p - 1) → r' i = r i) ∧
  r' 10 = nI (nv r 10 + 1) ∧ r' (309 + nv r 10) = nI f ∧ r' (349 + nv r 10) = nI p ∧ r' (389 + nv r 10) = nI (nv r (59 + p)) ∧ r' (429 + nv r 10) = nI n ∧ r' (469 + nv r 10) = nI (nSe r p - 1) ∧ r' (509 + nv r 10) = nI (ent r p (nv r (59 + p)) n) ∧ r' (549 + nv r 10) = nI 0 ∧ r' (289 + f) = nI (nv r 10) ∧ r' (49 + p) = nI (nv r (49 + p) - ent r p (nv r (59 + p)) n) ∧ r' (59 + p) = nI (nv r (59 + p) + n) ∧ r' (69 + p) = nI (nSe r p) ∧ r' (79 + p) = nI 1 ∧
  (nv r (79 + p) = 0 → r' (89 + 8 * p + (nSe r p - 1)) = nI (nv r (59 + p)) ∧ r' (169 + 8 * p + (nSe r p - 1)) = nI n) ∧ (nv r (79 + p) ≠ 0 → r' (89 + 8 * p + (nSe r p - 1)) = r (89 + 8 * p + (nSe r p - 1)) ∧ r' (169 + 8 * p + (nSe r p - 1)) = r (169 + 8 * p + (nSe r p - 1)) + nI n)
theorem m_writesVersion (hr : md k0 0 = r) (hI : InvF F r) {f p n : Nat} (hf : f < 20) (hp : p < nv r 7) (hn : n ≤ 300) (hV : nv r 10 < 40) (hS : nv r (79 + p) = 0 → nv r (69 + p) < 8) (hle : ent r p (nv r (59 + p)) n ≤ nv r (49 + p)) : ∃ m', f_X8_writesVersion md k0 (nI f) (nI p) (nI n) = some m' ∧ MK k0 md m' ∧ WV r (m' k0 0) f p n := by
  have l7 := hI.l7
  obtain ⟨-, ⟨c1, c2⟩, s1, ⟨e1, e2⟩, n1, o1, o2⟩ := hI.plt p hp
  have lc := c1.l
  have ls := s1.l
  have le := e1.l
  have ln := n1.l
  have lo := o1.l
  have c10 := hI.c10
  have hsp : nI (nv r (49 + p)) - nI (ent r p (nv r (59 + p)) n) = nI (nv r (49 + p) - ent r p (nv r (59 + p)) n) := pk_sub hle
  have hi : ∀ i, md k0 0 i = r i := fun i => by rw [hr]
  by_cases z : nv r (79 + p) = 0
  · have hs := hS z
    have hN : nSe r p = nv r (69 + p) + 1 := by unfold nSe; rw [if_pos z]
    have hN1 : nSe r p - 1 = nv r (69 + p) := by omega
    have o0 : r (79 + p) = 0 := by rw [o1.e, z]; rfl
    -- the row behind the opening of the session
    obtain ⟨m5, hm5⟩ : ∃ m5, m5 = upS (upS (upS (upS md k0 0 (89 + 8 * p + nv r (69 + p)) (nI (nv r (59 + p)))) k0 0 (169 + 8 * p + nv r (69 + p)) 0) k0 0 (69 + p) (nI (nv r (69 + p) + 1))) k0 0 (79 + p) 1 := ⟨_, rfl⟩
    have q0 : ∀ i, i ≠ 89 + 8 * p + nv r (69 + p) → i ≠ 169 + 8 * p + nv r (69 + p) → i ≠ 69 + p → i ≠ 79 + p → m5 k0 0 i = r i := fun i h1 h2 h3 h4 => by rw [hm5]; simp (disch := omega) only [upS_t, hi]
    have q89 : m5 k0 0 (89 + 8 * p + nv r (69 + p)) = nI (nv r (59 + p)) := by rw [hm5]; simp (disch := omega) only [upS_t, upS_hit]
    have q169 : m5 k0 0 (169 + 8 * p + nv r (69 + p)) = 0 := by rw [hm5]; simp (disch := omega) only [upS_t, upS_hit]
    have q69 : m5 k0 0 (69 + p) = nI (nv r (69 + p) + 1) := by rw [hm5]; simp (disch := omega) only [upS_t, upS_hit]
    have q79 : m5 k0 0 (79 + p) = 1 := by rw [hm5]; simp (disch := omega) only [upS_hit]
    have hbi := m_badsIn (md := m5) (k0 := k0) (fun i _ => q0 i (by omega) (by omega) (by omega) (by omega)) hI (p := p) (e := nv r (59 + p)) (n := n) (by omega) hn
    have hmk : MK k0 md m5 := by rw [hm5]; exact ((((MK.rf k0 md).up (by omega)).up (by omega)).up (by omega)).up (by omega)
    have q10 : m5 k0 0 10 = nI (nv r 10) := by rw [q0 _ (by omega) (by omega) (by omega) (by omega)]; exact c10
    have q49 : m5 k0 0 (49 + p) = nI (nv r (49 + p)) := by rw [q0 _ (by omega) (by omega) (by omega) (by omega)]; exact s1.e
    have q59 : m5 k0 0 (59 + p) = nI (nv r (59 + p)) := by rw [q0 _ (by omega) (by omega) (by omega) (by omega)]; exact e1.e
    have ev : f_X8_writesVersion md k0 (nI f) (nI p) (nI n) = some (upS (upS (upS (upS (upS (upS (upS (upS (upS (upS (upS (upS m5 k0 0 10 (nI (nv r 10 + 1))) k0 0 (309 + nv r 10) (nI f)) k0 0 (349 + nv r 10) (nI p)) k0 0 (389 + nv r 10) (nI (nv r (59 + p)))) k0 0 (429 + nv r 10) (nI n)) k0 0 (469 + nv r 10) (nI (nv r (69 + p)))) k0 0 (509 + nv r 10) (nI (ent r p (nv r (59 + p)) n))) k0 0 (549 + nv r 10) 0) k0 0 (289 + f) (nI (nv r 10))) k0 0 (49 + p) (nI (nv r (49 + p) - ent r p (nv r (59 + p)) n))) k0 0 (59 + p) (nI (nv r (59 + p) + n))) k0 0 (169 + 8 * p + nv r (69 + p)) (nI (0 + n))) := by
      unfold f_X8_writesVersion
      simp (disch := omega) only [xl, xg, vinT, la, lm, nI_add, nI_clamp, hi, o0, if_true, e1.e, n1.e, upS_t, upS_hit, ra]
      rw [← hm5, hbi]
      simp (disch := omega) only [xb, xg, vinT, la, lm, ra, rsu, nI_add, nI_clamp, q69, q10, q49, q59, q169, c10, s1.e, e1.e, upS_t, upS_hit, hsp, Nat.add_sub_cancel, li 0]
    refine ⟨_, ev, ?_, ?_⟩
    · exact (((((((((((hmk.up (by omega)).up (by omega)).up (by omega)).up (by omega)).up (by omega)).up (by omega)).up (by omega)).up (by omega)).up (by omega)).up (by omega)).up (by omega)).up (by omega)
    · unfold WV
      rw [hN1, hN]
      refine ⟨fun i k1 k2 k3 k4 k5 k6 k7 k8 k9 k10 k11 k12 k13 k14 k15 => ?_, ?_, ?_, ?_, ?_, ?_, ?_, ?_, ?_, ?_, ?_, ?_, ?_, ?_, fun _ => ⟨?_, ?_⟩, fun h => absurd z h⟩
      · simp (disch := omega) only [upS_t]
        exact q0 i (by omega) (by omega) (by omega) (by omega)
      all_goals simp (disch := omega) only [upS_t, upS_hit, q69, q79, q89, Nat.zero_add]
      all_goals rfl
  · have o3 : nv r (79 + p) = 1 := by omega
    have hs := o2 o3
    have hN : nSe r p = nv r (69 + p) := by unfold nSe; rw [if_neg z]
    have o0 : ¬ (r (79 + p) = 0) := by rw [o1.e, o3]; decide
    have hbi := m_badsIn (md := md) (k0 := k0) (fun i _ => hi i) hI (p := p) (e := nv r (59 + p)) (n := n) (by omega) hn
    have ev : f_X8_writesVersion md k0 (nI f) (nI p) (nI n) = some (upS (upS (upS (upS (upS (upS (upS (upS (upS (upS (upS (upS md k0 0 10 (nI (nv r 10 + 1))) k0 0 (309 + nv r 10) (nI f)) k0 0 (349 + nv r 10) (nI p)) k0 0 (389 + nv r 10) (nI (nv r (59 + p)))) k0 0 (429 + nv r 10) (nI n)) k0 0 (469 + nv r 10) (nI (nv r (69 + p) - 1))) k0 0 (509 + nv r 10) (nI (ent r p (nv r (59 + p)) n))) k0 0 (549 + nv r 10) 0) k0 0 (289 + f) (nI (nv r 10))) k0 0 (49 + p) (nI (nv r (49 + p) - ent r p (nv r (59 + p)) n))) k0 0 (59 + p) (nI (nv r (59 + p) + n))) k0 0 (169 + 8 * p + (nv r (69 + p) - 1)) (r (169 + 8 * p + (nv r (69 + p) - 1)) + nI n)) := by
      unfold f_X8_writesVersion
      simp (disch := omega) only [xl, xg, vinT, la, lm, nI_add, nI_clamp, hi, if_neg o0, e1.e, hbi]
      simp (disch := omega) only [xb, xg, vinT, la, lm, ra, rsu, nI_add, nI_clamp, hi, n1.e, c10, s1.e, e1.e, upS_t, upS_hit, hsp]
    refine ⟨_, ev, ?_, ?_⟩
    · exact ((((((((((((MK.rf k0 md).up (by omega)).up (by omega)).up (by omega)).up (by omega)).up (by omega)).up (by omega)).up (by omega)).up (by omega)).up (by omega)).up (by omega)).up (by omega)).up (by omega)
    · unfold WV
      rw [hN]
      refine ⟨fun i k1 k2 k3 k4 k5 k6 k7 k8 k9 k10 k11 k12 k13 k14 k15 => ?_, ?_, ?_, ?_, ?_, ?_, ?_, ?_, ?_, ?_, ?_, ?_, ?_, ?_, fun h => absurd h z, fun _ => ⟨?_, ?_⟩⟩
      · simp (disch := omega) only [upS_t]
        exact hi i
      all_goals simp (disch := omega) only [upS_t, upS_hit, hi]
      all_goals first | rfl | exact n1.e | (rw [o1.e, o3])
end WRI
