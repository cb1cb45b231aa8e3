/-! Layer 2: the picker and the drives -/
def dst (a b : Nat) : Nat := (a - b) + (b - a)
theorem dst_le {a b n : Nat} (ha : a ≤ n) (hb : b ≤ n) : dst a b ≤ n := by unfold dst; omega
theorem c_abs {a b : Nat} (ha : a < 2 ^ 30) (hb : b < 2 ^ 30) : (if 0 ≤ nI a - nI b then nI a - nI b else 0 - (nI a - nI b)) = nI (dst a b) := by
  by_cases h : b ≤ a
  · rw [pk_sub h, if_pos (nI_pos' (by omega))]
    congr 1
    unfold dst
    omega
  · rw [if_neg (by rw [i32_le_lt]; exact pk_sneg hb (by omega))]
    have e : (0 : Int32) - (nI a - nI b) = nI b - nI a := by grind
    rw [e, pk_sub (by omega)]
    congr 1
    unfold dst
    omega
theorem m_far {a b : Nat} (ha : a < 2 ^ 31) (hb : b < 2 ^ 31) : f_X8_far (nI a) (nI b) = some (nI (dst a b)) := by
  unfold f_X8_far
  simp only [nI_leI hb ha]
  by_cases h : b ≤ a
  · rw [if_pos h, pk_sub h]
    congr 2
    unfold dst
    omega
  · rw [if_neg h, pk_sub (by omega)]
    congr 2
    unfold dst
    omega
/-- how far the picker goes to bring a platter into a drive -/
def mvs (r : RW) (p d : Nat) : Nat := if r (21 + d) = -1 then dst (nv r 11) (nv r (29 + p)) + dst (nv r (29 + p)) (nv r (17 + d)) else dst (nv r 11) (nv r (17 + d)) + dst (nv r (17 + d)) (nv r (29 + nv r (21 + d))) + dst (nv r (29 + nv r (21 + d))) (nv r (29 + p)) + dst (nv r (29 + p)) (nv r (17 + d))
/-- how long that takes -/
def btm (r : RW) (p d : Nat) : Nat := mvs r p d * nv r 1 + (if r (21 + d) = -1 then 2 else 4) * nv r 2 + nv r 3
section MECH
variable {F : Nat} {b : Nat} {sd md : SD} {r : RW} {k0 : Nat}
theorem c_bringMoves (hI : InvF F r) (hR : RelF F b sd r) {p d : Nat} (hp : p < nv r 7) (hd : d < nv r 6) : f_X4_bringMoves sd (nI p) (nI d) = some (nI (mvs r p d)) := by
  have l6 := hI.l6
  have l7 := hI.l7
  obtain ⟨⟨x1, x2⟩, x3⟩ := hI.drv d hd
  obtain ⟨y1, y2⟩ := (hI.plt p hp).1
  have k1 := hI.pick.1
  have b1 := x1.l
  have b2 := y1.l
  have b3 := k1.l
  unfold f_X4_bringMoves mvs
  rcases x3 with h | ⟨z1, z2⟩
  · simp (disch := omega) only [xl, xg, xb, vinT, nI_clamp, la, ra, lm, rmu, rsu, nI_add, pk_mul, nm1, m1n, nneg, npos, lle, rle, llt, rlt, leq, req, nI_leI, nI_ltI, nI_eq, if_pos, if_neg, if_true, if_false, i01, i10, (hR.dr d hd).1, (hR.dr d hd).2, hR.s14, (hR.pl p hp).1, x1.e, y1.e, k1.e, h, c_abs, Nat.zero_add]
  · obtain ⟨w1, w2⟩ := (hI.plt _ z2).1
    have b4 := w1.l
    have b5 := z1.l
    have hne : ¬ (r (21 + d) = -1) := by rw [z1.e, nm1 (by omega)]; exact id
    simp (disch := omega) only [xl, xg, xb, vinT, nI_clamp, (hR.dr d hd).1, (hR.dr d hd).2, hR.s14, (hR.pl p hp).1, x1.e, y1.e, k1.e, if_neg hne]
    simp (disch := omega) only [xl, xg, xb, vinT, nI_clamp, la, ra, lm, rmu, rsu, nI_add, pk_mul, nm1, m1n, nneg, npos, lle, rle, llt, rlt, leq, req, nI_leI, nI_ltI, nI_eq, if_pos, if_neg, if_true, if_false, i01, i10, z1.e, (hR.pl _ z2).1, w1.e, c_abs]
theorem c_bringTime (hI : InvF F r) (hR : RelF F b sd r) {p d : Nat} (hp : p < nv r 7) (hd : d < nv r 6) : f_X4_bringTime sd (nI p) (nI d) = some (if r (21 + d) = nI p then 0 else nI (btm r p d)) := by
  have l6 := hI.l6
  obtain ⟨t1, t2, t3, t4, t5⟩ := hI.tim
  unfold f_X4_bringTime btm
  simp (disch := omega) only [xl, xg, xb, vinT, nI_clamp, la, ra, lm, rmu, rsu, nI_add, pk_mul, nm1, m1n, nneg, npos, lle, rle, llt, rlt, leq, req, nI_leI, nI_ltI, nI_eq, if_pos, if_neg, if_true, if_false, i01, i10, (hR.dr d hd).2, c_bringMoves hI hR hp hd, hR.tm.1, hR.tm.2.1, hR.tm.2.2.1, t1.e, t2.e, t3.e]
  split
  · rfl
  · split <;> rfl
/-- the row behind an exchange but for the uses -/
def br0 (r : RW) (p d : Nat) : RW := rup (rup (rup (rup (rup r 11 (r (17 + d))) 12 (r 12 + nI (btm r p d))) 13 (r 13 + 1)) 14 (r 14 + nI (mvs r p d))) (21 + d) (nI p)
def useR (r : RW) (d : Nat) : RW := rup (rup r 15 (r 15 + 1)) (25 + d) (r 15 + 1)
/-- only the row changes, and cells that are written before they are read -/
def MX (m m' : SD) : Prop := ∀ k j t, ¬ (k = 30 ∧ j = 0 ∧ t < 605) → ¬ (k = 34 ∨ k = 35 ∨ k = 36 ∨ (k = 8 ∧ t = 10)) → m' k j t = m k j t
theorem MX.rf (m : SD) : MX m m := fun _ _ _ _ _ => rfl
theorem MX.tr {x y z : SD} (h : MX x y) (g : MX y z) : MX x z := fun k j t a c => (g k j t a c).trans (h k j t a c)
theorem MX.up {m m' : SD} (h : MX m m') {t : Nat} {v : Int32} (ht : t < 605) : MX m (upS m' 30 0 t v) := fun k j q a c => by
  unfold upS
  rw [if_neg (fun z => a ⟨z.1, z.2.1, by omega⟩)]
  exact h k j q a c
theorem MX.uw {m m' : SD} (h : MX m m') {k j t : Nat} {v : Int32} (hs : k = 34 ∨ k = 35 ∨ k = 36 ∨ (k = 8 ∧ t = 10)) : MX m (upS m' k j t v) := fun k' j' t' a c => by
  unfold upS
  rw [if_neg (fun z => c (by obtain ⟨rfl, rfl, rfl⟩ := z; exact hs))]
  exact h k' j' t' a c
theorem m_goes (hr : md 30 0 = r) {k x : Nat} (hk : r 11 = nI k) (hk2 : k < 2 ^ 30) (hx : x < 2 ^ 30) : ∃ m', f_X8_goes md (nI x) = some m' ∧ MX md m' ∧ (∀ i, i ≠ 11 → i ≠ 12 → i ≠ 14 → m' 30 0 i = r i) ∧ m' 30 0 11 = nI x ∧ m' 30 0 12 = r 12 + nI (dst k x) * r 1 ∧ m' 30 0 14 = r 14 + nI (dst k x) := by
  subst hr
  unfold f_X8_goes
  rw [hk, m_far (by omega) (by omega), xb]
  simp only [xl]
  refine ⟨_, rfl, ((((MX.rf md).up (by omega)).up (by omega)).up (by omega)), fun i h1 h2 h3 => ?_, ?_, ?_, ?_⟩
  all_goals simp (disch := omega) only [upS_t, upS_hit]
theorem m_grips (hr : md 30 0 = r) : ∃ m', f_X8_grips md = some m' ∧ MX md m' ∧ (∀ i, i ≠ 12 → m' 30 0 i = r i) ∧ m' 30 0 12 = r 12 + r 2 := by
  subst hr
  refine ⟨_, rfl, (MX.rf md).up (by omega), fun i h => ?_, ?_⟩
  all_goals simp (disch := omega) only [upS_t, upS_hit]
theorem m_uses (hr : md 30 0 = r) {d : Nat} (hd : d < 4) : ∃ m', f_X8_uses md (nI d) = some m' ∧ MX md m' ∧ m' 30 0 = useR r d := by
  subst hr
  unfold f_X8_uses
  simp (disch := omega) only [xl, xg, xb, vinT, nI_clamp, la, ra, lm, rmu, rsu, nI_add, pk_mul, nm1, m1n, nneg, npos, lle, rle, llt, rlt, leq, req, nI_leI, nI_ltI, nI_eq, if_pos, if_neg, if_true, if_false, i01, i10]
  refine ⟨_, rfl, ((MX.rf md).up (by omega)).up (by omega), ?_⟩
  simp only [row_up, rup_hit]
  rfl
theorem m_empties (hr : md 30 0 = r) (hI : InvF F r) {d q : Nat} (hd : d < nv r 6) (hq : r (21 + d) = nI q) (hq2 : q < nv r 7) : ∃ m', f_X8_empties md (nI d) = some m' ∧ MX md m' ∧ (∀ i, i ≠ 11 → i ≠ 12 → i ≠ 14 → i ≠ 21 + d → m' 30 0 i = r i) ∧ m' 30 0 11 = nI (nv r (29 + q)) ∧ m' 30 0 12 = r 12 + (nI (dst (nv r 11) (nv r (17 + d)) + dst (nv r (17 + d)) (nv r (29 + q))) * r 1 + 2 * r 2) ∧ m' 30 0 14 = r 14 + nI (dst (nv r 11) (nv r (17 + d)) + dst (nv r (17 + d)) (nv r (29 + q))) ∧ m' 30 0 (21 + d) = -1 := by
  have l6 := hI.l6
  have l7 := hI.l7
  obtain ⟨⟨x1, x2⟩, -⟩ := hI.drv d hd
  obtain ⟨y1, y2⟩ := (hI.plt q hq2).1
  have b1 := x1.l
  have b2 := y1.l
  have b3 := hI.pick.1.l
  unfold f_X8_empties
  obtain ⟨m1, e1, f1, g1, g11, g12, g14⟩ := m_goes hr (x := nv r (17 + d)) hI.pick.1.e (by omega) (by omega)
  obtain ⟨m2, e2, f2, h2, h12⟩ := m_grips (md := m1) rfl
  have c1 : m2 30 0 (21 + d) = nI q := by rw [h2 _ (by omega), g1 _ (by omega) (by omega) (by omega), hq]
  have c2 : m2 30 0 (29 + q) = nI (nv r (29 + q)) := by rw [h2 _ (by omega), g1 _ (by omega) (by omega) (by omega)]; exact y1.e
  have c3 : (m2 30 0) 11 = nI (nv r (17 + d)) := by rw [h2 _ (by omega), g11]
  obtain ⟨m3, e3, f3, i1, i11, i12, i14⟩ := m_goes (md := m2) rfl (x := nv r (29 + q)) c3 (by omega) (by omega)
  obtain ⟨m4, e4, f4, j2, j12⟩ := m_grips (md := m3) rfl
  have hr1 : md 30 0 (17 + d) = nI (nv r (17 + d)) := by rw [hr]; exact x1.e
  simp (disch := omega) only [xg, vinT, la, nI_clamp]
  rw [hr1, e1, xb, e2, xb, c1]
  simp (disch := omega) only [xg, vinT, la, nI_clamp]
  rw [c2, e3, xb, e4, xb]
  simp only [xl]
  refine ⟨_, rfl, (f1.tr (f2.tr (f3.tr f4))).up (by omega), fun i k1 k2 k3 k4 => ?_, ?_, ?_, ?_, ?_⟩
  · rw [upS_t k4, j2 i k2, i1 i k1 k2 k3, h2 i k2, g1 i k1 k2 k3]
  · rw [upS_t (by omega), j2 _ (by omega), i11]
  · rw [upS_t (by omega), j12, i12, i1 2 (by omega) (by omega) (by omega), h12, h2 1 (by omega), h2 2 (by omega), g12, g1 1 (by omega) (by omega) (by omega), g1 2 (by omega) (by omega) (by omega), ← nI_add]
    grind
  · rw [upS_t (by omega), j2 _ (by omega), i14, h2 _ (by omega), g14, ← nI_add]
    grind
  · rw [upS_hit]
theorem br_eq {x r : RW} {p d : Nat} (hd : d < 4) (h0 : ∀ i, i ≠ 11 → i ≠ 12 → i ≠ 13 → i ≠ 14 → i ≠ 15 → i ≠ 21 + d → i ≠ 25 + d → x i = r i) (h11 : x 11 = r (17 + d)) (h12 : x 12 = r 12 + nI (btm r p d)) (h13 : x 13 = r 13 + 1) (h14 : x 14 = r 14 + nI (mvs r p d)) (h15 : x 15 = r 15 + 1) (h21 : x (21 + d) = nI p) (h25 : x (25 + d) = r 15 + 1) : x = useR (br0 r p d) d := by
  funext i
  unfold useR br0
  by_cases z : i = 25 + d
  · subst z; simp (disch := omega) only [rup_hit, rup_ne, h25]
  by_cases z : i = 21 + d
  · subst z; simp (disch := omega) only [rup_hit, rup_ne, h21]
  by_cases z : i = 15
  · subst z; simp (disch := omega) only [rup_hit, rup_ne, h15]
  by_cases z : i = 14
  · subst z; simp (disch := omega) only [rup_hit, rup_ne, h14]
  by_cases z : i = 13
  · subst z; simp (disch := omega) only [rup_hit, rup_ne, h13]
  by_cases z : i = 12
  · subst z; simp (disch := omega) only [rup_hit, rup_ne, h12]
  by_cases z : i = 11
  · subst z; simp (disch := omega) only [rup_hit, rup_ne, h11]
  simp (disch := omega) only [rup_ne]
  exact h0 i (by omega) (by omega) (by omega) (by omega) (by omega) (by omega) (by omega)
theorem m_brings (hr : md 30 0 = r) (hI : InvF F r) {p d : Nat} (hp : p < nv r 7) (hd : d < nv r 6) : ∃ m', f_X8_brings md (nI p) (nI d) = some m' ∧ MX md m' ∧ m' 30 0 = useR (br0 r p d) d := by
  have l6 := hI.l6
  have l7 := hI.l7
  obtain ⟨⟨x1, x2⟩, x3⟩ := hI.drv d hd
  obtain ⟨y1, y2⟩ := (hI.plt p hp).1
  obtain ⟨t1, t2, t3, t4, t5⟩ := hI.tim
  have b1 := x1.l
  have b2 := y1.l
  have b3 := hI.pick.1.l
  have go : ∀ (m0 : SD) (k : Nat) (T C : Int32), k < 24 → MX md m0 → (∀ i, i ≠ 11 → i ≠ 12 → i ≠ 14 → i ≠ 21 + d → m0 30 0 i = r i) → m0 30 0 11 = nI k → m0 30 0 12 = C → m0 30 0 14 = T → ∃ m', x_bind (f_X8_goes m0 (m0 30 0 (29 + p))) (fun q5 => x_bind (f_X8_grips q5) fun q6 => x_bind (f_X8_goes q6 (q6 30 0 (17 + d))) fun q8 => x_bind (f_X8_grips q8) fun q9 => x_bind (f_X8_uses (upS (upS (upS q9 30 0 (21 + d) (nI p)) 30 0 12 ((upS q9 30 0 (21 + d) (nI p)) 30 0 12 + (upS q9 30 0 (21 + d) (nI p)) 30 0 3)) 30 0 13 ((upS (upS q9 30 0 (21 + d) (nI p)) 30 0 12 ((upS q9 30 0 (21 + d) (nI p)) 30 0 12 + (upS q9 30 0 (21 + d) (nI p)) 30 0 3)) 30 0 13 + 1)) (nI d)) fun q14 => some q14) = some m' ∧ MX md m' ∧ (∀ i, i ≠ 11 → i ≠ 12 → i ≠ 13 → i ≠ 14 → i ≠ 15 → i ≠ 21 + d → i ≠ 25 + d → m' 30 0 i = r i) ∧ m' 30 0 11 = r (17 + d) ∧ m' 30 0 12 = C + (nI (dst k (nv r (29 + p)) + dst (nv r (29 + p)) (nv r (17 + d))) * r 1 + 2 * r 2 + r 3) ∧ m' 30 0 13 = r 13 + 1 ∧ m' 30 0 14 = T + nI (dst k (nv r (29 + p)) + dst (nv r (29 + p)) (nv r (17 + d))) ∧ m' 30 0 15 = r 15 + 1 ∧ m' 30 0 (21 + d) = nI p ∧ m' 30 0 (25 + d) = r 15 + 1 := by
    intro m0 k T C hk f0 z0 z11 z12 z14
    have a1 : m0 30 0 (29 + p) = nI (nv r (29 + p)) := by rw [z0 _ (by omega) (by omega) (by omega) (by omega)]; exact y1.e
    obtain ⟨m1, e1, f1, g1, g11, g12, g14⟩ := m_goes (md := m0) rfl (x := nv r (29 + p)) z11 (by omega) (by omega)
    obtain ⟨m2, e2, f2, h2, h12⟩ := m_grips (md := m1) rfl
    have a3 : m2 30 0 (17 + d) = nI (nv r (17 + d)) := by rw [h2 _ (by omega), g1 _ (by omega) (by omega) (by omega), z0 _ (by omega) (by omega) (by omega) (by omega)]; exact x1.e
    have a4 : (m2 30 0) 11 = nI (nv r (29 + p)) := by rw [h2 _ (by omega), g11]
    obtain ⟨m3, e3, f3, i1, i11, i12, i14⟩ := m_goes (md := m2) rfl (x := nv r (17 + d)) a4 (by omega) (by omega)
    obtain ⟨m4, e4, f4, j2, j12⟩ := m_grips (md := m3) rfl
    obtain ⟨m5, e5, f5, g5⟩ := m_uses (md := upS (upS (upS m4 30 0 (21 + d) (nI p)) 30 0 12 ((upS m4 30 0 (21 + d) (nI p)) 30 0 12 + (upS m4 30 0 (21 + d) (nI p)) 30 0 3)) 30 0 13 ((upS (upS m4 30 0 (21 + d) (nI p)) 30 0 12 ((upS m4 30 0 (21 + d) (nI p)) 30 0 12 + (upS m4 30 0 (21 + d) (nI p)) 30 0 3)) 30 0 13 + 1)) rfl (d := d) (by omega)
    refine ⟨m5, ?_, (f0.tr (f1.tr (f2.tr (f3.tr f4)))).tr ((((MX.rf m4).up (by omega)).up (by omega)).up (by omega) |>.tr f5), fun i k1 k2 k3 k4 k5 k6 k7 => ?_, ?_, ?_, ?_, ?_, ?_, ?_, ?_⟩
    · rw [a1, e1, xb, e2, xb, a3, e3, xb, e4, xb, e5, xb]
    all_goals rw [g5]
    all_goals unfold useR
    all_goals simp (disch := omega) only [rup_ne, rup_hit, upS_t, upS_hit]
    · rw [j2 i k2, i1 i k1 k2 k4, h2 i k2, g1 i k1 k2 k4, z0 i k1 k2 k4 k6]
    · rw [j2 _ (by omega), i11]; exact x1.e.symm
    · rw [j12, j2 3 (by omega), i12, i1 2 (by omega) (by omega) (by omega), i1 3 (by omega) (by omega) (by omega), h12, h2 1 (by omega), h2 2 (by omega), h2 3 (by omega), g12, g1 1 (by omega) (by omega) (by omega), g1 2 (by omega) (by omega) (by omega), g1 3 (by omega) (by omega) (by omega), z12, z0 1 (by omega) (by omega) (by omega) (by omega), z0 2 (by omega) (by omega) (by omega) (by omega), z0 3 (by omega) (by omega) (by omega) (by omega), ← nI_add]
      grind
    · rw [j2 _ (by omega), i1 _ (by omega) (by omega) (by omega), h2 _ (by omega), g1 _ (by omega) (by omega) (by omega), z0 _ (by omega) (by omega) (by omega) (by omega)]
    · rw [j2 _ (by omega), i14, h2 _ (by omega), g14, z14, ← nI_add]
      grind
    · rw [j2 _ (by omega), i1 _ (by omega) (by omega) (by omega), h2 _ (by omega), g1 _ (by omega) (by omega) (by omega), z0 _ (by omega) (by omega) (by omega) (by omega)]
    · rw [j2 _ (by omega), i1 _ (by omega) (by omega) (by omega), h2 _ (by omega), g1 _ (by omega) (by omega) (by omega), z0 _ (by omega) (by omega) (by omega) (by omega)]
  have hr1 : ∀ i, md 30 0 i = r i := fun i => by rw [hr]
  unfold f_X8_brings
  rcases x3 with h | ⟨z1, z2⟩
  · obtain ⟨m', e, f, k0, k11, k12, k13, k14, k15, k21, k25⟩ := go md (nv r 11) (r 14) (r 12) (by omega) (MX.rf md) (fun i _ _ _ _ => hr1 i) (by rw [hr1]; exact hI.pick.1.e) (hr1 12) (hr1 14)
    refine ⟨m', ?_, f, br_eq (by omega) k0 k11 ?_ k13 ?_ k15 k21 k25⟩
    · rw [← e]
      simp (disch := omega) only [xl, xg, vinT, nI_clamp, la, if_pos (show md 30 0 (21 + d) = -1 by rw [hr1]; exact h)]
    · rw [k12]
      unfold btm mvs
      rw [if_pos h, if_pos h]
      simp only [← nI_add, ← pk_mul, ← t1.e, ← t2.e, ← t3.e]
      rfl
    · rw [k14]
      unfold mvs
      rw [if_pos h]
  · have hne : ¬ (r (21 + d) = -1) := by rw [z1.e, nm1 (by have := z1.l; omega)]; exact id
    obtain ⟨m1, e1, f1, g0, g11, g12, g14, g21⟩ := m_empties hr hI hd z1.e z2
    obtain ⟨w1, w2⟩ := (hI.plt _ z2).1
    have b4 := w1.l
    obtain ⟨m', e, f, k0, k11, k12, k13, k14, k15, k21, k25⟩ := go m1 _ _ _ (by omega) f1 g0 g11 g12 g14
    refine ⟨m', ?_, f, br_eq (by omega) k0 k11 ?_ k13 ?_ k15 k21 k25⟩
    · rw [← e]
      simp (disch := omega) only [xl, xg, vinT, nI_clamp, la, if_neg (show ¬ md 30 0 (21 + d) = -1 by rw [hr1]; exact hne), e1, xb]
    · rw [k12]
      unfold btm mvs
      rw [if_neg hne, if_neg hne]
      simp only [← nI_add, ← pk_mul, ← t1.e, ← t2.e, ← t3.e]
      have e4 : nI 4 = (2 : Int32) + 2 := rfl
      rw [e4]
      grind
    · rw [k14]
      unfold mvs
      rw [if_neg hne]
      simp only [← nI_add]
      grind
end MECH
