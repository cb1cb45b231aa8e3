/-! Layer 2: the movements once more: nothing but the row changes -/
def MR (m m' : SD) : Prop := ∀ k j t, ¬ (k = 30 ∧ j = 0 ∧ t < 605) → m' k j t = m k j t
theorem MR.rf (m : SD) : MR m m := fun _ _ _ _ => rfl
theorem MR.tr {x y z : SD} (h : MR x y) (g : MR y z) : MR x z := fun k j t a => (g k j t a).trans (h k j t a)
theorem MR.up {m m' : SD} (h : MR m m') {t : Nat} {v : Int32} (ht : t < 605) : MR m (upS m' 30 0 t v) := fun k j q a => by
  unfold upS
  rw [if_neg (fun z => a ⟨z.1, z.2.1, by omega⟩)]
  exact h k j q a
theorem MR.mx {m m' : SD} (h : MR m m') : MX m m' := fun k j t a _ => h k j t a
section NMV
variable {F : Nat} {b : Nat} {sd md : SD} {r : RW} {k0 : Nat}
theorem n_goes (hr : md 30 0 = r) {k x : Nat} (hk : r 11 = nI k) (hk2 : k < 2 ^ 30) (hx : x < 2 ^ 30) : ∃ m', f_X8_goes md (nI x) = some m' ∧ MR md m' ∧ (∀ i, i ≠ 11 → i ≠ 12 → i ≠ 14 → m' 30 0 i = r i) ∧ m' 30 0 11 = nI x ∧ m' 30 0 12 = r 12 + nI (dst k x) * r 1 ∧ m' 30 0 14 = r 14 + nI (dst k x) := by
  subst hr
  unfold f_X8_goes
  rw [hk, m_far (by omega) (by omega), xb]
  simp only [xl]
  refine ⟨_, rfl, ((((MR.rf md).up (by omega)).up (by omega)).up (by omega)), fun i h1 h2 h3 => ?_, ?_, ?_, ?_⟩
  all_goals simp (disch := omega) only [upS_t, upS_hit]
theorem n_grips (hr : md 30 0 = r) : ∃ m', f_X8_grips md = some m' ∧ MR md m' ∧ (∀ i, i ≠ 12 → m' 30 0 i = r i) ∧ m' 30 0 12 = r 12 + r 2 := by
  subst hr
  refine ⟨_, rfl, (MR.rf md).up (by omega), fun i h => ?_, ?_⟩
  all_goals simp (disch := omega) only [upS_t, upS_hit]
theorem n_uses (hr : md 30 0 = r) {d : Nat} (hd : d < 4) : ∃ m', f_X8_uses md (nI d) = some m' ∧ MR md m' ∧ m' 30 0 = useR r d := by
  subst hr
  unfold f_X8_uses
  simp (disch := omega) only [xl, xg, xb, vinT, nI_clamp, la, ra, lm, rmu, rsu, nI_add, pk_mul, nm1, m1n, nneg, npos, lle, rle, llt, rlt, leq, req, nI_leI, nI_ltI, nI_eq, if_pos, if_neg, if_true, if_false, i01, i10]
  refine ⟨_, rfl, ((MR.rf md).up (by omega)).up (by omega), ?_⟩
  simp only [row_up, rup_hit]
  rfl
theorem n_empties (hr : md 30 0 = r) (hI : InvF F r) {d q : Nat} (hd : d < nv r 6) (hq : r (21 + d) = nI q) (hq2 : q < nv r 7) : ∃ m', f_X8_empties md (nI d) = some m' ∧ MR md m' ∧ (∀ i, i ≠ 11 → i ≠ 12 → i ≠ 14 → i ≠ 21 + d → m' 30 0 i = r i) ∧ m' 30 0 11 = nI (nv r (29 + q)) ∧ m' 30 0 12 = r 12 + (nI (dst (nv r 11) (nv r (17 + d)) + dst (nv r (17 + d)) (nv r (29 + q))) * r 1 + 2 * r 2) ∧ m' 30 0 14 = r 14 + nI (dst (nv r 11) (nv r (17 + d)) + dst (nv r (17 + d)) (nv r (29 + q))) ∧ m' 30 0 (21 + d) = -1 := by
  have l6 := hI.l6
  have l7 := hI.l7
  obtain ⟨⟨x1, x2⟩, -⟩ := hI.drv d hd
  obtain ⟨y1, y2⟩ := (hI.plt q hq2).1
  have b1 := x1.l
  have b2 := y1.l
  have b3 := hI.pick.1.l
  unfold f_X8_empties
  obtain ⟨m1, e1, f1, g1, g11, g12, g14⟩ := n_goes hr (x := nv r (17 + d)) hI.pick.1.e (by omega) (by omega)
  obtain ⟨m2, e2, f2, h2, h12⟩ := n_grips (md := m1) rfl
  have c1 : m2 30 0 (21 + d) = nI q := by rw [h2 _ (by omega), g1 _ (by omega) (by omega) (by omega), hq]
  have c2 : m2 30 0 (29 + q) = nI (nv r (29 + q)) := by rw [h2 _ (by omega), g1 _ (by omega) (by omega) (by omega)]; exact y1.e
  have c3 : (m2 30 0) 11 = nI (nv r (17 + d)) := by rw [h2 _ (by omega), g11]
  obtain ⟨m3, e3, f3, i1, i11, i12, i14⟩ := n_goes (md := m2) rfl (x := nv r (29 + q)) c3 (by omega) (by omega)
  obtain ⟨m4, e4, f4, j2, j12⟩ := n_grips (md := m3) rfl
  have hr1 : md 30 0 (17 + d) = nI (nv r (17 + d)) := by rw [hr]; exact x1.e
  simp (disch := omega) only [xg, vinT, la, nI_clamp]
  rw [hr1, e1, xb, e2, xb, c1]
  simp (disch := omega) only [xg, vinT, la, nI_clamp]
  rw [c2, e3, xb, e4, xb]
  simp only [xl]
  refine ⟨_, rfl, (f1.tr (f2.tr (f3.tr f4))).up (by omega), fun i k1 k2 k3 k4 => ?_, ?_, ?_, ?_, ?_⟩
  · rw [upS_t k4, j2 i k2, i1 i k1 k2 k3, h2 i k2, g1 i k1 k2 k3]
  · rw [upS_t (by omega), j2 _ (by omega), i11]
  · rw [upS_t (by omega), j12, i12, i1 2 (by omega) (by omega) (by omega), h12, h2 1 (by omega), h2 2 (by omega), g12, g1 1 (by omega) (by omega) (by omega), g1 2 (by omega) (by omega) (by omega), ← nI_add]
    grind
  · rw [upS_t (by omega), j2 _ (by omega), i14, h2 _ (by omega), g14, ← nI_add]
    grind
  · rw [upS_hit]
theorem n_brings (hr : md 30 0 = r) (hI : InvF F r) {p d : Nat} (hp : p < nv r 7) (hd : d < nv r 6) : ∃ m', f_X8_brings md (nI p) (nI d) = some m' ∧ MR md m' ∧ m' 30 0 = useR (br0 r p d) d := by
  have l6 := hI.l6
  have l7 := hI.l7
  obtain ⟨⟨x1, x2⟩, x3⟩ := hI.drv d hd
  obtain ⟨y1, y2⟩ := (hI.plt p hp).1
  obtain ⟨t1, t2, t3, t4, t5⟩ := hI.tim
  have b1 := x1.l
  have b2 := y1.l
  have b3 := hI.pick.1.l
  have go : ∀ (m0 : SD) (k : Nat) (T C : Int32), k < 24 → MR md m0 → (∀ i, i ≠ 11 → i ≠ 12 → i ≠ 14 → i ≠ 21 + d → m0 30 0 i = r i) → m0 30 0 11 = nI k → m0 30 0 12 = C → m0 30 0 14 = T → ∃ m', x_bind (f_X8_goes m0 (m0 30 0 (29 + p))) (fun q5 => x_bind (f_X8_grips q5) fun q6 => x_bind (f_X8_goes q6 (q6 30 0 (17 + d))) fun q8 => x_bind (f_X8_grips q8) fun q9 => x_bind (f_X8_uses (upS (upS (upS q9 30 0 (21 + d) (nI p)) 30 0 12 ((upS q9 30 0 (21 + d) (nI p)) 30 0 12 + (upS q9 30 0 (21 + d) (nI p)) 30 0 3)) 30 0 13 ((upS (upS q9 30 0 (21 + d) (nI p)) 30 0 12 ((upS q9 30 0 (21 + d) (nI p)) 30 0 12 + (upS q9 30 0 (21 + d) (nI p)) 30 0 3)) 30 0 13 + 1)) (nI d)) fun q14 => some q14) = some m' ∧ MR md m' ∧ (∀ i, i ≠ 11 → i ≠ 12 → i ≠ 13 → i ≠ 14 → i ≠ 15 → i ≠ 21 + d → i ≠ 25 + d → m' 30 0 i = r i) ∧ m' 30 0 11 = r (17 + d) ∧ m' 30 0 12 = C + (nI (dst k (nv r (29 + p)) + dst (nv r (29 + p)) (nv r (17 + d))) * r 1 + 2 * r 2 + r 3) ∧ m' 30 0 13 = r 13 + 1 ∧ m' 30 0 14 = T + nI (dst k (nv r (29 + p)) + dst (nv r (29 + p)) (nv r (17 + d))) ∧ m' 30 0 15 = r 15 + 1 ∧ m' 30 0 (21 + d) = nI p ∧ m' 30 0 (25 + d) = r 15 + 1 := by
    intro m0 k T C hk f0 z0 z11 z12 z14
    have a1 : m0 30 0 (29 + p) = nI (nv r (29 + p)) := by rw [z0 _ (by omega) (by omega) (by omega) (by omega)]; exact y1.e
    obtain ⟨m1, e1, f1, g1, g11, g12, g14⟩ := n_goes (md := m0) rfl (x := nv r (29 + p)) z11 (by omega) (by omega)
    obtain ⟨m2, e2, f2, h2, h12⟩ := n_grips (md := m1) rfl
    have a3 : m2 30 0 (17 + d) = nI (nv r (17 + d)) := by rw [h2 _ (by omega), g1 _ (by omega) (by omega) (by omega), z0 _ (by omega) (by omega) (by omega) (by omega)]; exact x1.e
    have a4 : (m2 30 0) 11 = nI (nv r (29 + p)) := by rw [h2 _ (by omega), g11]
    obtain ⟨m3, e3, f3, i1, i11, i12, i14⟩ := n_goes (md := m2) rfl (x := nv r (17 + d)) a4 (by omega) (by omega)
    obtain ⟨m4, e4, f4, j2, j12⟩ := n_grips (md := m3) rfl
    obtain ⟨m5, e5, f5, g5⟩ := n_uses (md := upS (upS (upS m4 30 0 (21 + d) (nI p)) 30 0 12 ((upS m4 30 0 (21 + d) (nI p)) 30 0 12 + (upS m4 30 0 (21 + d) (nI p)) 30 0 3)) 30 0 13 ((upS (upS m4 30 0 (21 + d) (nI p)) 30 0 12 ((upS m4 30 0 (21 + d) (nI p)) 30 0 12 + (upS m4 30 0 (21 + d) (nI p)) 30 0 3)) 30 0 13 + 1)) rfl (d := d) (by omega)
    refine ⟨m5, ?_, (f0.tr (f1.tr (f2.tr (f3.tr f4)))).tr ((((MR.rf m4).up (by omega)).up (by omega)).up (by omega) |>.tr f5), fun i k1 k2 k3 k4 k5 k6 k7 => ?_, ?_, ?_, ?_, ?_, ?_, ?_, ?_⟩
    · rw [a1, e1, xb, e2, xb, a3, e3, xb, e4, xb, e5, xb]
    all_goals rw [g5]
    all_goals unfold useR
    all_goals simp (disch := omega) only [rup_ne, rup_hit, upS_t, upS_hit]
    · rw [j2 i k2, i1 i k1 k2 k4, h2 i k2, g1 i k1 k2 k4, z0 i k1 k2 k4 k6]
    · rw [j2 _ (by omega), i11]; exact x1.e.symm
    · rw [j12, j2 3 (by omega), i12, i1 2 (by omega) (by omega) (by omega), i1 3 (by omega) (by omega) (by omega), h12, h2 1 (by omega), h2 2 (by omega), h2 3 (by omega), g12, g1 1 (by omega) (by omega) (by omega), g1 2 (by omega) (by omega) (by omega), g1 3 (by omega) (by omega) (by omega), z12, z0 1 (by omega) (by omega) (by omega) (by omega), z0 2 (by omega) (by omega) (by omega) (by omega), z0 3 (by omega) (by omega) (by omega) (by omega), ← nI_add]
      grind
    · rw [j2 _ (by omega), i1 _ (by omega) (by omega) (by omega), h2 _ (by omega), g1 _ (by omega) (by omega) (by omega), z0 _ (by omega) (by omega) (by omega) (by omega)]
    · rw [j2 _ (by omega), i14, h2 _ (by omega), g14, z14, ← nI_add]
      grind
    · rw [j2 _ (by omega), i1 _ (by omega) (by omega) (by omega), h2 _ (by omega), g1 _ (by omega) (by omega) (by omega), z0 _ (by omega) (by omega) (by omega) (by omega)]
    · rw [j2 _ (by omega), i1 _ (by omega) (by omega) (by omega), h2 _ (by omega), g1 _ (by omega) (by omega) (by omega), z0 _ (by omega) (by omega) (by omega) (by omega)]
  have hr1 : ∀ i, md 30 0 i = r i := fun i => by rw [hr]
  unfold f_X8_brings
  rcases x3 with h | ⟨z1, z2⟩
  · obtain ⟨m', e, f, k0, k11, k12, k13, k14, k15, k21, k25⟩ := go md (nv r 11) (r 14) (r 12) (by omega) (MR.rf md) (fun i _ _ _ _ => hr1 i) (by rw [hr1]; exact hI.pick.1.e) (hr1 12) (hr1 14)
    refine ⟨m', ?_, f, br_eq (by omega) k0 k11 ?_ k13 ?_ k15 k21 k25⟩
    · rw [← e]
      simp (disch := omega) only [xl, xg, vinT, nI_clamp, la, if_pos (show md 30 0 (21 + d) = -1 by rw [hr1]; exact h)]
    · rw [k12]
      unfold btm mvs
      rw [if_pos h, if_pos h]
      simp only [← nI_add, ← pk_mul, ← t1.e, ← t2.e, ← t3.e]
      rfl
    · rw [k14]
      unfold mvs
      rw [if_pos h]
  · have hne : ¬ (r (21 + d) = -1) := by rw [z1.e, nm1 (by have := z1.l; omega)]; exact id
    obtain ⟨m1, e1, f1, g0, g11, g12, g14, g21⟩ := n_empties hr hI hd z1.e z2
    obtain ⟨w1, w2⟩ := (hI.plt _ z2).1
    have b4 := w1.l
    obtain ⟨m', e, f, k0, k11, k12, k13, k14, k15, k21, k25⟩ := go m1 _ _ _ (by omega) f1 g0 g11 g12 g14
    refine ⟨m', ?_, f, br_eq (by omega) k0 k11 ?_ k13 ?_ k15 k21 k25⟩
    · rw [← e]
      simp (disch := omega) only [xl, xg, vinT, nI_clamp, la, if_neg (show ¬ md 30 0 (21 + d) = -1 by rw [hr1]; exact hne), e1, xb]
    · rw [k12]
      unfold btm mvs
      rw [if_neg hne, if_neg hne]
      simp only [← nI_add, ← pk_mul, ← t1.e, ← t2.e, ← t3.e]
      have e4 : nI 4 = (2 : Int32) + 2 := rfl
      rw [e4]
      grind
    · rw [k14]
      unfold mvs
      rw [if_neg hne]
      simp only [← nI_add]
      grind
end NMV
