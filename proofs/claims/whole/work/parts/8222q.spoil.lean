/-! Layer 2: a sector goes bad -/
def SV (r r' : RW) (p s : Nat) : Prop := (∀ i, i ≠ 8 → i ≠ 249 + nv r 8 → i ≠ 269 + nv r 8 → ¬ (549 ≤ i ∧ i < 589) → r' i = r i) ∧ r' 8 = nI (nv r 8 + 1) ∧ r' (249 + nv r 8) = nI p ∧ r' (269 + nv r 8) = nI s ∧ ∀ v, v < 40 → r' (549 + v) = if verQ r p s = nI v then 1 else r (549 + v)
def SC (sd sd' : SD) (r : RW) (p s : Nat) : Prop := (∀ k j t, ¬ (k = 18 ∧ j = p) → ¬ (k = 4 ∧ j = 0 ∧ t = 7) → ¬ (k = 6 ∧ t = 6) → sd' k j t = sd k j t) ∧ sd' 4 0 7 = nI (nv r 8 + 1) ∧ (∀ u, u < 300 → bdc sd' p u = (bdc sd p u || decide (u = s))) ∧ ∀ v, v < 40 → sd' 6 v 6 = if verQ r p s = nI v then 1 else sd 6 v 6
section SPO
variable {F : Nat} {b : Nat} {sd sd' md : SD} {r r' : RW} {p s k0 : Nat}
theorem m_versionAt' (hr : ∀ i, (i = 10 ∨ (349 ≤ i ∧ i < 469)) → md k0 0 i = r i) (hI : InvF F r) (hs : s < 300) : f_X8_versionAt md k0 (nI p) (nI s) = some (verQ r p s) := by
  have l10 := hI.l10
  unfold f_X8_versionAt
  refine srch0 (L := fun n v => f_X8_versionAt_L2 md k0 (nI p) (nI s) n v) (by omega) (fun n => ?_) (fun n d hd => ?_)
  · show f_X8_versionAt_L2 md k0 (nI p) (nI s) (n + 1) (nI (nv r 10)) = _
    rw [f_X8_versionAt_L2, hr 10 (by omega), hI.c10]
    exact if_pos (nI_le (Nat.le_refl _) (by omega))
  · show f_X8_versionAt_L2 md k0 (nI p) (nI s) (n + 1) (nI d) = _
    have v := hI.ver d hd
    have l2 := v.2.2.1.l
    have l3 := v.2.2.2.1.l
    rw [f_X8_versionAt_L2, hr 10 (by omega), hI.c10]
    simp (disch := omega) only [xl, xg, xb, vinT, nI_clamp, la, ra, if_neg, nI_leI, hr, v.2.2.1.e, v.2.2.2.1.e, isInR, decide_eq_true_eq]
    by_cases h1 : r (349 + d) = nI p
    · by_cases h2 : nv r (389 + d) ≤ s ∧ s < nv r (389 + d) + nv r (429 + d)
      · simp [h1, h2]
      · simp [h1, h2]
    · simp [h1]
theorem va_congr (h9 : sd' 4 0 9 = sd 4 0 9) (h6 : ∀ j t, t ≠ 6 → sd' 6 j t = sd 6 j t) (a c : Int32) : f_X4_versionAt sd' a c = f_X4_versionAt sd a c := by
  unfold f_X4_versionAt
  have key : ∀ n v, f_X4_versionAt_L2 sd' a c n v = f_X4_versionAt_L2 sd a c n v := by
    intro n
    induction n with
    | zero => intro v; rfl
    | succ n ih =>
      intro v
      rw [f_X4_versionAt_L2, f_X4_versionAt_L2]
      unfold f_X6_holds
      simp only [h9, h6 _ 1 (by decide), h6 _ 2 (by decide), h6 _ 3 (by decide), ih]
  exact key _ _
theorem m_marks (hr : md k0 0 = r) (hI : InvF F r) (hB : nv r 8 < 20) (hs : s < 300) : ∃ m', f_X8_marks md k0 (nI p) (nI s) = some m' ∧ MK k0 md m' ∧ SV r (m' k0 0) p s := by
  have l10 := hI.l10
  have c8 := hI.c8
  have hi : ∀ i, md k0 0 i = r i := fun i => by rw [hr]
  obtain ⟨m5, hm5⟩ : ∃ m5, m5 = upS (upS (upS md k0 0 (249 + nv r 8) (nI p)) k0 0 (269 + nv r 8) (nI s)) k0 0 8 (nI (nv r 8 + 1)) := ⟨_, rfl⟩
  have q0 : ∀ i, i ≠ 8 → i ≠ 249 + nv r 8 → i ≠ 269 + nv r 8 → m5 k0 0 i = r i := fun i h1 h2 h3 => by rw [hm5]; simp (disch := omega) only [upS_t, hi]
  have q8 : m5 k0 0 8 = nI (nv r 8 + 1) := by rw [hm5, upS_hit]
  have q249 : m5 k0 0 (249 + nv r 8) = nI p := by rw [hm5]; simp (disch := omega) only [upS_t, upS_hit]
  have q269 : m5 k0 0 (269 + nv r 8) = nI s := by rw [hm5]; simp (disch := omega) only [upS_t, upS_hit]
  have hmk : MK k0 md m5 := by rw [hm5]; exact (((MK.rf k0 md).up (by omega)).up (by omega)).up (by omega)
  have hva := m_versionAt' (md := m5) (k0 := k0) (p := p) (s := s) (fun i h => q0 i (by omega) (by omega) (by omega)) hI hs
  have ev : f_X8_marks md k0 (nI p) (nI s) = (if verQ r p s = -1 then some m5 else x_guard (vp_in ((549 : Int32) + verQ r p s) 605) (some (upS m5 k0 0 ((549 : Int32) + verQ r p s).toNatClampNeg 1))) := by
    unfold f_X8_marks
    simp (disch := omega) only [xl, xg, vinT, la, ra, nI_clamp, hi, c8, upS_t]
    rw [← hm5, hva, xb]
  rcases verQ_cases r p s with ⟨h1, h2⟩ | ⟨v, h1, h2, h3⟩
  · rw [h1, if_pos rfl] at ev
    refine ⟨m5, ev, hmk, fun i k1 k2 k3 _ => q0 i k1 k2 k3, q8, q249, q269, fun v hv => ?_⟩
    rw [h1, if_neg (by rw [m1n (by omega)]; exact id)]
    exact q0 _ (by omega) (by omega) (by omega)
  · rw [h2, if_neg (by rw [nm1 (by omega)]; exact id)] at ev
    simp (disch := omega) only [xg, vinT, la, nI_clamp] at ev
    refine ⟨_, ev, hmk.up (by omega), fun i k1 k2 k3 k4 => ?_, ?_, ?_, ?_, fun u hu => ?_⟩
    · rw [upS_t (by omega)]; exact q0 i k1 k2 k3
    · rw [upS_t (by omega)]; exact q8
    · rw [upS_t (by omega)]; exact q249
    · rw [upS_t (by omega)]; exact q269
    · rw [h2]
      by_cases z : u = v
      · subst z; rw [upS_hit, if_pos rfl]
      · rw [upS_t (by omega), if_neg (by rw [nI_eq (by omega) (by omega)]; omega)]
        exact q0 _ (by omega) (by omega) (by omega)
theorem c_spoil (hI : InvF F r) (hR : RelF F b sd r) (hp : p < nv r 7) (hB : nv r 8 < 20) (hs : s < 300) : ∃ sd', f_X4_spoil sd (nI p) (nI s) = some sd' ∧ SC sd sd' r p s := by
  have l7 := hI.l7
  have l10 := hI.l10
  have e32 : nI s / (32 : Int32) = nI (s / 32) := rdi (by omega) (by decide) (by decide)
  have er : nI s - nI (s / 32) * (32 : Int32) = nI (s % 32) := by
    rw [← e32]
    exact pk_rem (a := s) (d := 32) (by omega) (by decide) (by decide)
  obtain ⟨s3, hs3⟩ : ∃ s3, s3 = upS (upS sd 18 p (s / 32) (sd 18 p (s / 32) ||| ((1 : Int32) <<< (nI (s % 32) &&& 31)))) 4 0 7 (nI (nv r 8 + 1)) := ⟨_, rfl⟩
  have k3 : ∀ k j t, ¬ (k = 18 ∧ j = p) → ¬ (k = 4 ∧ j = 0 ∧ t = 7) → s3 k j t = sd k j t := fun k j t h1 h2 => by
    rw [hs3]
    simp only [upS]
    rw [if_neg h2, if_neg (by omega)]
  have q7 : s3 4 0 7 = nI (nv r 8 + 1) := by rw [hs3, upS_hit]
  have qb : ∀ u, u < 300 → bdc s3 p u = (bdc sd p u || decide (u = s)) := fun u hu => by
    unfold bdc
    rw [hs3, upS_k (by omega)]
    by_cases z : u / 32 = s / 32
    · rw [z, upS_hit, bit_o _ (by omega) (by omega)]
      congr 1
      have : (u % 32 = s % 32) ↔ (u = s) := by omega
      simp only [this]
    · rw [upS_t z]
      have : ¬ (u = s) := fun y => z (by rw [y])
      simp [this]
  have hva : f_X4_versionAt s3 (nI p) (nI s) = some (verQ r p s) := by
    rw [va_congr (sd := sd) (k3 _ _ _ (by omega) (by omega)) (fun j t _ => k3 _ _ _ (by omega) (by omega))]
    exact c_versionAt hI hR hs
  have c7 : sd 4 0 7 = nI (nv r 8) := by rw [hR.s7]; exact hI.c8
  have ev : f_X4_spoil sd (nI p) (nI s) = (if verQ r p s = -1 then some s3 else x_guard (vp_in (verQ r p s) 40) (some (upS s3 6 (verQ r p s).toNatClampNeg 6 1))) := by
    unfold f_X4_spoil f_X3_setBad
    rw [e32, er]
    simp (disch := omega) only [xl, xg, xb, vinT, nI_clamp, nneg, if_false, lle, if_neg, upS_k, c7, ra]
    rw [← hs3, hva, xb]
  rcases verQ_cases r p s with ⟨h1, h2⟩ | ⟨v, h1, h2, h3⟩
  · rw [h1, if_pos rfl] at ev
    refine ⟨s3, ev, fun k j t k1 k2 _ => k3 k j t k1 k2, q7, qb, fun v hv => ?_⟩
    rw [h1, if_neg (by rw [m1n (by omega)]; exact id)]
    exact k3 _ _ _ (by omega) (by omega)
  · rw [h2, if_neg (by rw [nm1 (by omega)]; exact id)] at ev
    simp (disch := omega) only [xg, vinT, nI_clamp] at ev
    refine ⟨_, ev, fun k j t k1 k2 k4 => ?_, ?_, fun u hu => ?_, fun u hu => ?_⟩
    · simp only [upS]
      rw [if_neg (by omega)]
      exact k3 k j t k1 k2
    · rw [upS_k (by omega)]; exact q7
    · have : bdc (upS s3 6 v 6 1) p u = bdc s3 p u := by unfold bdc; rw [upS_k (by omega)]
      rw [this]; exact qb u hu
    · rw [h2]
      by_cases z : u = v
      · subst z; rw [upS_hit, if_pos rfl]
      · rw [upS_j z, if_neg (by rw [nI_eq (by omega) (by omega)]; omega)]
        exact k3 _ _ _ (by omega) (by omega)
theorem SV_inv (hI : InvF F r) (h : SV r r' p s) (hp : p < nv r 7) (hB : nv r 8 < 20) (hs : s < nv r (39 + p)) (hnew : ¬ bdm r p s) : InvF F r' := by
  have l6 := hI.l6
  have l7 := hI.l7
  have l8 := hI.l8
  have l9 := hI.lF
  have l10 := hI.l10
  have l16 := hI.l16
  have lc := (hI.plt p hp).2.1.1.l
  obtain ⟨a0, a8, a249, a269, a549⟩ := h
  have b0 : ∀ i, i ≠ 8 → i ≠ 249 + nv r 8 → i ≠ 269 + nv r 8 → ¬ (549 ≤ i ∧ i < 589) → nv r' i = nv r i := fun i k1 k2 k3 k4 => nv_eq (a0 i k1 k2 k3 k4)
  have v8 := nv_of a8 (by omega)
  refine ⟨?_, ?_, ?_, ?_, ?_, ?_, ?_, ?_, ?_, ?_, ?_, ?_, hI.lF⟩
  · have g := hI.1
    have i8 : isN r' 8 20 := isN_nI a8 (by omega) (by omega)
    unfold I_cnt at g ⊢
    unfold isN at g ⊢
    unfold isN at i8
    simp (disch := omega) only [a0, b0]
    exact ⟨g.1, g.2.1, g.2.2.1, g.2.2.2.1, i8, g.2.2.2.2.2⟩
  · have g := hI.tim
    unfold I_tim isN at g ⊢
    simp (disch := omega) only [a0, b0]
    exact g
  · have g := hI.pick
    unfold I_pick isN at g ⊢
    simp (disch := omega) only [a0, b0]
    exact g
  · intro d hd
    simp (disch := omega) only [b0] at hd
    have g := hI.drv d hd
    unfold isN at g ⊢
    simp (disch := omega) only [a0, b0]
    exact g
  · intro d e hd he
    simp (disch := omega) only [b0] at hd he
    simp (disch := omega) only [a0]
    exact hI.drd d e hd he
  · intro q hq
    simp (disch := omega) only [b0] at hq
    have g := hI.plt q hq
    unfold isN at g ⊢
    simp (disch := omega) only [a0, b0]
    exact g
  · intro x y hx hy hxy
    simp (disch := omega) only [b0] at hx hy
    simp (disch := omega) only [a0] at hxy
    exact hI.hom x y hx hy hxy
  · intro k hk
    rw [v8] at hk
    by_cases z : k = nv r 8
    · subst z
      rw [nv_of a249 (by omega), nv_of a269 (by omega)]
      refine ⟨⟨isN_nI a249 (by omega) (by omega), ?_⟩, isN_nI a269 (by omega) (by omega), ?_⟩
      · simp (disch := omega) only [b0]; exact hp
      · simp (disch := omega) only [b0]; exact hs
    · have g := hI.bad k (by omega)
      have g9 := g.1.1.l
      unfold isN at g ⊢
      simp (disch := omega) only [a0, b0]
      exact g
  · intro k l hk hl h3 h4
    rw [v8] at hk hl
    by_cases z : k = nv r 8
    · by_cases y : l = nv r 8
      · omega
      · subst z
        rw [a249, a0 (249 + l) (by omega) (by omega) (by omega) (by omega)] at h3
        rw [a269, a0 (269 + l) (by omega) (by omega) (by omega) (by omega)] at h4
        exact absurd ⟨l, by omega, h3.symm, h4.symm⟩ hnew
    · by_cases y : l = nv r 8
      · subst y
        rw [a249, a0 (249 + k) (by omega) (by omega) (by omega) (by omega)] at h3
        rw [a269, a0 (269 + k) (by omega) (by omega) (by omega) (by omega)] at h4
        exact absurd ⟨k, by omega, h3, h4⟩ hnew
      · simp (disch := omega) only [a0] at h3 h4
        exact hI.bdd k l (by omega) (by omega) h3 h4
  · intro g hg
    have w := hI.cur g hg
    unfold isN at w ⊢
    simp (disch := omega) only [a0, b0]
    exact w
  · intro v hv
    simp (disch := omega) only [b0] at hv
    obtain ⟨g1, ⟨g3, g4⟩, g5, g6, g7, ⟨g8, g9⟩, g10, g11⟩ := hI.ver v hv
    have g3l := g3.l
    have i549 : isN r' (549 + v) 1 := by
      have e := a549 v (by omega)
      by_cases z : verQ r p s = nI v
      · rw [if_pos z] at e
        exact isN_nI (n := 1) e (by omega) (by omega)
      · rw [if_neg z] at e
        exact isN_eq e g11
    unfold isN at g1 g3 g5 g6 g8 g10 ⊢
    unfold isN at i549
    simp (disch := omega) only [a0, b0]
    exact ⟨g1, ⟨g3, g4⟩, g5, g6, g7, ⟨g8, g9⟩, g10, i549⟩
  · intro q hq
    simp (disch := omega) only [b0] at hq
    have w := hI.req q hq
    unfold isN at w ⊢
    simp (disch := omega) only [a0, b0]
    exact w
theorem SV_rel (hI : InvF F r) (hR : RelF F b sd r) (h : SV r r' p s) (hw : SC sd sd' r p s) (hp : p < nv r 7) (hB : nv r 8 < 20) (hs : s < 300) : RelF F b sd' r' := by
  have l6 := hI.l6
  have l7 := hI.l7
  have l8 := hI.l8
  have l9 := hI.lF
  have l10 := hI.l10
  have l16 := hI.l16
  obtain ⟨a0, a8, a249, a269, a549⟩ := h
  obtain ⟨w0, w7, wb, w6⟩ := hw
  have b0 : ∀ i, i ≠ 8 → i ≠ 249 + nv r 8 → i ≠ 269 + nv r 8 → ¬ (549 ≤ i ∧ i < 589) → nv r' i = nv r i := fun i k1 k2 k3 k4 => nv_eq (a0 i k1 k2 k3 k4)
  have v8 := nv_of a8 (by omega)
  refine ⟨?_, ?_, ?_, ?_, ?_, ?_, ?_, ?_, ?_, ?_⟩
  · have g := hR.sc
    unfold R_sc at g ⊢
    rw [w7, a8]
    simp (disch := omega) only [a0, w0]
    exact ⟨g.1, g.2.1, g.2.2.1, trivial, g.2.2.2.2⟩
  · have g := hR.tm
    unfold R_tm at g ⊢
    simp (disch := omega) only [a0, w0]
    exact g
  · intro d hd
    simp (disch := omega) only [b0] at hd
    simp (disch := omega) only [a0, w0]
    exact hR.dr d hd
  · refine us_same hR.us (Nat.le_refl _) (b0 6 (by omega) (by omega) (by omega) (by omega)) (w0 _ _ _ (by omega) (by omega) (by omega)) (fun e => w0 _ _ _ (by omega) (by omega) (by omega)) (a0 _ (by omega) (by omega) (by omega) (by omega)) (fun e he => a0 _ (by omega) (by omega) (by omega) (by omega))
  · intro q hq
    simp (disch := omega) only [b0] at hq
    have g := hR.pl q hq
    simp (disch := omega) only [a0, w0]
    exact g
  · intro q t hq ht
    simp (disch := omega) only [b0] at hq
    simp (disch := omega) only [b0] at ht
    have ln2 := (hI.plt q hq).2.2.2.2.1.l
    have g := hR.se q t hq ht
    simp (disch := omega) only [a0, w0]
    exact g
  · intro q u hq hu
    simp (disch := omega) only [b0] at hq
    have g := hR.bd q u hq hu
    have hbm : bdm r' q u ↔ (bdm r q u ∨ (q = p ∧ u = s)) := by
      unfold bdm
      rw [v8]
      constructor
      · rintro ⟨k, k1, k2, k3⟩
        by_cases z : k = nv r 8
        · subst z
          rw [a249] at k2
          rw [a269] at k3
          exact Or.inr ⟨((nI_eq (by omega) (by omega)).mp k2).symm, ((nI_eq (by omega) (by omega)).mp k3).symm⟩
        · simp (disch := omega) only [a0] at k2 k3
          exact Or.inl ⟨k, by omega, k2, k3⟩
      · rintro (⟨k, k1, k2, k3⟩ | ⟨rfl, rfl⟩)
        · refine ⟨k, by omega, ?_, ?_⟩
          · simp (disch := omega) only [a0]; exact k2
          · simp (disch := omega) only [a0]; exact k3
        · exact ⟨nv r 8, by omega, a249, a269⟩
    rw [hbm, ← g]
    by_cases z : q = p
    · subst z
      rw [wb u hu]
      simp
    · have : bdc sd' q u = bdc sd q u := by unfold bdc; rw [w0 _ _ _ (by omega) (by omega) (by omega)]
      rw [this]
      simp [z]
  · intro g hg
    have e := hR.cu g hg
    simp (disch := omega) only [a0, w0]
    exact e
  · intro v hv
    simp (disch := omega) only [b0] at hv
    have e := hR.ve v hv
    rw [w6 v (by omega), a549 v (by omega), e.2.2.2.2.2.2]
    simp (disch := omega) only [a0, w0]
    exact ⟨e.1, e.2.1, e.2.2.1, e.2.2.2.1, e.2.2.2.2.1, e.2.2.2.2.2.1, trivial⟩
  · intro q hq
    simp (disch := omega) only [b0] at hq
    have e := hR.rq q hq
    simp (disch := omega) only [a0, w0]
    exact e
end SPO
