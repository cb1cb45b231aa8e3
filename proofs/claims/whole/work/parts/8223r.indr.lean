/-! Layer 2: the requests whose platter is in a drive are read first -/
section IND
variable {b : Nat} {sd md : SD} {r r' : RW}
theorem mkF_bit (hI : Inv r) (a : Int32) {e : Nat} (he : e < 4) : ∀ (n q s : Nat), (mkF r a n q s).testBit e = true ↔ s.testBit e = true ∨ ∃ i, q ≤ i ∧ i < q + n ∧ nI i ≠ a ∧ holdQ r (nI (pq r i)) = nI e
  | 0, q, s => by
    unfold mkF
    constructor
    · exact Or.inl
    · rintro (h | ⟨i, h1, h2, -⟩)
      · exact h
      · omega
  | n + 1, q, s => by
    have l6 := hI.l6
    unfold mkF
    rw [mkF_bit hI a he n (q + 1) _]
    have key : (if nI q = a then s else if holdQ r (nI (pq r q)) = -1 then s else s ||| 2 ^ (holdQ r (nI (pq r q))).toNatClampNeg).testBit e = true ↔ s.testBit e = true ∨ (nI q ≠ a ∧ holdQ r (nI (pq r q)) = nI e) := by
      by_cases z : nI q = a
      · rw [if_pos z]
        constructor
        · exact Or.inl
        · rintro (h | ⟨h, -⟩)
          · exact h
          · exact absurd z h
      · rw [if_neg z]
        rcases holdQ_cases r (nI (pq r q)) with ⟨h, -⟩ | ⟨d, d1, d2, -⟩
        · rw [if_pos h, h]
          constructor
          · exact Or.inl
          · rintro (h | ⟨-, h⟩)
            · exact h
            · rw [m1n (by omega)] at h
              exact h.elim
        · rw [if_neg (by rw [d2, nm1 (by omega)]; exact id), d2, nI_clamp (by omega), Nat.testBit_or, Nat.testBit_two_pow, Bool.or_eq_true, decide_eq_true_eq, nI_eq (by omega) (by omega)]
          constructor
          · rintro (h | h)
            · exact Or.inl h
            · exact Or.inr ⟨z, h⟩
          · rintro (h | ⟨-, h⟩)
            · exact Or.inl h
            · exact Or.inr h
    rw [key]
    constructor
    · rintro ((h | ⟨h1, h2⟩) | ⟨i, h1, h2, h3⟩)
      · exact Or.inl h
      · exact Or.inr ⟨q, Nat.le_refl _, by omega, h1, h2⟩
      · exact Or.inr ⟨i, by omega, by omega, h3⟩
    · rintro (h | ⟨i, h1, h2, h3⟩)
      · exact Or.inl (Or.inl h)
      · by_cases y : i = q
        · subst y
          exact Or.inl (Or.inr h3)
        · exact Or.inr ⟨i, by omega, by omega, h3⟩
/-- the drive holds a platter that is wanted -/
def anB (r : RW) (e : Nat) : Bool := decide (r (21 + e) ≠ -1) && anQ r (nv r (21 + e)) (nv r 16) 0
theorem anB_iff (hI : Inv r) {e : Nat} (he : e < nv r 6) : anB r e = true ↔ (mkF r (-1) (nv r 16) 0 0).testBit e = true := by
  have l6 := hI.l6
  have l7 := hI.l7
  have l16 := hI.l16
  rw [mkF_bit hI (-1) (by omega)]
  unfold anB
  rw [Bool.and_eq_true, decide_eq_true_eq, anQ_iff]
  constructor
  · rintro ⟨h1, i, i1, i2, i3⟩
    rcases (hI.drv e he).2 with h | ⟨z1, z2⟩
    · exact absurd h h1
    · exact Or.inr ⟨i, i1, i2, by rw [Ne, nm1 (by omega)]; exact id, by rw [i3]; exact hold_at hI he (by omega) z1.e⟩
  · rintro (h | ⟨i, i1, i2, -, i3⟩)
    · rw [Nat.zero_testBit] at h
      cases h
    · have hp := pq_lt hI (q := i) (by omega)
      rcases holdQ_cases r (nI (pq r i)) with ⟨h, -⟩ | ⟨d, d1, d2, d3⟩
      · rw [h, m1n (by omega)] at i3
        exact i3.elim
      · rw [d2, nI_eq (by omega) (by omega)] at i3
        subst i3
        exact ⟨by rw [d3, Ne, nm1 (by omega)]; exact id, i, i1, i2, (nv_of d3 (by omega)).symm⟩
/-- the class's numbers of uses while the drives up to d are read -/
def UQ (r : RW) (s0 s : SD) (d : Nat) : Prop := ns s0 4 0 4 ≤ ns s 4 0 4 ∧ (∀ e, e < d → anB r e = true → ns s0 4 0 4 < ns s 0 e 2 ∧ ns s 0 e 2 ≤ ns s 4 0 4) ∧ (∀ e, ¬ (e < d ∧ anB r e = true) → s 0 e 2 = s0 0 e 2) ∧ ∀ e e', e < e' → e' < d → anB r e = true → anB r e' = true → ns s 0 e 2 < ns s 0 e' 2
theorem UQ.none {s0 s : SD} {d : Nat} (h : UQ r s0 s d) (ha : anB r d = false) : UQ r s0 s (d + 1) := by
  obtain ⟨h1, h2, h3, h4⟩ := h
  have lt : ∀ e, e < d + 1 → anB r e = true → e < d := fun e he ha' => by
    refine Nat.lt_of_le_of_ne (by omega) (fun z => ?_)
    subst z
    rw [ha] at ha'
    cases ha'
  exact ⟨h1, fun e he ha' => h2 e (lt e he ha') ha', fun e he => h3 e (fun z => he ⟨by omega, z.2⟩), fun e e' h5 h6 h7 h8 => h4 e e' h5 (lt e' h6 h8) h7 h8⟩
theorem UQ.step {s0 s s' : SD} {d : Nat} (h : UQ r s0 s d) (hu : US s s' d (anB r d)) : UQ r s0 s' (d + 1) := by
  obtain ⟨u1, u2, u3⟩ := hu
  cases ha : anB r d with
  | false =>
    obtain ⟨a1, a2⟩ := u2 ha
    refine UQ.none ?_ ha
    have e0 : ∀ e, s' 0 e 2 = s 0 e 2 := fun e => by
      by_cases z : e = d
      · rw [z, a2]
      · exact u1 e z
    obtain ⟨h1, h2, h3, h4⟩ := h
    have en : ∀ e, ns s' 0 e 2 = ns s 0 e 2 := fun e => by unfold ns; rw [e0]
    have e4 : ns s' 4 0 4 = ns s 4 0 4 := by unfold ns; rw [a1]
    refine ⟨by rw [e4]; exact h1, fun e he hb => ?_, fun e he => by rw [e0]; exact h3 e he, fun e e' h5 h6 h7 h8 => ?_⟩
    · rw [en, e4]; exact h2 e he hb
    · rw [en, en]; exact h4 e e' h5 h6 h7 h8
  | true =>
    obtain ⟨a1, a2⟩ := u3 ha
    obtain ⟨h1, h2, h3, h4⟩ := h
    have en : ∀ e, e ≠ d → ns s' 0 e 2 = ns s 0 e 2 := fun e z => by unfold ns; rw [u1 e z]
    have ed : ns s' 0 d 2 = ns s' 4 0 4 := by unfold ns; rw [a2]
    refine ⟨by omega, fun e he hb => ?_, fun e he => ?_, fun e e' h5 h6 h7 h8 => ?_⟩
    · by_cases z : e = d
      · subst z
        rw [ed]
        exact ⟨by omega, Nat.le_refl _⟩
      · have := h2 e (by omega) hb
        rw [en e z]
        exact ⟨this.1, by omega⟩
    · have z : e ≠ d := fun z => he (by subst z; exact ⟨by omega, ha⟩)
      rw [u1 e z]
      exact h3 e (fun y => he ⟨by omega, y.2⟩)
    · by_cases z : e' = d
      · subst z
        have := h2 e h5 h7
        rw [en e (by omega), ed]
        omega
      · rw [en e (by omega), en e' z]
        exact h4 e e' h5 (by omega) h7 h8
/-- the free drive behind the reading -/
theorem UQ.free (hI : Inv r) {s0 s : SD} (hR0 : Rel b sd r) (hs0 : s0 = sd) (h : UQ r s0 s (nv r 6)) (h0 : 0 < nv r 6) : freQ r (fun e => ns s 0 e 2) = freQ r (useC s0 (mkF r (-1) (nv r 16) 0 0)) := by
  subst hs0
  refine freQ_congr (fun e e' he he' => ?_) h0
  obtain ⟨h1, h2, h3, h4⟩ := h
  have lo : ∀ e, e < nv r 6 → ns s0 0 e 2 ≤ ns s0 4 0 4 := fun e he => ((hR0.us.2.2.1 e he).1).2
  have tb : ∀ e, e < nv r 6 → useC s0 (mkF r (-1) (nv r 16) 0 0) e = if anB r e = true then ns s0 4 0 4 + 1 + e else ns s0 0 e 2 := fun e he => by
    unfold useC
    have hh := anB_iff hI he
    rw [Nat.testBit_eq_decide_div_mod_eq, decide_eq_true_eq] at hh
    have := Nat.mod_lt (mkF r (-1) (nv r 16) 0 0 / 2 ^ e) (show 2 > 0 by decide)
    by_cases z : anB r e = true
    · rw [if_pos z, if_neg (by rw [hh.mp z]; decide)]
    · rw [if_neg z, if_pos (by have : ¬ _ := fun y => z (hh.mpr y); omega)]
  have no : ∀ e, ¬ anB r e = true → ns s 0 e 2 = ns s0 0 e 2 := fun e z => by unfold ns; rw [h3 e (fun y => z y.2)]
  rw [tb e he, tb e' he']
  have g1 := lo e he
  have g2 := lo e' he'
  by_cases z : anB r e = true <;> by_cases y : anB r e' = true
  · rw [if_pos z, if_pos y]
    constructor
    · intro q
      rcases Nat.lt_trichotomy e e' with w | w | w
      · omega
      · subst w; omega
      · have := h4 e' e w he y z
        omega
    · intro q
      exact h4 e e' (by omega) he' z y
  · rw [if_pos z, if_neg y, no e' y]
    have := h2 e he z
    omega
  · rw [if_neg z, if_pos y, no e z]
    have := h2 e' he' y
    omega
  · rw [if_neg z, if_neg y, no e z, no e' y]
/-- what the reference does behind the reading -/
noncomputable def svT (m : SD) : Option SD := if (m 8 0 10) ≤ 0 then some (upS m 30 0 16 0) else x_bind (f_X8_freeDrive m) fun (q6 : Int32) => x_bind (f_X8_findsOrder m q6) fun (q7 : SD) => x_bind (f_X8_serves_L68 q6 fuel 0 q7) fun (q8 : Int32 × SD) => some (upS q8.2 30 0 16 0)
/-- the platter is in one of the first d drives -/
def hb (r : RW) : Nat → Nat → Bool
  | 0, _ => false
  | d + 1, p => hb r d p || decide (r (21 + d) = nI p)
theorem hb_iff (r : RW) (p : Nat) : ∀ d, hb r d p = true ↔ ∃ e, e < d ∧ r (21 + e) = nI p
  | 0 => by
    constructor
    · intro h; cases h
    · rintro ⟨e, h, -⟩; omega
  | d + 1 => by
    unfold hb
    rw [Bool.or_eq_true, decide_eq_true_eq, hb_iff r p d]
    constructor
    · rintro (⟨e, h1, h2⟩ | h)
      · exact ⟨e, by omega, h2⟩
      · exact ⟨d, by omega, h⟩
    · rintro ⟨e, h1, h2⟩
      by_cases z : e = d
      · right; rw [← z]; exact h2
      · exact Or.inl ⟨e, by omega, h2⟩
def Rdc (r r' : RW) : Prop := ∀ i, i ≠ 12 → i ≠ 15 → ¬ (25 ≤ i ∧ i < 29) → r' i = r i
theorem Rdc.stc (h : Rdc r r') : Stc r r' := fun i hi => h i (by unfold mec at hi; omega) (by unfold mec at hi; omega) (by unfold mec at hi; omega)
theorem in_loop (hI0 : Inv r) {s0 : SD} : ∀ (k d f f' b : Nat) (s m : SD), d + k = nv r 6 → k < f → k < f' → b + 16 * k < 2 ^ 28 → Rdc r (m 30 0) → Inv (m 30 0) → Rel b s (m 30 0) → UQ r s0 s d → m 30 0 12 = r 12 + sQ r (hb r d) (nv r 16) 0 → ∃ s' m', f_X4_readInDrives_L2 f (nI d) s = some s' ∧ f_X8_serves_L6 f' (nI d) m = svT m' ∧ MR m m' ∧ Rdc r (m' 30 0) ∧ Inv (m' 30 0) ∧ Rel (b + 16 * k) s' (m' 30 0) ∧ UQ r s0 s' (nv r 6) ∧ m' 30 0 12 = r 12 + sQ r (hb r (nv r 6)) (nv r 16) 0 := by
  have l6 := hI0.l6
  have l7 := hI0.l7
  have l16 := hI0.l16
  intro k
  induction k with
  | zero =>
    intro d f f' b s m hd hf hf' hbb hX hI hR hU hC
    obtain ⟨f, rfl⟩ : ∃ q, f = q + 1 := ⟨f - 1, by omega⟩
    obtain ⟨f', rfl⟩ : ∃ q, f' = q + 1 := ⟨f' - 1, by omega⟩
    have n6 := hX.stc.n (i := 6) (nmec (by omega))
    have : d = nv r 6 := by omega
    subst this
    rw [f_X4_readInDrives_L2, hR.s3, hI.c6, n6, if_pos (nI_le (Nat.le_refl _) (by omega)), f_X8_serves_L6, hI.c6, n6, if_pos (nI_le (Nat.le_refl _) (by omega))]
    exact ⟨s, m, rfl, rfl, MR.rf m, hX, hI, hR, hU, hC⟩
  | succ k ih =>
    intro d f f' b s m hd hf hf' hbb hX hI hR hU hC
    obtain ⟨f, rfl⟩ : ∃ q, f = q + 1 := ⟨f - 1, by omega⟩
    obtain ⟨f', rfl⟩ : ∃ q, f' = q + 1 := ⟨f' - 1, by omega⟩
    have n6 := hX.stc.n (i := 6) (nmec (by omega))
    have n16 := hX.stc.n (i := 16) (nmec (by omega))
    have hd2 : d < nv r 6 := by omega
    have h21 : m 30 0 (21 + d) = r (21 + d) := hX _ (by omega) (by omega) (by omega)
    rw [f_X4_readInDrives_L2, hR.s3, hI.c6, n6, if_neg (by rw [nI_leI (by omega) (by omega)]; omega), f_X8_serves_L6, hI.c6, n6, if_neg (by rw [nI_leI (by omega) (by omega)]; omega)]
    simp (disch := omega) only [xl, xg, vinT, nI_clamp, la, ra]
    rw [h21]
    rcases (hI0.drv d hd2).2 with z | ⟨z1, z2⟩
    · have hn := rd_none hI hR (d := d) (by omega) (by rw [h21]; exact z) (nv r 16) 0 fuel (by omega) (by unfold fuel; omega)
      rw [nI_0] at hn
      unfold f_X4_readRequestsIn
      rw [hn, xb, if_pos z]
      have ha : anB r d = false := by
        unfold anB
        rw [z, decide_eq_false (by simp), Bool.false_and]
      obtain ⟨s', m', b1, b2, b3, b4, b5, b6, b7, b8⟩ := ih (d + 1) f f' b s m (by omega) (by omega) (by omega) (by omega) hX hI hR (hU.none ha) (by
        rw [hC]
        congr 1
        refine sQ_congr _ _ (fun i h1 h2 => ?_)
        have := pq_lt hI0 (q := i) (by omega)
        show hb r d _ = (hb r d _ || _)
        rw [decide_eq_false (by rw [z, m1n (by omega)]; exact id), Bool.or_false])
      exact ⟨s', m', b1, b2, b3, b4, b5, b6.more (by omega), b7, b8⟩
    · have ne : ¬ r (21 + d) = -1 := by rw [z1.e, nm1 (by omega)]; exact id
      have ha : anB r d = anQ r (nv r (21 + d)) (nv r 16) 0 := by
        unfold anB
        rw [decide_eq_true ne, Bool.true_and]
      obtain ⟨s1, m1, a1, a2, a3, a4, a5, a6, a7, a8⟩ := rd_loop (r0 := r) hd2 (p := nv r (21 + d)) (by omega) (nv r 16) 0 fuel fuel b s m (by omega) (by unfold fuel; omega) (by unfold fuel; omega) (by omega) hX.stc (by rw [h21]; exact z1.e) hI hR
      rw [nI_0] at a1 a2
      unfold f_X4_readRequestsIn f_X8_readsFrom
      rw [a1, xb, if_neg ne, z1.e, a2, xb]
      obtain ⟨s', m', b1, b2, b3, b4, b5, b6, b7, b8⟩ := ih (d + 1) f f' (b + nv r 16) s1 m1 (by omega) (by omega) (by omega) (by omega) (fun i h1 h2 h3 => by rw [a6 i h1 h2 (by omega)]; exact hX i h1 h2 h3) a4 a5 (hU.step (by rw [ha]; exact a8)) (by
        rw [a7, hC, sQ_add (P := hb r d) (Q := fun y => decide (y = nv r (21 + d))) (R := hb r (d + 1)) (nv r 16) 0 (fun i h1 h2 => ?_)]
        · grind
        · have hp := pq_lt hI0 (q := i) (by omega)
          have e1 : (r (21 + d) = nI (pq r i)) ↔ pq r i = nv r (21 + d) := by
            rw [z1.e, nI_eq (by omega) (by omega)]
            exact eq_comm
          constructor
          · show (hb r d _ || _) = _
            congr 1
            exact decide_eq_decide.mpr e1
          · rintro ⟨y1, y2⟩
            obtain ⟨e, e2, e3⟩ := (hb_iff r _ d).mp y1
            have y3 := e1.mpr (of_decide_eq_true y2)
            rcases hI0.drd e d (by omega) hd2 (e3.trans y3.symm) with w | w
            · omega
            · rw [e3, nm1 (by omega)] at w
              exact w)
      exact ⟨s', m', b1, b2, a3.tr b3, b4, b5, b6.more (by omega), b7, b8⟩
end IND
