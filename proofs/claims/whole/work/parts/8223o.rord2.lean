/-! Layer 2: findsOrder -/
section ROR2
variable {c d : Nat} {W : Nat → Nat} {S0 s S : Nat} {md : SD} {r : RW}
/-- the way to the next place -/
def wyN (r : RW) (d : Nat) (W : Nat → Nat) : Option Nat → Nat → Nat
  | none, j => mvs r (W j) d
  | some i, j => wyI r d W i j
/-- what the reference compares -/
def vlN (r : RW) (d : Nat) (W : Nat → Nat) (s : Nat) (o : Option Nat) (j : Nat) : Nat := nv r 1 * (wyN r d W o j + opt (wyI r d W) (s ^^^ 2 ^ j) (s ^^^ 2 ^ j) j)
/-- the state of the order before place t -/
def Pv (c t : Nat) (md : SD) : Option Nat → Prop
  | none => t = 0
  | some i => 0 < t ∧ i < c ∧ md 35 0 (t - 1) = nI i
theorem wyN_le (hI : Inv r) (hW : WO c W S0 (nv r 7)) (hd : d < nv r 6) {o : Option Nat} {t : Nat} (ho : Pv c t md o) {j : Nat} (hj : j < c) : wyN r d W o j ≤ 92 := by
  cases o with
  | none => exact mvs_le hI (hW.2.1 j hj).2 hd
  | some i =>
    have := wyI_le hI hW hd ho.2.1 hj
    show wyI r d W i j ≤ 92
    omega
theorem vlN_le (hI : Inv r) (hW : WO c W S0 (nv r 7)) (hd : d < nv r 6) {o : Option Nat} {t : Nat} (ho : Pv c t md o) (hs : s < 2 ^ c) {j : Nat} (hj : s.testBit j = true) : vlN r d W s o j ≤ 10000000 ∧ wyN r d W o j + opt (wyI r d W) (s ^^^ 2 ^ j) (s ^^^ 2 ^ j) j ≤ 100000 := by
  have hjc := bit_c hs hj
  have hx := xo_lt hj
  have b1 := wyN_le hI hW hd ho hjc
  have b2 := optI_le (k := s ^^^ 2 ^ j) hI hW hd (s := s ^^^ 2 ^ j) (by omega) hjc
  have b3 := hI.tim.1.l
  have b4 : nv r 1 * (wyN r d W o j + opt (wyI r d W) (s ^^^ 2 ^ j) (s ^^^ 2 ^ j) j) ≤ 99 * 70748 := Nat.mul_le_mul b3 (by omega)
  unfold vlN
  omega
theorem m_o46 (hr : md 30 0 = r) (hI : Inv r) (hW : WO c W S0 (nv r 7)) (h34 : ∀ i, i < c → md 34 0 i = nI (W i)) (h10 : md 8 0 10 = nI c) (hd : d < nv r 6) (hs : s < 2 ^ c) (hT : Ti (wyI r d W) c md (2 ^ c)) {t : Nat} (ht : t < c) {po : Option Nat} (ho : Pv c t md po) : ∀ (k j f : Nat) (o : Option Nat), j + k = c → k < f → Gb s (vlN r d W s po) j o → ∃ o', f_X8_findsOrder_L46 md (nI s) (nI t) (nI d) (nI (nv r (17 + d))) f (pvI o) (vOf (vlN r d W s po) o) (nI j) = some (pvI o', vOf (vlN r d W s po) o', nI c) ∧ Gb s (vlN r d W s po) c o' := by
  have lc := hW.1
  have l2 := two_c hW.1
  intro k
  induction k with
  | zero =>
    intro j f o hj hf hG
    obtain ⟨f, rfl⟩ : ∃ q, f = q + 1 := ⟨f - 1, by omega⟩
    have : j = c := by omega
    subst this
    rw [f_X8_findsOrder_L46, h10, if_pos (nI_le (Nat.le_refl _) (by omega))]
    exact ⟨o, rfl, hG⟩
  | succ k ih =>
    intro j f o hj hf hG
    obtain ⟨f, rfl⟩ : ∃ q, f = q + 1 := ⟨f - 1, by omega⟩
    have hj2 : j < c := by omega
    rw [f_X8_findsOrder_L46, h10, if_neg (by rw [nI_leI (by omega) (by omega)]; omega)]
    by_cases z : s.testBit j = true
    · obtain ⟨-, c2, c3⟩ := crd_all s (by omega) j (by omega) z
      have hx := xo_lt z
      obtain ⟨b1, b2⟩ := vlN_le hI hW hd ho hs z
      have e1 : (r 1) * (nI (wyN r d W po j) + nI (opt (wyI r d W) (s ^^^ 2 ^ j) (s ^^^ 2 ^ j) j)) = nI (vlN r d W s po j) := by
        rw [hI.tim.1.e, nI_add, pk_mul]
        rfl
      rw [if_neg (by rw [bit_tt (by omega) (by omega), z]; decide), sh1n j (by omega), pk_sub c3, c2]
      simp (disch := omega) only [xl, xg, vinT, nI_clamp, la, ra, lm, nI_add]
      rw [hT _ j (by omega) hj2, hr]
      have fin : ∃ o', (if pvI o = -1 then f_X8_findsOrder_L46 md (nI s) (nI t) (nI d) (nI (nv r (17 + d))) f (nI j) (nI (vlN r d W s po j)) (nI (j + 1)) else if nI (vlN r d W s po j) < vOf (vlN r d W s po) o then f_X8_findsOrder_L46 md (nI s) (nI t) (nI d) (nI (nv r (17 + d))) f (nI j) (nI (vlN r d W s po j)) (nI (j + 1)) else f_X8_findsOrder_L46 md (nI s) (nI t) (nI d) (nI (nv r (17 + d))) f (pvI o) (vOf (vlN r d W s po) o) (nI (j + 1))) = some (pvI o', vOf (vlN r d W s po) o', nI c) ∧ Gb s (vlN r d W s po) c o' := by
        cases o with
        | none =>
          rw [if_pos (show pvI none = -1 from rfl)]
          exact ih (j + 1) f (some j) (by omega) (by omega) ⟨z, by omega, fun i h1 h2 => by
            by_cases e : i = j
            · subst e
              exact ⟨Nat.le_refl _, fun y => by omega⟩
            · have := hG i (by omega)
              rw [this] at h2
              cases h2⟩
        | some p =>
          obtain ⟨g1, g2, g3⟩ := hG
          obtain ⟨b3, -⟩ := vlN_le hI hW hd ho hs g1
          have i1 : ¬ pvI (some p) = -1 := by
            show ¬ nI p = -1
            rw [nm1 (by omega)]
            exact id
          rw [if_neg i1]
          have i2 : (nI (vlN r d W s po j) < vOf (vlN r d W s po) (some p)) ↔ vlN r d W s po j < vlN r d W s po p := nI_ltI (by omega) (by omega)
          by_cases y : vlN r d W s po j < vlN r d W s po p
          · rw [if_pos (i2.mpr y)]
            exact ih (j + 1) f (some j) (by omega) (by omega) ⟨z, by omega, fun i h1 h2 => by
              by_cases e : i = j
              · subst e
                exact ⟨Nat.le_refl _, fun y => by omega⟩
              · have := (g3 i (by omega) h2).1
                exact ⟨by omega, fun _ => by omega⟩⟩
          · rw [if_neg (fun h => y (i2.mp h))]
            exact ih (j + 1) f (some p) (by omega) (by omega) ⟨g1, by omega, fun i h1 h2 => by
              by_cases e : i = j
              · subst e
                exact ⟨by omega, fun y => by omega⟩
              · exact g3 i (by omega) h2⟩
      cases po with
      | none =>
        have ht0 : t = 0 := ho
        subst ht0
        rw [if_pos (show nI 0 = 0 from rfl), m_firstWay hr hI hW h34 hd hj2, xb]
        rw [show nI (mvs r (W j) d) = nI (wyN r d W none j) from rfl, e1]
        exact fin
      | some i =>
        obtain ⟨o1, o2, o3⟩ := ho
        rw [if_neg (fun h => by rw [← nI_0, nI_eq (by omega) (by omega)] at h; omega)]
        have e0 : nI t - 1 = nI (t - 1) := rsu (k := 1) (show 1 ≤ t by omega)
        rw [e0, x_guard_pos (vp_in_nI (show t - 1 < 10 by omega) (by omega)), nI_clamp (show t - 1 < 2 ^ 31 by omega), o3, m_between hr hI hW h34 hd o2 hj2, xb]
        rw [show nI (wyI r d W i j) = nI (wyN r d W (some i) j) from rfl, e1]
        exact fin
    · rw [if_pos (by rw [bit_tt (by omega) (by omega)]; exact Bool.eq_false_iff.mpr z)]
      simp (disch := omega) only [xl, ra]
      refine ih (j + 1) f o (by omega) (by omega) ?_
      cases o with
      | none =>
        intro i hi
        by_cases e : i = j
        · subst e; exact Bool.eq_false_iff.mpr z
        · exact hG i (by omega)
      | some p =>
        obtain ⟨g1, g2, g3⟩ := hG
        refine ⟨g1, by omega, fun i h1 h2 => ?_⟩
        by_cases e : i = j
        · subst e; exact absurd h2 z
        · exact g3 i (by omega) h2
/-- the least time of what is left -/
def lfT (r : RW) (d S : Nat) (o : Option Nat) : Nat := mnS S (fun q => stp r d o q + opt (swN r d) (S ^^^ 2 ^ q) (S ^^^ 2 ^ q) q) 10 0 2147483647
theorem vl_rel (hI : Inv r) (hW : WO c W S0 (nv r 7)) (hd : d < nv r 6) (hs : s < 2 ^ c) (hm : Im c W s S) {n t : Nat} (hn : crd s = n + 1) {po : Option Nat} (ho : Pv c t md po) : ∃ C, C ≤ 10000 ∧ ∀ i, s.testBit i = true → stp r d (po.map W) (W i) + opt (swN r d) (S ^^^ 2 ^ W i) (S ^^^ 2 ^ W i) (W i) = vlN r d W s po i + C := by
  have lc := hW.1
  have l2 := two_c hW.1
  have t2 := hI.tim.2.1.l
  have t3 := hI.tim.2.2.1.l
  have hn9 : n ≤ 9 := by have := crd_le (s := s) (by omega); omega
  have hb : n * (4 * nv r 2 + nv r 3) ≤ 9 * 495 := Nat.mul_le_mul hn9 (by omega)
  have ho2 : ∀ i, s.testBit i = true → opt (swN r d) (S ^^^ 2 ^ W i) (S ^^^ 2 ^ W i) (W i) = nv r 1 * opt (wyI r d W) (s ^^^ 2 ^ i) (s ^^^ 2 ^ i) i + n * (4 * nv r 2 + nv r 3) := fun i hi => by
    have hic := bit_c hs hi
    have hx := xo_lt hi
    exact opt_rel hI hW hd n _ _ i (by have := (crd_all s (by omega) i (by omega) hi).1; omega) (by omega) (hm.x hW hic hi) hic
  cases po with
  | none =>
    refine ⟨(if r (21 + d) = -1 then 2 else 4) * nv r 2 + nv r 3 + n * (4 * nv r 2 + nv r 3), ?_, fun i hi => ?_⟩
    · split <;> omega
    · rw [ho2 i hi]
      show mvs r (W i) d * nv r 1 + (if r (21 + d) = -1 then 2 else 4) * nv r 2 + nv r 3 + _ = nv r 1 * (mvs r (W i) d + _) + _
      generalize (if r (21 + d) = -1 then 2 else 4) * nv r 2 = G
      generalize n * (4 * nv r 2 + nv r 3) = K
      generalize mvs r (W i) d = B
      generalize opt (wyI r d W) (s ^^^ 2 ^ i) (s ^^^ 2 ^ i) i = O
      rw [Nat.mul_add, Nat.mul_comm B]
      omega
  | some p =>
    refine ⟨(4 * nv r 2 + nv r 3) + n * (4 * nv r 2 + nv r 3), by omega, fun i hi => ?_⟩
    rw [ho2 i hi]
    show bwN r d (W p) (W i) * nv r 1 + (4 * nv r 2 + nv r 3) + _ = nv r 1 * (bwN r d (W p) (W i) + _) + _
    generalize n * (4 * nv r 2 + nv r 3) = K
    generalize bwN r d (W p) (W i) = B
    generalize opt (wyI r d W) (s ^^^ 2 ^ i) (s ^^^ 2 ^ i) i = O
    rw [Nat.mul_add, Nat.mul_comm B]
    omega
theorem m_o27 (hI : Inv r) (hW : WO c W S0 (nv r 7)) (hd : d < nv r 6) : ∀ (n t f N s S : Nat) (po : Option Nat) (md : SD), md 30 0 = r → (∀ i, i < c → md 34 0 i = nI (W i)) → md 8 0 10 = nI c → Ti (wyI r d W) c md (2 ^ c) → t + n = c → N + t = 10 → n < f → crd s = n → s < 2 ^ c → Im c W s S → Pv c t md po → ∃ m', f_X8_findsOrder_L27 (nI d) (nI (nv r (17 + d))) f (nI s) (nI t) md = some m' ∧ (∀ k j u, ¬ (k = 35 ∧ j = 0 ∧ t ≤ u) → m' k j u = md k j u) ∧ (ordL r d N (po.map W) S (lfT r d S (po.map W))).length = n ∧ ∀ u, u < n → ∃ i, i < c ∧ m' 35 0 (t + u) = nI i ∧ (ordL r d N (po.map W) S (lfT r d S (po.map W))).getD u 0 = W i := by
  have lc := hW.1
  have l2 := two_c hW.1
  intro n
  induction n with
  | zero =>
    intro t f N s S po md hr h34 h10 hT ht hN hf hcr hs hm ho
    obtain ⟨f, rfl⟩ : ∃ q, f = q + 1 := ⟨f - 1, by omega⟩
    have : t = c := by omega
    subst this
    have h0 : s = 0 := crd_0 (by omega) hcr
    subst h0
    have h0 := hm.z
    subst h0
    rw [f_X8_findsOrder_L27, h10, if_pos (nI_le (Nat.le_refl _) (by omega))]
    refine ⟨md, rfl, fun _ _ _ _ => rfl, ?_, fun u hu => by omega⟩
    cases N with
    | zero => rfl
    | succ N => rw [ordL, if_pos rfl]; rfl
  | succ n ih =>
    intro t f N s S po md hr h34 h10 hT ht hN hf hcr hs hm ho
    obtain ⟨f, rfl⟩ : ∃ q, f = q + 1 := ⟨f - 1, by omega⟩
    obtain ⟨N, rfl⟩ : ∃ q, N = q + 1 := ⟨N - 1, by omega⟩
    have htc : t < c := by omega
    have hs0 : s ≠ 0 := by
      intro z
      rw [z] at hcr
      rw [crd_z] at hcr; omega
    have hS0 := hm.ne hs lc hs0
    obtain ⟨o', a1, a2⟩ := m_o46 hr hI hW h34 h10 hd hs hT htc ho c 0 fuel none (by omega) (by unfold fuel; omega) (fun i hi => absurd hi (Nat.not_lt_zero _))
    rw [nI_0] at a1
    cases o' with
    | none =>
      obtain ⟨q, -, q2⟩ := ex_bit hs0 (by omega)
      have := a2 q (bit_c hs q2)
      rw [this] at q2
      cases q2
    | some j =>
      obtain ⟨C, hC, hV⟩ := vl_rel hI hW hd hs hm hcr ho
      obtain ⟨e1, e2⟩ := choice hW hI hs hm hV (fun i hi => by have := (vlN_le hI hW hd ho hs hi).1; omega) a2
      obtain ⟨g1, g2, g3⟩ := a2
      obtain ⟨c1, c2, c3⟩ := crd_all s (by omega) j (by omega) g1
      have hx := xo_lt g1
      rw [f_X8_findsOrder_L27, h10, if_neg (by rw [nI_leI (by omega) (by omega)]; omega)]
      have a1' : f_X8_findsOrder_L46 md (nI s) (nI t) (nI d) (nI (nv r (17 + d))) fuel (-1) 1000000000 0 = some (nI j, vOf (vlN r d W s po) (some j), nI c) := a1
      rw [a1', xb]
      simp only
      rw [sh1n j (by omega), pk_sub c3, c2]
      simp (disch := omega) only [xl, xg, vinT, nI_clamp, ra]
      obtain ⟨m', q1, q2, q3, q4⟩ := ih (t + 1) f N (s ^^^ 2 ^ j) (S ^^^ 2 ^ W j) (some j) (upS md 35 0 t (nI j)) hr h34 h10 hT (by omega) (by omega) (by omega) (by omega) (by omega) (hm.x hW g2 g1) ⟨by omega, g2, by rw [Nat.add_sub_cancel]; exact upS_hit _ _ _ _ _⟩
      have hord : ordL r d (N + 1) (po.map W) S (lfT r d S (po.map W)) = W j :: ordL r d N ((some j).map W) (S ^^^ 2 ^ W j) (lfT r d (S ^^^ 2 ^ W j) ((some j).map W)) := by
        have e2' : nxS r d (po.map W) S (lfT r d S (po.map W)) 10 0 = some (W j) := e2
        rw [ordL, if_neg hS0, e2']
        simp only
        by_cases z : S ^^^ 2 ^ W j = 0
        · rw [z]
          cases N with
          | zero => rfl
          | succ N => rw [ordL, ordL, if_pos rfl, if_pos rfl]
        · rw [opt_un z]
          rfl
      refine ⟨m', q1, fun k j' u hu => ?_, ?_, fun u hu => ?_⟩
      · rw [q2 k j' u (by omega)]
        unfold upS
        rw [if_neg (by omega)]
      · rw [hord, List.length_cons, q3]
      · rw [hord]
        cases u with
        | zero =>
          refine ⟨j, g2, ?_, rfl⟩
          rw [Nat.add_zero, q2 35 0 t (by omega), upS_hit]
        | succ u =>
          obtain ⟨i, i1, i2, i3⟩ := q4 u (by omega)
          refine ⟨i, i1, ?_, by rw [List.getD_cons_succ]; exact i3⟩
          rw [← i2]
          congr 1
          omega
theorem m_findsOrder (hr : md 30 0 = r) (hI : Inv r) (hW : WO c W S0 (nv r 7)) (h34 : ∀ i, i < c → md 34 0 i = nI (W i)) (h10 : md 8 0 10 = nI c) (hd : d < nv r 6) : ∃ m', f_X8_findsOrder md (nI d) = some m' ∧ (∀ k j t, ¬ (k = 36 ∧ j = 0) → ¬ (k = 35 ∧ j = 0) → m' k j t = md k j t) ∧ (ordL r d 10 none S0 (lst r d S0)).length = c ∧ ∀ u, u < c → ∃ i, i < c ∧ m' 35 0 u = nI i ∧ (ordL r d 10 none S0 (lst r d S0)).getD u 0 = W i := by
  have lc := hW.1
  have l2 := two_c hW.1
  have l6 := hI.l6
  have sh : ∀ t, t ≤ 10 → (1 : Int32) <<< (nI t &&& 31) = nI (2 ^ t) := by decide +kernel
  obtain ⟨m1, a1, a2, a3⟩ := m_findsRest hr hI hW h34 h10 hd
  have r1 : m1 30 0 = r := by rw [← hr]; funext t; exact a2 _ _ _ (by omega)
  have hp : 0 < 2 ^ c := Nat.two_pow_pos c
  obtain ⟨m2, b1, b2, b3, b4⟩ := m_o27 hI hW hd c 0 fuel 10 (2 ^ c - 1) S0 none m1 r1 (fun i hi => by rw [a2 _ _ _ (by omega)]; exact h34 i hi) (by rw [a2 _ _ _ (by omega)]; exact h10) a3 (by omega) (by omega) (by unfold fuel; omega) (crd_full c lc) (by omega) (fun p => by
    constructor
    · intro h
      obtain ⟨i, i1, i2⟩ := hW.2.2.2 p h
      exact ⟨i, by rw [Nat.testBit_two_pow_sub_one, decide_eq_true i1], i1, i2⟩
    · rintro ⟨i, -, i1, i2⟩
      rw [← i2]
      exact (hW.2.1 i i1).1) rfl
  rw [nI_0] at b1
  refine ⟨m2, ?_, fun k j t n1 n2 => by rw [b2 k j t (by omega), a2 k j t n1], b3, fun u hu => ?_⟩
  · unfold f_X8_findsOrder
    simp (disch := omega) only [xl, xg, vinT, nI_clamp, la, ra]
    rw [hr, ((hI.drv d hd).1).1.e, a1, xb, a2 8 0 10 (by omega), h10, sh c lc, rsu (k := 1) hp]
    exact b1
  · obtain ⟨i, i1, i2, i3⟩ := b4 u hu
    rw [Nat.zero_add] at i2
    exact ⟨i, i1, i2, i3⟩
end ROR2
