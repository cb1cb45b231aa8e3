/-! Layer 2: the reference's table of least ways -/
/-- how many members a set of at most ten has -/
def crd (s : Nat) : Nat := s % 2 + s / 2 % 2 + s / 4 % 2 + s / 8 % 2 + s / 16 % 2 + s / 32 % 2 + s / 64 % 2 + s / 128 % 2 + s / 256 % 2 + s / 512 % 2
def ck (s j : Nat) : Bool := !(s.testBit j) || (Nat.beq (crd (s ^^^ 2 ^ j) + 1) (crd s) && Nat.beq (s - 2 ^ j) (s ^^^ 2 ^ j) && Nat.ble (2 ^ j) s)
theorem ck_all : (List.range 1024).all (fun s => (List.range 10).all (ck s)) = true := by decide +kernel
theorem crd_all (s : Nat) (hs : s < 1024) (j : Nat) (hj : j < 10) (hb : s.testBit j = true) : crd (s ^^^ 2 ^ j) + 1 = crd s ∧ s - 2 ^ j = s ^^^ 2 ^ j ∧ 2 ^ j ≤ s := by
  have h := List.all_eq_true.mp (List.all_eq_true.mp ck_all s (List.mem_range.mpr hs)) j (List.mem_range.mpr hj)
  unfold ck at h
  rw [hb, Bool.not_true, Bool.false_or, Bool.and_eq_true, Bool.and_eq_true] at h
  exact ⟨Nat.eq_of_beq_eq_true h.1.1, Nat.eq_of_beq_eq_true h.1.2, Nat.le_of_ble_eq_true h.2⟩
theorem ck_0 : (List.range 1024).all (fun s => Nat.ble (crd s) 10 && (!(Nat.beq (crd s) 0) || Nat.beq s 0)) = true := by decide +kernel
theorem crd_0 {s : Nat} (hs : s < 1024) (h : crd s = 0) : s = 0 := by
  have g := List.all_eq_true.mp ck_0 s (List.mem_range.mpr hs)
  rw [h, Bool.and_eq_true] at g
  exact Nat.eq_of_beq_eq_true g.2
theorem crd_le {s : Nat} (hs : s < 1024) : crd s ≤ 10 := by
  have g := List.all_eq_true.mp ck_0 s (List.mem_range.mpr hs)
  rw [Bool.and_eq_true] at g
  exact Nat.le_of_ble_eq_true g.1
theorem crd_z : crd 0 = 0 := rfl
theorem crd_full : ∀ c, c ≤ 10 → crd (2 ^ c - 1) = c := by decide
theorem mnS_none {s : Nat} {f : Nat → Nat} : ∀ (n q acc : Nat), (∀ i, q ≤ i → s.testBit i = false) → mnS s f n q acc = acc
  | 0, _, _, _ => rfl
  | n + 1, q, acc, h => by
    unfold mnS
    rw [if_neg (by rw [h q (Nat.le_refl _)]; decide)]
    exact mnS_none n (q + 1) acc (fun i hi => h i (by omega))
theorem mnS_at {s : Nat} {f : Nat → Nat} : ∀ (n q acc : Nat), mnS s f n q acc = acc ∨ ∃ i, q ≤ i ∧ i < q + n ∧ s.testBit i = true ∧ mnS s f n q acc = f i
  | 0, _, _ => Or.inl rfl
  | n + 1, q, acc => by
    unfold mnS
    rcases mnS_at (s := s) (f := f) n (q + 1) (if s.testBit q = true then (if f q < acc then f q else acc) else acc) with h | ⟨i, h1, h2, h3, h4⟩
    · by_cases z : s.testBit q = true
      · rw [if_pos z] at h ⊢
        by_cases y : f q < acc
        · rw [if_pos y] at h ⊢
          exact Or.inr ⟨q, Nat.le_refl _, by omega, z, h⟩
        · rw [if_neg y] at h ⊢
          exact Or.inl h
      · rw [if_neg z] at h ⊢
        exact Or.inl h
    · exact Or.inr ⟨i, by omega, by omega, h3, h4⟩
/-- the least over a set that is not empty -/
theorem mnS_min {s : Nat} {f : Nat → Nat} {acc i : Nat} (hi : i < 10) (hb : s.testBit i = true) (hf : f i ≤ acc) : (∀ j, j < 10 → s.testBit j = true → mnS s f 10 0 acc ≤ f j) ∧ ∃ j, j < 10 ∧ s.testBit j = true ∧ mnS s f 10 0 acc = f j := by
  refine ⟨fun j hj h => mnS_le2 10 0 acc j (by omega) (by omega) h, ?_⟩
  rcases mnS_at (s := s) (f := f) 10 0 acc with h | ⟨j, h1, h2, h3, h4⟩
  · have := mnS_le2 (s := s) (f := f) 10 0 acc i (by omega) (by omega) hb
    exact ⟨i, hi, hb, by omega⟩
  · exact ⟨j, by omega, h3, h4⟩
theorem mnS_acc {s : Nat} {f : Nat → Nat} {a a' i : Nat} (hi : i < 10) (hb : s.testBit i = true) (h1 : f i ≤ a) (h2 : f i ≤ a') : mnS s f 10 0 a = mnS s f 10 0 a' := by
  obtain ⟨x1, j, j1, j2, j3⟩ := mnS_min (f := f) hi hb h1
  obtain ⟨y1, l, l1, l2, l3⟩ := mnS_min (f := f) hi hb h2
  have := x1 l l1 l2
  have := y1 j j1 j2
  omega
section RRS
variable {b c d : Nat} {W : Nat → Nat} {S : Nat} {sd md : SD} {r : RW}
/-- the ways between the wanted ones, by their places in the list -/
def wyI (r : RW) (d : Nat) (W : Nat → Nat) (i j : Nat) : Nat := bwN r d (W i) (W j)
theorem m_homeOf (hr : md 30 0 = r) (hI : Inv r) (hW : WO c W S (nv r 7)) (h34 : ∀ i, i < c → md 34 0 i = nI (W i)) {i : Nat} (hi : i < c) : f_X8_homeOf md (nI i) = some (nI (nv r (29 + W i))) := by
  have l7 := hI.l7
  have lc := hW.1
  have hw := (hW.2.1 i hi).2
  unfold f_X8_homeOf
  rw [x_guard_pos (vp_in_nI (by omega) (by omega)), nI_clamp (by omega), h34 i hi]
  simp (disch := omega) only [xl, xg, vinT, nI_clamp, la, ra]
  rw [hr, (hI.plt _ hw).1.1.e]
theorem m_between (hr : md 30 0 = r) (hI : Inv r) (hW : WO c W S (nv r 7)) (h34 : ∀ i, i < c → md 34 0 i = nI (W i)) (hd : d < nv r 6) {i j : Nat} (hi : i < c) (hj : j < c) : f_X8_between md (nI i) (nI j) (nI (nv r (17 + d))) = some (nI (wyI r d W i j)) := by
  have l0 := hI.l0
  have e1 := (hI.drv d hd).1.2
  have e2 := (hI.plt _ (hW.2.1 i hi).2).1.2
  have e3 := (hI.plt _ (hW.2.1 j hj).2).1.2
  unfold f_X8_between
  rw [m_homeOf hr hI hW h34 hi, m_homeOf hr hI hW h34 hj]
  simp only [xb]
  rw [m_far (by omega) (by omega), m_far (by omega) (by omega), m_far (by omega) (by omega)]
  simp only [xb, nI_add]
  rfl
theorem wyI_le (hI : Inv r) (hW : WO c W S (nv r 7)) (hd : d < nv r 6) {i j : Nat} (hi : i < c) (hj : j < c) : wyI r d W i j ≤ 69 := (swN_le hI hd (hW.2.1 i hi).2 (hW.2.1 j hj).2).1
theorem two_c (hc : c ≤ 10) : 2 ^ c ≤ 1024 := Nat.pow_le_pow_right (show 0 < 2 by decide) hc
theorem bit_c {s i : Nat} (hs : s < 2 ^ c) (h : s.testBit i = true) : i < c := by
  refine Nat.lt_of_not_le (fun z => ?_)
  have : s.testBit i = false := Nat.testBit_lt_two_pow (Nat.lt_of_lt_of_le hs (Nat.pow_le_pow_right (show 0 < 2 by decide) z))
  rw [this] at h
  cases h
theorem optI_le (hI : Inv r) (hW : WO c W S (nv r 7)) (hd : d < nv r 6) {k s i : Nat} (hs : s < 2 ^ c) (hi : i < c) : opt (wyI r d W) k s i ≤ 69 * 1024 := by
  have l2 := two_c hW.1
  have := opt_le (w := wyI r d W) (B := 69) k s i (by omega) (fun a e ha he => wyI_le hI hW hd (by
    rcases ha with rfl | ha
    · exact hi
    · exact bit_c hs ha) (bit_c hs he))
  omega
theorem m_r37 (hr : md 30 0 = r) (hI : Inv r) (hW : WO c W S (nv r 7)) (h34 : ∀ i, i < c → md 34 0 i = nI (W i)) (h10 : md 8 0 10 = nI c) (hd : d < nv r 6) {s i : Nat} (hs : s < 2 ^ c) (hi : i < c) (ht : ∀ q, s.testBit q = true → md 36 0 (10 * (s ^^^ 2 ^ q) + q) = nI (opt (wyI r d W) (s ^^^ 2 ^ q) (s ^^^ 2 ^ q) q)) : ∀ (k j f acc : Nat), j + k = c → k < f → acc ≤ 1000000000 → f_X8_findsRest_L37 md (nI s) (nI i) (nI (nv r (17 + d))) f (nI acc) (nI j) = some (nI (mnS s (fun q => wyI r d W i q + opt (wyI r d W) (s ^^^ 2 ^ q) (s ^^^ 2 ^ q) q) (10 - j) j acc), nI c) := by
  have lc := hW.1
  have l2 := two_c hW.1
  intro k
  induction k with
  | zero =>
    intro j f acc hj hf ha
    obtain ⟨f, rfl⟩ : ∃ q, f = q + 1 := ⟨f - 1, by omega⟩
    have : j = c := by omega
    subst this
    rw [f_X8_findsRest_L37, h10, if_pos (nI_le (Nat.le_refl _) (by omega)), mnS_none]
    intro i hi
    exact Bool.eq_false_iff.mpr (fun z => by have := bit_c hs z; omega)
  | succ k ih =>
    intro j f acc hj hf ha
    obtain ⟨f, rfl⟩ : ∃ q, f = q + 1 := ⟨f - 1, by omega⟩
    have hj2 : j < c := by omega
    obtain ⟨n, hn⟩ : ∃ n, 10 - j = n + 1 := ⟨9 - j, by omega⟩
    have hn2 : n = 10 - (j + 1) := by omega
    rw [f_X8_findsRest_L37, h10, if_neg (by rw [nI_leI (by omega) (by omega)]; omega), hn, mnS]
    by_cases z : s.testBit j = true
    · obtain ⟨-, c2, c3⟩ := crd_all s (by omega) j (by omega) z
      have hx := xo_lt z
      have b1 := wyI_le hI hW hd hi hj2
      have b2 := optI_le (k := s ^^^ 2 ^ j) hI hW hd (s := s ^^^ 2 ^ j) (by omega) hj2
      rw [if_neg (by rw [bit_tt (by omega) (by omega), z]; decide), if_pos z, m_between hr hI hW h34 hd hi hj2, xb, sh1n j (by omega), pk_sub c3, c2]
      simp (disch := omega) only [xl, xg, vinT, nI_clamp, la, ra, lm, nI_add]
      rw [ht j z, nI_add]
      by_cases y : wyI r d W i j + opt (wyI r d W) (s ^^^ 2 ^ j) (s ^^^ 2 ^ j) j < acc
      · rw [if_neg (by rw [nI_leI (by omega) (by omega)]; omega), if_pos y, hn2]
        exact ih (j + 1) f _ (by omega) (by omega) (by omega)
      · rw [if_pos (nI_le (by omega) (by omega)), if_neg y, hn2]
        exact ih (j + 1) f _ (by omega) (by omega) (by omega)
    · rw [if_pos (by rw [bit_tt (by omega) (by omega)]; exact Bool.eq_false_iff.mpr z), if_neg z]
      simp (disch := omega) only [xl, ra]
      rw [hn2]
      exact ih (j + 1) f _ (by omega) (by omega) ha
/-- the table up to a set -/
def Ti (w : Nat → Nat → Nat) (c : Nat) (md : SD) (s : Nat) : Prop := ∀ s' i, s' < s → i < c → md 36 0 (10 * s' + i) = nI (opt w s' s' i)
theorem opt_big (hI : Inv r) (hW : WO c W S (nv r 7)) (hd : d < nv r 6) {s i : Nat} (hs : s < 2 ^ c) (h0 : s ≠ 0) (hi : i < c) : opt (wyI r d W) s s i = mnS s (fun q => wyI r d W i q + opt (wyI r d W) (s ^^^ 2 ^ q) (s ^^^ 2 ^ q) q) 10 0 1000000000 := by
  have l2 := two_c hW.1
  obtain ⟨k, rfl⟩ : ∃ k, s = k + 1 := ⟨s - 1, by omega⟩
  rw [opt, if_neg h0]
  obtain ⟨q, q1, q2⟩ := ex_bit h0 (by omega)
  have e : mnS (k + 1) (fun q => wyI r d W i q + opt (wyI r d W) k ((k + 1) ^^^ 2 ^ q) q) 10 0 2147483647 = mnS (k + 1) (fun q => wyI r d W i q + opt (wyI r d W) ((k + 1) ^^^ 2 ^ q) ((k + 1) ^^^ 2 ^ q) q) 10 0 2147483647 := by
    refine mnS_congr _ _ _ (fun j _ _ hj => ?_)
    have := xo_lt hj
    rw [opt_fuel k ((k + 1) ^^^ 2 ^ j) _ _ (by omega) (Nat.le_refl _)]
  rw [e]
  have hx := xo_lt q2
  have b1 := wyI_le hI hW hd hi (bit_c hs q2)
  have b2 := optI_le (k := (k + 1) ^^^ 2 ^ q) hI hW hd (s := (k + 1) ^^^ 2 ^ q) (by omega) (bit_c hs q2)
  exact mnS_acc q1 q2 (by omega) (by omega)
theorem m_r14 (hI : Inv r) (hW : WO c W S (nv r 7)) (hd : d < nv r 6) {s : Nat} (hs : s < 2 ^ c) : ∀ (k i f : Nat) (md : SD), md 30 0 = r → (∀ i, i < c → md 34 0 i = nI (W i)) → md 8 0 10 = nI c → Ti (wyI r d W) c md s → i + k = c → k < f → ∃ m', f_X8_findsRest_L14 (nI s) (nI (nv r (17 + d))) f (nI i) md = some (nI c, m') ∧ (∀ k j t, ¬ (k = 36 ∧ j = 0 ∧ 10 * s + i ≤ t) → m' k j t = md k j t) ∧ ∀ j, i ≤ j → j < c → m' 36 0 (10 * s + j) = nI (opt (wyI r d W) s s j) := by
  have lc := hW.1
  have l2 := two_c hW.1
  intro k
  induction k with
  | zero =>
    intro i f md hr h34 h10 hT hi hf
    obtain ⟨f, rfl⟩ : ∃ q, f = q + 1 := ⟨f - 1, by omega⟩
    have : i = c := by omega
    subst this
    rw [f_X8_findsRest_L14, h10, if_pos (nI_le (Nat.le_refl _) (by omega))]
    exact ⟨md, rfl, fun _ _ _ _ => rfl, fun j h1 h2 => by omega⟩
  | succ k ih =>
    intro i f md hr h34 h10 hT hi hf
    obtain ⟨f, rfl⟩ : ∃ q, f = q + 1 := ⟨f - 1, by omega⟩
    have hi2 : i < c := by omega
    rw [f_X8_findsRest_L14, h10, if_neg (by rw [nI_leI (by omega) (by omega)]; omega)]
    have key : ∀ acc : Nat, acc ≤ 1000000000 → mnS s (fun q => wyI r d W i q + opt (wyI r d W) (s ^^^ 2 ^ q) (s ^^^ 2 ^ q) q) 10 0 acc = opt (wyI r d W) s s i → ∃ m', (x_bind (f_X8_findsRest_L37 md (nI s) (nI i) (nI (nv r (17 + d))) fuel (nI acc) 0) fun (q4 : (Int32 × Int32)) => x_guard (vp_in (((10 : Int32) * nI s) + nI i) 10240) <| x_let (upS md 36 0 ((((10 : Int32) * nI s) + nI i)).toNatClampNeg q4.1) fun (md13 : SD) => x_let (nI i + (1 : Int32)) fun (x14 : Int32) => f_X8_findsRest_L14 (nI s) (nI (nv r (17 + d))) f (x14) (md13)) = some (nI c, m') ∧ (∀ k j t, ¬ (k = 36 ∧ j = 0 ∧ 10 * s + i ≤ t) → m' k j t = md k j t) ∧ ∀ j, i ≤ j → j < c → m' 36 0 (10 * s + j) = nI (opt (wyI r d W) s s j) := by
      intro acc ha he
      have h37 := m_r37 hr hI hW h34 h10 hd hs hi2 (fun q hq => hT _ _ (xo_lt hq) (bit_c hs hq)) c 0 fuel acc (by omega) (by unfold fuel; omega) ha
      rw [nI_0] at h37
      rw [h37, xb]
      simp (disch := omega) only [xl, xg, vinT, nI_clamp, la, ra, lm, nI_add]
      have hz : mnS s (fun q => wyI r d W i q + opt (wyI r d W) (s ^^^ 2 ^ q) (s ^^^ 2 ^ q) q) (10 - 0) 0 acc = opt (wyI r d W) s s i := he
      rw [hz]
      obtain ⟨m', q1, q2, q3⟩ := ih (i + 1) f (upS md 36 0 (10 * s + i) (nI (opt (wyI r d W) s s i))) hr h34 h10 (fun s' i' h1 h2 => by
        rw [upS_t (by omega)]
        exact hT s' i' h1 h2) (by omega) (by omega)
      refine ⟨m', q1, fun k j t n => ?_, fun j h1 h2 => ?_⟩
      · rw [q2 k j t (by omega)]
        unfold upS
        rw [if_neg (by omega)]
      · by_cases e : j = i
        · subst e
          rw [q2 36 0 _ (by omega), upS_hit]
        · exact q3 j (by omega) h2
    simp only [xl]
    by_cases z : s = 0
    · subst z
      rw [if_pos (show nI 0 = 0 from rfl)]
      have := key 0 (by omega) (by rw [mnS_none _ _ _ (fun i _ => Nat.zero_testBit i)]; rfl)
      simp only [xl] at this
      exact this
    · rw [if_neg (fun h => z (by rw [← nI_0, nI_eq (by omega) (by omega)] at h; exact h))]
      have := key 1000000000 (by omega) (opt_big hI hW hd hs z hi2).symm
      simp only [xl] at this
      exact this
theorem m_findsRest (hr : md 30 0 = r) (hI : Inv r) (hW : WO c W S (nv r 7)) (h34 : ∀ i, i < c → md 34 0 i = nI (W i)) (h10 : md 8 0 10 = nI c) (hd : d < nv r 6) : ∃ m', f_X8_findsRest md (nI (nv r (17 + d))) = some m' ∧ (∀ k j t, ¬ (k = 36 ∧ j = 0) → m' k j t = md k j t) ∧ Ti (wyI r d W) c m' (2 ^ c) := by
  have lc := hW.1
  have l2 := two_c hW.1
  have sh : ∀ t, t ≤ 10 → (1 : Int32) <<< (nI t &&& 31) = nI (2 ^ t) := by decide +kernel
  have key : ∀ (k s f : Nat) (md : SD), md 30 0 = r → (∀ i, i < c → md 34 0 i = nI (W i)) → md 8 0 10 = nI c → Ti (wyI r d W) c md s → s + k = 2 ^ c → k < f → ∃ m', f_X8_findsRest_L2 (nI (nv r (17 + d))) f (nI s) md = some m' ∧ (∀ k j t, ¬ (k = 36 ∧ j = 0) → m' k j t = md k j t) ∧ Ti (wyI r d W) c m' (2 ^ c) := by
    intro k
    induction k with
    | zero =>
      intro s f md hr h34 h10 hT hs hf
      obtain ⟨f, rfl⟩ : ∃ q, f = q + 1 := ⟨f - 1, by omega⟩
      have : s = 2 ^ c := by omega
      subst this
      rw [f_X8_findsRest_L2, h10, sh c lc, if_pos (nI_le (Nat.le_refl _) (by omega))]
      exact ⟨md, rfl, fun _ _ _ _ => rfl, hT⟩
    | succ k ih =>
      intro s f md hr h34 h10 hT hs hf
      obtain ⟨f, rfl⟩ : ∃ q, f = q + 1 := ⟨f - 1, by omega⟩
      rw [f_X8_findsRest_L2, h10, sh c lc, if_neg (by rw [nI_leI (by omega) (by omega)]; omega)]
      obtain ⟨m', q1, q2, q3⟩ := m_r14 hI hW hd (s := s) (by omega) c 0 fuel md hr h34 h10 hT (by omega) (by unfold fuel; omega)
      rw [nI_0] at q1
      rw [q1, xb]
      simp (disch := omega) only [xl, ra]
      obtain ⟨m'', p1, p2, p3⟩ := ih (s + 1) f m' (by rw [← hr]; funext t; exact q2 _ _ _ (by omega)) (fun i hi => by rw [q2 _ _ _ (by omega)]; exact h34 i hi) (by rw [q2 _ _ _ (by omega)]; exact h10) (fun s' i h1 h2 => by
        by_cases e : s' = s
        · subst e; exact q3 i (by omega) h2
        · rw [q2 _ _ _ (by omega)]; exact hT s' i (by omega) h2) (by omega) (by omega)
      exact ⟨m'', p1, fun k j t n => by rw [p2 k j t n, q2 k j t (by omega)], p3⟩
  have := key (2 ^ c) 0 fuel md hr h34 h10 (fun s' i h _ => absurd h (Nat.not_lt_zero _)) (by omega) (by unfold fuel; omega)
  rw [nI_0] at this
  exact this
end RRS
