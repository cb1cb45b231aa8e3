/-! Layer 2: bad sectors -/
theorem nI_all (x : Int32) : nI x.toBitVec.toNat = x := by
  unfold nI
  apply Int32.toBitVec_inj.mp
  simp
theorem ush31 : ∀ t, t < 32 → (((nI t).toUInt32 &&& Int32.toUInt32 31).toBitVec % 32).toNat = t := by decide
theorem bit_u (x : Int32) {t : Nat} (ht : t < 32) : ((((x.toUInt32 >>> ((nI t).toUInt32 &&& Int32.toUInt32 31)).toInt32 &&& (1 : Int32)) = 0) ↔ x.toBitVec.getLsbD t = false) := by
  have hx := x.toBitVec.isLt
  have e : (x.toUInt32 >>> ((nI t).toUInt32 &&& Int32.toUInt32 31)).toInt32 = nI (x.toBitVec.toNat / 2 ^ t) := by
    have h := pk_ushrN (n := x.toBitVec.toNat) hx (nI t) t (ush31 t ht)
    rw [nI_all] at h
    exact h
  have hl : x.toBitVec.toNat / 2 ^ t < 2 ^ 32 := Nat.lt_of_le_of_lt (Nat.div_le_self _ _) hx
  have e2 : nI (x.toBitVec.toNat / 2 ^ t) &&& (1 : Int32) = nI (x.toBitVec.toNat / 2 ^ t % 2 ^ 1) := pk_andN hl 1 rfl
  rw [e, e2]
  have h0 : nI (x.toBitVec.toNat / 2 ^ t % 2 ^ 1) = 0 ↔ x.toBitVec.toNat / 2 ^ t % 2 ^ 1 = 0 := req (k := 0) (by decide) (by omega)
  rw [h0]
  have e3 : x.toBitVec.getLsbD t = x.toBitVec.toNat.testBit t := rfl
  rw [e3, Nat.testBit_eq_decide_div_mod_eq]
  simp only [decide_eq_false_iff_not]
  omega
theorem sh1 : ∀ t, t < 32 → ((1 : Int32) <<< (nI t &&& 31)).toBitVec = BitVec.twoPow 32 t := by decide
theorem bit_o (x : Int32) {t u : Nat} (ht : t < 32) (hu : u < 32) : (x ||| ((1 : Int32) <<< (nI t &&& 31))).toBitVec.getLsbD u = (x.toBitVec.getLsbD u || decide (u = t)) := by
  have e : (x ||| ((1 : Int32) <<< (nI t &&& 31))).toBitVec = x.toBitVec ||| ((1 : Int32) <<< (nI t &&& 31)).toBitVec := rfl
  rw [e, sh1 t ht, BitVec.getLsbD_or, BitVec.getLsbD_twoPow]
  congr 1
  by_cases h : u = t
  · subst h; simp [ht]
  · have : ¬ t = u := fun z => h z.symm
    simp [h, this]
def b01 (p : Bool) : Int32 := if p = true then 1 else 0
section BAD
variable {F : Nat} {b : Nat} {sd md : SD} {r : RW} {k0 : Nat}
theorem c_isBad (sd : SD) (p : Nat) {s : Nat} (hs : s < 300) : f_X3_isBad sd p (nI s) = some (b01 (bdc sd p s)) := by
  unfold f_X3_isBad b01 bdc
  have e32 : nI s / (32 : Int32) = nI (s / 32) := rdi (by omega) (by decide) (by decide)
  have er : nI s - nI (s / 32) * (32 : Int32) = nI (s % 32) := by
    rw [← e32]
    exact pk_rem (a := s) (d := 32) (by omega) (by decide) (by decide)
  rw [e32, er]
  simp (disch := omega) only [nneg, if_false, rlt, if_pos, xg, vinT, nI_clamp, bit_u _ (show s % 32 < 32 by omega)]
  cases (sd 18 p (s / 32)).toBitVec.getLsbD (s % 32) <;> simp
theorem m_isBad (hr : md k0 0 = r) (hI : InvF F r) (p s : Nat) : (bdm r p s → f_X8_isBad md k0 (nI p) (nI s) = some 1) ∧ (¬ bdm r p s → f_X8_isBad md k0 (nI p) (nI s) = some 0) := by
  have l8 := hI.l8
  have key : ∀ (k d n : Nat), d + k = nv r 8 → k < n → ((∃ e, d ≤ e ∧ e < nv r 8 ∧ r (249 + e) = nI p ∧ r (269 + e) = nI s) → f_X8_isBad_L2 md k0 (nI p) (nI s) n (nI d) = some 1) ∧ ((¬ ∃ e, d ≤ e ∧ e < nv r 8 ∧ r (249 + e) = nI p ∧ r (269 + e) = nI s) → f_X8_isBad_L2 md k0 (nI p) (nI s) n (nI d) = some 0) := by
    intro k
    induction k with
    | zero =>
      intro d n h1 h2
      obtain ⟨n, rfl⟩ : ∃ m, n = m + 1 := ⟨n - 1, by omega⟩
      rw [f_X8_isBad_L2, hr, hI.c8]
      simp (disch := omega) only [nI_leI, if_pos]
      refine ⟨fun ⟨e, h3, h4, _⟩ => by omega, fun _ => trivial⟩
    | succ k ih =>
      intro d n h1 h2
      obtain ⟨n, rfl⟩ : ∃ m, n = m + 1 := ⟨n - 1, by omega⟩
      obtain ⟨i1, i2⟩ := ih (d + 1) n (by omega) (by omega)
      rw [f_X8_isBad_L2, hr, hI.c8]
      simp (disch := omega) only [xl, xg, vinT, nI_clamp, la, ra, nI_leI, if_neg]
      by_cases z : r (249 + d) = nI p
      · by_cases y : r (269 + d) = nI s
        · simp only [z, y, if_true]
          refine ⟨fun _ => trivial, fun h => absurd ⟨d, Nat.le_refl _, by omega, z, y⟩ h⟩
        · simp only [z, y, if_true, if_false]
          refine ⟨fun ⟨e, h3, h4, h5, h6⟩ => i1 ⟨e, ?_, h4, h5, h6⟩, fun h => i2 (fun ⟨e, h3, h4, h5⟩ => h ⟨e, by omega, h4, h5⟩)⟩
          by_cases w : e = d
          · subst w; exact absurd h6 y
          · omega
      · simp only [z, if_false]
        refine ⟨fun ⟨e, h3, h4, h5, h6⟩ => i1 ⟨e, ?_, h4, h5, h6⟩, fun h => i2 (fun ⟨e, h3, h4, h5⟩ => h ⟨e, by omega, h4, h5⟩)⟩
        by_cases w : e = d
        · subst w; exact absurd h5 z
        · omega
  unfold f_X8_isBad
  have k1 := key (nv r 8) 0 fuel (by omega) (by unfold fuel; omega)
  rw [nI_0] at k1
  exact ⟨fun ⟨e, h⟩ => k1.1 ⟨e, Nat.zero_le _, h⟩, fun h => k1.2 (fun ⟨e, _, g⟩ => h ⟨e, g⟩)⟩
theorem m_isBad2 (hr : md k0 0 = r) (hI : InvF F r) (hB : R_bd sd r) {p s : Nat} (hp : p < nv r 7) (hs : s < 300) : f_X8_isBad md k0 (nI p) (nI s) = some (b01 (bdc sd p s)) := by
  obtain ⟨h1, h2⟩ := m_isBad hr hI p s
  have h := hB p s hp hs
  unfold b01
  by_cases z : bdc sd p s = true
  · rw [if_pos z]; exact h1 (h.mp z)
  · rw [if_neg z]; exact h2 (fun y => z (h.mpr y))
theorem b01_0 (p : Bool) : (b01 p = 0) ↔ p = false := by cases p <;> simp [b01]
/-! counting -/
def cnt (P : Nat → Bool) : Nat → Nat
  | 0 => 0
  | n + 1 => cnt P n + (if P n = true then 1 else 0)
theorem cnt_le (P : Nat → Bool) : ∀ n, cnt P n ≤ n
  | 0 => Nat.le_refl _
  | n + 1 => by
    unfold cnt
    have := cnt_le P n
    split <;> omega
theorem cnt_congr {P Q : Nat → Bool} : ∀ {n : Nat}, (∀ k, k < n → P k = Q k) → cnt P n = cnt Q n
  | 0, _ => rfl
  | n + 1, h => by
    unfold cnt
    rw [cnt_congr (fun k hk => h k (by omega)), h n (by omega)]
theorem cnt_or {P Q T : Nat → Bool} : ∀ {n : Nat}, (∀ k, k < n → T k = (P k || Q k) ∧ ¬ (P k = true ∧ Q k = true)) → cnt T n = cnt P n + cnt Q n
  | 0, _ => rfl
  | n + 1, h => by
    unfold cnt
    rw [cnt_or (fun k hk => h k (by omega))]
    obtain ⟨h1, h2⟩ := h n (by omega)
    rw [h1]
    cases hp : P n <;> cases hq : Q n
    · simp
    · simp; omega
    · simp; omega
    · exact absurd ⟨hp, hq⟩ h2
theorem cnt_none {P : Nat → Bool} : ∀ {n : Nat}, (∀ k, k < n → P k = false) → cnt P n = 0
  | 0, _ => rfl
  | n + 1, h => by
    unfold cnt
    rw [cnt_none (fun k hk => h k (by omega)), h n (by omega)]
    rfl
theorem cnt_one {P : Nat → Bool} : ∀ {n j : Nat}, j < n → P j = true → (∀ k, k < n → P k = true → k = j) → cnt P n = 1
  | 0, _, h, _, _ => by omega
  | n + 1, j, h, hj, hu => by
    unfold cnt
    by_cases z : j = n
    · subst z
      rw [cnt_none (fun k hk => by
        cases hk2 : P k
        · rfl
        · have := hu k (by omega) hk2
          omega), if_pos hj]
    · rw [cnt_one (n := n) (j := j) (by omega) hj (fun k hk h2 => hu k (by omega) h2), if_neg (fun y => z (hu n (by omega) y).symm)]
/-- how many of so many sectors are bad -/
def bads (sd : SD) (p e n : Nat) : Nat := cnt (fun i => bdc sd p (e + i)) n
theorem c_badAmong {p e n : Nat} (h3 : sd 3 p 3 = nI e) (hn : e + n ≤ 300) : f_X3_badAmongNext sd p (nI n) = some (nI (bads sd p e n)) := by
  unfold f_X3_badAmongNext
  rw [xl, h3]
  have key : ∀ (k d m : Nat), d + k = n → k < m → f_X3_badAmongNext_L7 sd p (nI n) m (nI (bads sd p (e) d)) (nI (e + d)) = some (nI (bads sd p (e) n)) := by
    intro k
    induction k with
    | zero =>
      intro d m h1 h2
      obtain ⟨m, rfl⟩ : ∃ q, m = q + 1 := ⟨m - 1, by omega⟩
      have : d = n := by omega
      subst this
      rw [f_X3_badAmongNext_L7, h3, nI_add]
      simp (disch := omega) only [nI_leI, if_pos]
    | succ k ih =>
      intro d m h1 h2
      obtain ⟨m, rfl⟩ : ∃ q, m = q + 1 := ⟨m - 1, by omega⟩
      rw [f_X3_badAmongNext_L7, h3, nI_add]
      simp (disch := omega) only [xl, xb, nI_leI, if_neg, c_isBad sd p (show e + d < 300 by omega), b01_0, ra]
      have i := ih (d + 1) m (by omega) (by omega)
      have e9 : bads sd p (e) (d + 1) = bads sd p (e) d + (if bdc sd p (e + d) = true then 1 else 0) := rfl
      rw [e9] at i
      by_cases z : bdc sd p (e + d) = true
      · rw [if_pos z] at i
        rw [if_neg (by rw [z]; decide)]
        exact i
      · rw [if_neg z] at i
        have z : bdc sd p (e + d) = false := by simpa using z
        rw [if_pos z]
        exact i
  have k1 := key n 0 fuel (by omega) (by unfold fuel; omega)
  have e0 : bads sd p (e) 0 = 0 := rfl
  rw [e0, nI_0, Nat.add_zero] at k1
  exact k1
/-- the entries of the reference in a range -/
def ent (r : RW) (p e n : Nat) : Nat := cnt (fun k => decide (r (249 + k) = nI p ∧ e ≤ nv r (269 + k) ∧ nv r (269 + k) < e + n)) (nv r 8)
theorem ent_bads (hI : InvF F r) (hB : R_bd sd r) {p : Nat} (hp : p < nv r 7) (e : Nat) : ∀ n, e + n ≤ 300 → ent r p e n = bads sd p e n := by
  have l8 := hI.l8
  intro n
  induction n with
  | zero =>
    intro _
    unfold ent bads
    rw [cnt_none (fun k hk => decide_eq_false (fun z => by omega))]
    rfl
  | succ n ih =>
    intro h
    have i := ih (by omega)
    have e1 : bads sd p e (n + 1) = bads sd p e n + (if bdc sd p (e + n) = true then 1 else 0) := rfl
    rw [e1, ← i]
    unfold ent
    rw [cnt_or (P := fun k => decide (r (249 + k) = nI p ∧ e ≤ nv r (269 + k) ∧ nv r (269 + k) < e + n)) (Q := fun k => decide (r (249 + k) = nI p ∧ nv r (269 + k) = e + n)) (fun k hk => by
      refine ⟨?_, fun ⟨z1, z2⟩ => ?_⟩
      · by_cases z : r (249 + k) = nI p
        · by_cases y : nv r (269 + k) = e + n
          · simp only [z, y, true_and, decide_true, Bool.or_true]
            exact decide_eq_true ⟨by omega, by omega⟩
          · have : (e ≤ nv r (269 + k) ∧ nv r (269 + k) < e + (n + 1)) ↔ (e ≤ nv r (269 + k) ∧ nv r (269 + k) < e + n) := by omega
            simp only [z, y, true_and, this, decide_false, Bool.or_false]
        · simp only [z, false_and, decide_false, Bool.or_false]
      · have z1 := of_decide_eq_true z1
        have z2 := of_decide_eq_true z2
        omega)]
    congr 1
    have hb := hB p (e + n) hp (by omega)
    by_cases z : bdc sd p (e + n) = true
    · rw [if_pos z]
      obtain ⟨k, h1, h2, h3⟩ := hb.mp z
      refine cnt_one h1 (decide_eq_true ⟨h2, nv_of h3 (by omega)⟩) (fun l hl hq => ?_)
      obtain ⟨q1, q2⟩ := of_decide_eq_true hq
      refine hI.bdd l k hl h1 (q1.trans h2.symm) ?_
      rw [(hI.bad l hl).2.1.e, q2, h3]
    · rw [if_neg z]
      refine cnt_none (fun k hk => decide_eq_false (fun ⟨q1, q2⟩ => z (hb.mpr ⟨k, hk, q1, ?_⟩)))
      rw [(hI.bad k hk).2.1.e, q2]
theorem bads_congr {sd' : SD} {p e n : Nat} (h : ∀ t, sd' 18 p t = sd 18 p t) : bads sd' p e n = bads sd p e n := by
  unfold bads
  refine cnt_congr (fun k hk => ?_)
  unfold bdc
  rw [h]
theorem m_badsIn (hr : ∀ i, i = 8 ∨ (249 ≤ i ∧ i < 289) → md k0 0 i = r i) (hI : InvF F r) {p e n : Nat} (he : e ≤ 300) (hn : n ≤ 300) : f_X8_badsIn md k0 (nI p) (nI e) (nI n) = some (nI (ent r p e n)) := by
  have l8 := hI.l8
  unfold f_X8_badsIn ent
  have key : ∀ (k d m : Nat), d + k = nv r 8 → k < m → f_X8_badsIn_L6 md k0 (nI p) (nI e) (nI n) m (nI (cnt (fun k => decide (r (249 + k) = nI p ∧ e ≤ nv r (269 + k) ∧ nv r (269 + k) < e + n)) d)) (nI d) = some (nI (cnt (fun k => decide (r (249 + k) = nI p ∧ e ≤ nv r (269 + k) ∧ nv r (269 + k) < e + n)) (nv r 8))) := by
    intro k
    induction k with
    | zero =>
      intro d m h1 h2
      obtain ⟨m, rfl⟩ : ∃ q, m = q + 1 := ⟨m - 1, by omega⟩
      have : d = nv r 8 := by omega
      subst this
      rw [f_X8_badsIn_L6, hr 8 (by omega), hI.c8]
      simp (disch := omega) only [nI_leI, if_pos]
    | succ k ih =>
      intro d m h1 h2
      obtain ⟨m, rfl⟩ : ∃ q, m = q + 1 := ⟨m - 1, by omega⟩
      have w := (hI.bad d (by omega)).2.1
      have w2 := w.l
      rw [f_X8_badsIn_L6, hr 8 (by omega), hI.c8]
      simp (disch := omega) only [xl, xg, xb, vinT, nI_clamp, la, ra, nI_leI, if_neg, hr, w.e, isInR]
      have i := ih (d + 1) m (by omega) (by omega)
      rw [cnt] at i
      by_cases z : r (249 + d) = nI p
      · by_cases y : e ≤ nv r (269 + d) ∧ nv r (269 + d) < e + n
        · simp only [z, y, and_self, decide_true, if_true, i10, if_false, ra] at i ⊢
          exact i
        · simp only [z, y, true_and, decide_false, if_true, if_false, Nat.add_zero] at i ⊢
          exact i
      · simp only [z, false_and, decide_false, if_false, Nat.add_zero] at i ⊢
        exact i
  have k1 := key (nv r 8) 0 fuel (by omega) (by unfold fuel; omega)
  have e0 : cnt (fun k => decide (r (249 + k) = nI p ∧ e ≤ nv r (269 + k) ∧ nv r (269 + k) < e + n)) 0 = 0 := rfl
  rw [e0, nI_0] at k1
  exact k1
end BAD
