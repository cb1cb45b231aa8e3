/-! Layer 2: fillBits -/
theorem ckw_at {a n w : Nat} (h : (List.range n).all (fun i => ckw (a + i)) = true) (h1 : a ≤ w) (h2 : w < a + n) : ckw w = true := by
  have := List.all_eq_true.mp h (w - a) (List.mem_range.mpr (by omega))
  rw [show a + (w - a) = w by omega] at this
  exact this
theorem ckw_all {w : Nat} (h1 : 10 ≤ w) (h2 : w ≤ 300) : ckw w = true := by
  by_cases z : w < 100
  · exact ckw_at ckw_1 h1 (by omega)
  by_cases z : w < 150
  · exact ckw_at ckw_2 (by omega) (by omega)
  by_cases z : w < 190
  · exact ckw_at ckw_3 (by omega) (by omega)
  by_cases z : w < 220
  · exact ckw_at ckw_4 (by omega) (by omega)
  by_cases z : w < 245
  · exact ckw_at ckw_5 (by omega) (by omega)
  by_cases z : w < 265
  · exact ckw_at ckw_6 (by omega) (by omega)
  by_cases z : w < 285
  · exact ckw_at ckw_7 (by omega) (by omega)
  · exact ckw_at ckw_8 (by omega) (by omega)
theorem ck_p {p w : Nat} (h1 : 10 ≤ w) (h2 : w ≤ 300) (hp : p ≤ w) (h0 : 0 < p) : ∃ v, 1 ≤ v ∧ v ≤ 40 ∧ 8388608 ≤ p * 2 ^ v / w ∧ p * 2 ^ v / w < 16777216 ∧ p * 2 ^ (v - 1) / w < 8388608 ∧ enN p w = (150 - v) * 8388608 + (p * 2 ^ v / w + (if 2 * (p * 2 ^ v % w) < w then 0 else 1) - 8388608) := by
  have h := List.all_eq_true.mp (ckw_all h1 h2) p (List.mem_range.mpr (by omega))
  unfold ckf at h
  rw [Bool.or_eq_true] at h
  rcases h with h | h
  · have := Nat.eq_of_beq_eq_true h
    omega
  · unfold ckv at h
    simp only [Bool.and_eq_true] at h
    obtain ⟨⟨⟨⟨⟨a1, a2⟩, a3⟩, a4⟩, a5⟩, a6⟩ := h
    refine ⟨shv p w, Nat.le_of_ble_eq_true a5, Nat.le_of_ble_eq_true a4, Nat.le_of_ble_eq_true a1, Nat.le_of_ble_eq_true a2, Nat.le_of_ble_eq_true a3, ?_⟩
    rw [Nat.eq_of_beq_eq_true a6]
    congr 3
    by_cases z : 2 * (p * 2 ^ shv p w % w) < w
    · rw [if_pos z, if_pos (show Nat.blt (2 * (p * 2 ^ shv p w % w)) w = true from Nat.ble_eq_true_of_le z)]
    · rw [if_neg z, if_neg (show ¬ Nat.blt (2 * (p * 2 ^ shv p w % w)) w = true from fun y => z (Nat.le_of_ble_eq_true y))]
theorem lgc (x y : Int64) : (lg_cmp x y < 0 ↔ x < y) ∧ (0 ≤ lg_cmp x y ↔ y ≤ x) := by
  have key : lg_cmp x y < 0 ↔ x < y := by
    unfold lg_cmp
    rcases Int.lt_trichotomy x.toInt y.toInt with h | h | h
    · have h1 : x < y := Int64.lt_iff_toInt_lt.mpr h
      have h2 : ¬ (x > y) := fun z => by have := Int64.lt_iff_toInt_lt.mp z; omega
      have h3 : ¬ (x = y) := fun z => by rw [z] at h; omega
      rw [if_neg h2, if_neg h3]
      exact ⟨fun _ => h1, fun _ => by decide⟩
    · have h3 : x = y := Int64.toInt_inj.mp h
      subst h3
      have h2 : ¬ (x > x) := fun z => by have := Int64.lt_iff_toInt_lt.mp z; omega
      rw [if_neg h2, if_pos rfl]
      exact ⟨fun z => absurd z (by decide), fun z => absurd z h2⟩
    · have h1 : x > y := Int64.lt_iff_toInt_lt.mpr h
      have h2 : ¬ (x < y) := fun z => by have := Int64.lt_iff_toInt_lt.mp z; omega
      rw [if_pos h1]
      exact ⟨fun z => absurd z (by decide), fun z => absurd z h2⟩
  refine ⟨key, ?_⟩
  rw [← Int32.not_lt, key, Int64.not_lt]
theorem sh63 : ∀ k, k < 41 → ((nI k).toInt64 &&& 63).toBitVec.smod 64 = BitVec.ofNat 64 k := by decide +kernel
theorem lsh (n : Nat) {k : Nat} (hk : k < 41) : lN n <<< ((nI k).toInt64 &&& 63) = lN (n * 2 ^ k) := by
  apply Int64.toBitVec_inj.mp
  rw [Int64.toBitVec_shiftLeft, sh63 k hk]
  show (BitVec.ofNat 64 n) <<< (BitVec.ofNat 64 k) = BitVec.ofNat 64 (n * 2 ^ k)
  apply BitVec.eq_of_toNat_eq
  rw [BitVec.shiftLeft_eq', BitVec.toNat_shiftLeft, BitVec.toNat_ofNat, BitVec.toNat_ofNat, BitVec.toNat_ofNat, Nat.mod_eq_of_lt (show k < 2 ^ 64 by omega), Nat.shiftLeft_eq, Nat.mod_mul_mod]
theorem c_bos {p w v : Nat} (h1 : 10 ≤ w) (h2 : w ≤ 300) (hp : p ≤ w) (v1 : 1 ≤ v) (v2 : v ≤ 40) (v3 : 8388608 ≤ p * 2 ^ v / w) (v4 : p * 2 ^ v / w < 16777216) (v5 : p * 2 ^ (v - 1) / w < 8388608) : ∀ (k u f : Nat), u + k = v → k < f → f_X7_bitsOfShare_L17 (nI p) (nI w) f (nI u) = some (nI ((150 - v) * 8388608 + (p * 2 ^ v / w + (if 2 * (p * 2 ^ v % w) < w then 0 else 1) - 8388608))) := by
  have ew : (nI w).toInt64 = lN w := nI_l (by omega)
  have ep : (nI p).toInt64 = lN p := nI_l (by omega)
  have ne : ¬ (lN w = 0) := by
    show ¬ lN w = lN 0
    rw [pk_lEQ (by omega) (by omega)]
    omega
  have big : ∀ u, u ≤ 40 → p * 2 ^ u < 2 ^ 49 := fun u hu => by
    have : 2 ^ u ≤ 2 ^ 40 := Nat.pow_le_pow_right (by omega) hu
    have := Nat.mul_le_mul (show p ≤ 300 by omega) this
    omega
  have dv : ∀ u, u ≤ 40 → p * 2 ^ u / w < 2 ^ 49 := fun u hu => Nat.lt_of_le_of_lt (Nat.div_le_self _ _) (big u hu)
  intro k
  induction k with
  | zero =>
    intro u f hu hf
    obtain ⟨f, rfl⟩ : ∃ q, f = q + 1 := ⟨f - 1, by omega⟩
    have : u = v := by omega
    subst this
    have b1 := big u v2
    have hK : (x_let (((nI p).toInt64 <<< ((nI u).toInt64 &&& 63))) fun (x2 : Int64) => x_guard (¬ (nI w).toInt64 = 0) <| x_let ((x2 / (nI w).toInt64)) fun (x4 : Int64) => x_guard (¬ (nI w).toInt64 = 0) <| (x_let (fun (y7 : Int64) => (x_let (((150 : Int32) - nI u)) fun (x8 : Int32) => some (((x8 <<< ((23 : Int32) &&& 31)) + ((y7 - (8388608 : Int64))).toInt32)) : Option Int32)) fun K6 => (if (lg_cmp ((2 : Int64) * (x2 - x2 / (nI w).toInt64 * (nI w).toInt64)) (nI w).toInt64) < 0 then K6 (x4) else x_let ((x4 + (1 : Int64))) fun (x9 : Int64) => K6 (x9)))) = some (nI ((150 - u) * 8388608 + (p * 2 ^ u / w + (if 2 * (p * 2 ^ u % w) < w then 0 else 1) - 8388608))) := by
      have hm : p * 2 ^ u % w < w := Nat.mod_lt _ (by omega)
      rw [xl, ew, ep, lsh p (by omega), x_guard_pos ne, xl, pk_lDiv (by omega) (by omega) (by omega), x_guard_pos ne, xl]
      have e1 : (150 : Int32) - nI u = nI (150 - u) := pk_sub (a := 150) (by omega)
      have e2 : nI (150 - u) <<< ((23 : Int32) &&& 31) = nI ((150 - u) * 8388608) := pk_shlN _ 23 (by decide) (by omega)
      have e3 : (2 : Int64) * (lN (p * 2 ^ u) - lN (p * 2 ^ u / w) * lN w) = lN (2 * (p * 2 ^ u % w)) := by
        have := pk_lRem (a := p * 2 ^ u) (b := w) (by omega) (by omega) (by omega)
        rw [pk_lDiv (by omega) (by omega) (by omega)] at this
        rw [this]
        exact lN_mul 2 _
      have e4 : ∀ q, 8388608 ≤ q → (lN q - (8388608 : Int64)).toInt32 = nI (q - 8388608) := fun q hq => by
        rw [show lN q - (8388608 : Int64) = lN (q - 8388608) from lN_sub hq, lN_i]
      rw [e3]
      by_cases z : 2 * (p * 2 ^ u % w) < w
      · rw [if_pos ((lgc _ _).1.mpr ((pk_lLT (by omega) (by omega)).mpr z))]
        simp only [xl]
        rw [e1, e2, e4 _ v3, nI_add, if_pos z, Nat.add_zero]
      · rw [if_neg (fun y => z ((pk_lLT (by omega) (by omega)).mp ((lgc _ _).1.mp y)))]
        simp only [xl]
        rw [e1, e2, lN_1, e4 _ (by omega), nI_add, if_neg z]
    rw [f_X7_bitsOfShare_L17, xl]
    by_cases y : (40 : Int32) ≤ nI u
    · rw [if_pos y]
      exact hK
    · have : 0 ≤ lg_cmp ((nI p).toInt64 <<< ((nI u).toInt64 &&& 63) / (nI w).toInt64) 8388608 := by
        rw [(lgc _ _).2, ew, ep, lsh p (by omega), pk_lDiv (by omega) (by omega) (by omega)]
        show lN 8388608 ≤ _
        rw [pk_lLE (by omega) (by omega)]
        exact v3
      rw [if_neg y, x_guard_pos (by rw [ew]; exact ne), if_pos this]
      exact hK
  | succ k ih =>
    intro u f hu hf
    obtain ⟨f, rfl⟩ : ∃ q, f = q + 1 := ⟨f - 1, by omega⟩
    have b1 := big u (by omega)
    have b2 := dv u (by omega)
    have hlt : p * 2 ^ u / w < 8388608 := Nat.lt_of_le_of_lt (Nat.div_le_div_right (Nat.mul_le_mul_left p (Nat.pow_le_pow_right (by omega) (show u ≤ v - 1 by omega)))) v5
    have n1 : ¬ (40 : Int32) ≤ nI u := by
      show ¬ nI 40 ≤ nI u
      rw [nI_leI (by omega) (by omega)]
      omega
    have n2 : ¬ 0 ≤ lg_cmp ((nI p).toInt64 <<< ((nI u).toInt64 &&& 63) / (nI w).toInt64) 8388608 := by
      rw [(lgc _ _).2, ew, ep, lsh p (by omega), pk_lDiv (by omega) (by omega) (by omega)]
      show ¬ lN 8388608 ≤ _
      rw [pk_lLE (by omega) (by omega)]
      omega
    rw [f_X7_bitsOfShare_L17, xl, if_neg n1, x_guard_pos (by rw [ew]; exact ne), if_neg n2, xl, ra (k := 1)]
    exact ih (u + 1) f (by omega) (by omega)
theorem enN_c {p w : Nat} (h1 : 10 ≤ w) (h2 : w ≤ 300) (hp : p ≤ w) : f_X7_bitsOfShare (nI p) (nI w) = some (nI (enN p w)) ∧ enN p w < 2139095040 := by
  unfold f_X7_bitsOfShare
  have w0 : (0 : Int32) < nI w := (nI_ltI (a := 0) (by omega) (by omega)).mpr (by omega)
  by_cases z : p = 0
  · subst z
    have h := List.all_eq_true.mp ckw_0 (w - 10) (List.mem_range.mpr (by omega))
    rw [show 10 + (w - 10) = w by omega] at h
    have h := Nat.eq_of_beq_eq_true h
    rw [if_pos (show nI 0 ≤ 0 from nI_le (a := 0) (b := 0) (Nat.le_refl _) (by omega)), h]
    exact ⟨rfl, by omega⟩
  · obtain ⟨v, v1, v2, v3, v4, v5, v6⟩ := ck_p h1 h2 hp (by omega)
    have p0 : ¬ nI p ≤ 0 := by
      show ¬ nI p ≤ nI 0
      rw [nI_leI (by omega) (by omega)]
      omega
    rw [if_neg p0, if_pos w0, v6]
    refine ⟨?_, by split <;> omega⟩
    have := c_bos h1 h2 hp v1 v2 v3 v4 v5 v 0 fuel (by omega) (by unfold fuel; omega)
    rw [nI_0] at this
    exact this
theorem ord_eq (d : FP.Core.Datum) (h : d ≠ .nan) : FP.Core.order d d = some .eq := by
  cases d with
  | nan => exact absurd rfl h
  | inf s => simp [FP.Core.order]
  | fin s c q => simp [FP.Core.order]
theorem fN {p w : Nat} (h1 : 10 ≤ w) (h2 : w ≤ 300) (hp : p ≤ w) : FP.fdiv (FP.i2f (nI p)) (FP.i2f (nI w)) = UInt32.ofNat (enN p w) := by
  have ti : ∀ n, n ≤ 300 → (FP.i2f (nI n)).toNat = FP.Core.fromInt FP.Core.b32 n := fun n hn => by
    have h := List.all_eq_true.mp ckw_9 n (List.mem_range.mpr (by omega))
    have h : FP.Core.fromInt FP.Core.b32 n < 4294967296 := Nat.le_of_ble_eq_true h
    show (UInt32.ofNat (FP.Core.fromInt FP.Core.b32 (nI n).toInt)).toNat = _
    rw [nI_toInt (by omega)]
    exact UInt32.toNat_ofNat_of_lt h
  show UInt32.ofNat (FP.Core.div FP.Core.b32 (FP.i2f (nI p)).toNat (FP.i2f (nI w)).toNat) = _
  rw [ti p (by omega), ti w (by omega)]
  rfl
theorem fok {n : Nat} (h : n < 2139095040) : vf_n32 (UInt32.ofNat n) ∧ FP.fcmp (UInt32.ofNat n) (UInt32.ofNat n) = some .eq ∧ fbits (UInt32.ofNat n) = nI n := by
  have tn : (UInt32.ofNat n).toNat = n := UInt32.toNat_ofNat_of_lt (by show n < 4294967296; omega)
  refine ⟨?_, ?_, rfl⟩
  · unfold vf_n32
    rw [UInt32.le_iff_toNat_le, UInt32.toNat_and, tn]
    have : n &&& (2147483647 : UInt32).toNat ≤ n := Nat.and_le_left
    show _ ≤ 2139095040
    omega
  · show FP.Core.order (FP.Core.decode FP.Core.b32 (UInt32.ofNat n).toNat) (FP.Core.decode FP.Core.b32 (UInt32.ofNat n).toNat) = _
    rw [tn]
    apply ord_eq
    unfold FP.Core.decode
    have hf : FP.Core.fieldE FP.Core.b32 n ≠ FP.Core.b32.exps - 1 := by
      show n / 8388608 % 256 ≠ 255
      omega
    rw [if_neg hf]
    split <;> simp
section FLB
variable {b : Nat} {sd md : SD} {r : RW}
theorem q_fillBits (hr : md 30 0 = r) (hI : Inv r) (hR : Rel b sd r) (a : Int32) : Ans md (f_X7_fillBits sd a) (f_X8_fillBits md a) := by
  obtain ⟨m1, e1, r1, s1⟩ := thr md
  have hr1 : m1 30 0 = r := r1.trans hr
  have l7 := hI.l7
  unfold f_X7_fillBits f_X8_fillBits
  rw [c_hasPlatter hI hR, xb, xl, e1, m_isPlatter hr1 hI, xb]
  rcases hasV_cases a (n := nv r 7) (by omega) with h | ⟨h, p, hp, rfl⟩
  · rw [h, if_pos rfl, if_pos rfl]
    exact ⟨_, m1, rfl, rfl, s1⟩
  · obtain ⟨-, ⟨t1, t2⟩, -, ⟨t3, t4⟩, -⟩ := hI.plt p hp
    have t5 := t1.l
    obtain ⟨-, g1, -, g3, -⟩ := hR.pl p hp
    obtain ⟨k1, k2⟩ := enN_c (p := nv r (59 + p)) (w := nv r (39 + p)) t2 t5 t4
    obtain ⟨o1, o2, o3⟩ := fok k2
    have fn := fN (p := nv r (59 + p)) (w := nv r (39 + p)) t2 t5 t4
    rw [h, if_neg i1, if_neg i1]
    simp (disch := omega) only [xl, xg, vinT, nI_clamp, la]
    rw [g1, g3, hr1, t1.e, t3.e, k1, xb, fn, x_guard_pos o1, x_guard_pos o2, o3]
    exact ⟨_, m1, rfl, rfl, s1⟩
end FLB
