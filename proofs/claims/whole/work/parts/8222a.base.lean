/-! Layer 2: the class's pure functions against the reference's. Base: numbers, forms, searches, loops -/
theorem xl {α β : Type} (a : α) (f : α → β) : x_let a f = f a := rfl
theorem xg {β : Type} (a : Option β) : x_guard True a = a := x_guard_pos trivial a
theorem xb {α β : Type} (x : α) (f : α → Option β) : x_bind (some x) f = f x := rfl
theorem vin {n N : Nat} (h : n < 2 ^ 31) : vp_in (nI n) N ↔ n < N := by
  have h0 := nI_pos h
  unfold vp_in
  rw [nI_clamp h]
  exact ⟨fun z => Nat.not_le.mp (fun y => z (Or.inr y)), fun z y => y.elim h0 (fun y => absurd y (Nat.not_le.mpr z))⟩
theorem vinT {n N : Nat} (h : n < N) (hN : N < 2 ^ 31) : vp_in (nI n) N = True := eq_true (vp_in_nI h hN)
theorem m1neg : (-1 : Int32) < 0 := by decide
theorem nm1 {n : Nat} (h : n < 2 ^ 31) : nI n = -1 ↔ False := ⟨fun z => nI_pos h (by rw [z]; exact m1neg), False.elim⟩
theorem m1n {n : Nat} (h : n < 2 ^ 31) : -1 = nI n ↔ False := ⟨fun z => nI_pos h (by rw [← z]; exact m1neg), False.elim⟩
theorem nneg {n : Nat} (h : n < 2 ^ 31) : nI n < 0 ↔ False := ⟨nI_pos h, False.elim⟩
theorem npos {n : Nat} (h : n < 2 ^ 31) : 0 ≤ nI n ↔ True := ⟨fun _ => trivial, fun _ => nI_pos' h⟩
theorem la (k n : Nat) : (no_index (OfNat.ofNat k) : Int32) + nI n = nI (OfNat.ofNat k + n) := nI_add k n
theorem ra (k n : Nat) : nI n + (no_index (OfNat.ofNat k) : Int32) = nI (n + OfNat.ofNat k) := nI_add n k
theorem lm (k n : Nat) : (no_index (OfNat.ofNat k) : Int32) * nI n = nI (OfNat.ofNat k * n) := pk_mul k n
theorem rmu (k n : Nat) : nI n * (no_index (OfNat.ofNat k) : Int32) = nI (n * OfNat.ofNat k) := pk_mul n k
theorem rsu {k n : Nat} (h : OfNat.ofNat k ≤ n) : nI n - (no_index (OfNat.ofNat k) : Int32) = nI (n - OfNat.ofNat k) := pk_sub h
theorem lsu {k n : Nat} (h : n ≤ OfNat.ofNat k) : (no_index (OfNat.ofNat k) : Int32) - nI n = nI (OfNat.ofNat k - n) := pk_sub h
theorem rdi {k n : Nat} (hn : n < 2 ^ 31) (h0 : 0 < (OfNat.ofNat k : Nat)) (hk : (OfNat.ofNat k : Nat) < 2 ^ 31) : nI n / (no_index (OfNat.ofNat k) : Int32) = nI (n / OfNat.ofNat k) := pk_div hn h0 hk
theorem lle {k n : Nat} (hk : (OfNat.ofNat k : Nat) < 2 ^ 31) (hn : n < 2 ^ 31) : (no_index (OfNat.ofNat k) : Int32) ≤ nI n ↔ OfNat.ofNat k ≤ n := nI_leI hk hn
theorem rle {k n : Nat} (hk : (OfNat.ofNat k : Nat) < 2 ^ 31) (hn : n < 2 ^ 31) : nI n ≤ (no_index (OfNat.ofNat k) : Int32) ↔ n ≤ OfNat.ofNat k := nI_leI hn hk
theorem llt {k n : Nat} (hk : (OfNat.ofNat k : Nat) < 2 ^ 31) (hn : n < 2 ^ 31) : (no_index (OfNat.ofNat k) : Int32) < nI n ↔ OfNat.ofNat k < n := nI_ltI hk hn
theorem rlt {k n : Nat} (hk : (OfNat.ofNat k : Nat) < 2 ^ 31) (hn : n < 2 ^ 31) : nI n < (no_index (OfNat.ofNat k) : Int32) ↔ n < OfNat.ofNat k := nI_ltI hn hk
theorem leq {k n : Nat} (hk : (OfNat.ofNat k : Nat) < 2 ^ 31) (hn : n < 2 ^ 31) : (no_index (OfNat.ofNat k) : Int32) = nI n ↔ OfNat.ofNat k = n := nI_eq hk hn
theorem req {k n : Nat} (hk : (OfNat.ofNat k : Nat) < 2 ^ 31) (hn : n < 2 ^ 31) : nI n = (no_index (OfNat.ofNat k) : Int32) ↔ n = OfNat.ofNat k := nI_eq hn hk
theorem li (k : Nat) : (OfNat.ofNat k : Int32) = nI (OfNat.ofNat k) := rfl
theorem i01 : ((0 : Int32) = 1) = False := by decide
theorem i10 : ((1 : Int32) = 0) = False := by decide
theorem i32_lt_le {x y : Int32} : ¬ x < y ↔ y ≤ x := Int32.not_lt
theorem i32_le_lt {x y : Int32} : ¬ x ≤ y ↔ y < x := Int32.not_le
/-! ranges -/
noncomputable def hasV (x : Int32) (n : Nat) : Int32 := if x < 0 then 0 else if nI n ≤ x then 0 else 1
theorem hasV_in {j n : Nat} (h : j < n) (hn : n < 2 ^ 31) : hasV (nI j) n = 1 := by
  unfold hasV
  rw [if_neg (nI_pos (by omega)), if_neg (nI_ge h hn)]
theorem hasV_cases (x : Int32) {n : Nat} (hn : n < 2 ^ 31) : hasV x n = 0 ∨ (hasV x n = 1 ∧ ∃ j, j < n ∧ x = nI j) := by
  rcases pk_ix x hn with h | h | ⟨j, hj, rfl⟩
  · left; unfold hasV; rw [if_pos h]
  · left; unfold hasV
    by_cases h0 : x < 0
    · rw [if_pos h0]
    · rw [if_neg h0, if_pos h]
  · exact Or.inr ⟨hasV_in hj hn, j, hj, rfl⟩
theorem hasV_01 (x : Int32) (n : Nat) : (hasV x n = 0 ∨ hasV x n = 1) = True := by
  unfold hasV
  split
  · simp
  · split <;> simp
theorem isIn64 (u v w : Int64) : f_X8_isIn u v w = some (if u < v then 0 else if w < u then 0 else 1) := by
  have key : ∀ x y : Int64, (lg_cmp x y < 0 ↔ x < y) ∧ (0 < lg_cmp x y ↔ y < x) := by
    intro x y
    unfold lg_cmp
    rcases Int.lt_trichotomy x.toInt y.toInt with h | h | h
    · have h1 : x < y := Int64.lt_iff_toInt_lt.mpr h
      have h2 : ¬ (x > y) := fun z => by have := Int64.lt_iff_toInt_lt.mp z; omega
      have h3 : ¬ (x = y) := fun z => by rw [z] at h; omega
      rw [if_neg h2, if_neg h3]
      exact ⟨⟨fun _ => h1, fun _ => by decide⟩, ⟨fun z => absurd z (by decide), fun z => absurd z h2⟩⟩
    · have h3 : x = y := Int64.toInt_inj.mp h
      subst h3
      have h2 : ¬ (x > x) := fun z => by have := Int64.lt_iff_toInt_lt.mp z; omega
      rw [if_neg h2, if_pos rfl]
      exact ⟨⟨fun z => absurd z (by decide), fun z => absurd z h2⟩, ⟨fun z => absurd z (by decide), fun z => absurd z h2⟩⟩
    · have h1 : x > y := Int64.lt_iff_toInt_lt.mpr h
      have h2 : ¬ (x < y) := fun z => by have := Int64.lt_iff_toInt_lt.mp z; omega
      rw [if_pos h1]
      exact ⟨⟨fun z => absurd z (by decide), fun z => absurd z h2⟩, ⟨fun _ => h1, fun _ => by decide⟩⟩
  unfold f_X8_isIn
  simp only [(key u v).1, (key u w).2]
  split
  · rfl
  · split <;> rfl
theorem isIn32 (x a b : Int32) : f_X8_isIn x.toInt64 a.toInt64 b.toInt64 = some (if x < a then 0 else if b < x then 0 else 1) := by
  rw [isIn64]
  simp only [Int32.toInt64_lt]
theorem nI_m1 {n : Nat} (hn : n < 2 ^ 31) (x : Int32) : nI n - 1 < x ↔ nI n ≤ x := by
  rw [Int32.lt_iff_toInt_lt, Int32.le_iff_toInt_le, nI_toInt hn]
  have h1 : (nI n - 1).toInt = (n : Int) - 1 := by
    have := pk_sub_toInt (a := n) (b := 1)
    rcases n with _ | n
    · decide
    · rw [nI_pred, nI_toInt (by omega)]
      omega
  rw [h1]
  omega
theorem isIn0 (x : Int32) {n : Nat} (hn : n < 2 ^ 31) : f_X8_isIn x.toInt64 (0 : Int64) (nI n - 1).toInt64 = some (hasV x n) := by
  have h : (0 : Int64) = (0 : Int32).toInt64 := by decide
  rw [h, isIn32]
  simp only [nI_m1 hn]
  rfl
theorem isInR {s a b : Nat} (hs : s < 2 ^ 30) (ha : a < 2 ^ 30) (hb : b < 2 ^ 30) : f_X8_isIn (nI s).toInt64 (nI a).toInt64 (nI a + nI b - 1).toInt64 = some (if a ≤ s ∧ s < a + b then 1 else 0) := by
  rw [isIn32, nI_add]
  simp only [nI_m1 (show a + b < 2 ^ 31 by omega), nI_ltI (show s < 2 ^ 31 by omega) (show a < 2 ^ 31 by omega), nI_leI (show a + b < 2 ^ 31 by omega) (show s < 2 ^ 31 by omega)]
  by_cases h : s < a
  · rw [if_pos h, if_neg (by omega)]
  · rw [if_neg h]
    by_cases g : a + b ≤ s
    · rw [if_pos g, if_neg (by omega)]
    · rw [if_neg g, if_pos (by omega)]
theorem isInT (x : Int32) : f_X8_isIn x.toInt64 (0 : Int64) (99 : Int64) = some (hasV x 100) := by
  have h : (0 : Int64) = (0 : Int32).toInt64 := by decide
  have g : (99 : Int64) = (nI 100 - 1 : Int32).toInt64 := by decide
  rw [g]
  exact isIn0 x (by decide)
/-- a size from 1 to 300 -/
noncomputable def szV (x : Int32) : Int32 := if x < 1 then 0 else if 300 < x then 0 else 1
theorem isInS (x : Int32) : f_X8_isIn x.toInt64 (1 : Int64) (300 : Int64) = some (szV x) := by
  have h : (1 : Int64) = (1 : Int32).toInt64 := by decide
  have g : (300 : Int64) = (300 : Int32).toInt64 := by decide
  rw [h, g, isIn32]
  rfl
theorem szV_in {n : Nat} (h0 : 0 < n) (h : n ≤ 300) : szV (nI n) = 1 := by
  unfold szV
  rw [if_neg (by rw [rlt (by decide) (by omega)]; exact Nat.not_lt.mpr h0), if_neg (by rw [llt (by decide) (by omega)]; exact Nat.not_lt.mpr h)]
theorem szV_cases (x : Int32) : szV x = 0 ∨ (szV x = 1 ∧ ∃ n, 0 < n ∧ n ≤ 300 ∧ x = nI n) := by
  by_cases h : x < 1
  · left; unfold szV; rw [if_pos h]
  · by_cases g : (300 : Int32) < x
    · left; unfold szV; rw [if_neg h, if_pos g]
    · right
      have h1 := i32_lt_le.mp h
      have g1 := i32_lt_le.mp g
      rw [Int32.le_iff_toInt_le] at h1 g1
      have e1 : (1 : Int32).toInt = 1 := by decide
      have e3 : (300 : Int32).toInt = 300 := by decide
      rw [e1] at h1
      rw [e3] at g1
      have h0 : ¬ x < 0 := by
        rw [Int32.lt_iff_toInt_lt]
        have : (0 : Int32).toInt = 0 := by decide
        omega
      obtain ⟨j, hj, rfl⟩ := nI_of h0
      rw [nI_toInt hj] at h1 g1
      exact ⟨szV_in (by omega) (by omega), j, by omega, by omega, rfl⟩
/-! searches -/
/-- the first of n numbers from d on with the property, or -1 -/
def fst (P : Nat → Bool) : Nat → Nat → Int32
  | 0, _ => -1
  | n + 1, d => if P d = true then nI d else fst P n (d + 1)
theorem fst_congr {P Q : Nat → Bool} : ∀ {n d : Nat}, (∀ e, d ≤ e → e < d + n → P e = Q e) → fst P n d = fst Q n d
  | 0, _, _ => rfl
  | n + 1, d, h => by
    unfold fst
    rw [h d (Nat.le_refl _) (by omega), fst_congr (n := n) (d := d + 1) (fun e h1 h2 => h e (by omega) (by omega))]
theorem fst_congr0 {P Q : Nat → Bool} {n : Nat} (h : ∀ e, e < n → P e = Q e) : fst P n 0 = fst Q n 0 := fst_congr (fun e _ h2 => h e (by omega))
theorem fst_cases {P : Nat → Bool} : ∀ {n d : Nat}, (fst P n d = -1 ∧ ∀ e, d ≤ e → e < d + n → P e = false) ∨ ∃ e, d ≤ e ∧ e < d + n ∧ fst P n d = nI e ∧ P e = true ∧ ∀ f, d ≤ f → f < e → P f = false
  | 0, d => Or.inl ⟨rfl, fun e h1 h2 => by omega⟩
  | n + 1, d => by
    unfold fst
    by_cases hp : P d = true
    · rw [if_pos hp]
      exact Or.inr ⟨d, Nat.le_refl _, by omega, rfl, hp, fun f h1 h2 => by omega⟩
    · rw [if_neg hp]
      have hp : P d = false := by simpa using hp
      rcases fst_cases (P := P) (n := n) (d := d + 1) with ⟨h1, h2⟩ | ⟨e, h1, h2, h3, h4, h5⟩
      · refine Or.inl ⟨h1, fun e h3 h4 => ?_⟩
        by_cases he : e = d
        · rw [he]; exact hp
        · exact h2 e (by omega) (by omega)
      · refine Or.inr ⟨e, by omega, by omega, h3, h4, fun f h6 h7 => ?_⟩
        by_cases hf : f = d
        · rw [hf]; exact hp
        · exact h5 f (by omega) h7
theorem fst_cases0 {P : Nat → Bool} {n : Nat} : (fst P n 0 = -1 ∧ ∀ e, e < n → P e = false) ∨ ∃ e, e < n ∧ fst P n 0 = nI e ∧ P e = true ∧ ∀ f, f < e → P f = false := by
  rcases fst_cases (P := P) (n := n) (d := 0) with ⟨h1, h2⟩ | ⟨e, h1, h2, h3, h4, h5⟩
  · exact Or.inl ⟨h1, fun e h => h2 e (Nat.zero_le _) (by omega)⟩
  · exact Or.inr ⟨e, by omega, h3, h4, fun f h => h5 f (Nat.zero_le _) h⟩
/-- a search loop is a search -/
theorem srch {L : Nat → Int32 → Option Int32} {P : Nat → Bool} {N : Nat} (hN : N < 2 ^ 30) (he : ∀ n, L (n + 1) (nI N) = some (-1)) (hs : ∀ n d, d < N → L (n + 1) (nI d) = if P d = true then some (nI d) else L n (nI (d + 1))) : ∀ (k d n : Nat), d + k = N → k < n → L n (nI d) = some (fst P k d) := by
  intro k
  induction k with
  | zero =>
    intro d n h1 h2
    obtain ⟨n, rfl⟩ : ∃ m, n = m + 1 := ⟨n - 1, by omega⟩
    have : d = N := by omega
    rw [this, he]
    rfl
  | succ k ih =>
    intro d n h1 h2
    obtain ⟨n, rfl⟩ : ∃ m, n = m + 1 := ⟨n - 1, by omega⟩
    rw [hs n d (by omega), fst]
    split
    · rfl
    · exact ih (d + 1) n (by omega) (by omega)
theorem srch0 {L : Nat → Int32 → Option Int32} {P : Nat → Bool} {N : Nat} (hN : N < 10000) (he : ∀ n, L (n + 1) (nI N) = some (-1)) (hs : ∀ n d, d < N → L (n + 1) (nI d) = if P d = true then some (nI d) else L n (nI (d + 1))) : L fuel 0 = some (fst P N 0) := by
  have h := srch (by omega) he hs N 0 fuel (by omega) (by unfold fuel; omega)
  rw [nI_0] at h
  exact h
/-- a counting loop -/
def itr {σ : Type} (f : Nat → σ → σ) : Nat → Nat → σ → σ
  | 0, _, s => s
  | n + 1, d, s => itr f n (d + 1) (f d s)
theorem itr_congr {σ : Type} {f g : Nat → σ → σ} : ∀ {n d : Nat} {s : σ}, (∀ e s, d ≤ e → e < d + n → f e s = g e s) → itr f n d s = itr g n d s
  | 0, _, _, _ => rfl
  | n + 1, d, s, h => by
    unfold itr
    rw [h d s (Nat.le_refl _) (by omega)]
    exact itr_congr (fun e s h1 h2 => h e s (by omega) (by omega))
theorem loopN {σ ρ : Type} {L : Nat → Int32 → σ → Option ρ} {N : Nat} {f : Nat → σ → σ} {I : Nat → σ → Prop} {fin : σ → Option ρ} (he : ∀ n s, I N s → L (n + 1) (nI N) s = fin s) (hs : ∀ n d s, d < N → I d s → L (n + 1) (nI d) s = L n (nI (d + 1)) (f d s) ∧ I (d + 1) (f d s)) : ∀ (k d n : Nat) (s : σ), I d s → d + k = N → k < n → L n (nI d) s = fin (itr f k d s) ∧ I N (itr f k d s) := by
  intro k
  induction k with
  | zero =>
    intro d n s hI h1 h2
    obtain ⟨n, rfl⟩ : ∃ m, n = m + 1 := ⟨n - 1, by omega⟩
    have : d = N := by omega
    subst this
    exact ⟨he n s hI, hI⟩
  | succ k ih =>
    intro d n s hI h1 h2
    obtain ⟨n, rfl⟩ : ∃ m, n = m + 1 := ⟨n - 1, by omega⟩
    obtain ⟨h3, h4⟩ := hs n d s (by omega) hI
    rw [h3, itr]
    exact ih (d + 1) n _ h4 (by omega) (by omega)
theorem loop0 {σ ρ : Type} {L : Nat → Int32 → σ → Option ρ} {N : Nat} (f : Nat → σ → σ) (I : Nat → σ → Prop) (fin : σ → Option ρ) (hN : N < 10000) (he : ∀ n s, I N s → L (n + 1) (nI N) s = fin s) (hs : ∀ n d s, d < N → I d s → L (n + 1) (nI d) s = L n (nI (d + 1)) (f d s) ∧ I (d + 1) (f d s)) (s : σ) (h0 : I 0 s) : L fuel 0 s = fin (itr f N 0 s) ∧ I N (itr f N 0 s) := by
  have h := loopN he hs N 0 fuel s h0 (by omega) (by unfold fuel; omega)
  rw [nI_0] at h
  exact h
/-! cells -/
theorem upS_hit (s : SD) (k j t : Nat) (v : Int32) : upS s k j t v k j t = v := by simp [upS]
theorem upS_k {s : SD} {k j t : Nat} {v : Int32} {k' j' t' : Nat} (h : k' ≠ k) : upS s k j t v k' j' t' = s k' j' t' := by simp [upS, h]
theorem upS_j {s : SD} {k j t : Nat} {v : Int32} {k' j' t' : Nat} (h : j' ≠ j) : upS s k j t v k' j' t' = s k' j' t' := by simp [upS, h]
theorem upS_t {s : SD} {k j t : Nat} {v : Int32} {k' j' t' : Nat} (h : t' ≠ t) : upS s k j t v k' j' t' = s k' j' t' := by simp [upS, h]
abbrev RW : Type := Nat → Int32
def rup (r : RW) (i : Nat) (v : Int32) : RW := fun q => if q = i then v else r q
theorem rup_hit (r : RW) (i : Nat) (v : Int32) : rup r i v i = v := by simp [rup]
theorem rup_ne {r : RW} {i q : Nat} {v : Int32} (h : q ≠ i) : rup r i v q = r q := by simp [rup, h]
theorem row_up (m : SD) (k i : Nat) (v : Int32) : upS m k 0 i v k 0 = rup (m k 0) i v := by
  funext q
  simp [upS, rup]
theorem row_ne (m : SD) {k k' : Nat} (j i : Nat) (v : Int32) (h : k' ≠ k) : upS m k j i v k' = m k' := by
  funext a b
  simp [upS, h]
def nv (r : RW) (i : Nat) : Nat := (r i).toNatClampNeg
theorem nv_of {r : RW} {i n : Nat} (h : r i = nI n) (hn : n < 2 ^ 31) : nv r i = n := by
  unfold nv
  rw [h, nI_clamp hn]
