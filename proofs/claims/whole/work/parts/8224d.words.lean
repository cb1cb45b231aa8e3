/-! Layer 2: words -/
def dgs (T : Nat → Int32) : Nat → Nat → List Nat
  | 0, _ => []
  | k + 1, p => ((T p).toNatClampNeg - 96) :: dgs T k (p + 1)
def vB (B : Nat) (L : List Nat) (v : Nat) : Nat := L.foldl (fun v d => B * v + d) v
theorem wd_vB (B : Nat) (T : Nat → Int32) : ∀ k p v, wd B T k p v = vB B (dgs T k p) v
  | 0, _, _ => rfl
  | k + 1, p, v => by
    unfold wd dgs
    rw [wd_vB B T k (p + 1)]
    rfl
theorem dgs_len (T : Nat → Int32) : ∀ k p, (dgs T k p).length = k
  | 0, _ => rfl
  | k + 1, p => by
    unfold dgs
    rw [List.length_cons, dgs_len T k (p + 1)]
/-- the digits of a word -/
def okD (L : List Nat) : Prop := ∀ d, d ∈ L → 1 ≤ d ∧ d ≤ 26
theorem vB_snoc (B : Nat) (L : List Nat) (d v : Nat) : vB B (L ++ [d]) v = B * vB B L v + d := by
  unfold vB
  rw [List.foldl_append]
  rfl
theorem vB_inj {B : Nat} (hB : 27 ≤ B) : ∀ (n : Nat) (L M : List Nat), L.length = n → okD L → okD M → vB B L 0 = vB B M 0 → L = M := by
  intro n
  induction n with
  | zero =>
    intro L M hn hL hM h
    have : L = [] := List.length_eq_zero_iff.mp hn
    subst this
    rcases List.eq_nil_or_concat M with rfl | ⟨M', d, rfl⟩
    · rfl
    · rw [List.concat_eq_append, vB_snoc] at h
      have := (hM d (by simp)).1
      have h : 0 = B * vB B M' 0 + d := h
      omega
  | succ n ih =>
    intro L M hn hL hM h
    rcases List.eq_nil_or_concat L with rfl | ⟨L', c, rfl⟩
    · cases hn
    · rw [List.concat_eq_append] at hn hL h ⊢
      have c1 := hL c (by simp)
      rcases List.eq_nil_or_concat M with rfl | ⟨M', d, rfl⟩
      · rw [vB_snoc] at h
        have h : B * vB B L' 0 + c = 0 := h
        omega
      · rw [List.concat_eq_append] at hM h ⊢
        have d1 := hM d (by simp)
        rw [vB_snoc, vB_snoc] at h
        have e1 : c = d := by
          have := congrArg (· % B) h
          simp only [Nat.mul_add_mod] at this
          rw [Nat.mod_eq_of_lt (by omega), Nat.mod_eq_of_lt (by omega)] at this
          exact this
        subst e1
        have e2 : vB B L' 0 = vB B M' 0 := Nat.eq_of_mul_eq_mul_left (show 0 < B by omega) (by omega)
        have hn' : L'.length = n := by simpa using hn
        rw [ih L' M' hn' (fun d hd => hL d (by simp [hd])) (fun d hd => hM d (by simp [hd])) e2]
theorem vB_lt {B : Nat} (hB : 27 ≤ B) : ∀ (L : List Nat) (v n : Nat), okD L → v < B ^ n → vB B L v < B ^ (n + L.length)
  | [], _, _, _, h => h
  | d :: L, v, n, hL, h => by
    have hd := hL d (by simp)
    have e : B * v + d < B ^ (n + 1) := by
      rw [Nat.pow_succ, Nat.mul_comm (B ^ n)]
      have := Nat.mul_le_mul_left B (show v + 1 ≤ B ^ n from h)
      rw [Nat.mul_add] at this
      omega
    have := vB_lt hB L (B * v + d) (n + 1) (fun d hd => hL d (by simp [hd])) e
    show vB B L (B * v + d) < _
    rw [List.length_cons, show n + (L.length + 1) = n + 1 + L.length by omega]
    exact this
theorem vB_small {B : Nat} (hB : 27 ≤ B) (hB2 : B ≤ 32) {L : List Nat} (hL : okD L) (hl : L.length ≤ 8) : vB B L 0 < 2 ^ 62 := by
  have h := vB_lt hB L 0 0 hL (by rw [Nat.pow_zero]; omega)
  rw [Nat.zero_add] at h
  have h1 : B ^ L.length ≤ 32 ^ 8 := Nat.le_trans (Nat.pow_le_pow_left hB2 _) (Nat.pow_le_pow_right (by omega) hl)
  have h2 : (32 : Nat) ^ 8 < 2 ^ 62 := by decide
  omega
theorem lg_eq (x y : Int64) : lg_cmp x y = 0 ↔ x = y := by
  unfold lg_cmp
  rcases Int.lt_trichotomy x.toInt y.toInt with h | h | h
  · have h2 : ¬ (x > y) := fun z => by have := Int64.lt_iff_toInt_lt.mp z; omega
    have h3 : ¬ (x = y) := fun z => by rw [z] at h; omega
    rw [if_neg h2, if_neg h3]
    exact ⟨fun z => absurd z (by decide), fun z => absurd z h3⟩
  · have h3 : x = y := Int64.toInt_inj.mp h
    subst h3
    have h2 : ¬ (x > x) := fun z => by have := Int64.lt_iff_toInt_lt.mp z; omega
    rw [if_neg h2, if_pos rfl]
    exact ⟨fun _ => rfl, fun _ => rfl⟩
  · have h1 : x > y := Int64.lt_iff_toInt_lt.mpr h
    have h3 : ¬ (x = y) := fun z => by rw [z] at h; omega
    rw [if_pos h1]
    exact ⟨fun z => absurd z (by decide), fun z => absurd z h3⟩
theorem vB_eq {B : Nat} (hB : 27 ≤ B) (hB2 : B ≤ 32) {L M : List Nat} (hL : okD L) (hM : okD M) (l1 : L.length ≤ 8) (l2 : M.length ≤ 8) : lg_cmp (lN (vB B L 0)) (lN (vB B M 0)) = 0 ↔ L = M := by
  have a1 := vB_small hB hB2 hL l1
  have a2 := vB_small hB hB2 hM l2
  rw [lg_eq, pk_lEQ (by omega) (by omega)]
  exact ⟨fun h => vB_inj hB L.length L M rfl hL hM h, fun h => by rw [h]⟩
/-- the seven words -/
def kw (i : Nat) : List Nat := [[19, 12, 15, 20, 19], [4, 18, 9, 22, 5], [20, 9, 13, 5], [16, 12, 1, 20, 20, 5, 18], [2, 1, 4], [6, 9, 12, 5], [3, 12, 15, 19, 5]].getD i []
theorem kw_ok : ∀ i, i < 7 → okD (kw i) ∧ (kw i).length ≤ 8 ∧ slen.getD i 0 = (kw i).length ∧ sbyt.getD i [] = (kw i).map (fun d => nI (96 + d)) := by
  intro i hi
  have : ∀ i, i < 7 → (∀ d, d ∈ kw i → 1 ≤ d ∧ d ≤ 26) ∧ (kw i).length ≤ 8 ∧ slen.getD i 0 = (kw i).length ∧ sbyt.getD i [] = (kw i).map (fun d => nI (96 + d)) := by decide
  exact this i hi
def mt (T : Nat → Int32) : Nat → List Int32 → Bool
  | _, [] => true
  | p, c :: R => decide (T p = c) && mt T (p + 1) R
theorem mt_iff {T : Nat → Int32} : ∀ (W : List Nat) (p : Nat), okD W → (∀ q, p ≤ q → q < p + W.length → ∃ d, 1 ≤ d ∧ d ≤ 26 ∧ T q = nI (96 + d)) → (mt T p (W.map (fun d => nI (96 + d))) = true ↔ dgs T W.length p = W)
  | [], _, _, _ => ⟨fun _ => rfl, fun _ => rfl⟩
  | d :: W, p, hW, hT => by
    have hd := hW d (by simp)
    obtain ⟨e, e1, e2, e3⟩ := hT p (Nat.le_refl _) (by rw [List.length_cons]; omega)
    have ih := mt_iff (T := T) W (p + 1) (fun d hd => hW d (by simp [hd])) (fun q h1 h2 => hT q (by omega) (by rw [List.length_cons]; omega))
    rw [List.map_cons, List.length_cons, mt, dgs, Bool.and_eq_true, ih, decide_eq_true_eq, e3, nI_eq (by omega) (by omega), nI_clamp (by omega), List.cons.injEq]
    constructor
    · rintro ⟨h1, h2⟩
      exact ⟨by omega, h2⟩
    · rintro ⟨h1, h2⟩
      exact ⟨by omega, h2⟩
section WRD
variable {T : Nat → Int32} {E x : Nat} {rd md : SD} {mw : Int64}
def tokW (T : Nat → Int32) (E x : Nat) : List Nat := dgs T (tkE T E x - tkS T E x) (tkS T E x)
theorem tok_let (hk : tkK T E x = 2) : tkE T E x - tkS T E x ≤ 8 ∧ ∀ q, tkS T E x ≤ q → q < tkE T E x → ∃ d, 1 ≤ d ∧ d ≤ 26 ∧ T q = nI (96 + d) := by
  unfold tkK at hk
  unfold tkE
  by_cases z : E ≤ tkS T E x
  · rw [if_pos z] at hk; omega
  · rw [if_neg z] at hk ⊢
    by_cases y : isR 97 122 (T (tkS T E x)) = true
    · rw [if_pos y] at hk ⊢
      by_cases w : run (isR 97 122) T (E - tkS T E x) (tkS T E x) - tkS T E x ≤ 8
      · refine ⟨w, fun q h1 h2 => ?_⟩
        obtain ⟨n, n1, n2, n3⟩ := isR_n (a := 97) (b := 122) (by omega) (run_in (isR 97 122) T _ _ q h1 h2) (by omega)
        exact ⟨n - 96, by omega, by omega, by rw [n3]; congr 1; omega⟩
      · rw [if_neg w] at hk; omega
    · rw [if_neg y] at hk
      by_cases w : isR 48 57 (T (tkS T E x)) = true
      · rw [if_pos w] at hk
        split at hk <;> omega
      · rw [if_neg w] at hk
        split at hk <;> omega
theorem dgs_ok : ∀ (k p : Nat), (∀ q, p ≤ q → q < p + k → ∃ d, 1 ≤ d ∧ d ≤ 26 ∧ T q = nI (96 + d)) → okD (dgs T k p)
  | 0, _, _ => fun d hd => by cases hd
  | k + 1, p, h => fun d hd => by
    obtain ⟨e, e1, e2, e3⟩ := h p (Nat.le_refl _) (by omega)
    rw [dgs, List.mem_cons] at hd
    rcases hd with rfl | hd
    · rw [e3, nI_clamp (by omega)]
      omega
    · exact dgs_ok k (p + 1) (fun q h1 h2 => h q (by omega) (by omega)) d hd
theorem tokW_ok (hk : tkK T E x = 2) (hx : x ≤ E) : okD (tokW T E x) ∧ (tokW T E x).length ≤ 8 := by
  obtain ⟨h1, h2⟩ := tok_let hk
  obtain ⟨b1, -⟩ := tkE_b T hx
  refine ⟨dgs_ok _ _ (fun q a1 a2 => h2 q a1 (by omega)), ?_⟩
  unfold tokW
  rw [dgs_len]
  exact h1
theorem c_wi {i s : Nat} (hs : s + (kw i).length ≤ 900) (hi : i < 7) (h3 : rd 5 0 3 = nI s) : ∀ (R : List Int32) (j f : Nat), (sbyt.getD i []).drop j = R → j + R.length = (kw i).length → R.length < f → f_X5_wordIs_L rd i f (nI j) = some (b01 (mt (rd 20 0) (s + j) R)) := by
  obtain ⟨-, k2, k3, k4⟩ := kw_ok i hi
  intro R
  induction R with
  | nil =>
    intro j f hR hj hf
    obtain ⟨f, rfl⟩ : ∃ q, f = q + 1 := ⟨f - 1, by omega⟩
    have : j = (kw i).length := hj
    rw [f_X5_wordIs_L, k3, if_pos (nI_le (by omega) (by omega))]
    rfl
  | cons c R ih =>
    intro j f hR hj hf
    rw [List.length_cons] at hj hf
    obtain ⟨f, rfl⟩ : ∃ q, f = q + 1 := ⟨f - 1, by omega⟩
    have hc : (sbyt.getD i []).getD j 0 = c := by
      have h1 : (sbyt.getD i [])[j]? = some c := by
        have := congrArg (fun l => l[0]?) hR
        simp only [List.getElem?_drop] at this
        rw [Nat.add_zero] at this
        exact this
      rw [List.getD_eq_getElem?_getD, h1]
      rfl
    have hR2 : (sbyt.getD i []).drop (j + 1) = R := by
      have := congrArg List.tail hR
      rw [List.tail_drop] at this
      exact this
    rw [f_X5_wordIs_L, k3, if_neg (by rw [nI_leI (by omega) (by omega)]; omega), h3, nI_add]
    simp (disch := omega) only [xg, vinT, nI_clamp, ra]
    rw [hc, mt]
    by_cases z : rd 20 0 (s + j) = c
    · rw [if_pos z, decide_eq_true z, Bool.true_and]
      exact ih (j + 1) f hR2 (by omega) (by omega)
    · rw [if_neg z, decide_eq_false z, Bool.false_and]
      rfl
/-- the token is this word -/
def wq (T : Nat → Int32) (E x i : Nat) : Bool := decide (tkK T E x = 2 ∧ tokW T E x = kw i)
theorem c_wordIs (h : GC T E x rd md mw) {i : Nat} (hi : i < 7) : f_X5_wordIs rd i = some (b01 (wq T E x i)) := by
  obtain ⟨⟨g1, g2, g3, g4, g5, g6⟩, h7, h8, h9, h10, t1, t2, t3, t4, t5⟩ := id h
  obtain ⟨k1, k2, k3, k4⟩ := kw_ok i hi
  have hk := tkK_lt T E x
  obtain ⟨b1, b2, b3, -⟩ := tkE_b T h7
  have e1 : (nI (tkK T E x) = (2 : Int32)) ↔ tkK T E x = 2 := nI_eq (b := 2) (by omega) (by omega)
  unfold f_X5_wordIs wq
  rw [h10, h9, h8, k3, pk_sub b1]
  by_cases z : tkK T E x = 2
  · rw [if_pos (e1.mpr z)]
    obtain ⟨a1, a2⟩ := tok_let z
    by_cases y : tkE T E x - tkS T E x = (kw i).length
    · rw [if_pos (by rw [y])]
      have := c_wi (rd := rd) (i := i) (s := tkS T E x) (by omega) hi h8 (sbyt.getD i []) 0 fuel (by rw [List.drop_zero]) (by rw [k4, List.length_map, Nat.zero_add]) (by rw [k4, List.length_map]; unfold fuel; omega)
      rw [nI_0, g2, Nat.add_zero, k4] at this
      rw [this]
      have hm := mt_iff (T := T) (kw i) (tkS T E x) k1 (fun q h1 h2 => a2 q h1 (by omega))
      congr 2
      unfold tokW
      rw [y]
      by_cases w : dgs T (kw i).length (tkS T E x) = kw i
      · rw [hm.mpr w, decide_eq_true ⟨z, w⟩]
      · rw [Bool.eq_false_iff.mpr (fun v => w (hm.mp v)), decide_eq_false (fun v => w v.2)]
    · rw [if_neg (by rw [nI_eq (by omega) (by omega)]; exact y)]
      rw [decide_eq_false (fun v => y ?_)]
      · rfl
      · have := congrArg List.length v.2
        unfold tokW at this
        rw [dgs_len] at this
        exact this
  · rw [if_neg (fun y => z (e1.mp y)), decide_eq_false (fun v => z v.1)]
    rfl
theorem m_isWord (h : GC T E x rd md mw) {i : Nat} (hi : i < 7) : f_X8_isWord md mw (lN (vB 27 (kw i) 0)) = some (b01 (wq T E x i)) := by
  obtain ⟨⟨g1, g2, g3, g4, g5, g6⟩, h7, h8, h9, h10, t1, t2, t3, t4, t5⟩ := id h
  obtain ⟨k1, k2, k3, k4⟩ := kw_ok i hi
  have hk := tkK_lt T E x
  have e2 : (nI (rk (tkK T E x)) = (1 : Int32)) ↔ tkK T E x = 2 := rk_eq (n := 2) hk (by omega)
  unfold f_X8_isWord wq
  rw [g_good g6, xb, if_neg i1, t2]
  by_cases z : tkK T E x = 2
  · obtain ⟨o1, o2⟩ := tokW_ok z h7
    rw [if_pos (e2.mpr z), t5 z, wd_vB]
    have hv := vB_eq (B := 27) (by omega) (by omega) o1 k1 o2 k2
    show (if lg_cmp (lN (vB 27 (tokW T E x) 0)) (lN (vB 27 (kw i) 0)) = 0 then some (1 : Int32) else some 0) = _
    by_cases w : tokW T E x = kw i
    · rw [if_pos (hv.mpr w), decide_eq_true ⟨z, w⟩]
      rfl
    · rw [if_neg (fun v => w (hv.mp v)), decide_eq_false (fun v => w v.2)]
      rfl
  · rw [if_neg (fun y => z (e2.mp y)), decide_eq_false (fun v => z v.1)]
    rfl
theorem kw_val : lN (vB 27 (kw 0) 0) = 10345069 ∧ lN (vB 27 (kw 1) 0) = 2487218 ∧ lN (vB 27 (kw 2) 0) = 400577 ∧ lN (vB 27 (kw 3) 0) = 6371854542 ∧ lN (vB 27 (kw 4) 0) = 1489 ∧ lN (vB 27 (kw 5) 0) = 124988 ∧ lN (vB 27 (kw 6) 0) = 1841972 := by decide
end WRD
