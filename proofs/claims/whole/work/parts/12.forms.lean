/-! The forms of the pure functions, of the contracts, calls and returns over the world -/
def x_let {α β : Type} (a : α) (f : α → β) : β := f a
theorem x_letE {α β : Type} {a : α} {f : α → β} {r : β} (h : x_let a f = r) : ∃ b, b = a ∧ f b = r := ⟨a, rfl, h⟩
def x_bind {α β : Type} (a : Option α) (f : α → Option β) : Option β := match a with
  | some x => f x
  | none => none
theorem x_bindE {α β : Type} {a : Option α} {f : α → Option β} {r : β} (h : x_bind a f = some r) : ∃ x, a = some x ∧ f x = some r := by
  cases a with
  | none => cases h
  | some x => exact ⟨x, rfl, h⟩
theorem x_bind_some {α β : Type} (x : α) (f : α → Option β) : x_bind (some x) f = f x := rfl
noncomputable def x_guard {β : Type} (P : Prop) (a : Option β) : Option β := by
  classical
  exact if P then a else none
theorem x_guard_pos {β : Type} {P : Prop} (h : P) (a : Option β) : x_guard P a = a := by simp [x_guard, h]
theorem x_guardE {β : Type} {P : Prop} {a : Option β} {r : β} (h : x_guard P a = some r) : P ∧ a = some r := by
  by_cases hP : P
  · rw [x_guard_pos hP] at h; exact ⟨hP, h⟩
  · simp [x_guard, hP] at h
theorem x_lt {q : Int32} {n : Nat} (h : vp_in q n) : q.toNatClampNeg < n := Nat.not_le.mp fun z => h (Or.inr z)
theorem x_iteT {β : Type} {P : Prop} [Decidable P] {a b : Option β} {r : β} (h : (if P then a else b) = some r) (hp : P) : a = some r := by rwa [if_pos hp] at h
theorem x_iteF {β : Type} {P : Prop} [Decidable P] {a b : Option β} {r : β} (h : (if P then a else b) = some r) (hp : ¬ P) : b = some r := by rwa [if_neg hp] at h
/-! lenses -/
theorem wS_S {w : WT} {i : Nat} {sd : SD} {k j t : Nat} (hg : grp k = 0) : wints (wS w i sd) i k j t = sd k j t := by simp [wints, hg, va_up, k_xs, kS]
theorem sv_S {w : WT} {i : Nat} {sd : SD} {k j t : Nat} (hg : grp k = 0) (hz : ∀ w, zt w k t = none) (hr : rt k j t = none) : sval (wS w i sd) i k j t = .int (sd k j t) := by
  unfold sval
  rw [hz, hr]
  show Value.int _ = _
  rw [wS_S hg]
theorem ct_S {w : WT} {i : Nat} {sd : SD} {k j : Nat} (hg : grp k = 0) (hc : ∀ w, conts w i k j = .inl (wints w i k j)) : conts (wS w i sd) i k j = .inl (sd k j) := by
  rw [hc]
  congr 1
  funext t
  exact wS_S hg
theorem fp_S {g : GT} {w : WT} {i : Nat} {sd sd' : SD} {k j t : Nat} {v : Int32} (he : sd' = upS sd k j t v) (hg : grp k = 0) : FPi g (wS w i sd) (wS w i sd') i k j t v := by
  subst he
  refine ⟨⟨rfl, rfl, rfl, rfl, rfl, rfl, rfl, rfl⟩, fun t' => ?_, fun i' k' j' _ hne t' => ?_⟩
  · rw [wS_S hg, wS_S hg]
    simp [upS]
  · unfold wints
    split
    · by_cases hi : i' = i
      · subst hi
        have : ¬ (k' = k ∧ j' = j) := fun z => hne ⟨rfl, z⟩
        simp only [k_xs, va_up, if_true, upS]
        rw [if_neg (fun z => this ⟨z.1, z.2.1⟩)]
      · simp [va_up, hi, k_xs, kS]
    all_goals rfl
theorem own_1 {fl : Nat} {o : Nat} {S : List Nat} {pl : Option Nat} {i k j : Nat} (hk : grp k = 1) (h : dm fl o S pl i k j) : i = o + 1 := by
  obtain ⟨h, -⟩ := h
  rw [hk] at h
  exact h.2
theorem own_2 {fl : Nat} {o : Nat} {S : List Nat} {pl : Option Nat} {i k j : Nat} (hk : grp k = 2) (h : dm fl o S pl i k j) : i = o + 186 := by
  obtain ⟨h, -⟩ := h
  rw [hk] at h
  exact h.2
theorem own_3 {fl : Nat} {o : Nat} {S : List Nat} {pl : Option Nat} {i k j : Nat} (hk : grp k = 3) (h : dm fl o S pl i k j) : pl = some i := by
  obtain ⟨h, -⟩ := h
  rw [hk] at h
  exact h
theorem own_4 {fl : Nat} {o : Nat} {S : List Nat} {pl : Option Nat} {i k j : Nat} (hk : grp k = 4) (h : dm fl o S pl i k j) : i = o := by
  obtain ⟨h, -⟩ := h
  rw [hk] at h
  exact h.2
theorem grp_le (k : Nat) : grp k = 0 ∨ grp k = 1 ∨ grp k = 2 ∨ grp k = 3 ∨ grp k = 4 ∨ grp k = 5 := by
  unfold grp
  repeat' split
  all_goals simp
theorem own_5 {fl : Nat} {o : Nat} {S : List Nat} {pl : Option Nat} {i k j : Nat} (hk : grp k = 5) (h : dm fl o S pl i k j) : i = o + 189 := by
  obtain ⟨h, -⟩ := h
  rw [hk] at h
  exact h.2
theorem fp_R {g : GT} {w : WT} {rd rd' : SD} {rn : Nat → Int64} {k j t : Nat} {v : Int32} (he : rd' = upS rd k j t v) (hg : grp k = 1) : FPi g (wR w rd rn) (wR w rd' rn) (g.1 + 1) k j t v := by
  subst he
  refine ⟨⟨rfl, rfl, rfl, rfl, rfl, rfl, rfl, rfl⟩, fun t' => ?_, fun i' k' j' hd hne t' => ?_⟩
  · simp [wints, hg, upS, k_rd, kR, k_pd, kP, k_hd, kH, k_jd, kJ]
  · unfold wints
    split
    case h_2 h =>
      have hi := own_1 h hd
      have : ¬ (k' = k ∧ j' = j) := fun z => hne ⟨hi, z⟩
      simp only [k_rd, upS]
      rw [if_neg (fun z => this ⟨z.1, z.2.1⟩)]
    all_goals rfl
theorem fp_P {g : GT} {w : WT} {pd pd' : SD} {i k j t : Nat} {v : Int32} (hp : k_pl w.1 = some i) (he : pd' = upS pd k j t v) (hg : grp k = 3) : FPi g (wP w pd) (wP w pd') i k j t v := by
  subst he
  refine ⟨⟨rfl, rfl, rfl, rfl, rfl, rfl, rfl, rfl⟩, fun t' => ?_, fun i' k' j' hd hne t' => ?_⟩
  · simp [wints, hg, upS, k_rd, kR, k_pd, kP, k_hd, kH, k_jd, kJ]
  · unfold wints
    split
    case h_4 h =>
      have hi : i' = i := by
        have h3 : k_pl w.1 = some i' := own_3 h hd
        rw [hp] at h3
        exact (Option.some.inj h3).symm
      have : ¬ (k' = k ∧ j' = j) := fun z => hne ⟨hi, z⟩
      simp only [k_pd, upS]
      rw [if_neg (fun z => this ⟨z.1, z.2.1⟩)]
    all_goals rfl
theorem fp_H {g : GT} {w : WT} {hd hd' : SD} {hz : Nat → Option Nat} {k j t : Nat} {v : Int32} (he : hd' = upS hd k j t v) (hg : grp k = 2) : FPi g (wH w hd hz) (wH w hd' hz) (g.1 + 186) k j t v := by
  subst he
  refine ⟨⟨rfl, rfl, rfl, rfl, rfl, rfl, rfl, rfl⟩, fun t' => ?_, fun i' k' j' hd hne t' => ?_⟩
  · simp [wints, hg, upS, k_rd, kR, k_pd, kP, k_hd, kH, k_jd, kJ]
  · unfold wints
    split
    case h_3 h =>
      have hi := own_2 h hd
      have : ¬ (k' = k ∧ j' = j) := fun z => hne ⟨hi, z⟩
      simp only [k_hd, upS]
      rw [if_neg (fun z => this ⟨z.1, z.2.1⟩)]
    all_goals rfl
theorem fp_J {g : GT} {w : WT} {jd jd' : SD} {k j t : Nat} {v : Int32} (he : jd' = upS jd k j t v) (hg : grp k = 4) : FPi g (kJ w.1 jd, w.2) (kJ w.1 jd', w.2) g.1 k j t v := by
  subst he
  refine ⟨⟨rfl, rfl, rfl, rfl, rfl, rfl, rfl, rfl⟩, fun t' => ?_, fun i' k' j' hd hne t' => ?_⟩
  · simp [wints, hg, upS, k_rd, kR, k_pd, kP, k_hd, kH, k_jd, kJ]
  · unfold wints
    split
    case h_5 h =>
      have hi := own_4 h hd
      have : ¬ (k' = k ∧ j' = j) := fun z => hne ⟨hi, z⟩
      simp only [k_jd, upS]
      rw [if_neg (fun z => this ⟨z.1, z.2.1⟩)]
    all_goals rfl
theorem fp_M {g : GT} {w : WT} {md md' : SD} {mn : Nat → Int64} {mw : Int64} {k j t : Nat} {v : Int32} (he : md' = upS md k j t v) (hg : grp k = 5) : FPi g (wM w md mn mw) (wM w md' mn mw) (g.1 + 189) k j t v := by
  subst he
  refine ⟨⟨rfl, rfl, rfl, rfl, rfl, rfl, rfl, rfl⟩, fun t' => ?_, fun i' k' j' hd hne t' => ?_⟩
  · simp [wints, hg, upS, k_rd, kR, k_pd, kP, k_hd, kH, k_jd, kJ]
  · rcases grp_le k' with h | h | h | h | h | h
    case inr.inr.inr.inr.inr =>
      have hi := own_5 h hd
      have : ¬ (k' = k ∧ j' = j) := fun z => hne ⟨hi, z⟩
      simp only [wints, h, upS]
      rw [if_neg (fun z => this ⟨z.1, z.2.1⟩)]
    all_goals simp only [wints, h]
def fuel : Nat := 20000
theorem nar_b {v : Int32} (h : v = 0 ∨ v = 1) : narrow .boolean (.int v) = .int v := by rcases h with rfl | rfl <;> rfl
/-- a State's numbers laid back where they are -/
theorem kS_self (c : CT) (i : Nat) : kS c i (k_xs c i) = c := by
  have : va_up c.1 i (k_xs c i) = c.1 := by
    funext q
    by_cases h : q = i
    · subst h; simp [va_up, k_xs]
    · simp [va_up, h]
  show (va_up c.1 i (k_xs c i), c.2) = c
  rw [this]
theorem w_self_sd {g : GT} {c : CT} {mt : MT} {i : Nat} {H : Heap} (h : World g (c, mt) H) : World g (wS (c, mt) i (k_xs c i)) H := by
  show World g (kS c i (k_xs c i), mt) H
  rw [kS_self]
  exact h
theorem w_unself_sd {g : GT} {c : CT} {mt : MT} {i : Nat} {H : Heap} (h : World g (wS (c, mt) i (k_xs c i)) H) : World g (c, mt) H := by
  have h : World g (kS c i (k_xs c i), mt) H := h
  rw [kS_self] at h
  exact h
theorem w_self_rd {g : GT} {w : WT} {H : Heap} (h : World g w H) : World g w H := h
theorem w_self_jd {g : GT} {w : WT} {H : Heap} (h : World g w H) : World g w H := h
theorem w_self_pd {g : GT} {w : WT} {H : Heap} (h : World g w H) : World g w H := h
theorem w_self_hd {g : GT} {w : WT} {H : Heap} (h : World g w H) : World g w H := h
theorem fp_S0 {g : GT} {c : CT} {mt : MT} {i : Nat} {sd' : SD} {k j t : Nat} {v : Int32} (he : sd' = upS (k_xs c i) k j t v) (hg : grp k = 0) : FPi g (c, mt) (kS c i sd', mt) i k j t v := by
  have h := fp_S (g := g) (w := (c, mt)) (i := i) he hg
  have e : (wS (c, mt) i (k_xs c i)) = (c, mt) := by show (kS c i (k_xs c i), mt) = _; rw [kS_self]
  rw [e] at h
  exact h
/-- two States -/
theorem wS_S2 {w : WT} {i i2 : Nat} {sd so : SD} {k j t : Nat} (hne : i2 ≠ i) (hg : grp k = 0) : wints (wS (wS w i2 so) i sd) i2 k j t = so k j t := by simp [wints, hg, va_up, k_xs, kS, hne]
theorem sv_S2 {w : WT} {i i2 : Nat} {sd so : SD} {k j t : Nat} (hne : i2 ≠ i) (hg : grp k = 0) (hz : ∀ w, zt w k t = none) (hr : rt k j t = none) : sval (wS (wS w i2 so) i sd) i2 k j t = .int (so k j t) := by
  unfold sval
  rw [hz, hr]
  show Value.int _ = _
  rw [wS_S2 hne hg]
theorem ct_S2 {w : WT} {i i2 : Nat} {sd so : SD} {k j : Nat} (hne : i2 ≠ i) (hg : grp k = 0) (hc : ∀ w, conts w i2 k j = .inl (wints w i2 k j)) : conts (wS (wS w i2 so) i sd) i2 k j = .inl (so k j) := by
  rw [hc]
  congr 1
  funext t
  exact wS_S2 hne hg
/-- the first n numbers of an array are those of f -/
def cpS (sd : SD) (k j n : Nat) (f : Nat → Int32) : SD := fun k' j' t' => if k' = k ∧ j' = j ∧ t' < n then f t' else sd k' j' t'
theorem fc_S {g : GT} {w : WT} {i : Nat} {sd sd' : SD} {k j n : Nat} {f : Nat → Int32} (he : sd' = cpS sd k j n f) (hg : grp k = 0) {H : Heap} (hW : World g (wS w i sd) H) : (∀ t', wints (wS w i sd') i k j t' = if t' < n then f t' else sd k j t') ∧ ∀ e', cellOf (gy g) (wS w i sd') i k j = e' → WFit g (wS w i sd) (wS w i sd') i k j e' := by
  subst he
  refine ⟨fun t' => by rw [wS_S hg]; simp [cpS], fun e' h => ?_⟩
  obtain ⟨-, -, -, v1, v2, v3⟩ := hW
  refine ⟨⟨rfl, rfl, rfl, v1, v2, v3⟩, h, fun i' k' j' _ hne => ?_⟩
  refine cell_same (w' := wS w i (cpS sd k j n f)) (w := wS w i sd) rfl rfl rfl rfl rfl rfl (fun t' => ?_)
  unfold wints
  split
  · by_cases hi : i' = i
    · subst hi
      have : ¬ (k' = k ∧ j' = j) := fun z => hne ⟨rfl, z⟩
      simp only [k_xs, kS, va_up, if_true, cpS]
      rw [if_neg (fun z => this ⟨z.1, z.2.1⟩)]
    · simp [va_up, hi, k_xs, kS]
  all_goals rfl
/-- the rows of the reference -/
def isRow (k : Nat) : Prop := k = 30 ∨ k = 31 ∨ k = 32
theorem isRow_30 : isRow 30 := Or.inl rfl
theorem isRow_31 : isRow 31 := Or.inr (Or.inl rfl)
theorem isRow_32 : isRow 32 := Or.inr (Or.inr rfl)
theorem rw_j {k : Nat} (h : isRow k) : 0 < jn k := by rcases h with rfl | rfl | rfl <;> decide
theorem rw_9 {k : Nat} (h : isRow k) : ¬ k < 9 := by rcases h with rfl | rfl | rfl <;> decide
theorem rw_t {k : Nat} (h : isRow k) : aty k = 1 := by rcases h with rfl | rfl | rfl <;> rfl
theorem rw_g {k : Nat} (h : isRow k) : grp k = 5 := by rcases h with rfl | rfl | rfl <;> rfl
theorem rw_n {k : Nat} (h : isRow k) : aln k = 605 := by rcases h with rfl | rfl | rfl <;> rfl
theorem rw_in {k : Nat} (h : isRow k) {q : Int32} (hq : vp_in q 605) : vp_in q (aln k) := by rw [rw_n h]; exact hq
theorem rw_w {k : Nat} (h : isRow k) {w : WT} {i : Nat} : conts w i k 0 = .inl (wints w i k 0) := by rcases h with rfl | rfl | rfl <;> rfl
theorem rw_c {k : Nat} (h : isRow k) {w : WT} {md : SD} {mn : Nat → Int64} {mw : Int64} {i : Nat} : conts (wM w md mn mw) i k 0 = .inl (md k 0) := by rcases h with rfl | rfl | rfl <;> rfl
theorem rw_d {g : GT} {w : WT} {k : Nat} (hfl : 2 ≤ gf g) (h : isRow k) : wdm g w (g.1 + 189) k 0 := by rcases h with rfl | rfl | rfl <;> exact ⟨⟨hfl, rfl⟩, by decide⟩
/-- the reference's word and names, the reader's names -/
theorem wf_mw {g : GT} {w : WT} {md : SD} {mn : Nat → Int64} {mw mw' x : Int64} (he : mw' = x) {H : Heap} (hW : World g (wM w md mn mw) H) : WFit g (wM w md mn mw) (wM w md mn mw') (g.1 + 189) 8 0 (.inr (8, ((List.range (nf 8)).map (sval (wM w md mn mw) (g.1 + 189) 8 0)).set 26 (.long x))) := by
  subst he
  obtain ⟨-, -, -, v1, v2, v3⟩ := hW
  refine ⟨⟨rfl, rfl, rfl, v1, v2, v3⟩, rfl, fun i' k' j' hd hne => ?_⟩
  unfold cellOf
  have hs : ¬ (k' = 8 ∧ j' = 0) := fun z => by
    obtain ⟨rfl, rfl⟩ := z
    exact hne ⟨own_5 rfl hd, rfl, rfl⟩
  have h8 : k' ≠ 8 := fun z => by
    subst z
    have hj : j' < 1 := hd.2
    exact hs ⟨rfl, by omega⟩
  have hv : sval (wM w md mn mw') i' k' j' = sval (wM w md mn mw) i' k' j' := by
    funext t
    unfold sval
    have hz : zt (wM w md mn mw') k' t = zt (wM w md mn mw) k' t := by
      unfold zt
      split <;> first | rfl | (exact absurd rfl h8)
    rw [hz]
    rfl
  rw [hv]
  rfl
theorem wf_mn {g : GT} {w : WT} {md : SD} {mn mn' f : Nat → Int64} {mw : Int64} (he : mn' = f) {H : Heap} (hW : World g (wM w md mn mw) H) : WFit g (wM w md mn mw) (wM w md mn' mw) (g.1 + 189) 39 0 (.inl (gy g (aty 39), aln 39, .inr (.inl f))) := by
  subst he
  obtain ⟨-, -, -, v1, v2, v3⟩ := hW
  refine ⟨⟨rfl, rfl, rfl, v1, v2, v3⟩, rfl, fun i' k' j' hd hne => ?_⟩
  have h39 : k' ≠ 39 := fun z => by
    subst z
    have hj : j' < 1 := hd.2
    exact hne ⟨own_5 rfl hd, rfl, by omega⟩
  unfold cellOf
  have hv : sval (wM w md mn' mw) i' k' j' = sval (wM w md mn mw) i' k' j' := rfl
  have hc : conts (wM w md mn' mw) i' k' j' = conts (wM w md mn mw) i' k' j' := by
    unfold conts
    split <;> first | rfl | (exact absurd rfl h39)
  rw [hv, hc]
theorem wf_rn {g : GT} {w : WT} {rd : SD} {rn rn' f : Nat → Int64} (he : rn' = f) {H : Heap} (hW : World g (wR w rd rn) H) : WFit g (wR w rd rn) (wR w rd rn') (g.1 + 1) 21 0 (.inl (gy g (aty 21), aln 21, .inr (.inl f))) := by
  subst he
  obtain ⟨-, -, -, v1, v2, v3⟩ := hW
  refine ⟨⟨rfl, rfl, rfl, v1, v2, v3⟩, rfl, fun i' k' j' hd hne => ?_⟩
  have h21 : k' ≠ 21 := fun z => by
    subst z
    have hj : j' < 1 := hd.2
    exact hne ⟨own_1 rfl hd, rfl, by omega⟩
  unfold cellOf
  have hv : sval (wR w rd rn') i' k' j' = sval (wR w rd rn) i' k' j' := rfl
  have hc : conts (wR w rd rn') i' k' j' = conts (wR w rd rn) i' k' j' := by
    unfold conts
    split <;> first | rfl | (exact absurd rfl h21)
  rw [hv, hc]
/-! contracts -/
abbrev cPre (g : GT) (w : WT) (av : List Value) : Array Value → State → Prop := va_Pc av (fun U => wK g U ∧ World g w U.heap)
abbrev cQi (g : GT) (r : Int32) (w' : WT) : Array Value → State → Outcome → State → Prop := va_Qi (fun (x : Int32) (_ : Unit) => x = r) (fun _ t => wK g t ∧ World g w' t.heap) (gA g)
abbrev cQl (g : GT) (r : Int64) (w' : WT) : Array Value → State → Outcome → State → Prop := va_Ql (fun (x : Int64) (_ : Unit) => x = r) (fun _ t => wK g t ∧ World g w' t.heap) (gA g)
abbrev cQv (g : GT) (w' : WT) : Array Value → State → Outcome → State → Prop := va_Qv (fun (_ : Unit) => True) (fun _ t => wK g t ∧ World g w' t.heap) (gA g)
abbrev cQr (g : GT) (a : Nat) (w' : WT) : Array Value → State → Outcome → State → Prop := va_Qr (fun (_ : Unit) => True) (fun _ x t => x = a ∧ wK g t ∧ World g w' t.heap) (gA g)
theorem wK.to {g : GT} {s U : State} {H : Heap} {locs : List Loc} (hK : wK g s) (hS : va_S (gA g) s.heap H locs) (hU : U.heap = H) (hWm : s.WarmedH U.vm) : wK g U := by
  refine ⟨va_K.moved hWm.alike hK.1, ?_, ?_, ?_, ?_, hK.2.2.2.2.2.1.moved hWm.alike, hK.2.2.2.2.2.2.1.moved hWm.alike, hK.2.2.2.2.2.2.2.1.moved hWm.alike, hK.2.2.2.2.2.2.2.2.1.moved hWm.alike, fun n hn => (hK.2.2.2.2.2.2.2.2.2 n hn).warmM hWm⟩
  · rw [hU]; exact (hK.2.1.kept hS.2.1).moved hWm.alike
  · exact fun n hn => (hK.2.2.1 n hn).warm hWm
  · rw [hU]; exact (hK.2.2.2.1.kept hS.2.1).moved hWm.alike
  · rw [hU]; exact (hK.2.2.2.2.1.kept hS.2.1).moved hWm.alike
theorem c_blind {g : GT} {w : WT} {av : List Value} : FrameBlind (cPre g w av) := fun a U f mk q => ⟨q.1, ⟨va_K.moved (u := U) (U := U.calling f mk a) (Vm.Alike.refl U.vm) q.2.1.1, vk_S.moved (u := U) (U := U.calling f mk a) (Vm.Alike.refl U.vm) q.2.1.2.1, fun n hn => vk_R.same (u := U) (U := U.calling f mk a) rfl (q.2.1.2.2.1 n hn), va_Z.moved (u := U) (U := U.calling f mk a) (Vm.Alike.refl U.vm) q.2.1.2.2.2.1, va_Zq.moved (u := U) (U := U.calling f mk a) (Vm.Alike.refl U.vm) q.2.1.2.2.2.2.1, va_AO.moved (u := U) (U := U.calling f mk a) (Vm.Alike.refl U.vm) q.2.1.2.2.2.2.2.1, va_AO.moved (u := U) (U := U.calling f mk a) (Vm.Alike.refl U.vm) q.2.1.2.2.2.2.2.2.1, va_AO.moved (u := U) (U := U.calling f mk a) (Vm.Alike.refl U.vm) q.2.1.2.2.2.2.2.2.2.1, va_AO.moved (u := U) (U := U.calling f mk a) (Vm.Alike.refl U.vm) q.2.1.2.2.2.2.2.2.2.2.1, fun n hn => va_Nw.same rfl (u := U) (U := U.calling f mk a) rfl (q.2.1.2.2.2.2.2.2.2.2.2 n hn)⟩, q.2.2⟩
section XCALLS
variable {p : Program} {l : Launch} {e : Env} {R : Room} {s : State} {m : MethodId} {args : Array Value} {below : List Frame} {meth : Method} {c : Code} {H H0 : Heap} {locs : List Loc} {cells slots : Nat} {Q : State → Prop} {pc : Nat} {ls : Array Slot} {rest st0 : List Value} {cc : ByteArray} {g : GT} {w w' : WT} {a : Array Value} {mc ms : Nat}
variable {y : MethodName} {bytes : ByteArray} {maxL nL n index : Nat} {ret : Option FieldType} {ws : List Cond} {rm : Room} {Qc : Array Value → State → Outcome → State → Prop} {Ts : List Cond} {own C : String} {b : Addr} {As : List Value}
theorem x_topi {x y : Int32} (h : y = x) (k : W p l e R s m args below meth c H locs cells slots Q (F0 m pc ls (.int y :: rest))) : W p l e R s m args below meth c H locs cells slots Q (F0 m pc ls (.int x :: rest)) := h ▸ k
theorem x_topl {x y : Int64} (h : y = x) (k : W p l e R s m args below meth c H locs cells slots Q (F0 m pc ls (.long y :: rest))) : W p l e R s m args below meth c H locs cells slots Q (F0 m pc ls (.long x :: rest)) := h ▸ k
theorem x_rV (S : CallFix p m c cc nL s args Ts own) (hM : Met l y ws rm (cPre g w (.ref b :: As)) Qc mc ms (gA g)) (cw : CallW R s args own C index y bytes maxL ret ws rm mc ms n) (hK : wK g s) (hW : World g w H) (hS : va_S (gA g) s.heap H locs) (hrec : ∃ cellB : Cell, H[b]? = some cellB ∧ cellB.vm.isStatics = false ∧ s.vm.findClass C = some cellB.cls)
    (hn : As.length = n) (hsize : ls.size = nL) (hstack : st0 = As.reverse ++ .ref b :: rest) (hr : (rest.map fun v => v.category).sum ≤ 8) (hdg : decode cc pc = .ok (.invokevirtual index, 3)) (hf : cells + mc ≤ R.cells ∧ slots + ms ≤ R.slots) :
    va_Run p l e R s m args below meth c H locs cells slots mc ms (F0 m pc ls st0) rest (Qc (Value.ref b :: As).toArray) (gA g) :=
  va_runV S hM cw ⟨c_blind, hrec, fun U hU hWm => ⟨rfl, hK.to hS hU hWm, by rw [hU]; exact hW⟩⟩ rfl hn hsize hstack (lv_room hr) hdg hf
theorem x_rS (S : CallFix p m c cc nL s args Ts own) (hM : Met l y ws rm (cPre g w As) Qc mc ms (gA g)) (cw : CallB R s args own index y bytes maxL ret ws rm mc ms n ∧ (Cond.static y).before args s = true) (hK : wK g s) (hW : World g w H) (hS : va_S (gA g) s.heap H locs)
    (hn : As.length = n) (hsize : ls.size = nL) (hstack : st0 = As.reverse ++ rest) (hr : (rest.map fun v => v.category).sum ≤ 8) (hdg : decode cc pc = .ok (.invokestatic index, 3)) (hf : cells + mc ≤ R.cells ∧ slots + ms ≤ R.slots) :
    va_Run p l e R s m args below meth c H locs cells slots mc ms (F0 m pc ls st0) rest (Qc As.toArray) (gA g) :=
  va_runS S hM cw ⟨c_blind, fun U hU hWm => ⟨rfl, hK.to hS hU hWm, by rw [hU]; exact hW⟩⟩ rfl hn hsize hstack (lv_room hr) hdg hf
theorem x_ci {r : Int32} (hr : va_Run p l e R s m args below meth c H locs cells slots mc ms (F0 m pc ls st0) rest (cQi g r w' a) (gA g)) (hS : va_S (gA g) H0 H locs)
    (kk : ∀ (H1 : Heap) (locs1 : List Loc), World g w' H1 → va_S (gA g) H0 H1 locs1 → W p l e R s m args below meth c H1 locs1 (cells + mc) (slots + ms) Q (F0 m (pc + 3) ls (.int r :: rest))) : W p l e R s m args below meth c H locs cells slots Q (F0 m pc ls st0) :=
  va_calli hr hS (fun _ _ h => h) (fun _ h => h) (fun r' _ t H1 locs1 ht _ hp hB _ _ hS1 => by subst hp; exact kk H1 locs1 (ht ▸ hB.2) hS1)
theorem x_ci0 {r : Int32} (hr : va_Run p l e R s m args below meth c H locs cells slots 0 0 (F0 m pc ls st0) rest (cQi g r w' a) (gA g)) (hS : va_S (gA g) H0 H locs)
    (kk : ∀ (H1 : Heap) (locs1 : List Loc), World g w' H1 → va_S (gA g) H0 H1 locs1 → W p l e R s m args below meth c H1 locs1 cells slots Q (F0 m (pc + 3) ls (.int r :: rest))) : W p l e R s m args below meth c H locs cells slots Q (F0 m pc ls st0) := x_ci hr hS kk
theorem x_cl {r : Int64} (hr : va_Run p l e R s m args below meth c H locs cells slots mc ms (F0 m pc ls st0) rest (cQl g r w' a) (gA g)) (hS : va_S (gA g) H0 H locs)
    (kk : ∀ (H1 : Heap) (locs1 : List Loc), World g w' H1 → va_S (gA g) H0 H1 locs1 → W p l e R s m args below meth c H1 locs1 (cells + mc) (slots + ms) Q (F0 m (pc + 3) ls (.long r :: rest))) : W p l e R s m args below meth c H locs cells slots Q (F0 m pc ls st0) :=
  va_calll hr hS (fun _ _ h => h) (fun _ h => h) (fun r' _ t H1 locs1 ht _ hp hB _ _ hS1 => by subst hp; exact kk H1 locs1 (ht ▸ hB.2) hS1)
theorem x_cl0 {r : Int64} (hr : va_Run p l e R s m args below meth c H locs cells slots 0 0 (F0 m pc ls st0) rest (cQl g r w' a) (gA g)) (hS : va_S (gA g) H0 H locs)
    (kk : ∀ (H1 : Heap) (locs1 : List Loc), World g w' H1 → va_S (gA g) H0 H1 locs1 → W p l e R s m args below meth c H1 locs1 cells slots Q (F0 m (pc + 3) ls (.long r :: rest))) : W p l e R s m args below meth c H locs cells slots Q (F0 m pc ls st0) := x_cl hr hS kk
theorem x_cv (hr : va_Run p l e R s m args below meth c H locs cells slots mc ms (F0 m pc ls st0) rest (cQv g w' a) (gA g)) (hS : va_S (gA g) H0 H locs)
    (kk : ∀ (H1 : Heap) (locs1 : List Loc), World g w' H1 → va_S (gA g) H0 H1 locs1 → W p l e R s m args below meth c H1 locs1 (cells + mc) (slots + ms) Q (F0 m (pc + 3) ls rest)) : W p l e R s m args below meth c H locs cells slots Q (F0 m pc ls st0) :=
  va_callv hr hS (fun _ _ h => h) (fun _ h => h) (fun _ t H1 locs1 ht _ hp hB _ _ hS1 => kk H1 locs1 (ht ▸ hB.2) hS1)
theorem x_cv0 (hr : va_Run p l e R s m args below meth c H locs cells slots 0 0 (F0 m pc ls st0) rest (cQv g w' a) (gA g)) (hS : va_S (gA g) H0 H locs)
    (kk : ∀ (H1 : Heap) (locs1 : List Loc), World g w' H1 → va_S (gA g) H0 H1 locs1 → W p l e R s m args below meth c H1 locs1 cells slots Q (F0 m (pc + 3) ls rest)) : W p l e R s m args below meth c H locs cells slots Q (F0 m pc ls st0) := x_cv hr hS kk
theorem x_cr {q : Nat} (hr : va_Run p l e R s m args below meth c H locs cells slots mc ms (F0 m pc ls st0) rest (cQr g q w' a) (gA g)) (hS : va_S (gA g) H0 H locs)
    (kk : ∀ (H1 : Heap) (locs1 : List Loc), World g w' H1 → va_S (gA g) H0 H1 locs1 → W p l e R s m args below meth c H1 locs1 (cells + mc) (slots + ms) Q (F0 m (pc + 3) ls (.ref q :: rest))) : W p l e R s m args below meth c H locs cells slots Q (F0 m pc ls st0) :=
  va_callr hr hS (fun _ _ h => h) (fun _ h => h) (fun _ q' t H1 locs1 ht _ hp hB _ _ hS1 => by obtain ⟨rfl, hB⟩ := hB; exact kk H1 locs1 (ht ▸ hB.2) hS1)
theorem x_cr0 {q : Nat} (hr : va_Run p l e R s m args below meth c H locs cells slots 0 0 (F0 m pc ls st0) rest (cQr g q w' a) (gA g)) (hS : va_S (gA g) H0 H locs)
    (kk : ∀ (H1 : Heap) (locs1 : List Loc), World g w' H1 → va_S (gA g) H0 H1 locs1 → W p l e R s m args below meth c H1 locs1 cells slots Q (F0 m (pc + 3) ls (.ref q :: rest))) : W p l e R s m args below meth c H locs cells slots Q (F0 m pc ls st0) := x_cr hr hS kk
theorem x_iret (hexec : p.tables.exec = Jvm.exec) (hb : c.code = cc) (hr : meth.sig.returnType = some .int) (hlocks : meth.locks = false) (hK : wK g s) (hW : World g w' H) (hS : va_S (gA g) s.heap H locs) {v r : Int32} (hv : some v = some r) (hdg : decode cc pc = .ok (.ireturn, 1)) : W p l e R s m args below meth c H locs cells slots (MQ below (cQi g r w') args s cells slots (gA g)) (F0 m pc ls [.int v]) :=
  W.iret hexec hb hr (fun t ht hWm => ⟨⟨v, (), rfl, Option.some.inj hv, hK.to hS ht hWm, by rw [ht]; exact hW⟩, hS.F ht⟩) hS.2.2 hdg hlocks
theorem x_zret (hexec : p.tables.exec = Jvm.exec) (hb : c.code = cc) (hr : meth.sig.returnType = some .boolean) (hlocks : meth.locks = false) (hK : wK g s) (hW : World g w' H) (hS : va_S (gA g) s.heap H locs) {v r : Int32} (hn : v = 0 ∨ v = 1) (hv : some v = some r) (hdg : decode cc pc = .ok (.ireturn, 1)) : W p l e R s m args below meth c H locs cells slots (MQ below (cQi g r w') args s cells slots (gA g)) (F0 m pc ls [.int v]) :=
  W.zret hexec hb hr (by rcases hn with rfl | rfl <;> rfl) (fun t ht hWm => ⟨⟨v, (), rfl, Option.some.inj hv, hK.to hS ht hWm, by rw [ht]; exact hW⟩, hS.F ht⟩) hS.2.2 hdg hlocks
theorem x_lret (hexec : p.tables.exec = Jvm.exec) (hb : c.code = cc) (hr : meth.sig.returnType = some .long) (hlocks : meth.locks = false) (hK : wK g s) (hW : World g w' H) (hS : va_S (gA g) s.heap H locs) {v r : Int64} (hv : some v = some r) (hdg : decode cc pc = .ok (.lreturn, 1)) : W p l e R s m args below meth c H locs cells slots (MQ below (cQl g r w') args s cells slots (gA g)) (F0 m pc ls [.long v]) :=
  W.lret hexec hb hr (fun t ht hWm => ⟨⟨v, (), rfl, Option.some.inj hv, hK.to hS ht hWm, by rw [ht]; exact hW⟩, hS.F ht⟩) hS.2.2 hdg hlocks
theorem x_vret (hexec : p.tables.exec = Jvm.exec) (hb : c.code = cc) (hr : meth.sig.returnType = none) (hlocks : meth.locks = false) (hK : wK g s) (hW : World g w' H) (hS : va_S (gA g) s.heap H locs) (hdg : decode cc pc = .ok (.return_, 1)) : W p l e R s m args below meth c H locs cells slots (MQ below (cQv g w') args s cells slots (gA g)) (F0 m pc ls []) :=
  W.vret hexec hb hr (fun t ht hWm => ⟨⟨(), rfl, trivial, hK.to hS ht hWm, by rw [ht]; exact hW⟩, hS.F ht⟩) hS.2.2 hdg hlocks
theorem x_aret (hexec : p.tables.exec = Jvm.exec) (hb : c.code = cc) {rt : FieldType} (hr : meth.sig.returnType = some rt) (hrt : (∃ n, rt = .object n) ∨ ∃ t, rt = .array t) (hlocks : meth.locks = false) (hK : wK g s) (hW : World g w' H) (hS : va_S (gA g) s.heap H locs) {q r : Nat} (hv : q = r) (hdg : decode cc pc = .ok (.areturn, 1)) : W p l e R s m args below meth c H locs cells slots (MQ below (cQr g r w') args s cells slots (gA g)) (F0 m pc ls [.ref q]) :=
  W.aret hexec hb hr hrt (Or.inr ⟨q, rfl⟩) (fun t ht hWm => ⟨⟨(), q, rfl, trivial, hv, hK.to hS ht hWm, by rw [ht]; exact hW⟩, hS.F ht⟩) hS.2.2 hdg hlocks
theorem x_met {ws' : List Cond} {av : List Value} (hy : plainName y.cls = true) (hw : ws = Cond.code y cc maxL ret :: ws') (hlen : (lg_sl av).length ≤ maxL)
    (body : ∀ (p : Program) (e : Env) (s : State) (m : MethodId) (below : List Frame) (meth : Method) (c : Code), p.tables.exec = Jvm.exec → c.code = cc → meth.sig.returnType = ret → c.maxLocals = maxL → (∀ w ∈ ws, w.before av.toArray s = true) → s.vm.findClass y.cls = some m.cls → meth.locks = false → wK g s → World g w s.heap → va_S (gA g) s.heap s.heap [] → ∀ ls : Array Slot, lv_has ls maxL (lv_args 0 av) → W p l e rm s m av.toArray below meth c s.heap [] 0 0 (MQ below Qc av.toArray s mc ms (gA g)) (F0 m 0 ls [])) : Met l y ws rm (cPre g w av) Qc mc ms (gA g) := by
  refine Met.ofW (cc := cc) (maxL := maxL) (ret := ret) hy hw ?_
  intro p e s m args below meth c s₁ B hml hv
  obtain ⟨rfl, hK, hW⟩ := hv
  have hl := lv_entry av hlen
  rw [lg_entry_eq]
  generalize (lg_sl av ++ List.replicate (maxL - (lg_sl av).length) Slot.unset).toArray = ls at hl ⊢
  exact body p e s m below meth c B.exec B.bytes B.returns hml (atoms_spec (ws := ws) B.pre) (findClass_of_methodNamed B.named) B.notSynchronized hK hW va_S.rf ls hl
end XCALLS
