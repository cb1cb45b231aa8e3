/-! sandbox for layer 2: the forms that the pure functions need, as the parts 10, 11, 12 of whole have them -/
abbrev SD : Type := Nat → Nat → Nat → Int32
def upS (sd : SD) (k j t : Nat) (v : Int32) : SD := fun k' j' t' => if k' = k ∧ j' = j ∧ t' = t then v else sd k' j' t'
abbrev CT : Type := (Nat → SD) × SD × (Nat → Int64) × SD × SD × (Nat → Option Nat) × SD × (Nat × Nat × Option Nat) × (List Nat × Nat)
abbrev MT : Type := SD × (Nat → Int64) × Int64
abbrev k_xs (c : CT) : Nat → SD := c.1
abbrev k_rd (c : CT) : SD := c.2.1
abbrev k_rn (c : CT) : Nat → Int64 := c.2.2.1
abbrev k_pd (c : CT) : SD := c.2.2.2.1
abbrev k_hd (c : CT) : SD := c.2.2.2.2.1
abbrev k_hz (c : CT) : Nat → Option Nat := c.2.2.2.2.2.1
abbrev k_jd (c : CT) : SD := c.2.2.2.2.2.2.1
abbrev k_st (c : CT) : Nat := c.2.2.2.2.2.2.2.1.1
abbrev k_sp (c : CT) : Nat := c.2.2.2.2.2.2.2.1.2.1
abbrev k_pl (c : CT) : Option Nat := c.2.2.2.2.2.2.2.1.2.2
abbrev k_S (c : CT) : List Nat := c.2.2.2.2.2.2.2.2.1
abbrev k_sz (c : CT) : Nat := c.2.2.2.2.2.2.2.2.2
abbrev kS (c : CT) (i : Nat) (sd : SD) : CT := (va_up c.1 i sd, c.2)
abbrev kR (c : CT) (rd : SD) (rn : Nat → Int64) : CT := (c.1, rd, rn, c.2.2.2)
abbrev kP (c : CT) (pd : SD) : CT := (c.1, c.2.1, c.2.2.1, pd, c.2.2.2.2)
abbrev kH (c : CT) (hd : SD) (hz : Nat → Option Nat) : CT := (c.1, c.2.1, c.2.2.1, c.2.2.2.1, hd, hz, c.2.2.2.2.2.2)
abbrev kJ (c : CT) (jd : SD) : CT := (c.1, c.2.1, c.2.2.1, c.2.2.2.1, c.2.2.2.2.1, c.2.2.2.2.2.1, jd, c.2.2.2.2.2.2.2)
abbrev kZ (c : CT) (z : Nat × Nat × Option Nat) : CT := (c.1, c.2.1, c.2.2.1, c.2.2.2.1, c.2.2.2.2.1, c.2.2.2.2.2.1, c.2.2.2.2.2.2.1, z, c.2.2.2.2.2.2.2.2)
abbrev kA (c : CT) (a : List Nat × Nat) : CT := (c.1, c.2.1, c.2.2.1, c.2.2.2.1, c.2.2.2.2.1, c.2.2.2.2.2.1, c.2.2.2.2.2.2.1, c.2.2.2.2.2.2.2.1, a)
def slen : List Nat := [5, 5, 4, 7, 3, 4, 5]
def sbyt : List (List Int32) := [[115, 108, 111, 116, 115], [100, 114, 105, 118, 101], [116, 105, 109, 101], [112, 108, 97, 116, 116, 101, 114], [98, 97, 100], [102, 105, 108, 101], [99, 108, 111, 115, 101]]
def x_let {α β : Type} (a : α) (f : α → β) : β := f a
theorem x_letE {α β : Type} {a : α} {f : α → β} {r : β} (h : x_let a f = r) : ∃ b, b = a ∧ f b = r := ⟨a, rfl, h⟩
def x_bind {α β : Type} (a : Option α) (f : α → Option β) : Option β := match a with
  | some x => f x
  | none => none
theorem x_bindE {α β : Type} {a : Option α} {f : α → Option β} {r : β} (h : x_bind a f = some r) : ∃ x, a = some x ∧ f x = some r := by
  cases a with
  | none => cases h
  | some x => exact ⟨x, rfl, h⟩
theorem x_bind_some {α β : Type} (x : α) (f : α → Option β) : x_bind (some x) f = f x := rfl
noncomputable def x_guard {β : Type} (P : Prop) (a : Option β) : Option β := by
  classical
  exact if P then a else none
theorem x_guard_pos {β : Type} {P : Prop} (h : P) (a : Option β) : x_guard P a = a := by simp [x_guard, h]
theorem x_guardE {β : Type} {P : Prop} {a : Option β} {r : β} (h : x_guard P a = some r) : P ∧ a = some r := by
  by_cases hP : P
  · rw [x_guard_pos hP] at h; exact ⟨hP, h⟩
  · simp [x_guard, hP] at h
theorem x_lt {q : Int32} {n : Nat} (h : vp_in q n) : q.toNatClampNeg < n := Nat.not_le.mp fun z => h (Or.inr z)
theorem x_iteT {β : Type} {P : Prop} [Decidable P] {a b : Option β} {r : β} (h : (if P then a else b) = some r) (hp : P) : a = some r := by rwa [if_pos hp] at h
theorem x_iteF {β : Type} {P : Prop} [Decidable P] {a b : Option β} {r : β} (h : (if P then a else b) = some r) (hp : ¬ P) : b = some r := by rwa [if_neg hp] at h
def fuel : Nat := 20000
def cpS (sd : SD) (k j n : Nat) (f : Nat → Int32) : SD := fun k' j' t' => if k' = k ∧ j' = j ∧ t' < n then f t' else sd k' j' t'
