section
/-! sandbox for layer 2: the forms that the pure functions need, as the parts 10, 11, 12 of whole have them -/
abbrev SD : Type := Nat → Nat → Nat → Int32
def upS (sd : SD) (k j t : Nat) (v : Int32) : SD := fun k' j' t' => if k' = k ∧ j' = j ∧ t' = t then v else sd k' j' t'
abbrev CT : Type := (Nat → SD) × SD × (Nat → Int64) × SD × SD × (Nat → Option Nat) × SD × (Nat × Nat × Option Nat) × (List Nat × Nat)
abbrev MT : Type := SD × (Nat → Int64) × Int64
abbrev k_xs (c : CT) : Nat → SD := c.1
abbrev k_rd (c : CT) : SD := c.2.1
abbrev k_rn (c : CT) : Nat → Int64 := c.2.2.1
abbrev k_pd (c : CT) : SD := c.2.2.2.1
abbrev k_hd (c : CT) : SD := c.2.2.2.2.1
abbrev k_hz (c : CT) : Nat → Option Nat := c.2.2.2.2.2.1
abbrev k_jd (c : CT) : SD := c.2.2.2.2.2.2.1
abbrev k_st (c : CT) : Nat := c.2.2.2.2.2.2.2.1.1
abbrev k_sp (c : CT) : Nat := c.2.2.2.2.2.2.2.1.2.1
abbrev k_pl (c : CT) : Option Nat := c.2.2.2.2.2.2.2.1.2.2
abbrev k_S (c : CT) : List Nat := c.2.2.2.2.2.2.2.2.1
abbrev k_sz (c : CT) : Nat := c.2.2.2.2.2.2.2.2.2
abbrev kS (c : CT) (i : Nat) (sd : SD) : CT := (va_up c.1 i sd, c.2)
abbrev kR (c : CT) (rd : SD) (rn : Nat → Int64) : CT := (c.1, rd, rn, c.2.2.2)
abbrev kP (c : CT) (pd : SD) : CT := (c.1, c.2.1, c.2.2.1, pd, c.2.2.2.2)
abbrev kH (c : CT) (hd : SD) (hz : Nat → Option Nat) : CT := (c.1, c.2.1, c.2.2.1, c.2.2.2.1, hd, hz, c.2.2.2.2.2.2)
abbrev kJ (c : CT) (jd : SD) : CT := (c.1, c.2.1, c.2.2.1, c.2.2.2.1, c.2.2.2.2.1, c.2.2.2.2.2.1, jd, c.2.2.2.2.2.2.2)
abbrev kZ (c : CT) (z : Nat × Nat × Option Nat) : CT := (c.1, c.2.1, c.2.2.1, c.2.2.2.1, c.2.2.2.2.1, c.2.2.2.2.2.1, c.2.2.2.2.2.2.1, z, c.2.2.2.2.2.2.2.2)
abbrev kA (c : CT) (a : List Nat × Nat) : CT := (c.1, c.2.1, c.2.2.1, c.2.2.2.1, c.2.2.2.2.1, c.2.2.2.2.2.1, c.2.2.2.2.2.2.1, c.2.2.2.2.2.2.2.1, a)
def slen : List Nat := [5, 5, 4, 7, 3, 4, 5]
def sbyt : List (List Int32) := [[115, 108, 111, 116, 115], [100, 114, 105, 118, 101], [116, 105, 109, 101], [112, 108, 97, 116, 116, 101, 114], [98, 97, 100], [102, 105, 108, 101], [99, 108, 111, 115, 101]]
def x_let {α β : Type} (a : α) (f : α → β) : β := f a
theorem x_letE {α β : Type} {a : α} {f : α → β} {r : β} (h : x_let a f = r) : ∃ b, b = a ∧ f b = r := ⟨a, rfl, h⟩
def x_bind {α β : Type} (a : Option α) (f : α → Option β) : Option β := match a with
  | some x => f x
  | none => none
theorem x_bindE {α β : Type} {a : Option α} {f : α → Option β} {r : β} (h : x_bind a f = some r) : ∃ x, a = some x ∧ f x = some r := by
  cases a with
  | none => cases h
  | some x => exact ⟨x, rfl, h⟩
theorem x_bind_some {α β : Type} (x : α) (f : α → Option β) : x_bind (some x) f = f x := rfl
noncomputable def x_guard {β : Type} (P : Prop) (a : Option β) : Option β := by
  classical
  exact if P then a else none
theorem x_guard_pos {β : Type} {P : Prop} (h : P) (a : Option β) : x_guard P a = a := by simp [x_guard, h]
theorem x_guardE {β : Type} {P : Prop} {a : Option β} {r : β} (h : x_guard P a = some r) : P ∧ a = some r := by
  by_cases hP : P
  · rw [x_guard_pos hP] at h; exact ⟨hP, h⟩
  · simp [x_guard, hP] at h
theorem x_lt {q : Int32} {n : Nat} (h : vp_in q n) : q.toNatClampNeg < n := Nat.not_le.mp fun z => h (Or.inr z)
theorem x_iteT {β : Type} {P : Prop} [Decidable P] {a b : Option β} {r : β} (h : (if P then a else b) = some r) (hp : P) : a = some r := by rwa [if_pos hp] at h
theorem x_iteF {β : Type} {P : Prop} [Decidable P] {a b : Option β} {r : β} (h : (if P then a else b) = some r) (hp : ¬ P) : b = some r := by rwa [if_neg hp] at h
def fuel : Nat := 20000
def cpS (sd : SD) (k j n : Nat) (f : Nat → Int32) : SD := fun k' j' t' => if k' = k ∧ j' = j ∧ t' < n then f t' else sd k' j' t'
end
section
/-! the pure functions of the methods, by program out of the bytecode -/
noncomputable def f_X0_copyFrom (sd : SD) (so : SD) (j : Nat) (j2 : Nat) : Option SD := x_let (upS sd 0 j 0 (so 0 j2 0)) fun (sd1 : SD) => x_let (upS sd1 0 j 1 (so 0 j2 1)) fun (sd2 : SD) => x_let (upS sd2 0 j 2 (so 0 j2 2)) fun (sd3 : SD) => some (sd3)
noncomputable def f_X1_forgetAll (hd : SD) : Option SD := x_let (upS hd 1 0 2 (0 : Int32)) fun (hd1 : SD) => some (hd1)
noncomputable def f_X4_putTimes (sd : SD) (a1 : Int32) (a2 : Int32) (a3 : Int32) (a4 : Int32) (a5 : Int32) : Option SD := x_let (upS sd 10 0 0 a1) fun (sd1 : SD) => x_let (upS sd1 10 0 1 a2) fun (sd2 : SD) => x_let (upS sd2 10 0 2 a3) fun (sd3 : SD) => x_let (upS sd3 10 0 3 a4) fun (sd4 : SD) => x_let (upS sd4 10 0 4 a5) fun (sd5 : SD) => some (sd5)
noncomputable def f_X4_beginEmpty (sd : SD) : Option SD := x_let (upS sd 4 0 0 (12 : Int32)) fun (sd1 : SD) => x_bind (f_X4_putTimes sd1 (1 : Int32) (2 : Int32) (5 : Int32) (1 : Int32) (3 : Int32)) fun (q2 : SD) => x_let (upS q2 4 0 3 (0 : Int32)) fun (sd3 : SD) => x_let (upS sd3 4 0 4 (0 : Int32)) fun (sd4 : SD) => x_let (upS sd4 4 0 6 (0 : Int32)) fun (sd5 : SD) => x_let (upS sd5 4 0 7 (0 : Int32)) fun (sd6 : SD) => x_let (upS sd6 4 0 9 (0 : Int32)) fun (sd7 : SD) => x_let (upS sd7 4 0 11 (0 : Int32)) fun (sd8 : SD) => x_let (upS sd8 4 0 13 (0 : Int32)) fun (sd9 : SD) => x_let (upS sd9 4 0 14 (0 : Int32)) fun (sd10 : SD) => x_let (upS sd10 4 0 15 (0 : Int32)) fun (sd11 : SD) => x_let (upS sd11 4 0 16 (0 : Int32)) fun (sd12 : SD) => x_let (upS sd12 4 0 17 (0 : Int32)) fun (sd13 : SD) => some (sd13)
noncomputable def f_X3_copyFrom (sd : SD) (so : SD) (j : Nat) (j2 : Nat) : Option SD := x_let (upS sd 3 j 0 (so 3 j2 0)) fun (sd1 : SD) => x_let (upS sd1 3 j 1 (so 3 j2 1)) fun (sd2 : SD) => x_let (upS sd2 3 j 2 (so 3 j2 2)) fun (sd3 : SD) => x_let (upS sd3 3 j 3 (so 3 j2 3)) fun (sd4 : SD) => x_let (upS sd4 3 j 4 (so 3 j2 4)) fun (sd5 : SD) => x_guard ((so 3 j2 5) = 0 ∨ (so 3 j2 5) = 1) <| x_let (upS sd5 3 j 5 (so 3 j2 5)) fun (sd7 : SD) => x_let (cpS sd7 16 j 8 (so 16 j2)) fun (sd8 : SD) => x_let (cpS sd8 17 j 8 (so 17 j2)) fun (sd9 : SD) => x_let (cpS sd9 18 j 10 (so 18 j2)) fun (sd10 : SD) => some (sd10)
noncomputable def f_X6_copyFrom (sd : SD) (so : SD) (j : Nat) (j2 : Nat) : Option SD := x_let (upS sd 6 j 0 (so 6 j2 0)) fun (sd1 : SD) => x_let (upS sd1 6 j 1 (so 6 j2 1)) fun (sd2 : SD) => x_let (upS sd2 6 j 2 (so 6 j2 2)) fun (sd3 : SD) => x_let (upS sd3 6 j 3 (so 6 j2 3)) fun (sd4 : SD) => x_let (upS sd4 6 j 4 (so 6 j2 4)) fun (sd5 : SD) => x_let (upS sd5 6 j 5 (so 6 j2 5)) fun (sd6 : SD) => x_guard ((so 6 j2 6) = 0 ∨ (so 6 j2 6) = 1) <| x_let (upS sd6 6 j 6 (so 6 j2 6)) fun (sd8 : SD) => some (sd8)
noncomputable def f_X4_copyFrom_L126 (so : SD) : Nat → Int32 → SD → Option SD
  | 0, _, _ => none
  | n_126 + 1, v2_126, sd_126 => (if (sd_126 4 0 9) ≤ v2_126 then x_let (cpS sd_126 14 0 20 (so 14 0)) fun (sd8 : SD) => x_let (upS sd8 4 0 11 (so 4 0 11)) fun (sd9 : SD) => x_let (cpS sd9 15 0 16 (so 15 0)) fun (sd10 : SD) => x_let (upS sd10 4 0 13 (so 4 0 13)) fun (sd11 : SD) => x_let (upS sd11 4 0 14 (so 4 0 14)) fun (sd12 : SD) => x_let (upS sd12 4 0 15 (so 4 0 15)) fun (sd13 : SD) => x_let (upS sd13 4 0 16 (so 4 0 16)) fun (sd14 : SD) => x_let (upS sd14 4 0 17 (so 4 0 17)) fun (sd15 : SD) => some (sd15) else x_guard (vp_in v2_126 40) <| x_guard (vp_in v2_126 40) <| x_bind (f_X6_copyFrom sd_126 so ((v2_126).toNatClampNeg) ((v2_126).toNatClampNeg)) fun (q18 : SD) => x_let (v2_126 + (1 : Int32)) fun (x19 : Int32) => f_X4_copyFrom_L126 so n_126 (x19) (q18))
noncomputable def f_X4_copyFrom_L79 (so : SD) : Nat → Int32 → SD → Option SD
  | 0, _, _ => none
  | n_79 + 1, v2_79, sd_79 => (if (sd_79 4 0 6) ≤ v2_79 then x_let (upS sd_79 4 0 7 (so 4 0 7)) fun (sd6 : SD) => x_let (upS sd6 4 0 9 (so 4 0 9)) fun (sd7 : SD) => f_X4_copyFrom_L126 so fuel ((0 : Int32)) (sd7) else x_guard (vp_in v2_79 10) <| x_guard (vp_in v2_79 10) <| x_bind (f_X3_copyFrom sd_79 so ((v2_79).toNatClampNeg) ((v2_79).toNatClampNeg)) fun (q22 : SD) => x_let (v2_79 + (1 : Int32)) fun (x23 : Int32) => f_X4_copyFrom_L79 so n_79 (x23) (q22))
noncomputable def f_X4_copyFrom_L32 (so : SD) : Nat → Int32 → SD → Option SD
  | 0, _, _ => none
  | n_32 + 1, v2_32, sd_32 => (if (sd_32 4 0 3) ≤ v2_32 then x_let (upS sd_32 4 0 4 (so 4 0 4)) fun (sd4 : SD) => x_let (upS sd4 4 0 6 (so 4 0 6)) fun (sd5 : SD) => f_X4_copyFrom_L79 so fuel ((0 : Int32)) (sd5) else x_guard (vp_in v2_32 4) <| x_guard (vp_in v2_32 4) <| x_bind (f_X0_copyFrom sd_32 so ((v2_32).toNatClampNeg) ((v2_32).toNatClampNeg)) fun (q26 : SD) => x_let (v2_32 + (1 : Int32)) fun (x27 : Int32) => f_X4_copyFrom_L32 so n_32 (x27) (q26))
noncomputable def f_X4_copyFrom (sd : SD) (so : SD) : Option SD := x_let (upS sd 4 0 0 (so 4 0 0)) fun (sd1 : SD) => x_let (cpS sd1 10 0 5 (so 10 0)) fun (sd2 : SD) => x_let (upS sd2 4 0 3 (so 4 0 3)) fun (sd3 : SD) => f_X4_copyFrom_L32 so fuel ((0 : Int32)) (sd3)
noncomputable def f_X2_forgetTable (pd : SD) : Option SD := x_let (upS pd 2 0 5 (-1 : Int32)) fun (pd1 : SD) => some (pd1)
noncomputable def f_X4_currentVersion (sd : SD) (a1 : Int32) : Option Nat := x_guard (vp_in a1 20) <| x_guard (vp_in (sd 14 0 (a1).toNatClampNeg) 40) <| some (((sd 14 0 (a1).toNatClampNeg)).toNatClampNeg)
noncomputable def f_X4_driveHolding_L2 (sd : SD) (a1 : Int32) : Nat → Int32 → Option Int32
  | 0, _ => none
  | n_2 + 1, v2_2 => (if (sd 4 0 3) ≤ v2_2 then some ((-1 : Int32)) else x_guard (vp_in v2_2 4) <| (if (sd 0 (v2_2).toNatClampNeg 1) = a1 then some (v2_2) else x_let (v2_2 + (1 : Int32)) fun (x2 : Int32) => f_X4_driveHolding_L2 sd a1 n_2 (x2)))
noncomputable def f_X4_driveHolding (sd : SD) (a1 : Int32) : Option Int32 := f_X4_driveHolding_L2 sd a1 fuel ((0 : Int32))
noncomputable def f_X4_awayPlatters_L4 (sd : SD) (a1 : Int32) : Nat → Int32 → Int32 → Option Int32
  | 0, _, _ => none
  | n_4 + 1, v2_4, v3_4 => (if (sd 4 0 13) ≤ v3_4 then some (v2_4) else x_guard (vp_in v3_4 16) <| x_bind (f_X4_currentVersion sd ((sd 15 0 (v3_4).toNatClampNeg))) fun (q2 : Nat) => x_let ((sd 6 q2 1)) fun (x3 : Int32) => (if v3_4 = a1 then x_let (v3_4 + (1 : Int32)) fun (x4 : Int32) => f_X4_awayPlatters_L4 sd a1 n_4 (v2_4) (x4) else x_bind (f_X4_driveHolding sd x3) fun (q5 : Int32) => (if q5 = (-1 : Int32) then x_let ((v2_4 ||| ((1 : Int32) <<< (x3 &&& 31)))) fun (x7 : Int32) => x_let (v3_4 + (1 : Int32)) fun (x8 : Int32) => f_X4_awayPlatters_L4 sd a1 n_4 (x7) (x8) else x_let (v3_4 + (1 : Int32)) fun (x6 : Int32) => f_X4_awayPlatters_L4 sd a1 n_4 (v2_4) (x6))))
noncomputable def f_X4_awayPlatters (sd : SD) (a1 : Int32) : Option Int32 := f_X4_awayPlatters_L4 sd a1 fuel ((0 : Int32)) ((0 : Int32))
noncomputable def f_X4_driveForAway_L7 (sd : SD) (a1 : Int32) : Nat → Int32 → Int32 → Int32 → Option Int32
  | 0, _, _, _ => none
  | n_7 + 1, v2_7, v3_7, v4_7 => (if (sd 4 0 3) ≤ v4_7 then some (v2_7) else x_guard (vp_in v4_7 4) <| (if (sd 0 (v4_7).toNatClampNeg 1) = (-1 : Int32) then some (v4_7) else (x_let (fun (y3 : Int32) => ((x_let (fun (_u : Unit) => (x_let (v4_7 + (1 : Int32)) fun (x5 : Int32) => f_X4_driveForAway_L7 sd a1 n_7 (v4_7) (y3) (x5) : Option Int32)) fun K4 => (if v2_7 = (-1 : Int32) then K4 (()) else (if v3_7 ≤ y3 then x_let (v4_7 + (1 : Int32)) fun (x6 : Int32) => f_X4_driveForAway_L7 sd a1 n_7 (v2_7) (v3_7) (x6) else K4 (())))) : Option Int32)) fun K2 => (if ((a1 >>> (v4_7 &&& 31)) &&& (1 : Int32)) = 0 then x_guard (vp_in v4_7 4) <| K2 ((sd 0 (v4_7).toNatClampNeg 2)) else K2 ((((sd 4 0 4) + (1 : Int32)) + v4_7))))))
noncomputable def f_X4_driveForAway (sd : SD) (a1 : Int32) : Option Int32 := f_X4_driveForAway_L7 sd a1 fuel ((-1 : Int32)) ((0 : Int32)) ((0 : Int32))
noncomputable def f_X4_driveAfterReading_L4 (sd : SD) (a1 : Int32) : Nat → Int32 → Int32 → Option Int32
  | 0, _, _ => none
  | n_4 + 1, v2_4, v3_4 => (if (sd 4 0 13) ≤ v3_4 then x_bind (f_X4_driveForAway sd v2_4) fun (q1 : Int32) => some (q1) else x_guard (vp_in v3_4 16) <| x_bind (f_X4_currentVersion sd ((sd 15 0 (v3_4).toNatClampNeg))) fun (q3 : Nat) => x_bind (f_X4_driveHolding sd ((sd 6 q3 1))) fun (q4 : Int32) => (if v3_4 = a1 then x_let (v3_4 + (1 : Int32)) fun (x5 : Int32) => f_X4_driveAfterReading_L4 sd a1 n_4 (v2_4) (x5) else (if q4 = (-1 : Int32) then x_let (v3_4 + (1 : Int32)) fun (x6 : Int32) => f_X4_driveAfterReading_L4 sd a1 n_4 (v2_4) (x6) else x_let ((v2_4 ||| ((1 : Int32) <<< (q4 &&& 31)))) fun (x7 : Int32) => x_let (v3_4 + (1 : Int32)) fun (x8 : Int32) => f_X4_driveAfterReading_L4 sd a1 n_4 (x7) (x8))))
noncomputable def f_X4_driveAfterReading (sd : SD) (a1 : Int32) : Option Int32 := f_X4_driveAfterReading_L4 sd a1 fuel ((0 : Int32)) ((0 : Int32))
noncomputable def f_X4_hasDrive (sd : SD) (a1 : Int32) : Option Int32 := (if a1 < 0 then some ((0 : Int32)) else (if (sd 4 0 3) ≤ a1 then some ((0 : Int32)) else some ((1 : Int32))))
noncomputable def f_X2_fillSwap_L54 (sd : SD) (x2 : Int32) (x5 : Int32) (v5_30 : Int32) (x3 : Int32) : Nat → Int32 → SD → Option (Int32 × SD)
  | 0, _, _ => none
  | n_54 + 1, v7_54, pd_54 => (if (sd 4 0 6) ≤ v7_54 then some (v7_54, pd_54) else x_guard (vp_in v7_54 10) <| x_let ((sd 3 (v7_54).toNatClampNeg 0)) fun (x8 : Int32) => x_let ((((if 0 ≤ (x2 - x5) then (x2 - x5) else 0 - (x2 - x5)) + (if 0 ≤ (x5 - x8) then (x5 - x8) else 0 - (x5 - x8))) + (if 0 ≤ (x8 - x2) then (x8 - x2) else 0 - (x8 - x2)))) fun (x9 : Int32) => x_guard (vp_in ((v5_30 * (10 : Int32)) + v7_54) 100) <| x_let (upS pd_54 24 0 (((v5_30 * (10 : Int32)) + v7_54)).toNatClampNeg ((x9 * (sd 10 0 0)) + x3)) fun (pd11 : SD) => x_let (v7_54 + (1 : Int32)) fun (x12 : Int32) => f_X2_fillSwap_L54 sd x2 x5 v5_30 x3 n_54 (x12) (pd11))
noncomputable def f_X2_fillSwap_L30 (sd : SD) (x2 : Int32) (x3 : Int32) : Nat → Int32 → SD → Option SD
  | 0, _, _ => none
  | n_30 + 1, v5_30, pd_30 => (if (sd 4 0 6) ≤ v5_30 then some (pd_30) else x_guard (vp_in v5_30 10) <| x_let ((sd 3 (v5_30).toNatClampNeg 0)) fun (x5 : Int32) => x_bind (f_X2_fillSwap_L54 sd x2 x5 v5_30 x3 fuel ((0 : Int32)) (pd_30)) fun (q6 : (Int32 × SD)) => x_let (v5_30 + (1 : Int32)) fun (x13 : Int32) => f_X2_fillSwap_L30 sd x2 x3 n_30 (x13) (q6.2))
noncomputable def f_X2_fillSwap (sd : SD) (pd : SD) (a2 : Int32) : Option SD := x_guard (vp_in a2 4) <| x_let ((sd 0 (a2).toNatClampNeg 0)) fun (x2 : Int32) => x_let ((((4 : Int32) * (sd 10 0 1)) + (sd 10 0 2))) fun (x3 : Int32) => f_X2_fillSwap_L30 sd x2 x3 fuel ((0 : Int32)) (pd)
noncomputable def f_X2_restAfter_L12 (a2 : Int32) (pd : SD) (a1 : Int32) : Nat → Int32 → Int32 → Option Int32
  | 0, _, _ => none
  | n_12 + 1, v3_12, v4_12 => (if (10 : Int32) ≤ v4_12 then some (v3_12) else (if ((a2 >>> (v4_12 &&& 31)) &&& (1 : Int32)) = 0 then x_let (v4_12 + (1 : Int32)) fun (x1 : Int32) => f_X2_restAfter_L12 a2 pd a1 n_12 (v3_12) (x1) else x_guard (vp_in (((a2 ^^^ ((1 : Int32) <<< (v4_12 &&& 31))) * (10 : Int32)) + v4_12) 10240) <| x_let ((pd 23 0 ((((a2 ^^^ ((1 : Int32) <<< (v4_12 &&& 31))) * (10 : Int32)) + v4_12)).toNatClampNeg)) fun (x3 : Int32) => x_guard (vp_in ((a1 * (10 : Int32)) + v4_12) 100) <| x_let ((if ((pd 24 0 (((a1 * (10 : Int32)) + v4_12)).toNatClampNeg) + x3) < v3_12 then ((pd 24 0 (((a1 * (10 : Int32)) + v4_12)).toNatClampNeg) + x3) else v3_12)) fun (x5 : Int32) => x_let (v4_12 + (1 : Int32)) fun (x6 : Int32) => f_X2_restAfter_L12 a2 pd a1 n_12 (x5) (x6)))
noncomputable def f_X2_restAfter (pd : SD) (a1 : Int32) (a2 : Int32) : Option Int32 := (if a2 = 0 then some ((0 : Int32)) else f_X2_restAfter_L12 a2 pd a1 fuel ((2147483647 : Int32)) ((0 : Int32)))
noncomputable def f_X2_fillRest_L17 (a1 : Int32) (v2_2 : Int32) : Nat → Int32 → SD → Option (Int32 × SD)
  | 0, _, _ => none
  | n_17 + 1, v3_17, pd_17 => (if (10 : Int32) ≤ v3_17 then some (v3_17, pd_17) else (if ((a1 >>> (v3_17 &&& 31)) &&& (1 : Int32)) = 0 then x_let (v3_17 + (1 : Int32)) fun (x3 : Int32) => f_X2_fillRest_L17 a1 v2_2 n_17 (x3) (pd_17) else (if ((v2_2 >>> (v3_17 &&& 31)) &&& (1 : Int32)) = 0 then x_bind (f_X2_restAfter pd_17 v3_17 v2_2) fun (q5 : Int32) => x_guard (vp_in ((v2_2 * (10 : Int32)) + v3_17) 10240) <| x_let (upS pd_17 23 0 (((v2_2 * (10 : Int32)) + v3_17)).toNatClampNeg q5) fun (pd7 : SD) => x_let (v3_17 + (1 : Int32)) fun (x8 : Int32) => f_X2_fillRest_L17 a1 v2_2 n_17 (x8) (pd7) else x_let (v3_17 + (1 : Int32)) fun (x4 : Int32) => f_X2_fillRest_L17 a1 v2_2 n_17 (x4) (pd_17))))
noncomputable def f_X2_fillRest_L2 (a1 : Int32) : Nat → Int32 → SD → Option SD
  | 0, _, _ => none
  | n_2 + 1, v2_2, pd_2 => (if a1 ≤ v2_2 then some (pd_2) else (if (v2_2 &&& (a1 ^^^ (-1 : Int32))) = 0 then x_bind (f_X2_fillRest_L17 a1 v2_2 fuel ((0 : Int32)) (pd_2)) fun (q2 : (Int32 × SD)) => x_let (v2_2 + (1 : Int32)) fun (x9 : Int32) => f_X2_fillRest_L2 a1 n_2 (x9) (q2.2) else x_let (v2_2 + (1 : Int32)) fun (x1 : Int32) => f_X2_fillRest_L2 a1 n_2 (x1) (pd_2)))
noncomputable def f_X2_fillRest (pd : SD) (a1 : Int32) : Option SD := f_X2_fillRest_L2 a1 fuel ((0 : Int32)) (pd)
noncomputable def f_X4_bringMoves (sd : SD) (a1 : Int32) (a2 : Int32) : Option Int32 := x_guard (vp_in a2 4) <| x_let ((sd 0 (a2).toNatClampNeg 0)) fun (x2 : Int32) => x_guard (vp_in a2 4) <| x_let ((sd 0 (a2).toNatClampNeg 1)) fun (x4 : Int32) => x_let ((sd 4 0 14)) fun (x5 : Int32) => (x_let (fun (y7 : Int32) (y8 : Int32) => (x_guard (vp_in a1 10) <| x_let ((sd 3 (a1).toNatClampNeg 0)) fun (x10 : Int32) => some (((y8 + (if 0 ≤ (y7 - x10) then (y7 - x10) else 0 - (y7 - x10))) + (if 0 ≤ (x10 - x2) then (x10 - x2) else 0 - (x10 - x2)))) : Option Int32)) fun K6 => (if x4 = (-1 : Int32) then K6 (x5) ((0 : Int32)) else x_guard (vp_in x4 10) <| x_let ((sd 3 (x4).toNatClampNeg 0)) fun (x12 : Int32) => x_let (((if 0 ≤ (x5 - x2) then (x5 - x2) else 0 - (x5 - x2)) + (if 0 ≤ (x2 - x12) then (x2 - x12) else 0 - (x2 - x12)))) fun (x13 : Int32) => K6 (x12) (x13)))
noncomputable def f_X4_bringTime (sd : SD) (a1 : Int32) (a2 : Int32) : Option Int32 := x_guard (vp_in a2 4) <| x_let ((sd 0 (a2).toNatClampNeg 1)) fun (x2 : Int32) => (if x2 = a1 then some ((0 : Int32)) else (x_let (fun (y4 : Int32) => (x_bind (f_X4_bringMoves sd a1 a2) fun (q5 : Int32) => some ((((q5 * (sd 10 0 0)) + (y4 * (sd 10 0 1))) + (sd 10 0 2))) : Option Int32)) fun K3 => (if x2 = (-1 : Int32) then K3 ((2 : Int32)) else K3 ((4 : Int32)))))
noncomputable def f_X2_leastTime_L61 (pd3 : SD) (a3 : Int32) (sd : SD) (a2 : Int32) : Nat → Int32 → Int32 → Option (Int32 × SD)
  | 0, _, _ => none
  | n_61 + 1, v4_61, v5_61 => (if (10 : Int32) ≤ v5_61 then some (v4_61, pd3) else (if ((a3 >>> (v5_61 &&& 31)) &&& (1 : Int32)) = 0 then x_let (v5_61 + (1 : Int32)) fun (x4 : Int32) => f_X2_leastTime_L61 pd3 a3 sd a2 n_61 (v4_61) (x4) else x_guard (vp_in (((a3 ^^^ ((1 : Int32) <<< (v5_61 &&& 31))) * (10 : Int32)) + v5_61) 10240) <| x_let ((pd3 23 0 ((((a3 ^^^ ((1 : Int32) <<< (v5_61 &&& 31))) * (10 : Int32)) + v5_61)).toNatClampNeg)) fun (x6 : Int32) => x_bind (f_X4_bringTime sd v5_61 a2) fun (q7 : Int32) => x_let ((if (q7 + x6) < v4_61 then (q7 + x6) else v4_61)) fun (x8 : Int32) => x_let (v5_61 + (1 : Int32)) fun (x9 : Int32) => f_X2_leastTime_L61 pd3 a3 sd a2 n_61 (x8) (x9)))
noncomputable def f_X2_leastTime (sd : SD) (pd : SD) (a2 : Int32) (a3 : Int32) : Option (Int32 × SD) := (if a3 = 0 then some ((0 : Int32), pd) else x_bind (f_X4_hasDrive sd a2) fun (q1 : Int32) => (if q1 = 0 then some ((0 : Int32), pd) else (x_let (fun (pd3 : SD) => (f_X2_leastTime_L61 pd3 a3 sd a2 fuel ((2147483647 : Int32)) ((0 : Int32)) : Option (Int32 × SD))) fun K2 => (x_let (fun (_u : Unit) => (x_bind (f_X2_fillSwap sd pd a2) fun (q11 : SD) => x_bind (f_X2_fillRest q11 a3) fun (q12 : SD) => x_let (upS q12 2 0 5 a2) fun (pd13 : SD) => x_let (upS pd13 2 0 6 a3) fun (pd14 : SD) => K2 (pd14) : Option (Int32 × SD))) fun K10 => (if (pd 2 0 5) = a2 then (if (a3 &&& ((pd 2 0 6) ^^^ (-1 : Int32))) = 0 then K2 (pd) else K10 (())) else K10 (()))))))
noncomputable def f_X4_sectorsReadTime (sd : SD) (j1 : Nat) : Option Int32 := some (((sd 10 0 3) * ((sd 6 j1 3) + (sd 6 j1 5))))
noncomputable def f_X4_requestsReadTime_L4 (sd : SD) (a1 : Int32) : Nat → Int32 → Int32 → Option Int32
  | 0, _, _ => none
  | n_4 + 1, v2_4, v3_4 => (if (sd 4 0 13) ≤ v3_4 then some (v2_4) else (if v3_4 = a1 then x_let (v3_4 + (1 : Int32)) fun (x1 : Int32) => f_X4_requestsReadTime_L4 sd a1 n_4 (v2_4) (x1) else x_guard (vp_in v3_4 16) <| x_bind (f_X4_currentVersion sd ((sd 15 0 (v3_4).toNatClampNeg))) fun (q3 : Nat) => x_bind (f_X4_sectorsReadTime sd q3) fun (q4 : Int32) => x_let ((v2_4 + q4)) fun (x5 : Int32) => x_let (v3_4 + (1 : Int32)) fun (x6 : Int32) => f_X4_requestsReadTime_L4 sd a1 n_4 (x5) (x6)))
noncomputable def f_X4_requestsReadTime (sd : SD) (a1 : Int32) : Option Int32 := f_X4_requestsReadTime_L4 sd a1 fuel ((0 : Int32)) ((0 : Int32))
noncomputable def f_X2_timeWithout (sd : SD) (pd : SD) (a2 : Int32) : Option (Int32 × SD) := x_bind (f_X4_awayPlatters sd a2) fun (q1 : Int32) => x_bind (f_X4_driveAfterReading sd a2) fun (q2 : Int32) => x_bind (f_X2_leastTime sd pd q2 q1) fun (q3 : (Int32 × SD)) => x_let (q3.1) fun (x4 : Int32) => x_bind (f_X4_requestsReadTime sd a2) fun (q5 : Int32) => some ((q5 + x4), q3.2)
noncomputable def f_X2_stepTime (sd : SD) (pd : SD) (a2 : Int32) (a3 : Int32) : Option Int32 := (if a2 = (-1 : Int32) then x_bind (f_X4_bringTime sd a3 ((pd 2 0 4))) fun (q2 : Int32) => some (q2) else x_guard (vp_in ((a2 * (10 : Int32)) + a3) 100) <| some ((pd 24 0 (((a2 * (10 : Int32)) + a3)).toNatClampNeg)))
noncomputable def f_X2_lowestNext_L3 (a3 : Int32) (sd : SD) (pd : SD) (a2 : Int32) (a4 : Int32) : Nat → Int32 → Option Int32
  | 0, _ => none
  | n_3 + 1, v5_3 => (if (10 : Int32) ≤ v5_3 then some ((-1 : Int32)) else (if ((a3 >>> (v5_3 &&& 31)) &&& (1 : Int32)) = 0 then x_let (v5_3 + (1 : Int32)) fun (x1 : Int32) => f_X2_lowestNext_L3 a3 sd pd a2 a4 n_3 (x1) else x_bind (f_X2_stepTime sd pd a2 v5_3) fun (q2 : Int32) => x_guard (vp_in (((a3 ^^^ ((1 : Int32) <<< (v5_3 &&& 31))) * (10 : Int32)) + v5_3) 10240) <| (if (q2 + (pd 23 0 ((((a3 ^^^ ((1 : Int32) <<< (v5_3 &&& 31))) * (10 : Int32)) + v5_3)).toNatClampNeg)) = a4 then some (v5_3) else x_let (v5_3 + (1 : Int32)) fun (x4 : Int32) => f_X2_lowestNext_L3 a3 sd pd a2 a4 n_3 (x4))))
noncomputable def f_X2_lowestNext (sd : SD) (pd : SD) (a2 : Int32) (a3 : Int32) (a4 : Int32) : Option Int32 := f_X2_lowestNext_L3 a3 sd pd a2 a4 fuel ((0 : Int32))
noncomputable def f_X2_planOrder_L49 (sd : SD) : Nat → Int32 → Int32 → Int32 → Int32 → SD → Option SD
  | 0, _, _, _, _, _ => none
  | n_49 + 1, v2_49, v3_49, v4_49, v5_49, pd_49 => (if (10 : Int32) ≤ v5_49 then some (pd_49) else (if v2_49 = 0 then some (pd_49) else x_bind (f_X2_lowestNext sd pd_49 v4_49 v2_49 v3_49) fun (q8 : Int32) => (if q8 = (-1 : Int32) then some (pd_49) else x_let ((v2_49 ^^^ ((1 : Int32) <<< (q8 &&& 31)))) fun (x9 : Int32) => x_guard (vp_in ((x9 * (10 : Int32)) + q8) 10240) <| x_let ((pd_49 23 0 (((x9 * (10 : Int32)) + q8)).toNatClampNeg)) fun (x11 : Int32) => x_guard (vp_in v5_49 10) <| x_let (upS pd_49 25 0 (v5_49).toNatClampNeg q8) fun (pd13 : SD) => x_let (upS pd13 2 0 3 ((pd13 2 0 3) + (1 : Int32))) fun (pd14 : SD) => x_let (v5_49 + (1 : Int32)) fun (x15 : Int32) => f_X2_planOrder_L49 sd n_49 (x9) (x11) (q8) (x15) (pd14))))
noncomputable def f_X2_planOrder (sd : SD) (pd : SD) : Option SD := x_bind (f_X4_awayPlatters sd (-1 : Int32)) fun (q1 : Int32) => x_bind (f_X4_driveAfterReading sd (-1 : Int32)) fun (q2 : Int32) => x_let (upS pd 2 0 4 q2) fun (pd3 : SD) => x_let (upS pd3 2 0 3 (0 : Int32)) fun (pd4 : SD) => x_bind (f_X4_hasDrive sd ((pd4 2 0 4))) fun (q5 : Int32) => (if q5 = 0 then some (pd4) else x_bind (f_X2_leastTime sd pd4 ((pd4 2 0 4)) q1) fun (q6 : (Int32 × SD)) => x_let (q6.1) fun (x7 : Int32) => f_X2_planOrder_L49 sd fuel (q1) (x7) ((-1 : Int32)) ((0 : Int32)) (q6.2))
noncomputable def f_X3_begin (sd : SD) (j : Nat) (a1 : Int32) (a2 : Int32) (a3 : Int32) : Option SD := x_let (upS sd 3 j 0 a1) fun (sd1 : SD) => x_let (upS sd1 3 j 1 a2) fun (sd2 : SD) => x_let (upS sd2 3 j 2 a3) fun (sd3 : SD) => x_let (upS sd3 3 j 3 (0 : Int32)) fun (sd4 : SD) => x_let (upS sd4 3 j 4 (0 : Int32)) fun (sd5 : SD) => x_let (upS sd5 3 j 5 (0 : Int32)) fun (sd6 : SD) => x_let (cpS sd6 18 j 10 (fun _ => (0 : Int32))) fun (sd7 : SD) => some (sd7)
noncomputable def f_X3_unused (sd : SD) (j : Nat) : Option Int32 := some (((sd 3 j 1) - (sd 3 j 3)))
noncomputable def f_X3_isBad (sd : SD) (j : Nat) (a1 : Int32) : Option Int32 := (if a1 < 0 then some ((0 : Int32)) else (if a1 < (300 : Int32) then x_guard (vp_in (a1 / (32 : Int32)) 10) <| (if ((((sd 18 j ((a1 / (32 : Int32))).toNatClampNeg)).toUInt32 >>> (((a1 - a1 / (32 : Int32) * (32 : Int32))).toUInt32 &&& Int32.toUInt32 31)).toInt32 &&& (1 : Int32)) = 0 then some ((0 : Int32)) else some ((1 : Int32))) else some ((0 : Int32))))
noncomputable def f_X3_setBad (sd : SD) (j : Nat) (a1 : Int32) : Option SD := (if a1 < 0 then some (sd) else (if (300 : Int32) ≤ a1 then some (sd) else x_guard (vp_in (a1 / (32 : Int32)) 10) <| x_guard (vp_in (a1 / (32 : Int32)) 10) <| x_let (upS sd 18 j ((a1 / (32 : Int32))).toNatClampNeg ((sd 18 j ((a1 / (32 : Int32))).toNatClampNeg) ||| ((1 : Int32) <<< ((a1 - a1 / (32 : Int32) * (32 : Int32)) &&& 31)))) fun (sd3 : SD) => some (sd3)))
noncomputable def f_X3_badAmongNext_L7 (sd : SD) (j : Nat) (a1 : Int32) : Nat → Int32 → Int32 → Option Int32
  | 0, _, _ => none
  | n_7 + 1, v2_7, v3_7 => (if ((sd 3 j 3) + a1) ≤ v3_7 then some (v2_7) else x_bind (f_X3_isBad sd j v3_7) fun (q2 : Int32) => (if q2 = 0 then x_let (v3_7 + (1 : Int32)) fun (x3 : Int32) => f_X3_badAmongNext_L7 sd j a1 n_7 (v2_7) (x3) else x_let (v2_7 + (1 : Int32)) fun (x4 : Int32) => x_let (v3_7 + (1 : Int32)) fun (x5 : Int32) => f_X3_badAmongNext_L7 sd j a1 n_7 (x4) (x5)))
noncomputable def f_X3_badAmongNext (sd : SD) (j : Nat) (a1 : Int32) : Option Int32 := x_let ((sd 3 j 3)) fun (x1 : Int32) => f_X3_badAmongNext_L7 sd j a1 fuel ((0 : Int32)) (x1)
noncomputable def f_X3_canTake (sd : SD) (j : Nat) (a1 : Int32) : Option Int32 := (x_let (fun (_u : Unit) => (x_bind (f_X3_unused sd j) fun (q2 : Int32) => (if q2 < a1 then some ((0 : Int32)) else x_bind (f_X3_badAmongNext sd j a1) fun (q3 : Int32) => (if (sd 3 j 2) < q3 then some ((0 : Int32)) else some ((1 : Int32)))) : Option Int32)) fun K1 => (if (sd 3 j 5) = 0 then (if (sd 3 j 4) < (8 : Int32) then K1 (()) else some ((0 : Int32))) else K1 (())))
noncomputable def f_X3_extendLastSession (sd : SD) (j : Nat) (a1 : Int32) : Option SD := (if (sd 3 j 4) ≤ 0 then some (sd) else (if (8 : Int32) < (sd 3 j 4) then some (sd) else x_guard (vp_in ((sd 3 j 4) - (1 : Int32)) 8) <| x_guard (vp_in ((sd 3 j 4) - (1 : Int32)) 8) <| x_let (upS sd 17 j (((sd 3 j 4) - (1 : Int32))).toNatClampNeg ((sd 17 j (((sd 3 j 4) - (1 : Int32))).toNatClampNeg) + a1)) fun (sd3 : SD) => x_let (upS sd3 3 j 3 ((sd3 3 j 3) + a1)) fun (sd4 : SD) => some (sd4)))
noncomputable def f_X3_takeSectors (sd : SD) (j : Nat) (a1 : Int32) (a2 : Int32) : Option SD := (x_let (fun (sd2 : SD) => (x_let (upS sd2 3 j 2 ((sd2 3 j 2) - a2)) fun (sd3 : SD) => x_bind (f_X3_extendLastSession sd3 j a1) fun (q4 : SD) => some (q4) : Option SD)) fun K1 => (if (sd 3 j 5) = 0 then (if (8 : Int32) ≤ (sd 3 j 4) then K1 (sd) else x_guard (vp_in (sd 3 j 4) 8) <| x_let (upS sd 16 j ((sd 3 j 4)).toNatClampNeg (sd 3 j 3)) fun (sd6 : SD) => x_guard (vp_in (sd6 3 j 4) 8) <| x_let (upS sd6 17 j ((sd6 3 j 4)).toNatClampNeg (0 : Int32)) fun (sd8 : SD) => x_let (upS sd8 3 j 4 ((sd8 3 j 4) + (1 : Int32))) fun (sd9 : SD) => x_let (upS sd9 3 j 5 (1 : Int32)) fun (sd10 : SD) => K1 (sd10)) else K1 (sd)))
noncomputable def f_X3_addLeadOut (sd : SD) (j : Nat) : Option (Int32 × SD) := x_bind (f_X3_unused sd j) fun (q1 : Int32) => x_let ((if q1 < (2 : Int32) then q1 else (2 : Int32))) fun (x2 : Int32) => x_bind (f_X3_extendLastSession sd j x2) fun (q3 : SD) => x_let (upS q3 3 j 5 (0 : Int32)) fun (sd4 : SD) => some (x2, sd4)
noncomputable def f_X3_isClosed (sd : SD) (j : Nat) (a1 : Int32) : Option Int32 := (if (sd 3 j 5) = 0 then some ((1 : Int32)) else (if a1 = ((sd 3 j 4) - (1 : Int32)) then some ((0 : Int32)) else some ((1 : Int32))))
noncomputable def f_X3_longestCleanRun_L9 (sd : SD) (j : Nat) : Nat → Int32 → Int32 → Int32 → Option Int32
  | 0, _, _, _ => none
  | n_9 + 1, v1_9, v2_9, v3_9 => (if (sd 3 j 1) ≤ v3_9 then some (v1_9) else x_bind (f_X3_isBad sd j v3_9) fun (q2 : Int32) => (x_let (fun (y4 : Int32) => (x_let ((if v1_9 < y4 then y4 else v1_9)) fun (x5 : Int32) => x_let (v3_9 + (1 : Int32)) fun (x6 : Int32) => f_X3_longestCleanRun_L9 sd j n_9 (x5) (y4) (x6) : Option Int32)) fun K3 => (if q2 = 0 then K3 ((v2_9 + (1 : Int32))) else K3 ((0 : Int32)))))
noncomputable def f_X3_longestCleanRun (sd : SD) (j : Nat) : Option Int32 := x_let ((sd 3 j 3)) fun (x1 : Int32) => f_X3_longestCleanRun_L9 sd j fuel ((0 : Int32)) ((0 : Int32)) (x1)
noncomputable def f_X4_hasSlot (sd : SD) (a1 : Int32) : Option Int32 := (if a1 < 0 then some ((0 : Int32)) else (if (sd 4 0 0) ≤ a1 then some ((0 : Int32)) else some ((1 : Int32))))
noncomputable def f_X4_hasPlatter (sd : SD) (a1 : Int32) : Option Int32 := (if a1 < 0 then some ((0 : Int32)) else (if (sd 4 0 6) ≤ a1 then some ((0 : Int32)) else some ((1 : Int32))))
noncomputable def f_X4_hasSession (sd : SD) (a1 : Int32) (a2 : Int32) : Option Int32 := x_bind (f_X4_hasPlatter sd a1) fun (q1 : Int32) => (if q1 = 0 then some ((0 : Int32)) else (if a2 < 0 then some ((0 : Int32)) else x_guard (vp_in a1 10) <| (if (sd 3 (a1).toNatClampNeg 4) ≤ a2 then some ((0 : Int32)) else some ((1 : Int32)))))
noncomputable def f_X4_hasSector (sd : SD) (a1 : Int32) (a2 : Int32) : Option Int32 := x_bind (f_X4_hasPlatter sd a1) fun (q1 : Int32) => (if q1 = 0 then some ((0 : Int32)) else (if a2 < 0 then some ((0 : Int32)) else x_guard (vp_in a1 10) <| (if (sd 3 (a1).toNatClampNeg 1) ≤ a2 then some ((0 : Int32)) else some ((1 : Int32)))))
noncomputable def f_X4_hasFile (sd : SD) (a1 : Int32) : Option Int32 := (if a1 < 0 then some ((0 : Int32)) else (if (sd 4 0 11) ≤ a1 then some ((0 : Int32)) else some ((1 : Int32))))
noncomputable def f_X4_hasRequest (sd : SD) (a1 : Int32) : Option Int32 := (if a1 < 0 then some ((0 : Int32)) else (if (sd 4 0 13) ≤ a1 then some ((0 : Int32)) else some ((1 : Int32))))
noncomputable def f_X4_addDrive (sd : SD) (a1 : Int32) : Option SD := (if (4 : Int32) ≤ (sd 4 0 3) then some (sd) else x_guard (vp_in (sd 4 0 3) 4) <| x_let (upS sd 0 ((sd 4 0 3)).toNatClampNeg 0 a1) fun (sd2 : SD) => x_let (upS sd2 0 ((sd 4 0 3)).toNatClampNeg 1 (-1 : Int32)) fun (sd3 : SD) => x_let (upS sd3 0 ((sd 4 0 3)).toNatClampNeg 2 (0 : Int32)) fun (sd4 : SD) => x_let (upS sd4 4 0 3 ((sd4 4 0 3) + (1 : Int32))) fun (sd5 : SD) => some (sd5))
noncomputable def f_X4_addPlatter (sd : SD) (a1 : Int32) (a2 : Int32) (a3 : Int32) : Option SD := (if (10 : Int32) ≤ (sd 4 0 6) then some (sd) else x_guard (vp_in (sd 4 0 6) 10) <| x_bind (f_X3_begin sd (((sd 4 0 6)).toNatClampNeg) a1 a2 a3) fun (q2 : SD) => x_let (upS q2 4 0 6 ((q2 4 0 6) + (1 : Int32))) fun (sd3 : SD) => some (sd3))
noncomputable def f_X4_platterWithHome_L2 (sd : SD) (a1 : Int32) : Nat → Int32 → Option Int32
  | 0, _ => none
  | n_2 + 1, v2_2 => (if (sd 4 0 6) ≤ v2_2 then some ((-1 : Int32)) else x_guard (vp_in v2_2 10) <| (if (sd 3 (v2_2).toNatClampNeg 0) = a1 then some (v2_2) else x_let (v2_2 + (1 : Int32)) fun (x2 : Int32) => f_X4_platterWithHome_L2 sd a1 n_2 (x2)))
noncomputable def f_X4_platterWithHome (sd : SD) (a1 : Int32) : Option Int32 := f_X4_platterWithHome_L2 sd a1 fuel ((0 : Int32))
noncomputable def f_X4_addVersion (sd : SD) (a1 : Int32) (a2 : Int32) (a3 : Int32) : Option SD := (if (40 : Int32) ≤ (sd 4 0 9) then some (sd) else x_bind (f_X4_hasFile sd a1) fun (q1 : Int32) => (if q1 = 0 then some (sd) else x_bind (f_X4_hasPlatter sd a3) fun (q2 : Int32) => (if q2 = 0 then some (sd) else x_guard (vp_in a3 10) <| x_guard (vp_in (sd 4 0 9) 40) <| x_let (upS sd 6 ((sd 4 0 9)).toNatClampNeg 0 a1) fun (sd5 : SD) => x_let (upS sd5 6 ((sd 4 0 9)).toNatClampNeg 1 a3) fun (sd6 : SD) => x_let (upS sd6 6 ((sd 4 0 9)).toNatClampNeg 2 (sd6 3 (a3).toNatClampNeg 3)) fun (sd7 : SD) => x_let (upS sd7 6 ((sd 4 0 9)).toNatClampNeg 3 a2) fun (sd8 : SD) => x_bind (f_X3_badAmongNext sd8 ((a3).toNatClampNeg) a2) fun (q9 : Int32) => x_let (upS sd8 6 ((sd 4 0 9)).toNatClampNeg 5 q9) fun (sd10 : SD) => x_let (upS sd10 6 ((sd 4 0 9)).toNatClampNeg 6 (0 : Int32)) fun (sd11 : SD) => x_bind (f_X3_takeSectors sd11 ((a3).toNatClampNeg) a2 ((sd11 6 ((sd 4 0 9)).toNatClampNeg 5))) fun (q12 : SD) => x_let (upS q12 6 ((sd 4 0 9)).toNatClampNeg 4 ((q12 3 (a3).toNatClampNeg 4) - (1 : Int32))) fun (sd13 : SD) => x_guard (vp_in a1 20) <| x_let (upS sd13 14 0 (a1).toNatClampNeg (sd13 4 0 9)) fun (sd15 : SD) => x_let (upS sd15 4 0 9 ((sd15 4 0 9) + (1 : Int32))) fun (sd16 : SD) => some (sd16))))
noncomputable def f_X6_holds (sd : SD) (j : Nat) (a1 : Int32) (a2 : Int32) : Option Int32 := (if (sd 6 j 1) = a1 then (if a2 < (sd 6 j 2) then some ((0 : Int32)) else (if ((sd 6 j 2) + (sd 6 j 3)) ≤ a2 then some ((0 : Int32)) else some ((1 : Int32)))) else some ((0 : Int32)))
noncomputable def f_X4_versionAt_L2 (sd : SD) (a1 : Int32) (a2 : Int32) : Nat → Int32 → Option Int32
  | 0, _ => none
  | n_2 + 1, v3_2 => (if (sd 4 0 9) ≤ v3_2 then some ((-1 : Int32)) else x_guard (vp_in v3_2 40) <| x_bind (f_X6_holds sd ((v3_2).toNatClampNeg) a1 a2) fun (q2 : Int32) => (if q2 = 0 then x_let (v3_2 + (1 : Int32)) fun (x3 : Int32) => f_X4_versionAt_L2 sd a1 a2 n_2 (x3) else some (v3_2)))
noncomputable def f_X4_versionAt (sd : SD) (a1 : Int32) (a2 : Int32) : Option Int32 := f_X4_versionAt_L2 sd a1 a2 fuel ((0 : Int32))
noncomputable def f_X4_spoil (sd : SD) (a1 : Int32) (a2 : Int32) : Option SD := x_guard (vp_in a1 10) <| x_bind (f_X3_setBad sd ((a1).toNatClampNeg) a2) fun (q2 : SD) => x_let (upS q2 4 0 7 ((q2 4 0 7) + (1 : Int32))) fun (sd3 : SD) => x_bind (f_X4_versionAt sd3 a1 a2) fun (q4 : Int32) => (if q4 = (-1 : Int32) then some (sd3) else x_guard (vp_in q4 40) <| x_let (upS sd3 6 (q4).toNatClampNeg 6 (1 : Int32)) fun (sd6 : SD) => some (sd6))
noncomputable def f_X4_isGood (sd : SD) (j1 : Nat) : Option Int32 := (if (sd 6 j1 6) = 0 then x_guard (vp_in (sd 6 j1 1) 10) <| x_bind (f_X3_isClosed sd (((sd 6 j1 1)).toNatClampNeg) ((sd 6 j1 4))) fun (q2 : Int32) => (if q2 = 0 then some ((0 : Int32)) else some ((1 : Int32))) else some ((0 : Int32)))
noncomputable def f_X4_isReadable (sd : SD) (a1 : Int32) : Option Int32 := x_bind (f_X4_currentVersion sd a1) fun (q1 : Nat) => x_bind (f_X4_isGood sd q1) fun (q2 : Int32) => x_guard (q2 = 0 ∨ q2 = 1) <| some (q2)
noncomputable def f_X4_isCurrent (sd : SD) (a1 : Int32) : Option Int32 := x_guard (vp_in a1 40) <| x_guard (vp_in (sd 6 (a1).toNatClampNeg 0) 20) <| (if (sd 14 0 ((sd 6 (a1).toNatClampNeg 0)).toNatClampNeg) = a1 then some ((1 : Int32)) else some ((0 : Int32)))
noncomputable def f_X4_kindOfSector (sd : SD) (a1 : Int32) (a2 : Int32) : Option Int32 := x_guard (vp_in a1 10) <| (x_let (fun (y3 : Int32) => (x_guard (vp_in a1 10) <| x_bind (f_X3_isBad sd ((a1).toNatClampNeg) a2) fun (q5 : Int32) => (if q5 = 0 then some (y3) else some ((y3 + (10 : Int32)))) : Option Int32)) fun K2 => (if (sd 3 (a1).toNatClampNeg 3) ≤ a2 then K2 ((0 : Int32)) else x_bind (f_X4_versionAt sd a1 a2) fun (q6 : Int32) => (x_let (fun (y8 : Int32) => (K2 (y8) : Option Int32)) fun K7 => (if q6 = (-1 : Int32) then K7 ((3 : Int32)) else x_bind (f_X4_isCurrent sd q6) fun (q9 : Int32) => (if q9 = 0 then K7 ((2 : Int32)) else K7 ((1 : Int32)))))))
noncomputable def f_X4_countStale_L4 (sd : SD) (a1 : Int32) : Nat → Int32 → Int32 → Option Int32
  | 0, _, _ => none
  | n_4 + 1, v2_4, v3_4 => (if (sd 4 0 9) ≤ v3_4 then some (v2_4) else x_guard (vp_in v3_4 40) <| (if (sd 6 (v3_4).toNatClampNeg 1) = a1 then x_bind (f_X4_isCurrent sd v3_4) fun (q3 : Int32) => (if q3 = 0 then x_guard (vp_in v3_4 40) <| x_let ((v2_4 + (sd 6 (v3_4).toNatClampNeg 3))) fun (x6 : Int32) => x_let (v3_4 + (1 : Int32)) fun (x7 : Int32) => f_X4_countStale_L4 sd a1 n_4 (x6) (x7) else x_let (v3_4 + (1 : Int32)) fun (x4 : Int32) => f_X4_countStale_L4 sd a1 n_4 (v2_4) (x4)) else x_let (v3_4 + (1 : Int32)) fun (x2 : Int32) => f_X4_countStale_L4 sd a1 n_4 (v2_4) (x2)))
noncomputable def f_X4_countStale (sd : SD) (a1 : Int32) : Option Int32 := f_X4_countStale_L4 sd a1 fuel ((0 : Int32)) ((0 : Int32))
noncomputable def f_X4_countDamaged_L4 (sd : SD) : Nat → Int32 → Int32 → Option Int32
  | 0, _, _ => none
  | n_4 + 1, v1_4, v2_4 => (if (sd 4 0 9) ≤ v2_4 then some (v1_4) else x_guard (vp_in v2_4 40) <| (if (sd 6 (v2_4).toNatClampNeg 6) = 0 then x_let (v2_4 + (1 : Int32)) fun (x2 : Int32) => f_X4_countDamaged_L4 sd n_4 (v1_4) (x2) else x_let (v1_4 + (1 : Int32)) fun (x3 : Int32) => x_let (v2_4 + (1 : Int32)) fun (x4 : Int32) => f_X4_countDamaged_L4 sd n_4 (x3) (x4)))
noncomputable def f_X4_countDamaged (sd : SD) : Option Int32 := f_X4_countDamaged_L4 sd fuel ((0 : Int32)) ((0 : Int32))
noncomputable def f_X4_countVersions_L4 (sd : SD) (a1 : Int32) : Nat → Int32 → Int32 → Option Int32
  | 0, _, _ => none
  | n_4 + 1, v2_4, v3_4 => (if (sd 4 0 9) ≤ v3_4 then some (v2_4) else x_guard (vp_in v3_4 40) <| (if (sd 6 (v3_4).toNatClampNeg 0) = a1 then x_let (v2_4 + (1 : Int32)) fun (x3 : Int32) => x_let (v3_4 + (1 : Int32)) fun (x4 : Int32) => f_X4_countVersions_L4 sd a1 n_4 (x3) (x4) else x_let (v3_4 + (1 : Int32)) fun (x2 : Int32) => f_X4_countVersions_L4 sd a1 n_4 (v2_4) (x2)))
noncomputable def f_X4_countVersions (sd : SD) (a1 : Int32) : Option Int32 := f_X4_countVersions_L4 sd a1 fuel ((0 : Int32)) ((0 : Int32))
noncomputable def f_X4_countFiles_L4 (sd : SD) (a1 : Int32) : Nat → Int32 → Int32 → Option Int32
  | 0, _, _ => none
  | n_4 + 1, v2_4, v3_4 => (if (sd 4 0 11) ≤ v3_4 then some (v2_4) else x_bind (f_X4_currentVersion sd v3_4) fun (q1 : Nat) => (if (sd 6 q1 1) = a1 then x_let (v2_4 + (1 : Int32)) fun (x3 : Int32) => x_let (v3_4 + (1 : Int32)) fun (x4 : Int32) => f_X4_countFiles_L4 sd a1 n_4 (x3) (x4) else x_let (v3_4 + (1 : Int32)) fun (x2 : Int32) => f_X4_countFiles_L4 sd a1 n_4 (v2_4) (x2)))
noncomputable def f_X4_countFiles (sd : SD) (a1 : Int32) : Option Int32 := f_X4_countFiles_L4 sd a1 fuel ((0 : Int32)) ((0 : Int32))
noncomputable def f_X4_lastGood_L7 (sd : SD) (a1 : Int32) : Nat → Int32 → Int32 → Int32 → Option Int32
  | 0, _, _, _ => none
  | n_7 + 1, v2_7, v3_7, v4_7 => (if (sd 4 0 9) ≤ v4_7 then some (v3_7) else x_guard (vp_in v4_7 40) <| (if (sd 6 (v4_7).toNatClampNeg 0) = a1 then x_guard (vp_in v4_7 40) <| x_bind (f_X4_isGood sd ((v4_7).toNatClampNeg)) fun (q4 : Int32) => (x_let (fun (y6 : Int32) => (x_let (v2_7 + (1 : Int32)) fun (x7 : Int32) => x_let (v4_7 + (1 : Int32)) fun (x8 : Int32) => f_X4_lastGood_L7 sd a1 n_7 (x7) (y6) (x8) : Option Int32)) fun K5 => (if q4 = 0 then K5 (v3_7) else K5 (v2_7))) else x_let (v4_7 + (1 : Int32)) fun (x2 : Int32) => f_X4_lastGood_L7 sd a1 n_7 (v2_7) (v3_7) (x2)))
noncomputable def f_X4_lastGood (sd : SD) (a1 : Int32) : Option Int32 := f_X4_lastGood_L7 sd a1 fuel ((0 : Int32)) ((-1 : Int32)) ((0 : Int32))
noncomputable def f_X4_driveToChoose (sd : SD) (a1 : Int32) : Option Int32 := x_bind (f_X4_driveHolding sd a1) fun (q1 : Int32) => (if q1 = (-1 : Int32) then x_bind (f_X4_driveForAway sd (0 : Int32)) fun (q2 : Int32) => some (q2) else some (q1))
noncomputable def f_X4_distanceToDrive_L5 (sd : SD) (a1 : Int32) : Nat → Int32 → Int32 → Option Int32
  | 0, _, _ => none
  | n_5 + 1, v2_5, v3_5 => (if (sd 4 0 3) ≤ v3_5 then some (v2_5) else x_guard (vp_in v3_5 4) <| x_let ((if (if 0 ≤ (a1 - (sd 0 (v3_5).toNatClampNeg 0)) then (a1 - (sd 0 (v3_5).toNatClampNeg 0)) else 0 - (a1 - (sd 0 (v3_5).toNatClampNeg 0))) < v2_5 then (if 0 ≤ (a1 - (sd 0 (v3_5).toNatClampNeg 0)) then (a1 - (sd 0 (v3_5).toNatClampNeg 0)) else 0 - (a1 - (sd 0 (v3_5).toNatClampNeg 0))) else v2_5)) fun (x2 : Int32) => x_let (v3_5 + (1 : Int32)) fun (x3 : Int32) => f_X4_distanceToDrive_L5 sd a1 n_5 (x2) (x3))
noncomputable def f_X4_distanceToDrive (sd : SD) (a1 : Int32) : Option Int32 := f_X4_distanceToDrive_L5 sd a1 fuel ((24 : Int32)) ((0 : Int32))
noncomputable def f_X4_chosenBringTime (sd : SD) (a1 : Int32) : Option Int32 := x_bind (f_X4_driveToChoose sd a1) fun (q1 : Int32) => (if q1 = (-1 : Int32) then some ((0 : Int32)) else x_bind (f_X4_bringTime sd a1 q1) fun (q2 : Int32) => some (q2))
noncomputable def f_X4_useDrive (sd : SD) (a1 : Int32) : Option SD := x_let (upS sd 4 0 4 ((sd 4 0 4) + (1 : Int32))) fun (sd1 : SD) => x_guard (vp_in a1 4) <| x_let (upS sd1 0 (a1).toNatClampNeg 2 (sd1 4 0 4)) fun (sd3 : SD) => some (sd3)
noncomputable def f_X4_bringInto (sd : SD) (a1 : Int32) (a2 : Int32) : Option SD := x_guard (vp_in a2 4) <| (x_let (fun (sd3 : SD) => (x_bind (f_X4_useDrive sd3 a2) fun (q4 : SD) => some (q4) : Option SD)) fun K2 => (if (sd 0 (a2).toNatClampNeg 1) = a1 then K2 (sd) else x_bind (f_X4_bringTime sd a1 a2) fun (q5 : Int32) => x_let (upS sd 4 0 15 ((sd 4 0 15) + q5)) fun (sd6 : SD) => x_bind (f_X4_bringMoves sd6 a1 a2) fun (q7 : Int32) => x_let (upS sd6 4 0 17 ((sd6 4 0 17) + q7)) fun (sd8 : SD) => x_guard (vp_in a2 4) <| x_let (upS sd8 4 0 14 (sd8 0 (a2).toNatClampNeg 0)) fun (sd10 : SD) => x_guard (vp_in a2 4) <| x_let (upS sd10 0 (a2).toNatClampNeg 1 a1) fun (sd12 : SD) => x_let (upS sd12 4 0 16 ((sd12 4 0 16) + (1 : Int32))) fun (sd13 : SD) => K2 (sd13)))
noncomputable def f_X4_bringToChosen (sd : SD) (a1 : Int32) : Option SD := x_bind (f_X4_driveToChoose sd a1) fun (q1 : Int32) => (if q1 = (-1 : Int32) then some (sd) else x_bind (f_X4_bringInto sd a1 q1) fun (q2 : SD) => some (q2))
noncomputable def f_X4_carryHome (sd : SD) (a1 : Int32) : Option SD := x_guard (vp_in a1 4) <| x_let ((sd 0 (a1).toNatClampNeg 1)) fun (x2 : Int32) => (if x2 = (-1 : Int32) then some (sd) else x_guard (vp_in a1 4) <| x_let ((sd 0 (a1).toNatClampNeg 0)) fun (x4 : Int32) => x_guard (vp_in x2 10) <| x_let ((sd 3 (x2).toNatClampNeg 0)) fun (x6 : Int32) => x_let (((if 0 ≤ ((sd 4 0 14) - x4) then ((sd 4 0 14) - x4) else 0 - ((sd 4 0 14) - x4)) + (if 0 ≤ (x4 - x6) then (x4 - x6) else 0 - (x4 - x6)))) fun (x7 : Int32) => x_let (upS sd 4 0 15 ((sd 4 0 15) + ((x7 * (sd 10 0 0)) + ((2 : Int32) * (sd 10 0 1))))) fun (sd8 : SD) => x_let (upS sd8 4 0 17 ((sd8 4 0 17) + x7)) fun (sd9 : SD) => x_let (upS sd9 4 0 14 x6) fun (sd10 : SD) => x_guard (vp_in a1 4) <| x_let (upS sd10 0 (a1).toNatClampNeg 1 (-1 : Int32)) fun (sd12 : SD) => some (sd12))
noncomputable def f_X4_readFile (sd : SD) (a1 : Int32) : Option SD := x_bind (f_X4_currentVersion sd a1) fun (q1 : Nat) => x_bind (f_X4_bringToChosen sd ((sd 6 q1 1))) fun (q2 : SD) => x_bind (f_X4_sectorsReadTime q2 q1) fun (q3 : Int32) => x_let (upS q2 4 0 15 ((q2 4 0 15) + q3)) fun (sd4 : SD) => some (sd4)
noncomputable def f_X4_writeVersion (sd : SD) (a1 : Int32) (a2 : Int32) (a3 : Int32) : Option SD := x_bind (f_X4_bringToChosen sd a3) fun (q1 : SD) => x_let (upS q1 4 0 15 ((q1 4 0 15) + ((q1 10 0 4) * a2))) fun (sd2 : SD) => x_bind (f_X4_addVersion sd2 a1 a2 a3) fun (q3 : SD) => some (q3)
noncomputable def f_X4_closeInDrive (sd : SD) (a1 : Int32) : Option (Int32 × SD) := x_bind (f_X4_bringToChosen sd a1) fun (q1 : SD) => x_guard (vp_in a1 10) <| x_bind (f_X3_addLeadOut q1 ((a1).toNatClampNeg)) fun (q3 : (Int32 × SD)) => x_let (q3.1) fun (x4 : Int32) => x_let (upS q3.2 4 0 15 ((q3.2 4 0 15) + ((q3.2 10 0 4) * x4))) fun (sd5 : SD) => some (x4, sd5)
noncomputable def f_X4_removeRequest_L19 (x2 : Int32) : Nat → Int32 → SD → Option (Int32 × SD)
  | 0, _, _ => none
  | n_19 + 1, v3_19, sd_19 => (if (sd_19 4 0 13) ≤ v3_19 then some (x2, sd_19) else x_guard (vp_in (v3_19 + (1 : Int32)) 16) <| x_guard (vp_in v3_19 16) <| x_let (upS sd_19 15 0 (v3_19).toNatClampNeg (sd_19 15 0 ((v3_19 + (1 : Int32))).toNatClampNeg)) fun (sd6 : SD) => x_let (v3_19 + (1 : Int32)) fun (x7 : Int32) => f_X4_removeRequest_L19 x2 n_19 (x7) (sd6))
noncomputable def f_X4_removeRequest (sd : SD) (a1 : Int32) : Option (Int32 × SD) := x_guard (vp_in a1 16) <| x_let ((sd 15 0 (a1).toNatClampNeg)) fun (x2 : Int32) => x_let (upS sd 4 0 13 ((sd 4 0 13) - (1 : Int32))) fun (sd3 : SD) => f_X4_removeRequest_L19 x2 fuel (a1) (sd3)
noncomputable def f_X4_readRequestsIn_L2 (a1 : Int32) : Nat → Int32 → SD → Option SD
  | 0, _, _ => none
  | n_2 + 1, v2_2, sd_2 => (if (sd_2 4 0 13) ≤ v2_2 then some (sd_2) else x_guard (vp_in v2_2 16) <| x_bind (f_X4_currentVersion sd_2 ((sd_2 15 0 (v2_2).toNatClampNeg))) fun (q2 : Nat) => x_guard (vp_in a1 4) <| (if (sd_2 6 q2 1) = (sd_2 0 (a1).toNatClampNeg 1) then x_bind (f_X4_sectorsReadTime sd_2 q2) fun (q5 : Int32) => x_let (upS sd_2 4 0 15 ((sd_2 4 0 15) + q5)) fun (sd6 : SD) => x_bind (f_X4_useDrive sd6 a1) fun (q7 : SD) => x_let (v2_2 + (1 : Int32)) fun (x8 : Int32) => f_X4_readRequestsIn_L2 a1 n_2 (x8) (q7) else x_let (v2_2 + (1 : Int32)) fun (x4 : Int32) => f_X4_readRequestsIn_L2 a1 n_2 (x4) (sd_2)))
noncomputable def f_X4_readRequestsIn (sd : SD) (a1 : Int32) : Option SD := f_X4_readRequestsIn_L2 a1 fuel ((0 : Int32)) (sd)
noncomputable def f_X4_readInDrives_L2  : Nat → Int32 → SD → Option SD
  | 0, _, _ => none
  | n_2 + 1, v1_2, sd_2 => (if (sd_2 4 0 3) ≤ v1_2 then some (sd_2) else x_bind (f_X4_readRequestsIn sd_2 v1_2) fun (q1 : SD) => x_let (v1_2 + (1 : Int32)) fun (x2 : Int32) => f_X4_readInDrives_L2  n_2 (x2) (q1))
noncomputable def f_X4_readInDrives (sd : SD) : Option SD := f_X4_readInDrives_L2  fuel ((0 : Int32)) (sd)
noncomputable def f_X5_appendFourBytes_L3 (a1 : Int32) : Nat → Int32 → SD → Option SD
  | 0, _, _ => none
  | n_3 + 1, v2_3, rd_3 => (if v2_3 < 0 then some (rd_3) else (if (900 : Int32) ≤ (rd_3 5 0 1) then some (rd_3) else x_guard (vp_in (rd_3 5 0 1) 900) <| x_let (upS rd_3 20 0 ((rd_3 5 0 1)).toNatClampNeg (((a1 >>> (v2_3 &&& 31))).toInt8.toInt32).toInt8.toInt32) fun (rd2 : SD) => x_let (upS rd2 5 0 1 ((rd2 5 0 1) + (1 : Int32))) fun (rd3 : SD) => x_let (v2_3 + (-8 : Int32)) fun (x4 : Int32) => f_X5_appendFourBytes_L3 a1 n_3 (x4) (rd3)))
noncomputable def f_X5_appendFourBytes (rd : SD) (a1 : Int32) : Option SD := f_X5_appendFourBytes_L3 a1 fuel ((24 : Int32)) (rd)
noncomputable def f_X5_isBetween (rd : SD) (a1 : Int32) (a2 : Int32) (a3 : Int32) : Option Int32 := x_guard (vp_in a1 900) <| (if (rd 20 0 (a1).toNatClampNeg) < a2 then some ((0 : Int32)) else x_guard (vp_in a1 900) <| (if a3 < (rd 20 0 (a1).toNatClampNeg) then some ((0 : Int32)) else some ((1 : Int32))))
noncomputable def f_X5_endOfRun_L0 (a1 : Int32) (a2 : Int32) : Nat → SD → Option (Int32 × SD)
  | 0, _ => none
  | n_0 + 1, rd_0 => (x_let (fun (_u : Unit) => (some (((rd_0 5 0 4) - (rd_0 5 0 3)), rd_0) : Option (Int32 × SD))) fun K1 => (if (rd_0 5 0 2) ≤ (rd_0 5 0 4) then K1 (()) else x_bind (f_X5_isBetween rd_0 ((rd_0 5 0 4)) a1 a2) fun (q2 : Int32) => (if q2 = 0 then K1 (()) else x_let (upS rd_0 5 0 4 ((rd_0 5 0 4) + (1 : Int32))) fun (rd3 : SD) => f_X5_endOfRun_L0 a1 a2 n_0 (rd3))))
noncomputable def f_X5_endOfRun (rd : SD) (a1 : Int32) (a2 : Int32) : Option (Int32 × SD) := f_X5_endOfRun_L0 a1 a2 fuel (rd)
noncomputable def f_X5_nextToken_L8  : Nat → SD → Option SD
  | 0, _ => none
  | n_8 + 1, rd_8 => (x_let (fun (_u : Unit) => (x_let (upS rd_8 5 0 4 (rd_8 5 0 3)) fun (rd3 : SD) => (if (rd3 5 0 3) < (rd3 5 0 2) then x_bind (f_X5_isBetween rd3 ((rd3 5 0 3)) (97 : Int32) (122 : Int32)) fun (q4 : Int32) => (if q4 = 0 then x_bind (f_X5_isBetween rd3 ((rd3 5 0 3)) (48 : Int32) (57 : Int32)) fun (q5 : Int32) => (if q5 = 0 then x_guard (vp_in (rd3 5 0 3) 900) <| (x_let (fun (y8 : Int32) => (x_let (upS rd3 5 0 5 y8) fun (rd9 : SD) => x_let (upS rd9 5 0 4 ((rd9 5 0 4) + (1 : Int32))) fun (rd10 : SD) => some (rd10) : Option SD)) fun K7 => (if (rd3 20 0 ((rd3 5 0 3)).toNatClampNeg) = (59 : Int32) then K7 ((4 : Int32)) else K7 ((1 : Int32)))) else x_bind (f_X5_endOfRun rd3 (48 : Int32) (57 : Int32)) fun (q11 : (Int32 × SD)) => (x_let (fun (y13 : Int32) => (x_let (upS q11.2 5 0 5 y13) fun (rd14 : SD) => some (rd14) : Option SD)) fun K12 => (if (5 : Int32) < q11.1 then K12 ((1 : Int32)) else K12 ((3 : Int32))))) else x_bind (f_X5_endOfRun rd3 (97 : Int32) (122 : Int32)) fun (q15 : (Int32 × SD)) => (x_let (fun (y17 : Int32) => (x_let (upS q15.2 5 0 5 y17) fun (rd18 : SD) => some (rd18) : Option SD)) fun K16 => (if (8 : Int32) < q15.1 then K16 ((1 : Int32)) else K16 ((2 : Int32))))) else x_let (upS rd3 5 0 5 (0 : Int32)) fun (rd19 : SD) => some (rd19)) : Option SD)) fun K2 => (if (rd_8 5 0 2) ≤ (rd_8 5 0 3) then K2 (()) else x_guard (vp_in (rd_8 5 0 3) 900) <| (x_let (fun (_u : Unit) => (x_let (upS rd_8 5 0 3 ((rd_8 5 0 3) + (1 : Int32))) fun (rd22 : SD) => f_X5_nextToken_L8  n_8 (rd22) : Option SD)) fun K21 => (if (rd_8 20 0 ((rd_8 5 0 3)).toNatClampNeg) = (32 : Int32) then K21 (()) else x_guard (vp_in (rd_8 5 0 3) 900) <| (if (rd_8 20 0 ((rd_8 5 0 3)).toNatClampNeg) = (10 : Int32) then K21 (()) else K2 (()))))))
noncomputable def f_X5_nextToken (rd : SD) : Option SD := x_let (upS rd 5 0 3 (rd 5 0 4)) fun (rd1 : SD) => f_X5_nextToken_L8  fuel (rd1)
noncomputable def f_X5_wordIs_L (rd : SD) (n : Nat) : Nat → Int32 → Option Int32
  | 0, _ => none
  | m + 1, i => if nI (slen.getD n 0) ≤ i then some (1 : Int32) else x_guard (vp_in (rd 5 0 3 + i) 900) <| x_guard (vp_in i (slen.getD n 0)) <| if rd 20 0 (rd 5 0 3 + i).toNatClampNeg = (sbyt.getD n []).getD i.toNatClampNeg 0 then f_X5_wordIs_L rd n m (i + 1) else some (0 : Int32)
noncomputable def f_X5_wordIs (rd : SD) (n : Nat) : Option Int32 := if rd 5 0 5 = 2 then (if rd 5 0 4 - rd 5 0 3 = nI (slen.getD n 0) then f_X5_wordIs_L rd n fuel 0 else some (0 : Int32)) else some (0 : Int32)
noncomputable def f_X5_fail (rd : SD) (a1 : Int32) : Option (Int32 × SD) := x_let (upS rd 5 0 7 a1) fun (rd1 : SD) => x_let (upS rd1 5 0 8 (rd1 5 0 3)) fun (rd2 : SD) => some ((0 : Int32), rd2)
noncomputable def f_X5_failUnexpected (rd : SD) : Option (Int32 × SD) := (x_let (fun (y2 : Int32) => (x_bind (f_X5_fail rd y2) fun (q3 : (Int32 × SD)) => x_guard (q3.1 = 0 ∨ q3.1 = 1) <| some (q3.1, q3.2) : Option (Int32 × SD))) fun K1 => (if (rd 5 0 5) = (1 : Int32) then K1 ((1 : Int32)) else K1 ((2 : Int32))))
noncomputable def f_X5_tokenValue_L7 (rd : SD) : Nat → Int32 → Int32 → Option Int32
  | 0, _, _ => none
  | n_7 + 1, v1_7, v2_7 => (if (rd 5 0 4) ≤ v2_7 then some (v1_7) else x_guard (vp_in v2_7 900) <| x_let (((v1_7 * (10 : Int32)) + ((rd 20 0 (v2_7).toNatClampNeg) - (48 : Int32)))) fun (x3 : Int32) => x_let (v2_7 + (1 : Int32)) fun (x4 : Int32) => f_X5_tokenValue_L7 rd n_7 (x3) (x4))
noncomputable def f_X5_tokenValue (rd : SD) : Option Int32 := x_let ((rd 5 0 3)) fun (x1 : Int32) => f_X5_tokenValue_L7 rd fuel ((0 : Int32)) (x1)
noncomputable def f_X5_readNumber (rd : SD) (a1 : Int32) (a2 : Int32) : Option (Int32 × SD) := x_bind (f_X5_nextToken rd) fun (q1 : SD) => (if (q1 5 0 5) = (3 : Int32) then x_bind (f_X5_tokenValue q1) fun (q2 : Int32) => (x_let (fun (_u : Unit) => (x_bind (f_X5_fail q1 (3 : Int32)) fun (q4 : (Int32 × SD)) => some ((-1 : Int32), q4.2) : Option (Int32 × SD))) fun K3 => (if q2 < a1 then K3 (()) else (if q2 ≤ a2 then some (q2, q1) else K3 (())))) else x_bind (f_X5_failUnexpected q1) fun (q5 : (Int32 × SD)) => some ((-1 : Int32), q5.2))
noncomputable def f_X5_readSlots (sd : SD) (rd : SD) : Option (Int32 × SD × SD) := x_bind (f_X5_readNumber rd (4 : Int32) (24 : Int32)) fun (q1 : (Int32 × SD)) => x_let (q1.1) fun (x2 : Int32) => (if x2 = (-1 : Int32) then some ((0 : Int32), sd, q1.2) else x_let (upS sd 4 0 0 x2) fun (sd3 : SD) => some ((1 : Int32), sd3, q1.2))
noncomputable def f_X5_readDrive (sd : SD) (rd : SD) : Option (Int32 × SD × SD) := (if (sd 4 0 3) < (4 : Int32) then x_bind (f_X5_readNumber rd (0 : Int32) (((sd 4 0 0) - (1 : Int32)))) fun (q1 : (Int32 × SD)) => x_let (q1.1) fun (x2 : Int32) => (if x2 = (-1 : Int32) then some ((0 : Int32), sd, q1.2) else x_bind (f_X4_addDrive sd x2) fun (q3 : SD) => some ((1 : Int32), q3, q1.2)) else x_bind (f_X5_fail rd (5 : Int32)) fun (q4 : (Int32 × SD)) => x_guard (q4.1 = 0 ∨ q4.1 = 1) <| some (q4.1, sd, q4.2))
noncomputable def f_X5_readTimes_L2  : Nat → Int32 → SD → SD → Option (Int32 × SD × SD)
  | 0, _, _, _ => none
  | n_2 + 1, v2_2, sd_2, rd_2 => (if (5 : Int32) ≤ v2_2 then some ((1 : Int32), sd_2, rd_2) else x_bind (f_X5_readNumber rd_2 (0 : Int32) (99 : Int32)) fun (q1 : (Int32 × SD)) => x_let (q1.1) fun (x2 : Int32) => (if x2 = (-1 : Int32) then some ((0 : Int32), sd_2, q1.2) else x_guard (vp_in v2_2 5) <| x_let (upS sd_2 10 0 (v2_2).toNatClampNeg x2) fun (sd4 : SD) => x_let (v2_2 + (1 : Int32)) fun (x5 : Int32) => f_X5_readTimes_L2  n_2 (x5) (sd4) (q1.2)))
noncomputable def f_X5_readTimes (sd : SD) (rd : SD) : Option (Int32 × SD × SD) := f_X5_readTimes_L2  fuel ((0 : Int32)) (sd) (rd)
noncomputable def f_X5_readPlatter (sd : SD) (rd : SD) : Option (Int32 × SD × SD) := (if (sd 4 0 6) < (10 : Int32) then x_bind (f_X5_readNumber rd (0 : Int32) (((sd 4 0 0) - (1 : Int32)))) fun (q1 : (Int32 × SD)) => x_let (q1.1) fun (x2 : Int32) => (if x2 = (-1 : Int32) then some ((0 : Int32), sd, q1.2) else x_bind (f_X4_platterWithHome sd x2) fun (q3 : Int32) => (if q3 = (-1 : Int32) then x_bind (f_X5_readNumber (q1.2) (10 : Int32) (300 : Int32)) fun (q4 : (Int32 × SD)) => x_let (q4.1) fun (x5 : Int32) => (if x5 = (-1 : Int32) then some ((0 : Int32), sd, q4.2) else x_bind (f_X5_readNumber (q4.2) (0 : Int32) (9 : Int32)) fun (q6 : (Int32 × SD)) => x_let (q6.1) fun (x7 : Int32) => (if x7 = (-1 : Int32) then some ((0 : Int32), sd, q6.2) else x_bind (f_X4_addPlatter sd x2 x5 x7) fun (q8 : SD) => some ((1 : Int32), q8, q6.2))) else x_bind (f_X5_fail (q1.2) (4 : Int32)) fun (q9 : (Int32 × SD)) => x_guard (q9.1 = 0 ∨ q9.1 = 1) <| some (q9.1, sd, q9.2))) else x_bind (f_X5_fail rd (5 : Int32)) fun (q11 : (Int32 × SD)) => x_guard (q11.1 = 0 ∨ q11.1 = 1) <| some (q11.1, sd, q11.2))
noncomputable def f_X5_readBad (sd : SD) (rd : SD) : Option (Int32 × SD × SD) := (if (sd 4 0 7) < (20 : Int32) then x_bind (f_X5_readNumber rd (0 : Int32) (((sd 4 0 6) - (1 : Int32)))) fun (q1 : (Int32 × SD)) => x_let (q1.1) fun (x2 : Int32) => (if x2 = (-1 : Int32) then some ((0 : Int32), sd, q1.2) else x_guard (vp_in x2 10) <| x_bind (f_X5_readNumber (q1.2) (0 : Int32) (((sd 3 (x2).toNatClampNeg 1) - (1 : Int32)))) fun (q4 : (Int32 × SD)) => x_let (q4.1) fun (x5 : Int32) => (if x5 = (-1 : Int32) then some ((0 : Int32), sd, q4.2) else x_guard (vp_in x2 10) <| x_bind (f_X3_isBad sd ((x2).toNatClampNeg) x5) fun (q7 : Int32) => (if q7 = 0 then x_bind (f_X4_spoil sd x2 x5) fun (q8 : SD) => some ((1 : Int32), q8, q4.2) else x_bind (f_X5_fail (q4.2) (4 : Int32)) fun (q9 : (Int32 × SD)) => x_guard (q9.1 = 0 ∨ q9.1 = 1) <| some (q9.1, sd, q9.2)))) else x_bind (f_X5_fail rd (5 : Int32)) fun (q11 : (Int32 × SD)) => x_guard (q11.1 = 0 ∨ q11.1 = 1) <| some (q11.1, sd, q11.2))
noncomputable def f_X5_isReserved (rd : SD) : Option Int32 := x_bind (f_X5_wordIs rd (0)) fun (q1 : Int32) => (if q1 = 0 then x_bind (f_X5_wordIs rd (1)) fun (q2 : Int32) => (if q2 = 0 then x_bind (f_X5_wordIs rd (2)) fun (q3 : Int32) => (if q3 = 0 then x_bind (f_X5_wordIs rd (3)) fun (q4 : Int32) => (if q4 = 0 then x_bind (f_X5_wordIs rd (4)) fun (q5 : Int32) => (if q5 = 0 then x_bind (f_X5_wordIs rd (5)) fun (q6 : Int32) => (if q6 = 0 then x_bind (f_X5_wordIs rd (6)) fun (q7 : Int32) => (if q7 = 0 then some ((0 : Int32)) else some ((1 : Int32))) else some ((1 : Int32))) else some ((1 : Int32))) else some ((1 : Int32))) else some ((1 : Int32))) else some ((1 : Int32))) else some ((1 : Int32)))
noncomputable def f_X5_wordNumber_L7 (rd : SD) : Nat → Int64 → Int32 → Option Int64
  | 0, _, _ => none
  | n_7 + 1, v1_7, v3_7 => (if (rd 5 0 4) ≤ v3_7 then some (v1_7) else x_guard (vp_in v3_7 900) <| x_let (((v1_7 * (32 : Int64)) + ((((rd 20 0 (v3_7).toNatClampNeg) - (97 : Int32)) + (1 : Int32))).toInt64)) fun (x3 : Int64) => x_let (v3_7 + (1 : Int32)) fun (x4 : Int32) => f_X5_wordNumber_L7 rd n_7 (x3) (x4))
noncomputable def f_X5_wordNumber (rd : SD) : Option Int64 := x_let ((rd 5 0 3)) fun (x1 : Int32) => f_X5_wordNumber_L7 rd fuel ((0 : Int64)) (x1)
noncomputable def f_X5_keepName_L8 (a1 : Int32) (rn : Nat → Int64) (q1 : Int64) : Nat → Int32 → Option (Int32 × (Nat → Int64))
  | 0, _ => none
  | n_8 + 1, v4_8 => (if a1 ≤ v4_8 then x_guard (vp_in a1 20) <| x_let (vp_updL rn (a1).toNatClampNeg q1) fun (rn3 : Nat → Int64) => some ((1 : Int32), rn3) else x_guard (vp_in v4_8 20) <| (if (lg_cmp (rn (v4_8).toNatClampNeg) q1) = 0 then some ((0 : Int32), rn) else x_let (v4_8 + (1 : Int32)) fun (x5 : Int32) => f_X5_keepName_L8 a1 rn q1 n_8 (x5)))
noncomputable def f_X5_keepName (rd : SD) (rn : Nat → Int64) (a1 : Int32) : Option (Int32 × (Nat → Int64)) := x_bind (f_X5_wordNumber rd) fun (q1 : Int64) => f_X5_keepName_L8 a1 rn q1 fuel ((0 : Int32))
noncomputable def f_X5_readNewFile (sd : SD) (rd : SD) (rn : Nat → Int64) : Option (Int32 × SD × SD × (Nat → Int64)) := (if (sd 4 0 11) < (20 : Int32) then x_bind (f_X5_nextToken rd) fun (q1 : SD) => (x_let (fun (_u : Unit) => (x_bind (f_X5_failUnexpected q1) fun (q3 : (Int32 × SD)) => x_guard (q3.1 = 0 ∨ q3.1 = 1) <| some (q3.1, sd, q3.2, rn) : Option (Int32 × SD × SD × (Nat → Int64)))) fun K2 => (if (q1 5 0 5) = (2 : Int32) then x_bind (f_X5_isReserved q1) fun (q5 : Int32) => (if q5 = 0 then x_bind (f_X5_keepName q1 rn ((sd 4 0 11))) fun (q6 : (Int32 × (Nat → Int64))) => (if q6.1 = 0 then x_bind (f_X5_fail q1 (4 : Int32)) fun (q17 : (Int32 × SD)) => x_guard (q17.1 = 0 ∨ q17.1 = 1) <| some (q17.1, sd, q17.2, q6.2) else x_bind (f_X5_readNumber q1 (1 : Int32) (300 : Int32)) fun (q7 : (Int32 × SD)) => x_let (q7.1) fun (x8 : Int32) => (if x8 = (-1 : Int32) then some ((0 : Int32), sd, q7.2, q6.2) else x_bind (f_X5_readNumber (q7.2) (0 : Int32) (((sd 4 0 6) - (1 : Int32)))) fun (q9 : (Int32 × SD)) => x_let (q9.1) fun (x10 : Int32) => (if x10 = (-1 : Int32) then some ((0 : Int32), sd, q9.2, q6.2) else x_guard (vp_in x10 10) <| x_bind (f_X3_canTake sd ((x10).toNatClampNeg) x8) fun (q12 : Int32) => (if q12 = 0 then x_bind (f_X5_fail (q9.2) (6 : Int32)) fun (q15 : (Int32 × SD)) => x_guard (q15.1 = 0 ∨ q15.1 = 1) <| some (q15.1, sd, q15.2, q6.2) else x_let (upS sd 4 0 11 ((sd 4 0 11) + (1 : Int32))) fun (sd13 : SD) => x_bind (f_X4_addVersion sd13 (((sd13 4 0 11) - (1 : Int32))) x8 x10) fun (q14 : SD) => some ((1 : Int32), q14, q9.2, q6.2))))) else K2 (())) else K2 (()))) else x_bind (f_X5_fail rd (5 : Int32)) fun (q19 : (Int32 × SD)) => x_guard (q19.1 = 0 ∨ q19.1 = 1) <| some (q19.1, sd, q19.2, rn))
noncomputable def f_X5_readClose (sd : SD) (rd : SD) : Option (Int32 × SD × SD) := x_bind (f_X5_readNumber rd (0 : Int32) (((sd 4 0 6) - (1 : Int32)))) fun (q1 : (Int32 × SD)) => x_let (q1.1) fun (x2 : Int32) => (if x2 = (-1 : Int32) then some ((0 : Int32), sd, q1.2) else x_guard (vp_in x2 10) <| (if (sd 3 (x2).toNatClampNeg 5) = 0 then x_bind (f_X5_fail (q1.2) (6 : Int32)) fun (q6 : (Int32 × SD)) => x_guard (q6.1 = 0 ∨ q6.1 = 1) <| some (q6.1, sd, q6.2) else x_guard (vp_in x2 10) <| x_bind (f_X3_addLeadOut sd ((x2).toNatClampNeg)) fun (q5 : (Int32 × SD)) => some ((1 : Int32), q5.2, q1.2)))
noncomputable def f_X5_readStatement (sd : SD) (rd : SD) (rn : Nat → Int64) (a1 : Int32) : Option (Int32 × SD × SD × (Nat → Int64)) := x_bind (f_X5_wordIs rd (0)) fun (q1 : Int32) => (if q1 = 0 then x_bind (f_X5_wordIs rd (1)) fun (q2 : Int32) => (if q2 = 0 then x_bind (f_X5_wordIs rd (2)) fun (q3 : Int32) => (if q3 = 0 then x_bind (f_X5_wordIs rd (3)) fun (q4 : Int32) => (if q4 = 0 then x_bind (f_X5_wordIs rd (4)) fun (q5 : Int32) => (if q5 = 0 then x_bind (f_X5_wordIs rd (5)) fun (q6 : Int32) => (if q6 = 0 then x_bind (f_X5_wordIs rd (6)) fun (q7 : Int32) => (if q7 = 0 then x_bind (f_X5_failUnexpected rd) fun (q8 : (Int32 × SD)) => x_guard (q8.1 = 0 ∨ q8.1 = 1) <| some (q8.1, sd, q8.2, rn) else x_bind (f_X5_readClose sd rd) fun (q10 : (Int32 × SD × SD)) => x_guard (q10.1 = 0 ∨ q10.1 = 1) <| some (q10.1, q10.2.1, q10.2.2, rn)) else x_bind (f_X5_readNewFile sd rd rn) fun (q12 : (Int32 × SD × SD × (Nat → Int64))) => x_guard (q12.1 = 0 ∨ q12.1 = 1) <| some (q12.1, q12.2.1, q12.2.2.1, q12.2.2.2)) else x_bind (f_X5_readBad sd rd) fun (q14 : (Int32 × SD × SD)) => x_guard (q14.1 = 0 ∨ q14.1 = 1) <| some (q14.1, q14.2.1, q14.2.2, rn)) else x_bind (f_X5_readPlatter sd rd) fun (q16 : (Int32 × SD × SD)) => x_guard (q16.1 = 0 ∨ q16.1 = 1) <| some (q16.1, q16.2.1, q16.2.2, rn)) else x_bind (f_X5_readTimes sd rd) fun (q18 : (Int32 × SD × SD)) => x_guard (q18.1 = 0 ∨ q18.1 = 1) <| some (q18.1, q18.2.1, q18.2.2, rn)) else x_bind (f_X5_readDrive sd rd) fun (q20 : (Int32 × SD × SD)) => x_guard (q20.1 = 0 ∨ q20.1 = 1) <| some (q20.1, q20.2.1, q20.2.2, rn)) else (if a1 = 0 then x_bind (f_X5_fail rd (5 : Int32)) fun (q22 : (Int32 × SD)) => x_guard (q22.1 = 0 ∨ q22.1 = 1) <| some (q22.1, sd, q22.2, rn) else x_bind (f_X5_readSlots sd rd) fun (q24 : (Int32 × SD × SD)) => x_guard (q24.1 = 0 ∨ q24.1 = 1) <| some (q24.1, q24.2.1, q24.2.2, rn)))
noncomputable def f_X5_readSemicolon (rd : SD) : Option (Int32 × SD) := x_bind (f_X5_nextToken rd) fun (q1 : SD) => (if (q1 5 0 5) = (4 : Int32) then some ((1 : Int32), q1) else x_bind (f_X5_failUnexpected q1) fun (q2 : (Int32 × SD)) => x_guard (q2.1 = 0 ∨ q2.1 = 1) <| some (q2.1, q2.2))
noncomputable def f_X5_readText_L33  : Nat → Int32 → SD → SD → (Nat → Int64) → Option (Int32 × SD × SD × (Nat → Int64))
  | 0, _, _, _, _ => none
  | n_33 + 1, v3_33, sd_33, rd_33, rn_33 => (if (rd_33 5 0 2) < v3_33 then some ((0 : Int32), sd_33, rd_33, rn_33) else x_bind (f_X5_nextToken rd_33) fun (q6 : SD) => (if (q6 5 0 5) = 0 then some ((1 : Int32), sd_33, q6, rn_33) else (x_let (fun (y8 : Int32) => (x_bind (f_X5_readStatement sd_33 q6 rn_33 y8) fun (q9 : (Int32 × SD × SD × (Nat → Int64))) => (if q9.1 = 0 then some ((0 : Int32), q9.2.1, q9.2.2.1, q9.2.2.2) else x_bind (f_X5_readSemicolon (q9.2.2.1)) fun (q10 : (Int32 × SD)) => (if q10.1 = 0 then some ((0 : Int32), q9.2.1, q10.2, q9.2.2.2) else x_let (v3_33 + (1 : Int32)) fun (x11 : Int32) => f_X5_readText_L33  n_33 (x11) (q9.2.1) (q10.2) (q9.2.2.2))) : Option (Int32 × SD × SD × (Nat → Int64)))) fun K7 => (if v3_33 = 0 then K7 ((1 : Int32)) else K7 ((0 : Int32))))))
noncomputable def f_X5_readText (sd : SD) (rd : SD) (rn : Nat → Int64) (a1 : Int32) : Option (Int32 × SD × SD × (Nat → Int64)) := x_let (upS rd 5 0 2 (if (rd 5 0 1) < a1 then (rd 5 0 1) else a1)) fun (rd1 : SD) => x_let (upS rd1 5 0 4 (0 : Int32)) fun (rd2 : SD) => x_let (upS rd2 5 0 7 (0 : Int32)) fun (rd3 : SD) => x_let (upS rd3 5 0 8 (0 : Int32)) fun (rd4 : SD) => x_bind (f_X4_beginEmpty sd) fun (q5 : SD) => f_X5_readText_L33  fuel ((0 : Int32)) (q5) (rd4) (rn)
noncomputable def f_X8_defaults_L21 (k0 : Nat) : Nat → Int32 → SD → Option SD
  | 0, _, _ => none
  | n_21 + 1, v1_21, md_21 => (if (4 : Int32) ≤ v1_21 then x_let (upS md_21 k0 0 0 (12 : Int32)) fun (md1 : SD) => x_let (upS md1 k0 0 1 (1 : Int32)) fun (md2 : SD) => x_let (upS md2 k0 0 2 (2 : Int32)) fun (md3 : SD) => x_let (upS md3 k0 0 3 (5 : Int32)) fun (md4 : SD) => x_let (upS md4 k0 0 4 (1 : Int32)) fun (md5 : SD) => x_let (upS md5 k0 0 5 (3 : Int32)) fun (md6 : SD) => some (md6) else x_guard (vp_in ((21 : Int32) + v1_21) 605) <| x_let (upS md_21 k0 0 (((21 : Int32) + v1_21)).toNatClampNeg (-1 : Int32)) fun (md8 : SD) => x_let (v1_21 + (1 : Int32)) fun (x9 : Int32) => f_X8_defaults_L21 k0 n_21 (x9) (md8))
noncomputable def f_X8_defaults_L2 (k0 : Nat) : Nat → Int32 → SD → Option SD
  | 0, _, _ => none
  | n_2 + 1, v1_2, md_2 => (if (605 : Int32) ≤ v1_2 then f_X8_defaults_L21 k0 fuel ((0 : Int32)) (md_2) else x_guard (vp_in v1_2 605) <| x_let (upS md_2 k0 0 (v1_2).toNatClampNeg (0 : Int32)) fun (md11 : SD) => x_let (v1_2 + (1 : Int32)) fun (x12 : Int32) => f_X8_defaults_L2 k0 n_2 (x12) (md11))
noncomputable def f_X8_defaults (md : SD) (k0 : Nat) : Option SD := f_X8_defaults_L2 k0 fuel ((0 : Int32)) (md)
noncomputable def f_X8_isIn (a0 : Int64) (a2 : Int64) (a4 : Int64) : Option Int32 := (if (lg_cmp a0 a2) < 0 then some ((0 : Int32)) else (if 0 < (lg_cmp a0 a4) then some ((0 : Int32)) else some ((1 : Int32))))
noncomputable def f_X8_far (a0 : Int32) (a1 : Int32) : Option Int32 := (if a1 ≤ a0 then some ((a0 - a1)) else some ((a1 - a0)))
noncomputable def f_X8_copies_L2 (k1 : Nat) (k0 : Nat) : Nat → Int32 → SD → Option SD
  | 0, _, _ => none
  | n_2 + 1, v2_2, md_2 => (if (605 : Int32) ≤ v2_2 then some (md_2) else x_guard (vp_in v2_2 605) <| x_guard (vp_in v2_2 605) <| x_let (upS md_2 k1 0 (v2_2).toNatClampNeg (md_2 k0 0 (v2_2).toNatClampNeg)) fun (md3 : SD) => x_let (v2_2 + (1 : Int32)) fun (x4 : Int32) => f_X8_copies_L2 k1 k0 n_2 (x4) (md3))
noncomputable def f_X8_copies (md : SD) (k0 : Nat) (k1 : Nat) : Option SD := f_X8_copies_L2 k1 k0 fuel ((0 : Int32)) (md)
noncomputable def f_X8_remembers_L52  : Nat → Int32 → SD → Option SD
  | 0, _, _ => none
  | n_52 + 1, v1_52, md_52 => (if (605 : Int32) ≤ v1_52 then x_let (upS md_52 8 0 5 ((md_52 8 0 5) + (1 : Int32))) fun (md1 : SD) => some (md1) else x_guard (vp_in v1_52 605) <| x_guard (vp_in (((605 : Int32) * (md_52 8 0 5)) + v1_52) 9680) <| x_let (upS md_52 33 0 ((((605 : Int32) * (md_52 8 0 5)) + v1_52)).toNatClampNeg (md_52 30 0 (v1_52).toNatClampNeg)) fun (md4 : SD) => x_let (v1_52 + (1 : Int32)) fun (x5 : Int32) => f_X8_remembers_L52  n_52 (x5) (md4))
noncomputable def f_X8_remembers_L52b  : Nat → Int32 → SD → Option SD
  | 0, _, _ => none
  | n_52 + 1, v1_52, md_52 => (if (605 : Int32) ≤ v1_52 then x_let (upS md_52 8 0 5 ((md_52 8 0 5) + (1 : Int32))) fun (md7 : SD) => some (md7) else x_guard (vp_in v1_52 605) <| x_guard (vp_in (((605 : Int32) * (md_52 8 0 5)) + v1_52) 9680) <| x_let (upS md_52 33 0 ((((605 : Int32) * (md_52 8 0 5)) + v1_52)).toNatClampNeg (md_52 30 0 (v1_52).toNatClampNeg)) fun (md10 : SD) => x_let (v1_52 + (1 : Int32)) fun (x11 : Int32) => f_X8_remembers_L52b  n_52 (x11) (md10))
noncomputable def f_X8_remembers_L11  : Nat → Int32 → SD → Option SD
  | 0, _, _ => none
  | n_11 + 1, v1_11, md_11 => (if (9075 : Int32) ≤ v1_11 then x_let (upS md_11 8 0 5 ((md_11 8 0 5) - (1 : Int32))) fun (md6 : SD) => f_X8_remembers_L52b  fuel ((0 : Int32)) (md6) else x_guard (vp_in (v1_11 + (605 : Int32)) 9680) <| x_guard (vp_in v1_11 9680) <| x_let (upS md_11 33 0 (v1_11).toNatClampNeg (md_11 33 0 ((v1_11 + (605 : Int32))).toNatClampNeg)) fun (md14 : SD) => x_let (v1_11 + (1 : Int32)) fun (x15 : Int32) => f_X8_remembers_L11  n_11 (x15) (md14))
noncomputable def f_X8_remembers (md : SD) : Option SD := (if (md 8 0 5) = (16 : Int32) then f_X8_remembers_L11  fuel ((0 : Int32)) (md) else f_X8_remembers_L52  fuel ((0 : Int32)) (md))
noncomputable def f_X8_isPlatter (md : SD) (a1 : Int32) : Option Int32 := x_bind (f_X8_isIn ((a1).toInt64) (0 : Int64) ((((md 30 0 7) - (1 : Int32))).toInt64)) fun (q1 : Int32) => x_guard (q1 = 0 ∨ q1 = 1) <| some (q1)
noncomputable def f_X8_isDrive (md : SD) (a1 : Int32) : Option Int32 := x_bind (f_X8_isIn ((a1).toInt64) (0 : Int64) ((((md 30 0 6) - (1 : Int32))).toInt64)) fun (q1 : Int32) => x_guard (q1 = 0 ∨ q1 = 1) <| some (q1)
noncomputable def f_X8_isSlot (md : SD) (a1 : Int32) : Option Int32 := x_bind (f_X8_isIn ((a1).toInt64) (0 : Int64) ((((md 30 0 0) - (1 : Int32))).toInt64)) fun (q1 : Int32) => x_guard (q1 = 0 ∨ q1 = 1) <| some (q1)
noncomputable def f_X8_isFile (md : SD) (a1 : Int32) : Option Int32 := x_bind (f_X8_isIn ((a1).toInt64) (0 : Int64) ((((md 30 0 9) - (1 : Int32))).toInt64)) fun (q1 : Int32) => x_guard (q1 = 0 ∨ q1 = 1) <| some (q1)
noncomputable def f_X8_isSector (md : SD) (a1 : Int32) (a2 : Int32) : Option Int32 := x_bind (f_X8_isPlatter md a1) fun (q1 : Int32) => (if q1 = 0 then some ((0 : Int32)) else x_guard (vp_in ((39 : Int32) + a1) 605) <| x_bind (f_X8_isIn ((a2).toInt64) (0 : Int64) ((((md 30 0 (((39 : Int32) + a1)).toNatClampNeg) - (1 : Int32))).toInt64)) fun (q3 : Int32) => (if q3 = 0 then some ((0 : Int32)) else some ((1 : Int32))))
noncomputable def f_X8_isRequest (md : SD) (a1 : Int32) : Option Int32 := x_bind (f_X8_isIn ((a1).toInt64) (0 : Int64) ((((md 30 0 16) - (1 : Int32))).toInt64)) fun (q1 : Int32) => x_guard (q1 = 0 ∨ q1 = 1) <| some (q1)
noncomputable def f_X8_isBad_L2 (md : SD) (k0 : Nat) (a1 : Int32) (a2 : Int32) : Nat → Int32 → Option Int32
  | 0, _ => none
  | n_2 + 1, v3_2 => (if (md k0 0 8) ≤ v3_2 then some ((0 : Int32)) else x_guard (vp_in ((249 : Int32) + v3_2) 605) <| (if (md k0 0 (((249 : Int32) + v3_2)).toNatClampNeg) = a1 then x_guard (vp_in ((269 : Int32) + v3_2) 605) <| (if (md k0 0 (((269 : Int32) + v3_2)).toNatClampNeg) = a2 then some ((1 : Int32)) else x_let (v3_2 + (1 : Int32)) fun (x4 : Int32) => f_X8_isBad_L2 md k0 a1 a2 n_2 (x4)) else x_let (v3_2 + (1 : Int32)) fun (x2 : Int32) => f_X8_isBad_L2 md k0 a1 a2 n_2 (x2)))
noncomputable def f_X8_isBad (md : SD) (k0 : Nat) (a1 : Int32) (a2 : Int32) : Option Int32 := f_X8_isBad_L2 md k0 a1 a2 fuel ((0 : Int32))
noncomputable def f_X8_badsIn_L6 (md : SD) (k0 : Nat) (a1 : Int32) (a2 : Int32) (a3 : Int32) : Nat → Int32 → Int32 → Option Int32
  | 0, _, _ => none
  | n_6 + 1, v4_6, v5_6 => (if (md k0 0 8) ≤ v5_6 then some (v4_6) else x_guard (vp_in ((249 : Int32) + v5_6) 605) <| (x_let (fun (y3 : Int32) => (x_let ((v4_6 + y3)) fun (x4 : Int32) => x_let (v5_6 + (1 : Int32)) fun (x5 : Int32) => f_X8_badsIn_L6 md k0 a1 a2 a3 n_6 (x4) (x5) : Option Int32)) fun K2 => (x_let (fun (_u : Unit) => (K2 ((0 : Int32)) : Option Int32)) fun K6 => (if (md k0 0 (((249 : Int32) + v5_6)).toNatClampNeg) = a1 then x_guard (vp_in ((269 : Int32) + v5_6) 605) <| x_bind (f_X8_isIn (((md k0 0 (((269 : Int32) + v5_6)).toNatClampNeg)).toInt64) ((a2).toInt64) ((((a2 + a3) - (1 : Int32))).toInt64)) fun (q8 : Int32) => (if q8 = 0 then K6 (()) else K2 ((1 : Int32))) else K6 (())))))
noncomputable def f_X8_badsIn (md : SD) (k0 : Nat) (a1 : Int32) (a2 : Int32) (a3 : Int32) : Option Int32 := f_X8_badsIn_L6 md k0 a1 a2 a3 fuel ((0 : Int32)) ((0 : Int32))
noncomputable def f_X8_canWrite (md : SD) (k0 : Nat) (a1 : Int32) (a2 : Int32) : Option Int32 := x_guard (vp_in ((79 : Int32) + a1) 605) <| (x_let (fun (_u : Unit) => (x_guard (vp_in ((59 : Int32) + a1) 605) <| x_let ((md k0 0 (((59 : Int32) + a1)).toNatClampNeg)) fun (x4 : Int32) => x_guard (vp_in ((39 : Int32) + a1) 605) <| (if ((md k0 0 (((39 : Int32) + a1)).toNatClampNeg) - x4) < a2 then some ((0 : Int32)) else x_bind (f_X8_badsIn md k0 a1 x4 a2) fun (q6 : Int32) => x_guard (vp_in ((49 : Int32) + a1) 605) <| (if (md k0 0 (((49 : Int32) + a1)).toNatClampNeg) < q6 then some ((0 : Int32)) else some ((1 : Int32)))) : Option Int32)) fun K2 => (if (md k0 0 (((79 : Int32) + a1)).toNatClampNeg) = 0 then x_guard (vp_in ((69 : Int32) + a1) 605) <| (if (md k0 0 (((69 : Int32) + a1)).toNatClampNeg) = (8 : Int32) then some ((0 : Int32)) else K2 (())) else K2 (())))
noncomputable def f_X8_writesVersion (md : SD) (k0 : Nat) (a1 : Int32) (a2 : Int32) (a3 : Int32) : Option SD := x_guard (vp_in ((59 : Int32) + a2) 605) <| x_let ((md k0 0 (((59 : Int32) + a2)).toNatClampNeg)) fun (x2 : Int32) => x_guard (vp_in ((79 : Int32) + a2) 605) <| (x_let (fun (md5 : SD) => (x_guard (vp_in ((69 : Int32) + a2) 605) <| x_let (((md5 k0 0 (((69 : Int32) + a2)).toNatClampNeg) - (1 : Int32))) fun (x7 : Int32) => x_bind (f_X8_badsIn md5 k0 a2 x2 a3) fun (q8 : Int32) => x_let ((md5 k0 0 10)) fun (x9 : Int32) => x_let (upS md5 k0 0 10 ((md5 k0 0 10) + (1 : Int32))) fun (md10 : SD) => x_guard (vp_in ((309 : Int32) + x9) 605) <| x_let (upS md10 k0 0 (((309 : Int32) + x9)).toNatClampNeg a1) fun (md12 : SD) => x_guard (vp_in ((349 : Int32) + x9) 605) <| x_let (upS md12 k0 0 (((349 : Int32) + x9)).toNatClampNeg a2) fun (md14 : SD) => x_guard (vp_in ((389 : Int32) + x9) 605) <| x_let (upS md14 k0 0 (((389 : Int32) + x9)).toNatClampNeg x2) fun (md16 : SD) => x_guard (vp_in ((429 : Int32) + x9) 605) <| x_let (upS md16 k0 0 (((429 : Int32) + x9)).toNatClampNeg a3) fun (md18 : SD) => x_guard (vp_in ((469 : Int32) + x9) 605) <| x_let (upS md18 k0 0 (((469 : Int32) + x9)).toNatClampNeg x7) fun (md20 : SD) => x_guard (vp_in ((509 : Int32) + x9) 605) <| x_let (upS md20 k0 0 (((509 : Int32) + x9)).toNatClampNeg q8) fun (md22 : SD) => x_guard (vp_in ((549 : Int32) + x9) 605) <| x_let (upS md22 k0 0 (((549 : Int32) + x9)).toNatClampNeg (0 : Int32)) fun (md24 : SD) => x_guard (vp_in ((289 : Int32) + a1) 605) <| x_let (upS md24 k0 0 (((289 : Int32) + a1)).toNatClampNeg x9) fun (md26 : SD) => x_guard (vp_in ((49 : Int32) + a2) 605) <| x_guard (vp_in ((49 : Int32) + a2) 605) <| x_let (upS md26 k0 0 (((49 : Int32) + a2)).toNatClampNeg ((md26 k0 0 (((49 : Int32) + a2)).toNatClampNeg) - q8)) fun (md29 : SD) => x_guard (vp_in ((59 : Int32) + a2) 605) <| x_guard (vp_in ((59 : Int32) + a2) 605) <| x_let (upS md29 k0 0 (((59 : Int32) + a2)).toNatClampNeg ((md29 k0 0 (((59 : Int32) + a2)).toNatClampNeg) + a3)) fun (md32 : SD) => x_guard (vp_in (((169 : Int32) + ((8 : Int32) * a2)) + x7) 605) <| x_guard (vp_in (((169 : Int32) + ((8 : Int32) * a2)) + x7) 605) <| x_let (upS md32 k0 0 ((((169 : Int32) + ((8 : Int32) * a2)) + x7)).toNatClampNeg ((md32 k0 0 ((((169 : Int32) + ((8 : Int32) * a2)) + x7)).toNatClampNeg) + a3)) fun (md35 : SD) => some (md35) : Option SD)) fun K4 => (if (md k0 0 (((79 : Int32) + a2)).toNatClampNeg) = 0 then x_guard (vp_in ((69 : Int32) + a2) 605) <| x_guard (vp_in (((89 : Int32) + ((8 : Int32) * a2)) + (md k0 0 (((69 : Int32) + a2)).toNatClampNeg)) 605) <| x_let (upS md k0 0 ((((89 : Int32) + ((8 : Int32) * a2)) + (md k0 0 (((69 : Int32) + a2)).toNatClampNeg))).toNatClampNeg x2) fun (md38 : SD) => x_guard (vp_in ((69 : Int32) + a2) 605) <| x_guard (vp_in (((169 : Int32) + ((8 : Int32) * a2)) + (md38 k0 0 (((69 : Int32) + a2)).toNatClampNeg)) 605) <| x_let (upS md38 k0 0 ((((169 : Int32) + ((8 : Int32) * a2)) + (md38 k0 0 (((69 : Int32) + a2)).toNatClampNeg))).toNatClampNeg (0 : Int32)) fun (md41 : SD) => x_guard (vp_in ((69 : Int32) + a2) 605) <| x_guard (vp_in ((69 : Int32) + a2) 605) <| x_let (upS md41 k0 0 (((69 : Int32) + a2)).toNatClampNeg ((md41 k0 0 (((69 : Int32) + a2)).toNatClampNeg) + (1 : Int32))) fun (md44 : SD) => x_guard (vp_in ((79 : Int32) + a2) 605) <| x_let (upS md44 k0 0 (((79 : Int32) + a2)).toNatClampNeg (1 : Int32)) fun (md46 : SD) => K4 (md46) else K4 (md)))
noncomputable def f_X8_leadOut (md : SD) (k0 : Nat) (a1 : Int32) : Option Int32 := x_guard (vp_in ((39 : Int32) + a1) 605) <| x_guard (vp_in ((59 : Int32) + a1) 605) <| some ((if ((md k0 0 (((39 : Int32) + a1)).toNatClampNeg) - (md k0 0 (((59 : Int32) + a1)).toNatClampNeg)) < (2 : Int32) then ((md k0 0 (((39 : Int32) + a1)).toNatClampNeg) - (md k0 0 (((59 : Int32) + a1)).toNatClampNeg)) else (2 : Int32)))
noncomputable def f_X8_closes (md : SD) (k0 : Nat) (a1 : Int32) : Option SD := x_bind (f_X8_leadOut md k0 a1) fun (q1 : Int32) => x_guard (vp_in ((59 : Int32) + a1) 605) <| x_guard (vp_in ((59 : Int32) + a1) 605) <| x_let (upS md k0 0 (((59 : Int32) + a1)).toNatClampNeg ((md k0 0 (((59 : Int32) + a1)).toNatClampNeg) + q1)) fun (md4 : SD) => x_guard (vp_in ((69 : Int32) + a1) 605) <| x_guard (vp_in ((((169 : Int32) + ((8 : Int32) * a1)) + (md4 k0 0 (((69 : Int32) + a1)).toNatClampNeg)) - (1 : Int32)) 605) <| x_guard (vp_in ((((169 : Int32) + ((8 : Int32) * a1)) + (md4 k0 0 (((69 : Int32) + a1)).toNatClampNeg)) - (1 : Int32)) 605) <| x_let (upS md4 k0 0 (((((169 : Int32) + ((8 : Int32) * a1)) + (md4 k0 0 (((69 : Int32) + a1)).toNatClampNeg)) - (1 : Int32))).toNatClampNeg ((md4 k0 0 (((((169 : Int32) + ((8 : Int32) * a1)) + (md4 k0 0 (((69 : Int32) + a1)).toNatClampNeg)) - (1 : Int32))).toNatClampNeg) + q1)) fun (md8 : SD) => x_guard (vp_in ((79 : Int32) + a1) 605) <| x_let (upS md8 k0 0 (((79 : Int32) + a1)).toNatClampNeg (0 : Int32)) fun (md10 : SD) => some (md10)
noncomputable def f_X8_versionAt_L2 (md : SD) (k0 : Nat) (a1 : Int32) (a2 : Int32) : Nat → Int32 → Option Int32
  | 0, _ => none
  | n_2 + 1, v3_2 => (if (md k0 0 10) ≤ v3_2 then some ((-1 : Int32)) else x_guard (vp_in ((349 : Int32) + v3_2) 605) <| (if (md k0 0 (((349 : Int32) + v3_2)).toNatClampNeg) = a1 then x_guard (vp_in ((389 : Int32) + v3_2) 605) <| x_guard (vp_in ((389 : Int32) + v3_2) 605) <| x_guard (vp_in ((429 : Int32) + v3_2) 605) <| x_bind (f_X8_isIn ((a2).toInt64) (((md k0 0 (((389 : Int32) + v3_2)).toNatClampNeg)).toInt64) (((((md k0 0 (((389 : Int32) + v3_2)).toNatClampNeg) + (md k0 0 (((429 : Int32) + v3_2)).toNatClampNeg)) - (1 : Int32))).toInt64)) fun (q6 : Int32) => (if q6 = 0 then x_let (v3_2 + (1 : Int32)) fun (x7 : Int32) => f_X8_versionAt_L2 md k0 a1 a2 n_2 (x7) else some (v3_2)) else x_let (v3_2 + (1 : Int32)) fun (x2 : Int32) => f_X8_versionAt_L2 md k0 a1 a2 n_2 (x2)))
noncomputable def f_X8_versionAt (md : SD) (k0 : Nat) (a1 : Int32) (a2 : Int32) : Option Int32 := f_X8_versionAt_L2 md k0 a1 a2 fuel ((0 : Int32))
noncomputable def f_X8_marks (md : SD) (k0 : Nat) (a1 : Int32) (a2 : Int32) : Option SD := x_guard (vp_in ((249 : Int32) + (md k0 0 8)) 605) <| x_let (upS md k0 0 (((249 : Int32) + (md k0 0 8))).toNatClampNeg a1) fun (md2 : SD) => x_guard (vp_in ((269 : Int32) + (md2 k0 0 8)) 605) <| x_let (upS md2 k0 0 (((269 : Int32) + (md2 k0 0 8))).toNatClampNeg a2) fun (md4 : SD) => x_let (upS md4 k0 0 8 ((md4 k0 0 8) + (1 : Int32))) fun (md5 : SD) => x_bind (f_X8_versionAt md5 k0 a1 a2) fun (q6 : Int32) => (if q6 = (-1 : Int32) then some (md5) else x_guard (vp_in ((549 : Int32) + q6) 605) <| x_let (upS md5 k0 0 (((549 : Int32) + q6)).toNatClampNeg (1 : Int32)) fun (md8 : SD) => some (md8))
noncomputable def f_X8_isCurrent (md : SD) (a1 : Int32) : Option Int32 := x_guard (vp_in ((309 : Int32) + a1) 605) <| x_guard (vp_in ((289 : Int32) + (md 30 0 (((309 : Int32) + a1)).toNatClampNeg)) 605) <| (if (md 30 0 (((289 : Int32) + (md 30 0 (((309 : Int32) + a1)).toNatClampNeg))).toNatClampNeg) = a1 then some ((1 : Int32)) else some ((0 : Int32)))
noncomputable def f_X8_isClosed (md : SD) (a1 : Int32) : Option Int32 := x_guard (vp_in ((349 : Int32) + a1) 605) <| x_let ((md 30 0 (((349 : Int32) + a1)).toNatClampNeg)) fun (x2 : Int32) => x_guard (vp_in ((79 : Int32) + x2) 605) <| (if (md 30 0 (((79 : Int32) + x2)).toNatClampNeg) = 0 then some ((1 : Int32)) else x_guard (vp_in ((469 : Int32) + a1) 605) <| x_guard (vp_in ((69 : Int32) + x2) 605) <| (if ((md 30 0 (((69 : Int32) + x2)).toNatClampNeg) - (1 : Int32)) ≤ (md 30 0 (((469 : Int32) + a1)).toNatClampNeg) then some ((0 : Int32)) else some ((1 : Int32))))
noncomputable def f_X8_isGood (md : SD) (a1 : Int32) : Option Int32 := x_guard (vp_in ((549 : Int32) + a1) 605) <| (if (md 30 0 (((549 : Int32) + a1)).toNatClampNeg) = 0 then x_bind (f_X8_isClosed md a1) fun (q2 : Int32) => (if q2 = 0 then some ((0 : Int32)) else some ((1 : Int32))) else some ((0 : Int32)))
noncomputable def f_X8_version (md : SD) (a1 : Int32) : Option Int32 := x_guard (vp_in ((289 : Int32) + a1) 605) <| some ((md 30 0 (((289 : Int32) + a1)).toNatClampNeg))
noncomputable def f_X8_isReadable (md : SD) (a1 : Int32) : Option Int32 := x_bind (f_X8_version md a1) fun (q1 : Int32) => x_bind (f_X8_isGood md q1) fun (q2 : Int32) => x_guard (q2 = 0 ∨ q2 = 1) <| some (q2)
noncomputable def f_X8_platterOf (md : SD) (a1 : Int32) : Option Int32 := x_bind (f_X8_version md a1) fun (q1 : Int32) => x_guard (vp_in ((349 : Int32) + q1) 605) <| some ((md 30 0 (((349 : Int32) + q1)).toNatClampNeg))
noncomputable def f_X8_inDrive_L2 (md : SD) (a1 : Int32) : Nat → Int32 → Option Int32
  | 0, _ => none
  | n_2 + 1, v2_2 => (if (md 30 0 6) ≤ v2_2 then some ((-1 : Int32)) else x_guard (vp_in ((21 : Int32) + v2_2) 605) <| (if (md 30 0 (((21 : Int32) + v2_2)).toNatClampNeg) = a1 then some (v2_2) else x_let (v2_2 + (1 : Int32)) fun (x2 : Int32) => f_X8_inDrive_L2 md a1 n_2 (x2)))
noncomputable def f_X8_inDrive (md : SD) (a1 : Int32) : Option Int32 := f_X8_inDrive_L2 md a1 fuel ((0 : Int32))
noncomputable def f_X8_goes (md : SD) (a1 : Int32) : Option SD := x_bind (f_X8_far ((md 30 0 11)) a1) fun (q1 : Int32) => x_let (upS md 30 0 14 ((md 30 0 14) + q1)) fun (md2 : SD) => x_let (upS md2 30 0 12 ((md2 30 0 12) + (q1 * (md2 30 0 1)))) fun (md3 : SD) => x_let (upS md3 30 0 11 a1) fun (md4 : SD) => some (md4)
noncomputable def f_X8_grips (md : SD) : Option SD := x_let (upS md 30 0 12 ((md 30 0 12) + (md 30 0 2))) fun (md1 : SD) => some (md1)
noncomputable def f_X8_empties (md : SD) (a1 : Int32) : Option SD := x_guard (vp_in ((17 : Int32) + a1) 605) <| x_bind (f_X8_goes md ((md 30 0 (((17 : Int32) + a1)).toNatClampNeg))) fun (q2 : SD) => x_bind (f_X8_grips q2) fun (q3 : SD) => x_guard (vp_in ((21 : Int32) + a1) 605) <| x_guard (vp_in ((29 : Int32) + (q3 30 0 (((21 : Int32) + a1)).toNatClampNeg)) 605) <| x_bind (f_X8_goes q3 ((q3 30 0 (((29 : Int32) + (q3 30 0 (((21 : Int32) + a1)).toNatClampNeg))).toNatClampNeg))) fun (q6 : SD) => x_bind (f_X8_grips q6) fun (q7 : SD) => x_guard (vp_in ((21 : Int32) + a1) 605) <| x_let (upS q7 30 0 (((21 : Int32) + a1)).toNatClampNeg (-1 : Int32)) fun (md9 : SD) => some (md9)
noncomputable def f_X8_uses (md : SD) (a1 : Int32) : Option SD := x_let (upS md 30 0 15 ((md 30 0 15) + (1 : Int32))) fun (md1 : SD) => x_guard (vp_in ((25 : Int32) + a1) 605) <| x_let (upS md1 30 0 (((25 : Int32) + a1)).toNatClampNeg (md1 30 0 15)) fun (md3 : SD) => some (md3)
noncomputable def f_X8_brings (md : SD) (a1 : Int32) (a2 : Int32) : Option SD := x_guard (vp_in ((21 : Int32) + a2) 605) <| (x_let (fun (md3 : SD) => (x_guard (vp_in ((29 : Int32) + a1) 605) <| x_bind (f_X8_goes md3 ((md3 30 0 (((29 : Int32) + a1)).toNatClampNeg))) fun (q5 : SD) => x_bind (f_X8_grips q5) fun (q6 : SD) => x_guard (vp_in ((17 : Int32) + a2) 605) <| x_bind (f_X8_goes q6 ((q6 30 0 (((17 : Int32) + a2)).toNatClampNeg))) fun (q8 : SD) => x_bind (f_X8_grips q8) fun (q9 : SD) => x_guard (vp_in ((21 : Int32) + a2) 605) <| x_let (upS q9 30 0 (((21 : Int32) + a2)).toNatClampNeg a1) fun (md11 : SD) => x_let (upS md11 30 0 12 ((md11 30 0 12) + (md11 30 0 3))) fun (md12 : SD) => x_let (upS md12 30 0 13 ((md12 30 0 13) + (1 : Int32))) fun (md13 : SD) => x_bind (f_X8_uses md13 a2) fun (q14 : SD) => some (q14) : Option SD)) fun K2 => (if (md 30 0 (((21 : Int32) + a2)).toNatClampNeg) = (-1 : Int32) then K2 (md) else x_bind (f_X8_empties md a2) fun (q15 : SD) => K2 (q15)))
noncomputable def f_X8_freeDrive_L48 (md : SD) : Nat → Int32 → Int32 → Option Int32
  | 0, _, _ => none
  | n_48 + 1, v1_48, v2_48 => (if (md 30 0 6) ≤ v2_48 then some (v1_48) else x_guard (vp_in ((25 : Int32) + v2_48) 605) <| x_guard (vp_in ((25 : Int32) + v1_48) 605) <| (if (md 30 0 (((25 : Int32) + v1_48)).toNatClampNeg) ≤ (md 30 0 (((25 : Int32) + v2_48)).toNatClampNeg) then x_let (v2_48 + (1 : Int32)) fun (x4 : Int32) => f_X8_freeDrive_L48 md n_48 (v1_48) (x4) else x_let (v2_48 + (1 : Int32)) fun (x5 : Int32) => f_X8_freeDrive_L48 md n_48 (v2_48) (x5)))
noncomputable def f_X8_freeDrive_L12 (md : SD) : Nat → Int32 → Int32 → Option Int32
  | 0, _, _ => none
  | n_12 + 1, v1_12, v2_12 => (if v2_12 < 0 then (if v1_12 = (-1 : Int32) then f_X8_freeDrive_L48 md fuel ((0 : Int32)) ((1 : Int32)) else some (v1_12)) else x_guard (vp_in ((21 : Int32) + v2_12) 605) <| (if (md 30 0 (((21 : Int32) + v2_12)).toNatClampNeg) = (-1 : Int32) then x_let (v2_12 + (-1 : Int32)) fun (x8 : Int32) => f_X8_freeDrive_L12 md n_12 (v2_12) (x8) else x_let (v2_12 + (-1 : Int32)) fun (x7 : Int32) => f_X8_freeDrive_L12 md n_12 (v1_12) (x7)))
noncomputable def f_X8_freeDrive (md : SD) : Option Int32 := x_let (((md 30 0 6) - (1 : Int32))) fun (x1 : Int32) => f_X8_freeDrive_L12 md fuel ((-1 : Int32)) (x1)
noncomputable def f_X8_chosen (md : SD) (a1 : Int32) : Option Int32 := x_bind (f_X8_inDrive md a1) fun (q1 : Int32) => (if q1 = (-1 : Int32) then x_bind (f_X8_freeDrive md) fun (q2 : Int32) => some (q2) else some (q1))
noncomputable def f_X8_mounts (md : SD) (a1 : Int32) : Option (Int32 × SD) := x_bind (f_X8_chosen md a1) fun (q1 : Int32) => x_bind (f_X8_inDrive md a1) fun (q2 : Int32) => (x_let (fun (md4 : SD) => (x_bind (f_X8_uses md4 q1) fun (q5 : SD) => some (q1, q5) : Option (Int32 × SD))) fun K3 => (if q2 = (-1 : Int32) then x_bind (f_X8_brings md a1 q1) fun (q6 : SD) => K3 (q6) else K3 (md)))
noncomputable def f_X8_reads (md : SD) (a1 : Int32) : Option SD := x_bind (f_X8_platterOf md a1) fun (q1 : Int32) => x_bind (f_X8_mounts md q1) fun (q2 : (Int32 × SD)) => x_bind (f_X8_version (q2.2) a1) fun (q3 : Int32) => x_guard (vp_in ((429 : Int32) + q3) 605) <| x_guard (vp_in ((509 : Int32) + q3) 605) <| x_let (upS q2.2 30 0 12 ((q2.2 30 0 12) + ((q2.2 30 0 4) * ((q2.2 30 0 (((429 : Int32) + q3)).toNatClampNeg) + (q2.2 30 0 (((509 : Int32) + q3)).toNatClampNeg))))) fun (md6 : SD) => some (md6)
noncomputable def f_X8_tries (md : SD) : Option SD := x_bind (f_X8_copies md (30) (32)) fun (q1 : SD) => x_let (upS q1 8 0 6 (q1 30 0 12)) fun (md2 : SD) => some (md2)
noncomputable def f_X8_takesBack (md : SD) : Option (Int32 × SD) := x_let (((md 30 0 12) - (md 8 0 6))) fun (x1 : Int32) => x_bind (f_X8_copies md (32) (30)) fun (q2 : SD) => some (x1, q2)
noncomputable def f_X8_bringTime (md : SD) (a1 : Int32) (a2 : Int32) : Option (Int32 × SD) := x_bind (f_X8_tries md) fun (q1 : SD) => x_bind (f_X8_brings q1 a1 a2) fun (q2 : SD) => x_bind (f_X8_takesBack q2) fun (q3 : (Int32 × SD)) => some (q3.1, q3.2)
noncomputable def f_X8_timeFor (md : SD) (a1 : Int32) : Option (Int32 × SD) := x_bind (f_X8_inDrive md a1) fun (q1 : Int32) => (if q1 = (-1 : Int32) then x_bind (f_X8_freeDrive md) fun (q2 : Int32) => x_bind (f_X8_bringTime md a1 q2) fun (q3 : (Int32 × SD)) => some (q3.1, q3.2) else some ((0 : Int32), md))
noncomputable def f_X8_findsWanted_L22 (md_7 : SD) (v1_7 : Int32) : Nat → Int32 → Int32 → Option (Int32 × Int32)
  | 0, _, _ => none
  | n_22 + 1, v2_22, v3_22 => (if (md_7 30 0 16) ≤ v3_22 then some (v2_22, v3_22) else (x_let (fun (y4 : Int32) => (x_let (v3_22 + (1 : Int32)) fun (x5 : Int32) => f_X8_findsWanted_L22 md_7 v1_7 n_22 (y4) (x5) : Option (Int32 × Int32))) fun K3 => (x_let (fun (_u : Unit) => (K3 ((1 : Int32)) : Option (Int32 × Int32))) fun K6 => (if v2_22 = 0 then x_guard (vp_in ((589 : Int32) + v3_22) 605) <| x_bind (f_X8_platterOf md_7 ((md_7 30 0 (((589 : Int32) + v3_22)).toNatClampNeg))) fun (q8 : Int32) => (if q8 = v1_7 then K6 (()) else K3 ((0 : Int32))) else K6 (())))))
noncomputable def f_X8_findsWanted_L7  : Nat → Int32 → SD → Option SD
  | 0, _, _ => none
  | n_7 + 1, v1_7, md_7 => (if (md_7 30 0 7) ≤ v1_7 then some (md_7) else x_bind (f_X8_findsWanted_L22 md_7 v1_7 fuel ((0 : Int32)) ((0 : Int32))) fun (q2 : (Int32 × Int32)) => (if q2.1 = 0 then x_let (v1_7 + (1 : Int32)) fun (x9 : Int32) => f_X8_findsWanted_L7  n_7 (x9) (md_7) else x_bind (f_X8_inDrive md_7 v1_7) fun (q10 : Int32) => (if q10 = (-1 : Int32) then x_guard (vp_in (md_7 8 0 10) 10) <| x_let (upS md_7 34 0 ((md_7 8 0 10)).toNatClampNeg v1_7) fun (md12 : SD) => x_let (upS md12 8 0 10 ((md12 8 0 10) + (1 : Int32))) fun (md13 : SD) => x_let (v1_7 + (1 : Int32)) fun (x14 : Int32) => f_X8_findsWanted_L7  n_7 (x14) (md13) else x_let (v1_7 + (1 : Int32)) fun (x15 : Int32) => f_X8_findsWanted_L7  n_7 (x15) (md_7))))
noncomputable def f_X8_findsWanted (md : SD) : Option SD := x_let (upS md 8 0 10 (0 : Int32)) fun (md1 : SD) => f_X8_findsWanted_L7  fuel ((0 : Int32)) (md1)
noncomputable def f_X8_homeOf (md : SD) (a1 : Int32) : Option Int32 := x_guard (vp_in a1 10) <| x_guard (vp_in ((29 : Int32) + (md 34 0 (a1).toNatClampNeg)) 605) <| some ((md 30 0 (((29 : Int32) + (md 34 0 (a1).toNatClampNeg))).toNatClampNeg))
noncomputable def f_X8_between (md : SD) (a1 : Int32) (a2 : Int32) (a3 : Int32) : Option Int32 := x_bind (f_X8_homeOf md a1) fun (q1 : Int32) => x_bind (f_X8_far a3 q1) fun (q2 : Int32) => x_bind (f_X8_homeOf md a1) fun (q3 : Int32) => x_bind (f_X8_homeOf md a2) fun (q4 : Int32) => x_bind (f_X8_far q3 q4) fun (q5 : Int32) => x_bind (f_X8_homeOf md a2) fun (q6 : Int32) => x_bind (f_X8_far q6 a3) fun (q7 : Int32) => some (((q2 + q5) + q7))
noncomputable def f_X8_findsRest_L37 (md_14 : SD) (v2_2 : Int32) (v3_14 : Int32) (a1 : Int32) : Nat → Int32 → Int32 → Option (Int32 × Int32)
  | 0, _, _ => none
  | n_37 + 1, v4_37, v5_37 => (if (md_14 8 0 10) ≤ v5_37 then some (v4_37, v5_37) else (if ((v2_2 >>> (v5_37 &&& 31)) &&& (1 : Int32)) = 0 then x_let (v5_37 + (1 : Int32)) fun (x11 : Int32) => f_X8_findsRest_L37 md_14 v2_2 v3_14 a1 n_37 (v4_37) (x11) else x_bind (f_X8_between md_14 v3_14 v5_37 a1) fun (q5 : Int32) => x_guard (vp_in (((10 : Int32) * (v2_2 - ((1 : Int32) <<< (v5_37 &&& 31)))) + v5_37) 10240) <| x_let ((q5 + (md_14 36 0 ((((10 : Int32) * (v2_2 - ((1 : Int32) <<< (v5_37 &&& 31)))) + v5_37)).toNatClampNeg))) fun (x7 : Int32) => (x_let (fun (y9 : Int32) => (x_let (v5_37 + (1 : Int32)) fun (x10 : Int32) => f_X8_findsRest_L37 md_14 v2_2 v3_14 a1 n_37 (y9) (x10) : Option (Int32 × Int32))) fun K8 => (if v4_37 ≤ x7 then K8 (v4_37) else K8 (x7)))))
noncomputable def f_X8_findsRest_L14 (v2_2 : Int32) (a1 : Int32) : Nat → Int32 → SD → Option (Int32 × SD)
  | 0, _, _ => none
  | n_14 + 1, v3_14, md_14 => (if (md_14 8 0 10) ≤ v3_14 then some (v3_14, md_14) else (x_let (fun (y3 : Int32) => (x_bind (f_X8_findsRest_L37 md_14 v2_2 v3_14 a1 fuel (y3) ((0 : Int32))) fun (q4 : (Int32 × Int32)) => x_guard (vp_in (((10 : Int32) * v2_2) + v3_14) 10240) <| x_let (upS md_14 36 0 ((((10 : Int32) * v2_2) + v3_14)).toNatClampNeg q4.1) fun (md13 : SD) => x_let (v3_14 + (1 : Int32)) fun (x14 : Int32) => f_X8_findsRest_L14 v2_2 a1 n_14 (x14) (md13) : Option (Int32 × SD))) fun K2 => (if v2_2 = 0 then K2 ((0 : Int32)) else K2 ((1000000000 : Int32)))))
noncomputable def f_X8_findsRest_L2 (a1 : Int32) : Nat → Int32 → SD → Option SD
  | 0, _, _ => none
  | n_2 + 1, v2_2, md_2 => (if ((1 : Int32) <<< ((md_2 8 0 10) &&& 31)) ≤ v2_2 then some (md_2) else x_bind (f_X8_findsRest_L14 v2_2 a1 fuel ((0 : Int32)) (md_2)) fun (q1 : (Int32 × SD)) => x_let (v2_2 + (1 : Int32)) fun (x15 : Int32) => f_X8_findsRest_L2 a1 n_2 (x15) (q1.2))
noncomputable def f_X8_findsRest (md : SD) (a1 : Int32) : Option SD := f_X8_findsRest_L2 a1 fuel ((0 : Int32)) (md)
noncomputable def f_X8_firstWay (md : SD) (a1 : Int32) (a2 : Int32) : Option Int32 := x_guard (vp_in ((17 : Int32) + a2) 605) <| x_let ((md 30 0 (((17 : Int32) + a2)).toNatClampNeg)) fun (x2 : Int32) => x_let ((md 30 0 11)) fun (x3 : Int32) => x_guard (vp_in ((21 : Int32) + a2) 605) <| (x_let (fun (y6 : Int32) (y7 : Int32) => (x_bind (f_X8_homeOf md a1) fun (q8 : Int32) => x_bind (f_X8_far y7 q8) fun (q9 : Int32) => x_bind (f_X8_homeOf md a1) fun (q10 : Int32) => x_bind (f_X8_far q10 x2) fun (q11 : Int32) => some (((y6 + q9) + q11)) : Option Int32)) fun K5 => (if (md 30 0 (((21 : Int32) + a2)).toNatClampNeg) = (-1 : Int32) then K5 ((0 : Int32)) (x3) else x_guard (vp_in ((21 : Int32) + a2) 605) <| x_guard (vp_in ((29 : Int32) + (md 30 0 (((21 : Int32) + a2)).toNatClampNeg)) 605) <| x_let ((md 30 0 (((29 : Int32) + (md 30 0 (((21 : Int32) + a2)).toNatClampNeg))).toNatClampNeg)) fun (x14 : Int32) => x_bind (f_X8_far x3 x2) fun (q15 : Int32) => x_bind (f_X8_far x2 x14) fun (q16 : Int32) => x_let ((q15 + q16)) fun (x17 : Int32) => K5 (x17) (x14)))
noncomputable def f_X8_findsOrder_L46 (md_27 : SD) (v3_27 : Int32) (v4_27 : Int32) (a1 : Int32) (x2 : Int32) : Nat → Int32 → Int32 → Int32 → Option (Int32 × Int32 × Int32)
  | 0, _, _, _ => none
  | n_46 + 1, v5_46, v6_46, v7_46 => (if (md_27 8 0 10) ≤ v7_46 then some (v5_46, v6_46, v7_46) else (if ((v3_27 >>> (v7_46 &&& 31)) &&& (1 : Int32)) = 0 then x_let (v7_46 + (1 : Int32)) fun (x16 : Int32) => f_X8_findsOrder_L46 md_27 v3_27 v4_27 a1 x2 n_46 (v5_46) (v6_46) (x16) else (x_let (fun (y7 : Int32) => (x_guard (vp_in (((10 : Int32) * (v3_27 - ((1 : Int32) <<< (v7_46 &&& 31)))) + v7_46) 10240) <| x_let (((md_27 30 0 1) * (y7 + (md_27 36 0 ((((10 : Int32) * (v3_27 - ((1 : Int32) <<< (v7_46 &&& 31)))) + v7_46)).toNatClampNeg)))) fun (x9 : Int32) => (x_let (fun (_u : Unit) => (x_let (v7_46 + (1 : Int32)) fun (x11 : Int32) => f_X8_findsOrder_L46 md_27 v3_27 v4_27 a1 x2 n_46 (v7_46) (x9) (x11) : Option (Int32 × Int32 × Int32))) fun K10 => (if v5_46 = (-1 : Int32) then K10 (()) else (if x9 < v6_46 then K10 (()) else x_let (v7_46 + (1 : Int32)) fun (x12 : Int32) => f_X8_findsOrder_L46 md_27 v3_27 v4_27 a1 x2 n_46 (v5_46) (v6_46) (x12)))) : Option (Int32 × Int32 × Int32))) fun K6 => (if v4_27 = 0 then x_bind (f_X8_firstWay md_27 v7_46 a1) fun (q15 : Int32) => K6 (q15) else x_guard (vp_in (v4_27 - (1 : Int32)) 10) <| x_bind (f_X8_between md_27 ((md_27 35 0 ((v4_27 - (1 : Int32))).toNatClampNeg)) v7_46 x2) fun (q14 : Int32) => K6 (q14)))))
noncomputable def f_X8_findsOrder_L27 (a1 : Int32) (x2 : Int32) : Nat → Int32 → Int32 → SD → Option SD
  | 0, _, _, _ => none
  | n_27 + 1, v3_27, v4_27, md_27 => (if (md_27 8 0 10) ≤ v4_27 then some (md_27) else x_bind (f_X8_findsOrder_L46 md_27 v3_27 v4_27 a1 x2 fuel ((-1 : Int32)) ((1000000000 : Int32)) ((0 : Int32))) fun (q5 : (Int32 × Int32 × Int32)) => x_guard (vp_in v4_27 10) <| x_let (upS md_27 35 0 (v4_27).toNatClampNeg q5.1) fun (md18 : SD) => x_let ((v3_27 - ((1 : Int32) <<< (q5.1 &&& 31)))) fun (x19 : Int32) => x_let (v4_27 + (1 : Int32)) fun (x20 : Int32) => f_X8_findsOrder_L27 a1 x2 n_27 (x19) (x20) (md18))
noncomputable def f_X8_findsOrder (md : SD) (a1 : Int32) : Option SD := x_guard (vp_in ((17 : Int32) + a1) 605) <| x_let ((md 30 0 (((17 : Int32) + a1)).toNatClampNeg)) fun (x2 : Int32) => x_bind (f_X8_findsRest md x2) fun (q3 : SD) => x_let ((((1 : Int32) <<< ((q3 8 0 10) &&& 31)) - (1 : Int32))) fun (x4 : Int32) => f_X8_findsOrder_L27 a1 x2 fuel (x4) ((0 : Int32)) (q3)
noncomputable def f_X8_readsFrom_L2 (a1 : Int32) : Nat → Int32 → SD → Option SD
  | 0, _, _ => none
  | n_2 + 1, v2_2, md_2 => (if (md_2 30 0 16) ≤ v2_2 then some (md_2) else x_guard (vp_in ((589 : Int32) + v2_2) 605) <| x_bind (f_X8_platterOf md_2 ((md_2 30 0 (((589 : Int32) + v2_2)).toNatClampNeg))) fun (q2 : Int32) => (if q2 = a1 then x_guard (vp_in ((589 : Int32) + v2_2) 605) <| x_bind (f_X8_reads md_2 ((md_2 30 0 (((589 : Int32) + v2_2)).toNatClampNeg))) fun (q5 : SD) => x_let (v2_2 + (1 : Int32)) fun (x6 : Int32) => f_X8_readsFrom_L2 a1 n_2 (x6) (q5) else x_let (v2_2 + (1 : Int32)) fun (x3 : Int32) => f_X8_readsFrom_L2 a1 n_2 (x3) (md_2)))
noncomputable def f_X8_readsFrom (md : SD) (a1 : Int32) : Option SD := f_X8_readsFrom_L2 a1 fuel ((0 : Int32)) (md)
noncomputable def f_X8_serves_L68 (q6 : Int32) : Nat → Int32 → SD → Option (Int32 × SD)
  | 0, _, _ => none
  | n_68 + 1, v2_68, md_68 => (if (md_68 8 0 10) ≤ v2_68 then some (v2_68, md_68) else x_guard (vp_in v2_68 10) <| x_guard (vp_in (md_68 35 0 (v2_68).toNatClampNeg) 10) <| x_bind (f_X8_brings md_68 ((md_68 34 0 ((md_68 35 0 (v2_68).toNatClampNeg)).toNatClampNeg)) q6) fun (q11 : SD) => x_guard (vp_in v2_68 10) <| x_guard (vp_in (q11 35 0 (v2_68).toNatClampNeg) 10) <| x_bind (f_X8_readsFrom q11 ((q11 34 0 ((q11 35 0 (v2_68).toNatClampNeg)).toNatClampNeg))) fun (q14 : SD) => x_let (v2_68 + (1 : Int32)) fun (x15 : Int32) => f_X8_serves_L68 q6 n_68 (x15) (q14))
noncomputable def f_X8_serves_L6  : Nat → Int32 → SD → Option SD
  | 0, _, _ => none
  | n_6 + 1, v1_6, md_6 => (if (md_6 30 0 6) ≤ v1_6 then (x_let (fun (y3 : Int32) (md4 : SD) => (x_let (upS md4 30 0 16 (0 : Int32)) fun (md5 : SD) => some (md5) : Option SD)) fun K2 => (if (md_6 8 0 10) ≤ 0 then K2 (v1_6) (md_6) else x_bind (f_X8_freeDrive md_6) fun (q6 : Int32) => x_bind (f_X8_findsOrder md_6 q6) fun (q7 : SD) => x_bind (f_X8_serves_L68 q6 fuel ((0 : Int32)) (q7)) fun (q8 : (Int32 × SD)) => K2 (q6) (q8.2))) else x_guard (vp_in ((21 : Int32) + v1_6) 605) <| (if (md_6 30 0 (((21 : Int32) + v1_6)).toNatClampNeg) = (-1 : Int32) then x_let (v1_6 + (1 : Int32)) fun (x17 : Int32) => f_X8_serves_L6  n_6 (x17) (md_6) else x_guard (vp_in ((21 : Int32) + v1_6) 605) <| x_bind (f_X8_readsFrom md_6 ((md_6 30 0 (((21 : Int32) + v1_6)).toNatClampNeg))) fun (q19 : SD) => x_let (v1_6 + (1 : Int32)) fun (x20 : Int32) => f_X8_serves_L6  n_6 (x20) (q19)))
noncomputable def f_X8_serves (md : SD) : Option SD := x_bind (f_X8_findsWanted md) fun (q1 : SD) => f_X8_serves_L6  fuel ((0 : Int32)) (q1)
noncomputable def f_X8_areReadable_L4 (md : SD) : Nat → Int32 → Int32 → Option Int32
  | 0, _, _ => none
  | n_4 + 1, v1_4, v2_4 => (if (md 30 0 16) ≤ v2_4 then x_guard (v1_4 = 0 ∨ v1_4 = 1) <| some (v1_4) else (x_let (fun (y3 : Int32) => (x_let (v2_4 + (1 : Int32)) fun (x4 : Int32) => f_X8_areReadable_L4 md n_4 (y3) (x4) : Option Int32)) fun K2 => (x_let (fun (_u : Unit) => (K2 ((0 : Int32)) : Option Int32)) fun K5 => (if v1_4 = 0 then K5 (()) else x_guard (vp_in ((589 : Int32) + v2_4) 605) <| x_bind (f_X8_isReadable md ((md 30 0 (((589 : Int32) + v2_4)).toNatClampNeg))) fun (q7 : Int32) => (if q7 = 0 then K5 (()) else K2 ((1 : Int32)))))))
noncomputable def f_X8_areReadable (md : SD) : Option Int32 := f_X8_areReadable_L4 md fuel ((1 : Int32)) ((0 : Int32))
noncomputable def f_X8_whyNotServed (md : SD) (a1 : Int32) : Option Int32 := (if a1 ≤ (md 30 0 16) then (if (md 30 0 6) = 0 then some ((-1000007 : Int32)) else x_bind (f_X8_areReadable md) fun (q1 : Int32) => (if q1 = 0 then some ((-1000008 : Int32)) else some ((0 : Int32)))) else some ((-1000005 : Int32)))
noncomputable def f_X8_servingTime (md : SD) : Option (Int32 × SD) := x_bind (f_X8_tries md) fun (q1 : SD) => x_bind (f_X8_serves q1) fun (q2 : SD) => x_bind (f_X8_takesBack q2) fun (q3 : (Int32 × SD)) => some (q3.1, q3.2)
noncomputable def f_X8_homeSlot (md : SD) (a1 : Int32) : Option (Int32 × SD) := x_let (upS md 8 0 0 (0 : Int32)) fun (md1 : SD) => x_bind (f_X8_isPlatter md1 a1) fun (q2 : Int32) => (if q2 = 0 then some ((-1000001 : Int32), md1) else x_guard (vp_in ((29 : Int32) + a1) 605) <| some ((md1 30 0 (((29 : Int32) + a1)).toNatClampNeg), md1))
noncomputable def f_X8_platterInSlot_L18 (md1 : SD) (a1 : Int32) : Nat → Int32 → Option (Int32 × SD)
  | 0, _ => none
  | n_18 + 1, v2_18 => (if (md1 30 0 7) ≤ v2_18 then some ((-1000005 : Int32), md1) else x_guard (vp_in ((29 : Int32) + v2_18) 605) <| (if (md1 30 0 (((29 : Int32) + v2_18)).toNatClampNeg) = a1 then x_bind (f_X8_inDrive md1 v2_18) fun (q5 : Int32) => (if q5 = (-1 : Int32) then some (v2_18, md1) else x_let (v2_18 + (1 : Int32)) fun (x6 : Int32) => f_X8_platterInSlot_L18 md1 a1 n_18 (x6)) else x_let (v2_18 + (1 : Int32)) fun (x4 : Int32) => f_X8_platterInSlot_L18 md1 a1 n_18 (x4)))
noncomputable def f_X8_platterInSlot (md : SD) (a1 : Int32) : Option (Int32 × SD) := x_let (upS md 8 0 0 (0 : Int32)) fun (md1 : SD) => x_bind (f_X8_isSlot md1 a1) fun (q2 : Int32) => (if q2 = 0 then some ((-1000001 : Int32), md1) else f_X8_platterInSlot_L18 md1 a1 fuel ((0 : Int32)))
noncomputable def f_X8_found (a0 : Int32) : Option Int32 := (if a0 = (-1 : Int32) then some ((-1000005 : Int32)) else some (a0))
noncomputable def f_X8_driveOf (md : SD) (a1 : Int32) : Option (Int32 × SD) := x_let (upS md 8 0 0 (0 : Int32)) fun (md1 : SD) => x_bind (f_X8_isPlatter md1 a1) fun (q2 : Int32) => (if q2 = 0 then some ((-1000001 : Int32), md1) else x_bind (f_X8_inDrive md1 a1) fun (q3 : Int32) => x_bind (f_X8_found q3) fun (q4 : Int32) => some (q4, md1))
noncomputable def f_X8_platterInDrive (md : SD) (a1 : Int32) : Option (Int32 × SD) := x_let (upS md 8 0 0 (0 : Int32)) fun (md1 : SD) => x_bind (f_X8_isDrive md1 a1) fun (q2 : Int32) => (if q2 = 0 then some ((-1000001 : Int32), md1) else x_guard (vp_in ((21 : Int32) + a1) 605) <| x_bind (f_X8_found ((md1 30 0 (((21 : Int32) + a1)).toNatClampNeg))) fun (q4 : Int32) => some (q4, md1))
noncomputable def f_X8_pickerPosition (md : SD) : Option (Int32 × SD) := x_let (upS md 8 0 0 (0 : Int32)) fun (md1 : SD) => some ((md1 30 0 11), md1)
noncomputable def f_X8_clock (md : SD) : Option (Int32 × SD) := x_let (upS md 8 0 0 (0 : Int32)) fun (md1 : SD) => some ((md1 30 0 12), md1)
noncomputable def f_X8_exchanges (md : SD) : Option (Int32 × SD) := x_let (upS md 8 0 0 (0 : Int32)) fun (md1 : SD) => some ((md1 30 0 13), md1)
noncomputable def f_X8_travel (md : SD) : Option (Int32 × SD) := x_let (upS md 8 0 0 (0 : Int32)) fun (md1 : SD) => some ((md1 30 0 14), md1)
noncomputable def f_X8_chosenDrive (md : SD) (a1 : Int32) : Option (Int32 × SD) := x_let (upS md 8 0 0 (0 : Int32)) fun (md1 : SD) => x_bind (f_X8_isPlatter md1 a1) fun (q2 : Int32) => (if q2 = 0 then some ((-1000001 : Int32), md1) else (if (md1 30 0 6) = 0 then some ((-1000007 : Int32), md1) else x_bind (f_X8_chosen md1 a1) fun (q3 : Int32) => some (q3, md1)))
noncomputable def f_X8_mountTime (md : SD) (a1 : Int32) : Option (Int32 × SD) := x_let (upS md 8 0 0 (0 : Int32)) fun (md1 : SD) => x_bind (f_X8_isPlatter md1 a1) fun (q2 : Int32) => (if q2 = 0 then some ((-1000001 : Int32), md1) else (if (md1 30 0 6) = 0 then some ((-1000007 : Int32), md1) else x_bind (f_X8_timeFor md1 a1) fun (q3 : (Int32 × SD)) => some (q3.1, q3.2)))
noncomputable def f_X8_mountTimeIn (md : SD) (a1 : Int32) (a2 : Int32) : Option (Int32 × SD) := x_let (upS md 8 0 0 (0 : Int32)) fun (md1 : SD) => x_bind (f_X8_isPlatter md1 a1) fun (q2 : Int32) => (if q2 = 0 then some ((-1000001 : Int32), md1) else x_bind (f_X8_isDrive md1 a2) fun (q3 : Int32) => (if q3 = 0 then some ((-1000001 : Int32), md1) else x_bind (f_X8_inDrive md1 a1) fun (q4 : Int32) => (if q4 = a2 then some ((0 : Int32), md1) else (if q4 = (-1 : Int32) then x_bind (f_X8_bringTime md1 a1 a2) fun (q5 : (Int32 × SD)) => some (q5.1, q5.2) else some ((-1000005 : Int32), md1)))))
noncomputable def f_X8_free (md : SD) (a1 : Int32) : Option Int32 := x_guard (vp_in ((39 : Int32) + a1) 605) <| x_guard (vp_in ((59 : Int32) + a1) 605) <| some (((md 30 0 (((39 : Int32) + a1)).toNatClampNeg) - (md 30 0 (((59 : Int32) + a1)).toNatClampNeg)))
noncomputable def f_X8_freeSectors (md : SD) (a1 : Int32) : Option (Int32 × SD) := x_let (upS md 8 0 0 (0 : Int32)) fun (md1 : SD) => x_bind (f_X8_isPlatter md1 a1) fun (q2 : Int32) => (if q2 = 0 then some ((-1000001 : Int32), md1) else x_bind (f_X8_free md1 a1) fun (q3 : Int32) => some (q3, md1))
noncomputable def f_X8_sessionCount (md : SD) (a1 : Int32) : Option (Int32 × SD) := x_let (upS md 8 0 0 (0 : Int32)) fun (md1 : SD) => x_bind (f_X8_isPlatter md1 a1) fun (q2 : Int32) => (if q2 = 0 then some ((-1000001 : Int32), md1) else x_guard (vp_in ((69 : Int32) + a1) 605) <| some ((md1 30 0 (((69 : Int32) + a1)).toNatClampNeg), md1))
noncomputable def f_X8_hasOpenSession (md : SD) (a1 : Int32) : Option (Int32 × SD) := x_let (upS md 8 0 0 (0 : Int32)) fun (md1 : SD) => x_bind (f_X8_isPlatter md1 a1) fun (q2 : Int32) => (if q2 = 0 then some ((-1000001 : Int32), md1) else x_guard (vp_in ((79 : Int32) + a1) 605) <| some ((md1 30 0 (((79 : Int32) + a1)).toNatClampNeg), md1))
noncomputable def f_X8_isSession (md : SD) (a1 : Int32) (a2 : Int32) : Option Int32 := x_bind (f_X8_isPlatter md a1) fun (q1 : Int32) => (if q1 = 0 then some ((0 : Int32)) else x_guard (vp_in ((69 : Int32) + a1) 605) <| x_bind (f_X8_isIn ((a2).toInt64) (0 : Int64) ((((md 30 0 (((69 : Int32) + a1)).toNatClampNeg) - (1 : Int32))).toInt64)) fun (q3 : Int32) => (if q3 = 0 then some ((0 : Int32)) else some ((1 : Int32))))
noncomputable def f_X8_sessionStart (md : SD) (a1 : Int32) (a2 : Int32) : Option (Int32 × SD) := x_let (upS md 8 0 0 (0 : Int32)) fun (md1 : SD) => x_bind (f_X8_isSession md1 a1 a2) fun (q2 : Int32) => (if q2 = 0 then some ((-1000001 : Int32), md1) else x_guard (vp_in (((89 : Int32) + ((8 : Int32) * a1)) + a2) 605) <| some ((md1 30 0 ((((89 : Int32) + ((8 : Int32) * a1)) + a2)).toNatClampNeg), md1))
noncomputable def f_X8_sessionSize (md : SD) (a1 : Int32) (a2 : Int32) : Option (Int32 × SD) := x_let (upS md 8 0 0 (0 : Int32)) fun (md1 : SD) => x_bind (f_X8_isSession md1 a1 a2) fun (q2 : Int32) => (if q2 = 0 then some ((-1000001 : Int32), md1) else x_guard (vp_in (((169 : Int32) + ((8 : Int32) * a1)) + a2) 605) <| some ((md1 30 0 ((((169 : Int32) + ((8 : Int32) * a1)) + a2)).toNatClampNeg), md1))
noncomputable def f_X8_sparesLeft (md : SD) (a1 : Int32) : Option (Int32 × SD) := x_let (upS md 8 0 0 (0 : Int32)) fun (md1 : SD) => x_bind (f_X8_isPlatter md1 a1) fun (q2 : Int32) => (if q2 = 0 then some ((-1000001 : Int32), md1) else x_guard (vp_in ((49 : Int32) + a1) 605) <| some ((md1 30 0 (((49 : Int32) + a1)).toNatClampNeg), md1))
noncomputable def f_X8_staleSectors_L20 (md1 : SD) (a1 : Int32) : Nat → Int32 → Int32 → Option (Int32 × SD)
  | 0, _, _ => none
  | n_20 + 1, v2_20, v3_20 => (if (md1 30 0 10) ≤ v3_20 then some (v2_20, md1) else x_guard (vp_in ((349 : Int32) + v3_20) 605) <| (x_let (fun (y5 : Int32) => (x_let ((v2_20 + y5)) fun (x6 : Int32) => x_let (v3_20 + (1 : Int32)) fun (x7 : Int32) => f_X8_staleSectors_L20 md1 a1 n_20 (x6) (x7) : Option (Int32 × SD))) fun K4 => (x_let (fun (_u : Unit) => (K4 ((0 : Int32)) : Option (Int32 × SD))) fun K8 => (if (md1 30 0 (((349 : Int32) + v3_20)).toNatClampNeg) = a1 then x_bind (f_X8_isCurrent md1 v3_20) fun (q9 : Int32) => (if q9 = 0 then x_guard (vp_in ((429 : Int32) + v3_20) 605) <| K4 ((md1 30 0 (((429 : Int32) + v3_20)).toNatClampNeg)) else K8 (())) else K8 (())))))
noncomputable def f_X8_staleSectors (md : SD) (a1 : Int32) : Option (Int32 × SD) := x_let (upS md 8 0 0 (0 : Int32)) fun (md1 : SD) => x_bind (f_X8_isPlatter md1 a1) fun (q2 : Int32) => (if q2 = 0 then some ((-1000001 : Int32), md1) else f_X8_staleSectors_L20 md1 a1 fuel ((0 : Int32)) ((0 : Int32)))
noncomputable def f_X8_sectorKind (md : SD) (a1 : Int32) (a2 : Int32) : Option (Int32 × SD) := x_let (upS md 8 0 0 (0 : Int32)) fun (md1 : SD) => x_bind (f_X8_isSector md1 a1 a2) fun (q2 : Int32) => (if q2 = 0 then some ((-1000001 : Int32), md1) else x_bind (f_X8_versionAt md1 (30) a1 a2) fun (q3 : Int32) => x_guard (vp_in ((59 : Int32) + a1) 605) <| (x_let (fun (y6 : Int32) => (x_bind (f_X8_isBad md1 (30) a1 a2) fun (q7 : Int32) => (if q7 = 0 then some ((y6 + (0 : Int32)), md1) else some ((y6 + (10 : Int32)), md1)) : Option (Int32 × SD))) fun K5 => (if a2 < (md1 30 0 (((59 : Int32) + a1)).toNatClampNeg) then (if q3 = (-1 : Int32) then K5 ((3 : Int32)) else x_bind (f_X8_isCurrent md1 q3) fun (q8 : Int32) => (if q8 = 0 then K5 ((2 : Int32)) else K5 ((1 : Int32)))) else K5 ((0 : Int32)))))
def fbits (x : UInt32) : Int32 := x.toInt32
noncomputable def f_X8_fillBits (md : SD) (a1 : Int32) : Option (Int32 × SD) := x_let (upS md 8 0 0 (0 : Int32)) fun (md1 : SD) => x_bind (f_X8_isPlatter md1 a1) fun (q2 : Int32) => (if q2 = 0 then some ((-1000001 : Int32), md1) else x_guard (vp_in ((59 : Int32) + a1) 605) <| x_guard (vp_in ((39 : Int32) + a1) 605) <| x_guard (vf_n32 (FP.fdiv (FP.i2f (md1 30 0 (((59 : Int32) + a1)).toNatClampNeg)) (FP.i2f (md1 30 0 (((39 : Int32) + a1)).toNatClampNeg)))) <| x_guard (FP.fcmp (FP.fdiv (FP.i2f (md1 30 0 (((59 : Int32) + a1)).toNatClampNeg)) (FP.i2f (md1 30 0 (((39 : Int32) + a1)).toNatClampNeg))) (FP.fdiv (FP.i2f (md1 30 0 (((59 : Int32) + a1)).toNatClampNeg)) (FP.i2f (md1 30 0 (((39 : Int32) + a1)).toNatClampNeg))) = some .eq) <| x_let (fbits (FP.fdiv (FP.i2f (md1 30 0 (((59 : Int32) + a1)).toNatClampNeg)) (FP.i2f (md1 30 0 (((39 : Int32) + a1)).toNatClampNeg)))) fun (x7 : Int32) => some (x7, md1))
noncomputable def f_X8_cleanRun_L31 (a1 : Int32) (md1 : SD) : Nat → Int32 → Int32 → Int32 → Option (Int32 × SD)
  | 0, _, _, _ => none
  | n_31 + 1, v2_31, v3_31, v4_31 => x_guard (vp_in ((39 : Int32) + a1) 605) <| (if (md1 30 0 (((39 : Int32) + a1)).toNatClampNeg) ≤ v4_31 then some (v2_31, md1) else x_bind (f_X8_isBad md1 (30) a1 v4_31) fun (q6 : Int32) => (x_let (fun (y8 : Int32) => ((x_let (fun (y10 : Int32) => (x_let (v4_31 + (1 : Int32)) fun (x11 : Int32) => f_X8_cleanRun_L31 a1 md1 n_31 (y10) (y8) (x11) : Option (Int32 × SD))) fun K9 => (if y8 ≤ v2_31 then K9 (v2_31) else K9 (y8))) : Option (Int32 × SD))) fun K7 => (if q6 = 0 then K7 ((v3_31 + (1 : Int32))) else K7 ((0 : Int32)))))
noncomputable def f_X8_cleanRun (md : SD) (a1 : Int32) : Option (Int32 × SD) := x_let (upS md 8 0 0 (0 : Int32)) fun (md1 : SD) => x_bind (f_X8_isPlatter md1 a1) fun (q2 : Int32) => (if q2 = 0 then some ((-1000001 : Int32), md1) else x_guard (vp_in ((59 : Int32) + a1) 605) <| x_let ((md1 30 0 (((59 : Int32) + a1)).toNatClampNeg)) fun (x4 : Int32) => f_X8_cleanRun_L31 a1 md1 fuel ((0 : Int32)) ((0 : Int32)) (x4))
noncomputable def f_X8_bestPlatter_L41 (a1 : Int32) : Nat → Int32 → Int32 → Int32 → SD → Option (Int32 × SD)
  | 0, _, _, _, _ => none
  | n_41 + 1, v2_41, v3_41, v4_41, md_41 => (if (md_41 30 0 7) ≤ v4_41 then some (v2_41, md_41) else x_bind (f_X8_canWrite md_41 (30) v4_41 a1) fun (q3 : Int32) => (if q3 = 0 then x_let (v4_41 + (1 : Int32)) fun (x14 : Int32) => f_X8_bestPlatter_L41 a1 n_41 (v2_41) (v3_41) (x14) (md_41) else x_bind (f_X8_timeFor md_41 v4_41) fun (q4 : (Int32 × SD)) => x_let (q4.1) fun (x5 : Int32) => (x_let (fun (y7 : Int32) => ((if y7 = 0 then x_let (v4_41 + (1 : Int32)) fun (x9 : Int32) => f_X8_bestPlatter_L41 a1 n_41 (v2_41) (v3_41) (x9) (q4.2) else x_let (v4_41 + (1 : Int32)) fun (x8 : Int32) => f_X8_bestPlatter_L41 a1 n_41 (v4_41) (x5) (x8) (q4.2)) : Option (Int32 × SD))) fun K6 => (x_let (fun (_u : Unit) => (K6 ((1 : Int32)) : Option (Int32 × SD))) fun K10 => (if v2_41 < 0 then K10 (()) else (if x5 < v3_41 then K10 (()) else (x_let (fun (_u : Unit) => (K6 ((0 : Int32)) : Option (Int32 × SD))) fun K11 => (if x5 = v3_41 then x_bind (f_X8_free (q4.2) v4_41) fun (q12 : Int32) => x_bind (f_X8_free (q4.2) v2_41) fun (q13 : Int32) => (if q13 ≤ q12 then K11 (()) else K10 (())) else K11 (())))))))))
noncomputable def f_X8_bestPlatter (md : SD) (a1 : Int32) : Option (Int32 × SD) := x_let (upS md 8 0 0 (0 : Int32)) fun (md1 : SD) => x_bind (f_X8_isIn ((a1).toInt64) (1 : Int64) (300 : Int64)) fun (q2 : Int32) => (if q2 = 0 then some ((-1000002 : Int32), md1) else (if (md1 30 0 6) = 0 then some ((-1000007 : Int32), md1) else f_X8_bestPlatter_L41 a1 fuel ((-1000005 : Int32)) ((0 : Int32)) ((0 : Int32)) (md1)))
noncomputable def f_X8_versionCount_L20 (md1 : SD) (a1 : Int32) : Nat → Int32 → Int32 → Option (Int32 × SD)
  | 0, _, _ => none
  | n_20 + 1, v2_20, v3_20 => (if (md1 30 0 10) ≤ v3_20 then some (v2_20, md1) else x_guard (vp_in ((309 : Int32) + v3_20) 605) <| (x_let (fun (y5 : Int32) => (x_let ((v2_20 + y5)) fun (x6 : Int32) => x_let (v3_20 + (1 : Int32)) fun (x7 : Int32) => f_X8_versionCount_L20 md1 a1 n_20 (x6) (x7) : Option (Int32 × SD))) fun K4 => (if (md1 30 0 (((309 : Int32) + v3_20)).toNatClampNeg) = a1 then K4 ((1 : Int32)) else K4 ((0 : Int32)))))
noncomputable def f_X8_versionCount (md : SD) (a1 : Int32) : Option (Int32 × SD) := x_let (upS md 8 0 0 (0 : Int32)) fun (md1 : SD) => x_bind (f_X8_isFile md1 a1) fun (q2 : Int32) => (if q2 = 0 then some ((-1000001 : Int32), md1) else f_X8_versionCount_L20 md1 a1 fuel ((0 : Int32)) ((0 : Int32)))
noncomputable def f_X8_ofVersion (md : SD) (a1 : Int32) (a2 : Int32) : Option (Int32 × SD) := x_let (upS md 8 0 0 (0 : Int32)) fun (md1 : SD) => x_bind (f_X8_isFile md1 a1) fun (q2 : Int32) => (if q2 = 0 then some ((-1000001 : Int32), md1) else x_bind (f_X8_version md1 a1) fun (q3 : Int32) => x_guard (vp_in (a2 + q3) 605) <| some ((md1 30 0 ((a2 + q3)).toNatClampNeg), md1))
noncomputable def f_X8_filePlatter (md : SD) (a1 : Int32) : Option (Int32 × SD) := x_bind (f_X8_ofVersion md a1 (349 : Int32)) fun (q1 : (Int32 × SD)) => some (q1.1, q1.2)
noncomputable def f_X8_fileStart (md : SD) (a1 : Int32) : Option (Int32 × SD) := x_bind (f_X8_ofVersion md a1 (389 : Int32)) fun (q1 : (Int32 × SD)) => some (q1.1, q1.2)
noncomputable def f_X8_fileSize (md : SD) (a1 : Int32) : Option (Int32 × SD) := x_bind (f_X8_ofVersion md a1 (429 : Int32)) fun (q1 : (Int32 × SD)) => some (q1.1, q1.2)
noncomputable def f_X8_fileSession (md : SD) (a1 : Int32) : Option (Int32 × SD) := x_bind (f_X8_ofVersion md a1 (469 : Int32)) fun (q1 : (Int32 × SD)) => some (q1.1, q1.2)
noncomputable def f_X8_remappedSectors (md : SD) (a1 : Int32) : Option (Int32 × SD) := x_bind (f_X8_ofVersion md a1 (509 : Int32)) fun (q1 : (Int32 × SD)) => some (q1.1, q1.2)
noncomputable def f_X8_fileState (md : SD) (a1 : Int32) : Option (Int32 × SD) := x_let (upS md 8 0 0 (0 : Int32)) fun (md1 : SD) => x_bind (f_X8_isFile md1 a1) fun (q2 : Int32) => (if q2 = 0 then some ((-1000001 : Int32), md1) else x_bind (f_X8_version md1 a1) fun (q3 : Int32) => x_guard (vp_in ((549 : Int32) + q3) 605) <| (if (md1 30 0 (((549 : Int32) + q3)).toNatClampNeg) = (1 : Int32) then some ((1 : Int32), md1) else x_bind (f_X8_version md1 a1) fun (q5 : Int32) => x_bind (f_X8_isClosed md1 q5) fun (q6 : Int32) => (if q6 = 0 then some ((2 : Int32), md1) else some ((0 : Int32), md1))))
noncomputable def f_X8_whyNotRead (md : SD) (a1 : Int32) : Option Int32 := x_bind (f_X8_isFile md a1) fun (q1 : Int32) => (if q1 = 0 then some ((-1000001 : Int32)) else (if (md 30 0 6) = 0 then some ((-1000007 : Int32)) else x_bind (f_X8_isReadable md a1) fun (q2 : Int32) => (if q2 = 0 then some ((-1000008 : Int32)) else some ((0 : Int32)))))
noncomputable def f_X8_readTime (md : SD) (a1 : Int32) : Option (Int32 × SD) := x_let (upS md 8 0 0 (0 : Int32)) fun (md1 : SD) => x_bind (f_X8_whyNotRead md1 a1) fun (q2 : Int32) => (if q2 = 0 then x_bind (f_X8_tries md1) fun (q3 : SD) => x_bind (f_X8_reads q3 a1) fun (q4 : SD) => x_bind (f_X8_takesBack q4) fun (q5 : (Int32 × SD)) => some (q5.1, q5.2) else some (q2, md1))
noncomputable def f_X8_lastGoodVersion_L24 (md1 : SD) (a1 : Int32) : Nat → Int32 → Int32 → Int32 → Option (Int32 × SD)
  | 0, _, _, _ => none
  | n_24 + 1, v2_24, v3_24, v4_24 => (if (md1 30 0 10) ≤ v4_24 then some (v2_24, md1) else x_guard (vp_in ((309 : Int32) + v4_24) 605) <| (if (md1 30 0 (((309 : Int32) + v4_24)).toNatClampNeg) = a1 then x_bind (f_X8_isGood md1 v4_24) fun (q4 : Int32) => (x_let (fun (y6 : Int32) => (x_let (v3_24 + (1 : Int32)) fun (x7 : Int32) => x_let (v4_24 + (1 : Int32)) fun (x8 : Int32) => f_X8_lastGoodVersion_L24 md1 a1 n_24 (y6) (x7) (x8) : Option (Int32 × SD))) fun K5 => (if q4 = 0 then K5 (v2_24) else K5 (v3_24))) else x_let (v4_24 + (1 : Int32)) fun (x9 : Int32) => f_X8_lastGoodVersion_L24 md1 a1 n_24 (v2_24) (v3_24) (x9)))
noncomputable def f_X8_lastGoodVersion (md : SD) (a1 : Int32) : Option (Int32 × SD) := x_let (upS md 8 0 0 (0 : Int32)) fun (md1 : SD) => x_bind (f_X8_isFile md1 a1) fun (q2 : Int32) => (if q2 = 0 then some ((-1000001 : Int32), md1) else f_X8_lastGoodVersion_L24 md1 a1 fuel ((-1000005 : Int32)) ((0 : Int32)) ((0 : Int32)))
noncomputable def f_X8_fileOfSector (md : SD) (a1 : Int32) (a2 : Int32) : Option (Int32 × SD) := x_let (upS md 8 0 0 (0 : Int32)) fun (md1 : SD) => x_bind (f_X8_isSector md1 a1 a2) fun (q2 : Int32) => (if q2 = 0 then some ((-1000001 : Int32), md1) else x_bind (f_X8_versionAt md1 (30) a1 a2) fun (q3 : Int32) => (if q3 = (-1 : Int32) then some ((-1000005 : Int32), md1) else x_guard (vp_in ((309 : Int32) + q3) 605) <| some ((md1 30 0 (((309 : Int32) + q3)).toNatClampNeg), md1)))
noncomputable def f_X8_filesOn_L20 (md1 : SD) (a1 : Int32) : Nat → Int32 → Int32 → Option (Int32 × SD)
  | 0, _, _ => none
  | n_20 + 1, v2_20, v3_20 => (if (md1 30 0 9) ≤ v3_20 then some (v2_20, md1) else x_bind (f_X8_platterOf md1 v3_20) fun (q3 : Int32) => (x_let (fun (y5 : Int32) => (x_let ((v2_20 + y5)) fun (x6 : Int32) => x_let (v3_20 + (1 : Int32)) fun (x7 : Int32) => f_X8_filesOn_L20 md1 a1 n_20 (x6) (x7) : Option (Int32 × SD))) fun K4 => (if q3 = a1 then K4 ((1 : Int32)) else K4 ((0 : Int32)))))
noncomputable def f_X8_filesOn (md : SD) (a1 : Int32) : Option (Int32 × SD) := x_let (upS md 8 0 0 (0 : Int32)) fun (md1 : SD) => x_bind (f_X8_isPlatter md1 a1) fun (q2 : Int32) => (if q2 = 0 then some ((-1000001 : Int32), md1) else f_X8_filesOn_L20 md1 a1 fuel ((0 : Int32)) ((0 : Int32)))
noncomputable def f_X8_took (md : SD) (a1 : Int32) : Option Int32 := some (((md 30 0 12) - a1))
noncomputable def f_X8_mount (md : SD) (a1 : Int32) : Option (Int32 × SD) := x_let (upS md 8 0 0 (0 : Int32)) fun (md1 : SD) => x_bind (f_X8_isPlatter md1 a1) fun (q2 : Int32) => (if q2 = 0 then some ((-1000001 : Int32), md1) else (if (md1 30 0 6) = 0 then some ((-1000007 : Int32), md1) else x_bind (f_X8_remembers md1) fun (q3 : SD) => x_let ((q3 30 0 12)) fun (x4 : Int32) => x_bind (f_X8_mounts q3 a1) fun (q5 : (Int32 × SD)) => x_bind (f_X8_took (q5.2) x4) fun (q6 : Int32) => some (q6, q5.2)))
noncomputable def f_X8_eject (md : SD) (a1 : Int32) : Option (Int32 × SD) := x_let (upS md 8 0 0 (0 : Int32)) fun (md1 : SD) => x_bind (f_X8_isDrive md1 a1) fun (q2 : Int32) => (if q2 = 0 then some ((-1000001 : Int32), md1) else x_guard (vp_in ((21 : Int32) + a1) 605) <| (if (md1 30 0 (((21 : Int32) + a1)).toNatClampNeg) = (-1 : Int32) then some ((-1000005 : Int32), md1) else x_bind (f_X8_remembers md1) fun (q4 : SD) => x_let ((q4 30 0 12)) fun (x5 : Int32) => x_bind (f_X8_empties q4 a1) fun (q6 : SD) => x_bind (f_X8_took q6 x5) fun (q7 : Int32) => some (q7, q6)))
noncomputable def f_X8_read (md : SD) (a1 : Int32) : Option (Int32 × SD) := x_let (upS md 8 0 0 (0 : Int32)) fun (md1 : SD) => x_bind (f_X8_whyNotRead md1 a1) fun (q2 : Int32) => (if q2 = 0 then x_bind (f_X8_remembers md1) fun (q3 : SD) => x_let ((q3 30 0 12)) fun (x4 : Int32) => x_bind (f_X8_reads q3 a1) fun (q5 : SD) => x_bind (f_X8_took q5 x4) fun (q6 : Int32) => some (q6, q5) else some (q2, md1))
noncomputable def f_X8_whyNotWritten (md : SD) (a1 : Int32) (a2 : Int32) (a3 : Int32) : Option Int32 := x_bind (f_X8_isPlatter md a2) fun (q1 : Int32) => (if q1 = 0 then some ((-1000001 : Int32)) else x_bind (f_X8_isIn ((a1).toInt64) (1 : Int64) (300 : Int64)) fun (q2 : Int32) => (if q2 = 0 then some ((-1000002 : Int32)) else (if a3 = 0 then (if (md 30 0 6) = 0 then some ((-1000007 : Int32)) else x_bind (f_X8_canWrite md (30) a2 a1) fun (q3 : Int32) => (if q3 = 0 then some ((-1000008 : Int32)) else some ((0 : Int32)))) else some ((-1000003 : Int32)))))
noncomputable def f_X8_writesOn (md : SD) (a1 : Int32) (a2 : Int32) (a3 : Int32) : Option SD := x_bind (f_X8_mounts md a3) fun (q1 : (Int32 × SD)) => x_let (upS q1.2 30 0 12 ((q1.2 30 0 12) + ((q1.2 30 0 5) * a2))) fun (md2 : SD) => x_bind (f_X8_writesVersion md2 (30) a1 a3 a2) fun (q3 : SD) => some (q3)
noncomputable def f_X8_write (md : SD) (a1 : Int32) (a2 : Int32) (a3 : Int32) : Option (Int32 × SD) := x_let (upS md 8 0 0 (0 : Int32)) fun (md1 : SD) => x_bind (f_X8_isFile md1 a1) fun (q2 : Int32) => (if q2 = 0 then some ((-1000001 : Int32), md1) else (x_let (fun (y4 : Int32) => (x_bind (f_X8_whyNotWritten md1 a2 a3 y4) fun (q5 : Int32) => (if q5 = 0 then x_bind (f_X8_remembers md1) fun (q6 : SD) => x_let ((q6 30 0 12)) fun (x7 : Int32) => x_bind (f_X8_writesOn q6 a1 a2 a3) fun (q8 : SD) => x_bind (f_X8_took q8 x7) fun (q9 : Int32) => some (q9, q8) else some (q5, md1)) : Option (Int32 × SD))) fun K3 => (if (md1 30 0 10) = (40 : Int32) then K3 ((1 : Int32)) else K3 ((0 : Int32)))))
noncomputable def f_X8_create (md : SD) (a1 : Int32) (a2 : Int32) : Option (Int32 × SD) := x_let (upS md 8 0 0 (0 : Int32)) fun (md1 : SD) => (x_let (fun (y3 : Int32) => (x_bind (f_X8_whyNotWritten md1 a1 a2 y3) fun (q4 : Int32) => (if q4 = 0 then x_bind (f_X8_remembers md1) fun (q5 : SD) => x_let ((q5 30 0 9)) fun (x6 : Int32) => x_let (upS q5 30 0 9 ((q5 30 0 9) + (1 : Int32))) fun (md7 : SD) => x_bind (f_X8_writesOn md7 x6 a1 a2) fun (q8 : SD) => some (x6, q8) else some (q4, md1)) : Option (Int32 × SD))) fun K2 => (x_let (fun (_u : Unit) => (K2 ((1 : Int32)) : Option (Int32 × SD))) fun K9 => (if (md1 30 0 9) = (20 : Int32) then K9 (()) else (if (md1 30 0 10) = (40 : Int32) then K9 (()) else K2 ((0 : Int32))))))
noncomputable def f_X8_closeSession (md : SD) (a1 : Int32) : Option (Int32 × SD) := x_let (upS md 8 0 0 (0 : Int32)) fun (md1 : SD) => x_bind (f_X8_isPlatter md1 a1) fun (q2 : Int32) => (if q2 = 0 then some ((-1000001 : Int32), md1) else x_guard (vp_in ((79 : Int32) + a1) 605) <| (if (md1 30 0 (((79 : Int32) + a1)).toNatClampNeg) = 0 then some ((-1000005 : Int32), md1) else (if (md1 30 0 6) = 0 then some ((-1000007 : Int32), md1) else x_bind (f_X8_remembers md1) fun (q4 : SD) => x_bind (f_X8_mounts q4 a1) fun (q5 : (Int32 × SD)) => x_bind (f_X8_leadOut (q5.2) (30) a1) fun (q6 : Int32) => x_let (upS q5.2 30 0 12 ((q5.2 30 0 12) + ((q5.2 30 0 5) * q6))) fun (md7 : SD) => x_bind (f_X8_closes md7 (30) a1) fun (q8 : SD) => some (q6, q8))))
noncomputable def f_X8_markBad_L66 (q5 : SD) : Nat → Int32 → Int32 → Option (Int32 × SD)
  | 0, _, _ => none
  | n_66 + 1, v3_66, v4_66 => (if (q5 30 0 10) ≤ v4_66 then some (v3_66, q5) else x_guard (vp_in ((549 : Int32) + v4_66) 605) <| x_let ((v3_66 + (q5 30 0 (((549 : Int32) + v4_66)).toNatClampNeg))) fun (x7 : Int32) => x_let (v4_66 + (1 : Int32)) fun (x8 : Int32) => f_X8_markBad_L66 q5 n_66 (x7) (x8))
noncomputable def f_X8_markBad (md : SD) (a1 : Int32) (a2 : Int32) : Option (Int32 × SD) := x_let (upS md 8 0 0 (0 : Int32)) fun (md1 : SD) => x_bind (f_X8_isSector md1 a1 a2) fun (q2 : Int32) => (if q2 = 0 then some ((-1000001 : Int32), md1) else x_bind (f_X8_isBad md1 (30) a1 a2) fun (q3 : Int32) => (if q3 = 0 then (if (md1 30 0 8) = (20 : Int32) then some ((-1000003 : Int32), md1) else x_bind (f_X8_remembers md1) fun (q4 : SD) => x_bind (f_X8_marks q4 (30) a1 a2) fun (q5 : SD) => f_X8_markBad_L66 q5 fuel ((0 : Int32)) ((0 : Int32))) else some ((-1000004 : Int32), md1)))
noncomputable def f_X8_homeAt_L2 (md : SD) (k0 : Nat) (a1 : Int32) : Nat → Int32 → Option Int32
  | 0, _ => none
  | n_2 + 1, v2_2 => (if (md k0 0 7) ≤ v2_2 then some ((-1 : Int32)) else x_guard (vp_in ((29 : Int32) + v2_2) 605) <| (if (md k0 0 (((29 : Int32) + v2_2)).toNatClampNeg) = a1 then some (v2_2) else x_let (v2_2 + (1 : Int32)) fun (x2 : Int32) => f_X8_homeAt_L2 md k0 a1 n_2 (x2)))
noncomputable def f_X8_homeAt (md : SD) (k0 : Nat) (a1 : Int32) : Option Int32 := f_X8_homeAt_L2 md k0 a1 fuel ((0 : Int32))
noncomputable def f_X8_moveHome (md : SD) (a1 : Int32) (a2 : Int32) : Option (Int32 × SD) := x_let (upS md 8 0 0 (0 : Int32)) fun (md1 : SD) => x_bind (f_X8_isPlatter md1 a1) fun (q2 : Int32) => (if q2 = 0 then some ((-1000001 : Int32), md1) else x_bind (f_X8_isSlot md1 a2) fun (q3 : Int32) => (if q3 = 0 then some ((-1000001 : Int32), md1) else x_guard (vp_in ((29 : Int32) + a1) 605) <| (if (md1 30 0 (((29 : Int32) + a1)).toNatClampNeg) = a2 then some ((-1000004 : Int32), md1) else x_bind (f_X8_inDrive md1 a1) fun (q5 : Int32) => (if q5 = (-1 : Int32) then x_bind (f_X8_homeAt md1 (30) a2) fun (q6 : Int32) => (if q6 = (-1 : Int32) then x_bind (f_X8_remembers md1) fun (q7 : SD) => x_guard (vp_in ((29 : Int32) + a1) 605) <| x_let ((q7 30 0 (((29 : Int32) + a1)).toNatClampNeg)) fun (x9 : Int32) => x_guard (vp_in ((29 : Int32) + a1) 605) <| x_let (upS q7 30 0 (((29 : Int32) + a1)).toNatClampNeg a2) fun (md11 : SD) => some (x9, md11) else some ((-1000003 : Int32), md1)) else some ((-1000005 : Int32), md1)))))
noncomputable def f_X8_setTimes (md : SD) (a1 : Int32) (a2 : Int32) (a3 : Int32) (a4 : Int32) (a5 : Int32) : Option (Int32 × SD) := x_let (upS md 8 0 0 (0 : Int32)) fun (md1 : SD) => x_bind (f_X8_isIn ((a1).toInt64) (0 : Int64) (99 : Int64)) fun (q2 : Int32) => (if q2 = 0 then some ((-1000002 : Int32), md1) else x_bind (f_X8_isIn ((a2).toInt64) (0 : Int64) (99 : Int64)) fun (q3 : Int32) => (if q3 = 0 then some ((-1000002 : Int32), md1) else x_bind (f_X8_isIn ((a3).toInt64) (0 : Int64) (99 : Int64)) fun (q4 : Int32) => (if q4 = 0 then some ((-1000002 : Int32), md1) else x_bind (f_X8_isIn ((a4).toInt64) (0 : Int64) (99 : Int64)) fun (q5 : Int32) => (if q5 = 0 then some ((-1000002 : Int32), md1) else x_bind (f_X8_isIn ((a5).toInt64) (0 : Int64) (99 : Int64)) fun (q6 : Int32) => (if q6 = 0 then some ((-1000002 : Int32), md1) else (x_let (fun (_u : Unit) => (x_bind (f_X8_remembers md1) fun (q8 : SD) => x_let ((((((q8 30 0 1) + (q8 30 0 2)) + (q8 30 0 3)) + (q8 30 0 4)) + (q8 30 0 5))) fun (x9 : Int32) => x_let (upS q8 30 0 1 a1) fun (md10 : SD) => x_let (upS md10 30 0 2 a2) fun (md11 : SD) => x_let (upS md11 30 0 3 a3) fun (md12 : SD) => x_let (upS md12 30 0 4 a4) fun (md13 : SD) => x_let (upS md13 30 0 5 a5) fun (md14 : SD) => some (x9, md14) : Option (Int32 × SD))) fun K7 => (if (md1 30 0 1) = a1 then (if (md1 30 0 2) = a2 then (if (md1 30 0 3) = a3 then (if (md1 30 0 4) = a4 then (if (md1 30 0 5) = a5 then some ((-1000004 : Int32), md1) else K7 (())) else K7 (())) else K7 (())) else K7 (())) else K7 (()))))))))
noncomputable def f_X8_request (md : SD) (a1 : Int32) : Option (Int32 × SD) := x_let (upS md 8 0 0 (0 : Int32)) fun (md1 : SD) => x_bind (f_X8_isFile md1 a1) fun (q2 : Int32) => (if q2 = 0 then some ((-1000001 : Int32), md1) else x_bind (f_X8_isReadable md1 a1) fun (q3 : Int32) => (if q3 = 0 then some ((-1000008 : Int32), md1) else (if (md1 30 0 16) = (16 : Int32) then some ((-1000003 : Int32), md1) else x_bind (f_X8_remembers md1) fun (q4 : SD) => x_guard (vp_in ((589 : Int32) + (q4 30 0 16)) 605) <| x_let (upS q4 30 0 (((589 : Int32) + (q4 30 0 16))).toNatClampNeg a1) fun (md6 : SD) => x_let (upS md6 30 0 16 ((md6 30 0 16) + (1 : Int32))) fun (md7 : SD) => some ((md7 30 0 16), md7))))
noncomputable def f_X8_drops_L13  : Nat → Int32 → SD → Option SD
  | 0, _, _ => none
  | n_13 + 1, v2_13, md_13 => (if (md_13 30 0 16) ≤ v2_13 then some (md_13) else x_guard (vp_in (((589 : Int32) + v2_13) + (1 : Int32)) 605) <| x_guard (vp_in ((589 : Int32) + v2_13) 605) <| x_let (upS md_13 30 0 (((589 : Int32) + v2_13)).toNatClampNeg (md_13 30 0 ((((589 : Int32) + v2_13) + (1 : Int32))).toNatClampNeg)) fun (md4 : SD) => x_let (v2_13 + (1 : Int32)) fun (x5 : Int32) => f_X8_drops_L13  n_13 (x5) (md4))
noncomputable def f_X8_drops (md : SD) (a1 : Int32) : Option SD := x_let (upS md 30 0 16 ((md 30 0 16) - (1 : Int32))) fun (md1 : SD) => f_X8_drops_L13  fuel (a1) (md1)
noncomputable def f_X8_dropRequest (md : SD) (a1 : Int32) : Option (Int32 × SD) := x_let (upS md 8 0 0 (0 : Int32)) fun (md1 : SD) => x_bind (f_X8_isRequest md1 a1) fun (q2 : Int32) => (if q2 = 0 then some ((-1000001 : Int32), md1) else x_bind (f_X8_remembers md1) fun (q3 : SD) => x_guard (vp_in ((589 : Int32) + a1) 605) <| x_let ((q3 30 0 (((589 : Int32) + a1)).toNatClampNeg)) fun (x5 : Int32) => x_bind (f_X8_drops q3 a1) fun (q6 : SD) => some (x5, q6))
noncomputable def f_X8_serveBatch (md : SD) : Option (Int32 × SD) := x_let (upS md 8 0 0 (0 : Int32)) fun (md1 : SD) => x_bind (f_X8_whyNotServed md1 (1 : Int32)) fun (q2 : Int32) => (if q2 = 0 then x_bind (f_X8_remembers md1) fun (q3 : SD) => x_let ((q3 30 0 12)) fun (x4 : Int32) => x_bind (f_X8_serves q3) fun (q5 : SD) => x_bind (f_X8_took q5 x4) fun (q6 : Int32) => some (q6, q5) else some (q2, md1))
noncomputable def f_X8_undo_L27  : Nat → Int32 → SD → Option (Int32 × SD)
  | 0, _, _ => none
  | n_27 + 1, v1_27, md_27 => (if (605 : Int32) ≤ v1_27 then some ((md_27 8 0 5), md_27) else x_guard (vp_in (((605 : Int32) * (md_27 8 0 5)) + v1_27) 9680) <| x_guard (vp_in v1_27 605) <| x_let (upS md_27 30 0 (v1_27).toNatClampNeg (md_27 33 0 ((((605 : Int32) * (md_27 8 0 5)) + v1_27)).toNatClampNeg)) fun (md5 : SD) => x_let (v1_27 + (1 : Int32)) fun (x6 : Int32) => f_X8_undo_L27  n_27 (x6) (md5))
noncomputable def f_X8_undo (md : SD) : Option (Int32 × SD) := x_let (upS md 8 0 0 (0 : Int32)) fun (md1 : SD) => (if (md1 8 0 5) = 0 then some ((-1000005 : Int32), md1) else x_let (upS md1 8 0 5 ((md1 8 0 5) - (1 : Int32))) fun (md2 : SD) => f_X8_undo_L27  fuel ((0 : Int32)) (md2))
noncomputable def f_X8_requestedFile (md : SD) (a1 : Int32) : Option (Int32 × SD) := x_let (upS md 8 0 0 (0 : Int32)) fun (md1 : SD) => x_bind (f_X8_isRequest md1 a1) fun (q2 : Int32) => (if q2 = 0 then some ((-1000001 : Int32), md1) else x_guard (vp_in ((589 : Int32) + a1) 605) <| some ((md1 30 0 (((589 : Int32) + a1)).toNatClampNeg), md1))
noncomputable def f_X8_batchTime (md : SD) : Option (Int32 × SD) := x_let (upS md 8 0 0 (0 : Int32)) fun (md1 : SD) => x_bind (f_X8_whyNotServed md1 (1 : Int32)) fun (q2 : Int32) => (if q2 = 0 then x_bind (f_X8_servingTime md1) fun (q3 : (Int32 × SD)) => some (q3.1, q3.2) else some (q2, md1))
noncomputable def f_X8_batchExchanges (md : SD) : Option (Int32 × SD) := x_let (upS md 8 0 0 (0 : Int32)) fun (md1 : SD) => x_bind (f_X8_whyNotServed md1 (1 : Int32)) fun (q2 : Int32) => (if q2 = 0 then x_bind (f_X8_findsWanted md1) fun (q3 : SD) => some ((q3 8 0 10), q3) else some (q2, md1))
noncomputable def f_X8_batchPlatter (md : SD) (a1 : Int32) : Option (Int32 × SD) := x_let (upS md 8 0 0 (0 : Int32)) fun (md1 : SD) => x_bind (f_X8_whyNotServed md1 (1 : Int32)) fun (q2 : Int32) => (if q2 = 0 then x_bind (f_X8_servingTime md1) fun (q3 : (Int32 × SD)) => x_bind (f_X8_isIn ((a1).toInt64) (0 : Int64) ((((q3.2 8 0 10) - (1 : Int32))).toInt64)) fun (q4 : Int32) => (if q4 = 0 then some ((-1000001 : Int32), q3.2) else x_guard (vp_in a1 10) <| x_guard (vp_in (q3.2 35 0 (a1).toNatClampNeg) 10) <| some ((q3.2 34 0 ((q3.2 35 0 (a1).toNatClampNeg)).toNatClampNeg), q3.2)) else some (q2, md1))
noncomputable def f_X8_oneByOneTime_L23  : Nat → Int32 → SD → Option (Int32 × SD)
  | 0, _, _ => none
  | n_23 + 1, v2_23, md_23 => (if (md_23 30 0 16) ≤ v2_23 then x_bind (f_X8_takesBack md_23) fun (q4 : (Int32 × SD)) => some (q4.1, q4.2) else x_guard (vp_in ((589 : Int32) + v2_23) 605) <| x_bind (f_X8_reads md_23 ((md_23 30 0 (((589 : Int32) + v2_23)).toNatClampNeg))) fun (q6 : SD) => x_let (v2_23 + (1 : Int32)) fun (x7 : Int32) => f_X8_oneByOneTime_L23  n_23 (x7) (q6))
noncomputable def f_X8_oneByOneTime (md : SD) : Option (Int32 × SD) := x_let (upS md 8 0 0 (0 : Int32)) fun (md1 : SD) => x_bind (f_X8_whyNotServed md1 (1 : Int32)) fun (q2 : Int32) => (if q2 = 0 then x_bind (f_X8_tries md1) fun (q3 : SD) => f_X8_oneByOneTime_L23  fuel ((0 : Int32)) (q3) else some (q2, md1))
noncomputable def f_X8_leastTimeWithoutOne_L22  : Nat → Int32 → Int32 → SD → Option (Int32 × SD)
  | 0, _, _, _ => none
  | n_22 + 1, v2_22, v3_22, md_22 => (if (md_22 30 0 16) ≤ v3_22 then some (v2_22, md_22) else x_bind (f_X8_tries md_22) fun (q3 : SD) => x_bind (f_X8_drops q3 v3_22) fun (q4 : SD) => x_bind (f_X8_serves q4) fun (q5 : SD) => x_bind (f_X8_takesBack q5) fun (q6 : (Int32 × SD)) => x_let (q6.1) fun (x7 : Int32) => (x_let (fun (y9 : Int32) => (x_let (v3_22 + (1 : Int32)) fun (x10 : Int32) => f_X8_leastTimeWithoutOne_L22  n_22 (y9) (x10) (q6.2) : Option (Int32 × SD))) fun K8 => (if v2_22 ≤ x7 then K8 (v2_22) else K8 (x7))))
noncomputable def f_X8_leastTimeWithoutOne (md : SD) : Option (Int32 × SD) := x_let (upS md 8 0 0 (0 : Int32)) fun (md1 : SD) => x_bind (f_X8_whyNotServed md1 (2 : Int32)) fun (q2 : Int32) => (if q2 = 0 then f_X8_leastTimeWithoutOne_L22  fuel ((1000000000 : Int32)) ((0 : Int32)) (md1) else some (q2, md1))
noncomputable def f_X8_nearest_L5 (md : SD) (a1 : Int32) : Nat → Int32 → Int32 → Option Int32
  | 0, _, _ => none
  | n_5 + 1, v2_5, v3_5 => (if (md 30 0 6) ≤ v3_5 then some (v2_5) else x_guard (vp_in ((17 : Int32) + v3_5) 605) <| x_bind (f_X8_far a1 ((md 30 0 (((17 : Int32) + v3_5)).toNatClampNeg))) fun (q2 : Int32) => x_let ((if q2 < v2_5 then q2 else v2_5)) fun (x3 : Int32) => x_let (v3_5 + (1 : Int32)) fun (x4 : Int32) => f_X8_nearest_L5 md a1 n_5 (x3) (x4))
noncomputable def f_X8_nearest (md : SD) (a1 : Int32) : Option Int32 := f_X8_nearest_L5 md a1 fuel ((1000000000 : Int32)) ((0 : Int32))
noncomputable def f_X8_nearestHome_L33 (md1 : SD) (a1 : Int32) : Nat → Int32 → Int32 → Option (Int32 × SD)
  | 0, _, _ => none
  | n_33 + 1, v2_33, v3_33 => (if (md1 30 0 0) ≤ v3_33 then some (v2_33, md1) else x_bind (f_X8_homeAt md1 (30) v3_33) fun (q3 : Int32) => (x_let (fun (_u : Unit) => ((x_let (fun (_u : Unit) => (x_let (v3_33 + (1 : Int32)) fun (x6 : Int32) => f_X8_nearestHome_L33 md1 a1 n_33 (v3_33) (x6) : Option (Int32 × SD))) fun K5 => (if v2_33 = (-1 : Int32) then K5 (()) else x_bind (f_X8_nearest md1 v3_33) fun (q7 : Int32) => x_bind (f_X8_nearest md1 v2_33) fun (q8 : Int32) => (if q8 ≤ q7 then x_let (v3_33 + (1 : Int32)) fun (x9 : Int32) => f_X8_nearestHome_L33 md1 a1 n_33 (v2_33) (x9) else K5 (())))) : Option (Int32 × SD))) fun K4 => (if q3 = (-1 : Int32) then K4 (()) else (if q3 = a1 then K4 (()) else x_let (v3_33 + (1 : Int32)) fun (x10 : Int32) => f_X8_nearestHome_L33 md1 a1 n_33 (v2_33) (x10)))))
noncomputable def f_X8_nearestHome (md : SD) (a1 : Int32) : Option (Int32 × SD) := x_let (upS md 8 0 0 (0 : Int32)) fun (md1 : SD) => x_bind (f_X8_isPlatter md1 a1) fun (q2 : Int32) => (if q2 = 0 then some ((-1000001 : Int32), md1) else (if (md1 30 0 6) = 0 then some ((-1000007 : Int32), md1) else f_X8_nearestHome_L33 md1 a1 fuel ((-1 : Int32)) ((0 : Int32))))
noncomputable def f_X8_puts (md : SD) (a1 : Int32) : Option SD := x_guard (vp_in (md 8 0 12) 600) <| x_let (upS md 37 0 ((md 8 0 12)).toNatClampNeg ((a1).toInt8.toInt32).toInt8.toInt32) fun (md2 : SD) => x_let (upS md2 8 0 12 ((md2 8 0 12) + (1 : Int32))) fun (md3 : SD) => some (md3)
noncomputable def f_X8_digits_L20 (a1 : Int32) : Nat → Int32 → SD → Option SD
  | 0, _, _ => none
  | n_20 + 1, v3_20, md_20 => (if v3_20 ≤ 0 then some (md_20) else x_guard (¬ v3_20 = 0) <| x_bind (f_X8_puts md_20 (((48 : Int32) + ((a1 / v3_20) - (a1 / v3_20) / (10 : Int32) * (10 : Int32))))) fun (q3 : SD) => x_let ((v3_20 / (10 : Int32))) fun (x4 : Int32) => f_X8_digits_L20 a1 n_20 (x4) (q3))
noncomputable def f_X8_digits_L2 (a1 : Int32) (md : SD) : Nat → Int32 → Option SD
  | 0, _ => none
  | n_2 + 1, v2_2 => x_guard (¬ v2_2 = 0) <| (if (a1 / v2_2) ≤ (9 : Int32) then f_X8_digits_L20 a1 fuel (v2_2) (md) else x_let ((v2_2 * (10 : Int32))) fun (x5 : Int32) => f_X8_digits_L2 a1 md n_2 (x5))
noncomputable def f_X8_digits (md : SD) (a1 : Int32) : Option SD := f_X8_digits_L2 a1 md fuel ((1 : Int32))
noncomputable def f_X8_writeCatalogue_L12  : Nat → Int32 → SD → Option (Int32 × SD)
  | 0, _, _ => none
  | n_12 + 1, v1_12, md_12 => (if (md_12 30 0 9) ≤ v1_12 then some ((md_12 8 0 12), md_12) else x_bind (f_X8_digits md_12 v1_12) fun (q3 : SD) => x_bind (f_X8_puts q3 (58 : Int32)) fun (q4 : SD) => x_bind (f_X8_platterOf q4 v1_12) fun (q5 : Int32) => x_bind (f_X8_digits q4 q5) fun (q6 : SD) => x_bind (f_X8_puts q6 (44 : Int32)) fun (q7 : SD) => x_bind (f_X8_version q7 v1_12) fun (q8 : Int32) => x_guard (vp_in ((389 : Int32) + q8) 605) <| x_bind (f_X8_digits q7 ((q7 30 0 (((389 : Int32) + q8)).toNatClampNeg))) fun (q10 : SD) => x_bind (f_X8_puts q10 (44 : Int32)) fun (q11 : SD) => x_bind (f_X8_version q11 v1_12) fun (q12 : Int32) => x_guard (vp_in ((429 : Int32) + q12) 605) <| x_bind (f_X8_digits q11 ((q11 30 0 (((429 : Int32) + q12)).toNatClampNeg))) fun (q14 : SD) => x_bind (f_X8_isReadable q14 v1_12) fun (q15 : Int32) => (x_let (fun (md17 : SD) => (x_bind (f_X8_puts md17 (59 : Int32)) fun (q18 : SD) => x_let (v1_12 + (1 : Int32)) fun (x19 : Int32) => f_X8_writeCatalogue_L12  n_12 (x19) (q18) : Option (Int32 × SD))) fun K16 => (if q15 = 0 then K16 (q14) else x_bind (f_X8_puts q14 (42 : Int32)) fun (q20 : SD) => K16 (q20))))
noncomputable def f_X8_writeCatalogue (md : SD) : Option (Int32 × SD) := x_let (upS md 8 0 0 (0 : Int32)) fun (md1 : SD) => x_let (upS md1 8 0 12 (0 : Int32)) fun (md2 : SD) => f_X8_writeCatalogue_L12  fuel ((0 : Int32)) (md2)
noncomputable def f_X8_outputByte (md : SD) (a1 : Int32) : Option (Int32 × SD) := x_let (upS md 8 0 0 (0 : Int32)) fun (md1 : SD) => x_bind (f_X8_isIn ((a1).toInt64) (0 : Int64) ((((md1 8 0 12) - (1 : Int32))).toInt64)) fun (q2 : Int32) => (if q2 = 0 then some ((-1000001 : Int32), md1) else x_guard (vp_in a1 600) <| some ((md1 37 0 (a1).toNatClampNeg), md1))
noncomputable def f_X8_feeds_L3 (a1 : Int32) : Nat → Int32 → SD → Option SD
  | 0, _, _ => none
  | n_3 + 1, v2_3, md_3 => (if v2_3 < 0 then some (md_3) else x_guard (vp_in (md_3 8 0 15) 900) <| x_let (upS md_3 38 0 ((md_3 8 0 15)).toNatClampNeg (((a1 >>> (v2_3 &&& 31))).toInt8.toInt32).toInt8.toInt32) fun (md2 : SD) => x_let (upS md2 8 0 15 ((md2 8 0 15) + (1 : Int32))) fun (md3 : SD) => x_let (v2_3 + (-8 : Int32)) fun (x4 : Int32) => f_X8_feeds_L3 a1 n_3 (x4) (md3))
noncomputable def f_X8_feeds (md : SD) (a1 : Int32) : Option SD := f_X8_feeds_L3 a1 fuel ((24 : Int32)) (md)
noncomputable def f_X8_feed (md : SD) (a1 : Int32) (a2 : Int32) (a3 : Int32) (a4 : Int32) (a5 : Int32) : Option (Int32 × SD) := x_let (upS md 8 0 0 (0 : Int32)) fun (md1 : SD) => (if ((md1 8 0 15) + (20 : Int32)) ≤ (900 : Int32) then x_bind (f_X8_feeds md1 a1) fun (q2 : SD) => x_bind (f_X8_feeds q2 a2) fun (q3 : SD) => x_bind (f_X8_feeds q3 a3) fun (q4 : SD) => x_bind (f_X8_feeds q4 a4) fun (q5 : SD) => x_bind (f_X8_feeds q5 a5) fun (q6 : SD) => some ((q6 8 0 15), q6) else some ((-1000003 : Int32), md1))
noncomputable def f_X8_isOf (md : SD) (a1 : Int32) (a2 : Int32) (a3 : Int32) : Option Int32 := (if (md 8 0 24) ≤ a1 then some ((0 : Int32)) else x_guard (vp_in a1 900) <| x_bind (f_X8_isIn (((md 38 0 (a1).toNatClampNeg)).toInt64) ((a2).toInt64) ((a3).toInt64)) fun (q2 : Int32) => (if q2 = 0 then some ((0 : Int32)) else some ((1 : Int32))))
noncomputable def f_X8_next_L254  : Nat → SD → Option (SD)
  | 0, _ => none
  | n_254 + 1, md_254 => x_bind (f_X8_isOf md_254 ((md_254 8 0 21)) (48 : Int32) (57 : Int32)) fun (q15 : Int32) => (if q15 = 0 then some (md_254) else (x_let (fun (y17 : Int32) => (x_let (upS md_254 8 0 23 y17) fun (md18 : SD) => x_let (upS md18 8 0 21 ((md18 8 0 21) + (1 : Int32))) fun (md19 : SD) => f_X8_next_L254  n_254 (md19) : Option (SD))) fun K16 => (if (5 : Int32) ≤ ((md_254 8 0 21) - (md_254 8 0 20)) then K16 ((md_254 8 0 23)) else x_guard (vp_in (md_254 8 0 21) 900) <| K16 (((((10 : Int32) * (md_254 8 0 23)) + (md_254 38 0 ((md_254 8 0 21)).toNatClampNeg)) - (48 : Int32))))))
noncomputable def f_X8_next_L127  : Nat → SD → Int64 → Option (SD × Int64)
  | 0, _, _ => none
  | n_127 + 1, md_127, mw_127 => x_bind (f_X8_isOf md_127 ((md_127 8 0 21)) (97 : Int32) (122 : Int32)) fun (q27 : Int32) => (if q27 = 0 then some (md_127, mw_127) else (x_let (fun (y29 : Int64) => (x_let (y29) fun (mw30 : Int64) => x_let (upS md_127 8 0 21 ((md_127 8 0 21) + (1 : Int32))) fun (md31 : SD) => f_X8_next_L127  n_127 (md31) (mw30) : Option (SD × Int64))) fun K28 => (if (8 : Int32) ≤ ((md_127 8 0 21) - (md_127 8 0 20)) then K28 ((0 : Int64)) else x_guard (vp_in (md_127 8 0 21) 900) <| K28 (((((27 : Int64) * mw_127) + ((md_127 38 0 ((md_127 8 0 21)).toNatClampNeg)).toInt64) - (96 : Int64))))))
noncomputable def f_X8_next_L8 (mw : Int64) : Nat → SD → Option (SD × Int64)
  | 0, _ => none
  | n_8 + 1, md_8 => x_bind (f_X8_isOf md_8 ((md_8 8 0 20)) (32 : Int32) (32 : Int32)) fun (q2 : Int32) => (x_let (fun (_u : Unit) => (x_let (upS md_8 8 0 20 ((md_8 8 0 20) + (1 : Int32))) fun (md4 : SD) => f_X8_next_L8 mw n_8 (md4) : Option (SD × Int64))) fun K3 => (if q2 = 0 then x_bind (f_X8_isOf md_8 ((md_8 8 0 20)) (10 : Int32) (10 : Int32)) fun (q5 : Int32) => (if q5 = 0 then x_let (upS md_8 8 0 21 ((md_8 8 0 20) + (1 : Int32))) fun (md6 : SD) => (x_let (fun (y8 : Int32) => (x_let (upS md6 8 0 22 y8) fun (md9 : SD) => x_bind (f_X8_isOf md9 ((md9 8 0 20)) (97 : Int32) (122 : Int32)) fun (q10 : Int32) => (if q10 = 0 then x_bind (f_X8_isOf md9 ((md9 8 0 20)) (48 : Int32) (57 : Int32)) fun (q11 : Int32) => (if q11 = 0 then some (md9, mw) else x_let (upS md9 8 0 23 (0 : Int32)) fun (md12 : SD) => x_let (upS md12 8 0 21 (md12 8 0 20)) fun (md13 : SD) => x_bind (f_X8_next_L254  fuel (md13)) fun (q14 : (SD)) => (x_let (fun (y22 : Int32) => (x_let (upS q14 8 0 22 y22) fun (md23 : SD) => some (md23, mw) : Option (SD × Int64))) fun K21 => (if ((q14 8 0 21) - (q14 8 0 20)) ≤ (5 : Int32) then K21 ((2 : Int32)) else K21 ((4 : Int32))))) else x_let ((0 : Int64)) fun (mw24 : Int64) => x_let (upS md9 8 0 21 (md9 8 0 20)) fun (md25 : SD) => x_bind (f_X8_next_L127  fuel (md25) (mw24)) fun (q26 : (SD × Int64)) => (x_let (fun (y34 : Int32) => (x_let (upS q26.1 8 0 22 y34) fun (md35 : SD) => some (md35, q26.2) : Option (SD × Int64))) fun K33 => (if ((q26.1 8 0 21) - (q26.1 8 0 20)) ≤ (8 : Int32) then K33 ((1 : Int32)) else K33 ((4 : Int32))))) : Option (SD × Int64))) fun K7 => (if (md6 8 0 20) < (md6 8 0 24) then x_guard (vp_in (md6 8 0 20) 900) <| (if (md6 38 0 ((md6 8 0 20)).toNatClampNeg) = (59 : Int32) then K7 ((3 : Int32)) else K7 ((4 : Int32))) else K7 ((0 : Int32)))) else K3 (())) else K3 (())))
noncomputable def f_X8_next (md : SD) (mw : Int64) : Option (SD × Int64) := x_let (upS md 8 0 20 (md 8 0 21)) fun (md1 : SD) => f_X8_next_L8 mw fuel (md1)
noncomputable def f_X8_good (md : SD) : Option Int32 := (if (md 8 0 18) = 0 then some ((1 : Int32)) else some ((0 : Int32)))
noncomputable def f_X8_must (md : SD) (a1 : Int32) (a2 : Int32) : Option SD := (if a1 = 0 then (if (md 8 0 18) ≤ 0 then (x_let (fun (y2 : Int32) => (x_let (upS md 8 0 18 y2) fun (md3 : SD) => x_let (upS md3 8 0 19 (md3 8 0 20)) fun (md4 : SD) => some (md4) : Option SD)) fun K1 => (x_let (fun (_u : Unit) => (K1 (a2) : Option SD)) fun K5 => (if a2 = (2 : Int32) then (if (md 8 0 22) = (4 : Int32) then K1 ((1 : Int32)) else K5 (())) else K5 (())))) else some (md)) else some (md))
noncomputable def f_X8_goesOn (md : SD) (mw : Int64) : Option (SD × Int64) := x_bind (f_X8_good md) fun (q1 : Int32) => (if q1 = 0 then some (md, mw) else x_bind (f_X8_next md mw) fun (q2 : (SD × Int64)) => some (q2.1, q2.2))
noncomputable def f_X8_isWord (md : SD) (mw : Int64) (a1 : Int64) : Option Int32 := x_bind (f_X8_good md) fun (q1 : Int32) => (if q1 = 0 then some ((0 : Int32)) else (if (md 8 0 22) = (1 : Int32) then (if (lg_cmp mw a1) = 0 then some ((1 : Int32)) else some ((0 : Int32))) else some ((0 : Int32))))
noncomputable def f_X8_isReserved (md : SD) (mw : Int64) : Option Int32 := x_bind (f_X8_isWord md mw (10345069 : Int64)) fun (q1 : Int32) => (if q1 = 0 then x_bind (f_X8_isWord md mw (2487218 : Int64)) fun (q2 : Int32) => (if q2 = 0 then x_bind (f_X8_isWord md mw (400577 : Int64)) fun (q3 : Int32) => (if q3 = 0 then x_bind (f_X8_isWord md mw (6371854542 : Int64)) fun (q4 : Int32) => (if q4 = 0 then x_bind (f_X8_isWord md mw (1489 : Int64)) fun (q5 : Int32) => (if q5 = 0 then x_bind (f_X8_isWord md mw (124988 : Int64)) fun (q6 : Int32) => (if q6 = 0 then x_bind (f_X8_isWord md mw (1841972 : Int64)) fun (q7 : Int32) => (if q7 = 0 then some ((0 : Int32)) else some ((1 : Int32))) else some ((1 : Int32))) else some ((1 : Int32))) else some ((1 : Int32))) else some ((1 : Int32))) else some ((1 : Int32))) else some ((1 : Int32)))
noncomputable def f_X8_sees (md : SD) (a1 : Int32) (a2 : Int32) : Option (Int32 × SD) := (x_let (fun (y2 : Int32) => (x_bind (f_X8_must md y2 (2 : Int32)) fun (q3 : SD) => x_bind (f_X8_isIn (((q3 8 0 23)).toInt64) ((a1).toInt64) ((a2).toInt64)) fun (q4 : Int32) => x_bind (f_X8_must q3 q4 (3 : Int32)) fun (q5 : SD) => x_bind (f_X8_good q5) fun (q6 : Int32) => (if q6 = 0 then some ((0 : Int32), q5) else some ((q5 8 0 23), q5)) : Option (Int32 × SD))) fun K1 => (if (md 8 0 22) = (2 : Int32) then K1 ((1 : Int32)) else K1 ((0 : Int32))))
noncomputable def f_X8_takes (md : SD) (mw : Int64) (a1 : Int32) (a2 : Int32) : Option (Int32 × SD × Int64) := x_bind (f_X8_sees md a1 a2) fun (q1 : (Int32 × SD)) => x_let (q1.1) fun (x2 : Int32) => x_bind (f_X8_goesOn (q1.2) mw) fun (q3 : (SD × Int64)) => some (x2, q3.1, q3.2)
noncomputable def f_X8_slotsLine (md : SD) (mw : Int64) : Option (SD × Int64) := (x_let (fun (y2 : Int32) => (x_bind (f_X8_must md y2 (5 : Int32)) fun (q3 : SD) => x_bind (f_X8_goesOn q3 mw) fun (q4 : (SD × Int64)) => x_bind (f_X8_takes (q4.1) (q4.2) (4 : Int32) (24 : Int32)) fun (q5 : (Int32 × SD × Int64)) => x_let (upS q5.2.1 31 0 0 q5.1) fun (md6 : SD) => some (md6, q5.2.2) : Option (SD × Int64))) fun K1 => (if (md 8 0 25) = 0 then K1 ((1 : Int32)) else K1 ((0 : Int32))))
noncomputable def f_X8_driveLine (md : SD) (mw : Int64) : Option (SD × Int64) := (x_let (fun (y2 : Int32) => (x_bind (f_X8_must md y2 (5 : Int32)) fun (q3 : SD) => x_bind (f_X8_goesOn q3 mw) fun (q4 : (SD × Int64)) => x_bind (f_X8_takes (q4.1) (q4.2) (0 : Int32) (((q4.1 31 0 0) - (1 : Int32)))) fun (q5 : (Int32 × SD × Int64)) => x_let (q5.1) fun (x6 : Int32) => x_bind (f_X8_good (q5.2.1)) fun (q7 : Int32) => (if q7 = 0 then some (q5.2.1, q5.2.2) else x_guard (vp_in ((17 : Int32) + (q5.2.1 31 0 6)) 605) <| x_let (upS q5.2.1 31 0 (((17 : Int32) + (q5.2.1 31 0 6))).toNatClampNeg x6) fun (md9 : SD) => x_let (upS md9 31 0 6 ((md9 31 0 6) + (1 : Int32))) fun (md10 : SD) => some (md10, q5.2.2)) : Option (SD × Int64))) fun K1 => (if (4 : Int32) ≤ (md 31 0 6) then K1 ((0 : Int32)) else K1 ((1 : Int32))))
noncomputable def f_X8_timeLine_L6  : Nat → Int32 → SD → Int64 → Option (SD × Int64)
  | 0, _, _, _ => none
  | n_6 + 1, v1_6, md_6, mw_6 => (if (5 : Int32) ≤ v1_6 then some (md_6, mw_6) else x_bind (f_X8_takes md_6 mw_6 (0 : Int32) (99 : Int32)) fun (q2 : (Int32 × SD × Int64)) => x_guard (vp_in ((1 : Int32) + v1_6) 605) <| x_let (upS q2.2.1 31 0 (((1 : Int32) + v1_6)).toNatClampNeg q2.1) fun (md4 : SD) => x_let (v1_6 + (1 : Int32)) fun (x5 : Int32) => f_X8_timeLine_L6  n_6 (x5) (md4) (q2.2.2))
noncomputable def f_X8_timeLine (md : SD) (mw : Int64) : Option (SD × Int64) := x_bind (f_X8_goesOn md mw) fun (q1 : (SD × Int64)) => f_X8_timeLine_L6  fuel ((0 : Int32)) (q1.1) (q1.2)
noncomputable def f_X8_platterLine (md : SD) (mw : Int64) : Option (SD × Int64) := (x_let (fun (y2 : Int32) => (x_bind (f_X8_must md y2 (5 : Int32)) fun (q3 : SD) => x_bind (f_X8_goesOn q3 mw) fun (q4 : (SD × Int64)) => x_bind (f_X8_sees (q4.1) (0 : Int32) (((q4.1 31 0 0) - (1 : Int32)))) fun (q5 : (Int32 × SD)) => x_let (q5.1) fun (x6 : Int32) => x_bind (f_X8_homeAt (q5.2) (31) x6) fun (q7 : Int32) => (x_let (fun (y9 : Int32) => (x_bind (f_X8_must (q5.2) y9 (4 : Int32)) fun (q10 : SD) => x_bind (f_X8_goesOn q10 (q4.2)) fun (q11 : (SD × Int64)) => x_bind (f_X8_takes (q11.1) (q11.2) (10 : Int32) (300 : Int32)) fun (q12 : (Int32 × SD × Int64)) => x_let (q12.1) fun (x13 : Int32) => x_bind (f_X8_takes (q12.2.1) (q12.2.2) (0 : Int32) (9 : Int32)) fun (q14 : (Int32 × SD × Int64)) => x_let (q14.1) fun (x15 : Int32) => x_bind (f_X8_good (q14.2.1)) fun (q16 : Int32) => (if q16 = 0 then some (q14.2.1, q14.2.2) else x_let ((q14.2.1 31 0 7)) fun (x17 : Int32) => x_let (upS q14.2.1 31 0 7 ((q14.2.1 31 0 7) + (1 : Int32))) fun (md18 : SD) => x_guard (vp_in ((29 : Int32) + x17) 605) <| x_let (upS md18 31 0 (((29 : Int32) + x17)).toNatClampNeg x6) fun (md20 : SD) => x_guard (vp_in ((39 : Int32) + x17) 605) <| x_let (upS md20 31 0 (((39 : Int32) + x17)).toNatClampNeg x13) fun (md22 : SD) => x_guard (vp_in ((49 : Int32) + x17) 605) <| x_let (upS md22 31 0 (((49 : Int32) + x17)).toNatClampNeg x15) fun (md24 : SD) => some (md24, q14.2.2)) : Option (SD × Int64))) fun K8 => (if q7 = (-1 : Int32) then K8 ((1 : Int32)) else K8 ((0 : Int32)))) : Option (SD × Int64))) fun K1 => (if (10 : Int32) ≤ (md 31 0 7) then K1 ((0 : Int32)) else K1 ((1 : Int32))))
noncomputable def f_X8_badLine (md : SD) (mw : Int64) : Option (SD × Int64) := (x_let (fun (y2 : Int32) => (x_bind (f_X8_must md y2 (5 : Int32)) fun (q3 : SD) => x_bind (f_X8_goesOn q3 mw) fun (q4 : (SD × Int64)) => x_bind (f_X8_takes (q4.1) (q4.2) (0 : Int32) (((q4.1 31 0 7) - (1 : Int32)))) fun (q5 : (Int32 × SD × Int64)) => x_let (q5.1) fun (x6 : Int32) => x_bind (f_X8_good (q5.2.1)) fun (q7 : Int32) => (x_let (fun (y9 : Int32) => (x_bind (f_X8_sees (q5.2.1) (0 : Int32) y9) fun (q10 : (Int32 × SD)) => x_let (q10.1) fun (x11 : Int32) => x_bind (f_X8_good (q10.2)) fun (q12 : Int32) => (x_let (fun (y14 : Int32) => (x_bind (f_X8_must (q10.2) y14 (4 : Int32)) fun (q15 : SD) => x_bind (f_X8_good q15) fun (q16 : Int32) => (x_let (fun (md18 : SD) => (x_bind (f_X8_goesOn md18 (q5.2.2)) fun (q19 : (SD × Int64)) => some (q19.1, q19.2) : Option (SD × Int64))) fun K17 => (if q16 = 0 then K17 (q15) else x_bind (f_X8_marks q15 (31) x6 x11) fun (q20 : SD) => K17 (q20))) : Option (SD × Int64))) fun K13 => (x_let (fun (_u : Unit) => (K13 ((0 : Int32)) : Option (SD × Int64))) fun K21 => (if q12 = 0 then K21 (()) else x_bind (f_X8_isBad (q10.2) (31) x6 x11) fun (q22 : Int32) => (if q22 = 0 then K13 ((1 : Int32)) else K21 (()))))) : Option (SD × Int64))) fun K8 => (if q7 = 0 then K8 ((0 : Int32)) else x_guard (vp_in ((39 : Int32) + x6) 605) <| K8 (((q5.2.1 31 0 (((39 : Int32) + x6)).toNatClampNeg) - (1 : Int32))))) : Option (SD × Int64))) fun K1 => (if (20 : Int32) ≤ (md 31 0 8) then K1 ((0 : Int32)) else K1 ((1 : Int32))))
noncomputable def f_X8_fileLine_L53 (q4 : (SD × Int64)) (mn : Nat → Int64) : Nat → Int32 → SD → Option (SD × (Nat → Int64) × Int64)
  | 0, _, _ => none
  | n_53 + 1, v1_53, md_53 => (x_let (fun (_u : Unit) => (x_let (q4.2) fun (x9 : Int64) => x_bind (f_X8_goesOn md_53 (q4.2)) fun (q10 : (SD × Int64)) => x_bind (f_X8_takes (q10.1) (q10.2) (1 : Int32) (300 : Int32)) fun (q11 : (Int32 × SD × Int64)) => x_let (q11.1) fun (x12 : Int32) => x_bind (f_X8_sees (q11.2.1) (0 : Int32) (((q11.2.1 31 0 7) - (1 : Int32)))) fun (q13 : (Int32 × SD)) => x_let (q13.1) fun (x14 : Int32) => x_bind (f_X8_good (q13.2)) fun (q15 : Int32) => (x_let (fun (y17 : Int32) => (x_bind (f_X8_must (q13.2) y17 (6 : Int32)) fun (q18 : SD) => x_bind (f_X8_good q18) fun (q19 : Int32) => (x_let (fun (md21 : SD) (mn22 : Nat → Int64) => (x_bind (f_X8_goesOn md21 (q11.2.2)) fun (q23 : (SD × Int64)) => some (q23.1, mn22, q23.2) : Option (SD × (Nat → Int64) × Int64))) fun K20 => (if q19 = 0 then K20 (q18) (mn) else x_guard (vp_in (q18 31 0 9) 20) <| x_let (vp_updL mn ((q18 31 0 9)).toNatClampNeg x9) fun (mn25 : Nat → Int64) => x_let (upS q18 31 0 9 ((q18 31 0 9) + (1 : Int32))) fun (md26 : SD) => x_bind (f_X8_writesVersion md26 (31) (((md26 31 0 9) - (1 : Int32))) x14 x12) fun (q27 : SD) => K20 (q27) (mn25))) : Option (SD × (Nat → Int64) × Int64))) fun K16 => (x_let (fun (_u : Unit) => (K16 ((0 : Int32)) : Option (SD × (Nat → Int64) × Int64))) fun K28 => (if q15 = 0 then K28 (()) else x_bind (f_X8_canWrite (q13.2) (31) x14 x12) fun (q29 : Int32) => (if q29 = 0 then K28 (()) else K16 ((1 : Int32)))))) : Option (SD × (Nat → Int64) × Int64))) fun K8 => (if (md_53 31 0 9) ≤ v1_53 then K8 (()) else x_bind (f_X8_good md_53) fun (q30 : Int32) => (if q30 = 0 then K8 (()) else x_guard (vp_in v1_53 20) <| (x_let (fun (y33 : Int32) => (x_bind (f_X8_must md_53 y33 (4 : Int32)) fun (q34 : SD) => x_let (v1_53 + (1 : Int32)) fun (x35 : Int32) => f_X8_fileLine_L53 q4 mn n_53 (x35) (q34) : Option (SD × (Nat → Int64) × Int64))) fun K32 => (if (lg_cmp (mn (v1_53).toNatClampNeg) q4.2) = 0 then K32 ((0 : Int32)) else K32 ((1 : Int32)))))))
noncomputable def f_X8_fileLine (md : SD) (mn : Nat → Int64) (mw : Int64) : Option (SD × (Nat → Int64) × Int64) := (x_let (fun (y2 : Int32) => (x_bind (f_X8_must md y2 (5 : Int32)) fun (q3 : SD) => x_bind (f_X8_goesOn q3 mw) fun (q4 : (SD × Int64)) => (x_let (fun (y6 : Int32) => (x_bind (f_X8_must (q4.1) y6 (2 : Int32)) fun (q7 : SD) => f_X8_fileLine_L53 q4 mn fuel ((0 : Int32)) (q7) : Option (SD × (Nat → Int64) × Int64))) fun K5 => (x_let (fun (_u : Unit) => (K5 ((0 : Int32)) : Option (SD × (Nat → Int64) × Int64))) fun K36 => (if (q4.1 8 0 22) = (1 : Int32) then x_bind (f_X8_isReserved (q4.1) (q4.2)) fun (q37 : Int32) => (if q37 = 0 then K5 ((1 : Int32)) else K36 (())) else K36 (())))) : Option (SD × (Nat → Int64) × Int64))) fun K1 => (if (20 : Int32) ≤ (md 31 0 9) then K1 ((0 : Int32)) else K1 ((1 : Int32))))
noncomputable def f_X8_closeLine (md : SD) (mw : Int64) : Option (SD × Int64) := x_bind (f_X8_goesOn md mw) fun (q1 : (SD × Int64)) => x_bind (f_X8_sees (q1.1) (0 : Int32) (((q1.1 31 0 7) - (1 : Int32)))) fun (q2 : (Int32 × SD)) => x_let (q2.1) fun (x3 : Int32) => x_bind (f_X8_good (q2.2)) fun (q4 : Int32) => (x_let (fun (y6 : Int32) => (x_bind (f_X8_must (q2.2) y6 (6 : Int32)) fun (q7 : SD) => x_bind (f_X8_good q7) fun (q8 : Int32) => (x_let (fun (md10 : SD) => (x_bind (f_X8_goesOn md10 (q1.2)) fun (q11 : (SD × Int64)) => some (q11.1, q11.2) : Option (SD × Int64))) fun K9 => (if q8 = 0 then K9 (q7) else x_bind (f_X8_closes q7 (31) x3) fun (q12 : SD) => K9 (q12))) : Option (SD × Int64))) fun K5 => (x_let (fun (_u : Unit) => (K5 ((0 : Int32)) : Option (SD × Int64))) fun K13 => (if q4 = 0 then K13 (()) else x_guard (vp_in ((79 : Int32) + x3) 605) <| (if (q2.2 31 0 (((79 : Int32) + x3)).toNatClampNeg) = (1 : Int32) then K5 ((1 : Int32)) else K13 (())))))
noncomputable def f_X8_line (md : SD) (mn : Nat → Int64) (mw : Int64) : Option (SD × (Nat → Int64) × Int64) := x_bind (f_X8_isWord md mw (10345069 : Int64)) fun (q1 : Int32) => (x_let (fun (md3 : SD) (mn4 : Nat → Int64) (mw5 : Int64) => (x_let (upS md3 8 0 25 ((md3 8 0 25) + (1 : Int32))) fun (md6 : SD) => some (md6, mn4, mw5) : Option (SD × (Nat → Int64) × Int64))) fun K2 => (if q1 = 0 then x_bind (f_X8_isWord md mw (2487218 : Int64)) fun (q7 : Int32) => (if q7 = 0 then x_bind (f_X8_isWord md mw (400577 : Int64)) fun (q8 : Int32) => (if q8 = 0 then x_bind (f_X8_isWord md mw (6371854542 : Int64)) fun (q9 : Int32) => (if q9 = 0 then x_bind (f_X8_isWord md mw (1489 : Int64)) fun (q10 : Int32) => (if q10 = 0 then x_bind (f_X8_isWord md mw (124988 : Int64)) fun (q11 : Int32) => (if q11 = 0 then x_bind (f_X8_isWord md mw (1841972 : Int64)) fun (q12 : Int32) => x_bind (f_X8_must md q12 (2 : Int32)) fun (q13 : SD) => x_bind (f_X8_good q13) fun (q14 : Int32) => (if q14 = 0 then K2 (q13) (mn) (mw) else x_bind (f_X8_closeLine q13 mw) fun (q15 : (SD × Int64)) => K2 (q15.1) (mn) (q15.2)) else x_bind (f_X8_fileLine md mn mw) fun (q16 : (SD × (Nat → Int64) × Int64)) => K2 (q16.1) (q16.2.1) (q16.2.2)) else x_bind (f_X8_badLine md mw) fun (q17 : (SD × Int64)) => K2 (q17.1) (mn) (q17.2)) else x_bind (f_X8_platterLine md mw) fun (q18 : (SD × Int64)) => K2 (q18.1) (mn) (q18.2)) else x_bind (f_X8_timeLine md mw) fun (q19 : (SD × Int64)) => K2 (q19.1) (mn) (q19.2)) else x_bind (f_X8_driveLine md mw) fun (q20 : (SD × Int64)) => K2 (q20.1) (mn) (q20.2)) else x_bind (f_X8_slotsLine md mw) fun (q21 : (SD × Int64)) => K2 (q21.1) (mn) (q21.2)))
noncomputable def f_X8_load_L53  : Nat → SD → (Nat → Int64) → Int64 → Option (Int32 × SD × (Nat → Int64) × Int64)
  | 0, _, _, _ => none
  | n_53 + 1, md_53, mn_53, mw_53 => x_bind (f_X8_good md_53) fun (q9 : Int32) => (x_let (fun (_u : Unit) => (x_let (upS md_53 8 0 15 (0 : Int32)) fun (md11 : SD) => x_let (upS md11 8 0 16 (md11 8 0 18)) fun (md12 : SD) => (x_let (fun (y14 : Int32) => (x_let (upS md12 8 0 17 y14) fun (md15 : SD) => (if (md15 8 0 18) ≤ 0 then x_bind (f_X8_copies md15 (31) (30)) fun (q16 : SD) => x_let (upS q16 8 0 5 (0 : Int32)) fun (md17 : SD) => some ((md17 30 0 9), md17, mn_53, mw_53) else some ((-1000006 : Int32), md15, mn_53, mw_53)) : Option (Int32 × SD × (Nat → Int64) × Int64))) fun K13 => (if (md12 8 0 18) ≤ 0 then K13 ((-1000005 : Int32)) else K13 ((md12 8 0 19)))) : Option (Int32 × SD × (Nat → Int64) × Int64))) fun K10 => (if q9 = 0 then K10 (()) else (if (md_53 8 0 22) = 0 then K10 (()) else x_bind (f_X8_line md_53 mn_53 mw_53) fun (q18 : (SD × (Nat → Int64) × Int64)) => (x_let (fun (y20 : Int32) => (x_bind (f_X8_must (q18.1) y20 (2 : Int32)) fun (q21 : SD) => x_bind (f_X8_goesOn q21 (q18.2.2)) fun (q22 : (SD × Int64)) => f_X8_load_L53  n_53 (q22.1) (q18.2.1) (q22.2) : Option (Int32 × SD × (Nat → Int64) × Int64))) fun K19 => (if (q18.1 8 0 22) = (3 : Int32) then K19 ((1 : Int32)) else K19 ((0 : Int32)))))))
noncomputable def f_X8_load (md : SD) (mn : Nat → Int64) (mw : Int64) (a1 : Int32) : Option (Int32 × SD × (Nat → Int64) × Int64) := x_let (upS md 8 0 0 (0 : Int32)) fun (md1 : SD) => x_bind (f_X8_isIn ((a1).toInt64) (0 : Int64) (((md1 8 0 15)).toInt64)) fun (q2 : Int32) => (if q2 = 0 then some ((-1000002 : Int32), md1, mn, mw) else x_let (upS md1 8 0 24 a1) fun (md3 : SD) => x_let (upS md3 8 0 21 (0 : Int32)) fun (md4 : SD) => x_let (upS md4 8 0 18 (0 : Int32)) fun (md5 : SD) => x_let (upS md5 8 0 25 (0 : Int32)) fun (md6 : SD) => x_bind (f_X8_defaults md6 (31)) fun (q7 : SD) => x_bind (f_X8_next q7 mw) fun (q8 : (SD × Int64)) => f_X8_load_L53  fuel (q8.1) (mn) (q8.2))
noncomputable def f_X8_errorKind (md : SD) : Option (Int32 × SD) := x_let (upS md 8 0 0 (0 : Int32)) fun (md1 : SD) => some ((md1 8 0 16), md1)
noncomputable def f_X8_errorPosition (md : SD) : Option (Int32 × SD) := x_let (upS md 8 0 0 (0 : Int32)) fun (md1 : SD) => some ((md1 8 0 17), md1)
end
section
/-! the pure functions of the jukebox itself -/
/-- a State is made: its block is the next 91 cells -/
noncomputable def f_newState (cs : CT) : Option CT := x_bind (f_X4_beginEmpty (fun _ _ _ => 0)) fun (sd : SD) => some (kA (kS cs (k_sz cs) sd) (k_S cs ++ [k_sz cs], k_sz cs + 91))
noncomputable def f_X1_keep_c (cs : CT) (q : Nat) : Option CT := x_guard (k_st cs ≠ q) <| x_bind (f_X4_copyFrom (k_xs cs q) (k_xs cs (k_st cs))) fun (sd : SD) => x_let (kS cs q sd) fun (c1 : CT) => if (16 : Int32) ≤ k_hd c1 1 0 2 then some (kH c1 (upS (k_hd c1) 1 0 1 ((k_hd c1 1 0 1 + 1) - (k_hd c1 1 0 1 + 1) / 16 * 16)) (k_hz c1)) else some (kH c1 (upS (k_hd c1) 1 0 2 (k_hd c1 1 0 2 + 1)) (k_hz c1))
noncomputable def f_X1_keep (cs : CT) : Option CT := x_let ((k_hd cs 1 0 1 + k_hd cs 1 0 2) - (k_hd cs 1 0 1 + k_hd cs 1 0 2) / 16 * 16) fun (p : Int32) => x_guard (vp_in p 16) <| match k_hz cs p.toNatClampNeg with
  | some q => f_X1_keep_c cs q
  | none => x_bind (f_newState cs) fun (c1 : CT) => x_let (kH c1 (k_hd c1) (va_up (k_hz c1) p.toNatClampNeg (some (k_sz cs)))) fun (c2 : CT) => f_X1_keep_c c2 (k_sz cs)
noncomputable def f_X1_goBack (cs : CT) : Option (Nat × CT) := if k_hd cs 1 0 2 = 0 then some (k_st cs, cs) else x_let (kH cs (upS (k_hd cs) 1 0 2 (k_hd cs 1 0 2 - 1)) (k_hz cs)) fun (c1 : CT) => x_let ((k_hd c1 1 0 1 + k_hd c1 1 0 2) - (k_hd c1 1 0 1 + k_hd c1 1 0 2) / 16 * 16) fun (p : Int32) => x_guard (vp_in p 16) <| x_let (kH c1 (k_hd c1) (va_up (k_hz c1) p.toNatClampNeg (some (k_st cs)))) fun (c2 : CT) => match k_hz c1 p.toNatClampNeg with
  | some q => some (q, c2)
  | none => some (k_st cs, c2)
noncomputable def f_X7_feed (rd : SD) (a1 : Int32) (a2 : Int32) (a3 : Int32) (a4 : Int32) (a5 : Int32) : Option (Int32 × SD) := (if ((rd 5 0 1) + (20 : Int32)) ≤ (900 : Int32) then x_bind (f_X5_appendFourBytes (rd) a1) fun (q1 : SD) => x_bind (f_X5_appendFourBytes q1 a2) fun (q2 : SD) => x_bind (f_X5_appendFourBytes q2 a3) fun (q3 : SD) => x_bind (f_X5_appendFourBytes q3 a4) fun (q4 : SD) => x_bind (f_X5_appendFourBytes q4 a5) fun (q5 : SD) => some ((q5 5 0 1), q5) else some ((-1000003 : Int32), rd))
noncomputable def f_X7_forgetPlan (cs : CT) : Option CT := match k_pl cs with
  | none => some cs
  | some _ => x_bind (f_X2_forgetTable (k_pd cs)) fun (pd : SD) => some (kP cs pd)
noncomputable def f_X7_load_ok (cs : CT) : Option (Int32 × CT) := x_let (k_st cs) fun (old : Nat) => x_let (kZ cs (k_sp cs, k_sp cs, k_pl cs)) fun (c1 : CT) => x_let (kZ c1 (k_st c1, old, k_pl c1)) fun (c2 : CT) => x_bind (f_X1_forgetAll (k_hd c2)) fun (hd : SD) => x_let (kH c2 hd (k_hz c2)) fun (c3 : CT) => x_bind (f_X7_forgetPlan c3) fun (c4 : CT) => some ((k_xs c4 (k_st c4)) 4 0 11, c4)
noncomputable def f_X7_load_c (cs : CT) (a1 : Int32) : Option (Int32 × CT) := x_bind (f_X5_readText (k_xs cs (k_sp cs)) (k_rd cs) (k_rn cs) a1) fun (q : Int32 × SD × SD × (Nat → Int64)) => x_let (kS (kR cs q.2.2.1 q.2.2.2) (k_sp cs) q.2.1) fun (c1 : CT) => x_let (kR c1 (upS (k_rd c1) 5 0 1 0) (k_rn c1)) fun (c2 : CT) => x_let (kJ c2 (upS (k_jd c2) 7 0 1 (k_rd c2 5 0 7))) fun (c3 : CT) => x_let (kJ c3 (upS (k_jd c3) 7 0 2 (k_rd c3 5 0 8))) fun (c4 : CT) => if q.1 = 0 then some ((-1000006 : Int32), c4) else f_X7_load_ok c4
noncomputable def f_X7_load (cs : CT) (a1 : Int32) : Option (Int32 × CT) := if a1 < 0 then some ((-1000002 : Int32), cs) else if a1 ≤ k_rd cs 5 0 1 then f_X7_load_c cs a1 else some ((-1000002 : Int32), cs)
noncomputable def f_X7_errorKind (jd : SD) : Option Int32 := some ((jd 7 0 1))
noncomputable def f_X7_errorPosition (jd : SD) : Option Int32 := (if (jd 7 0 1) = 0 then some ((-1000005 : Int32)) else some ((jd 7 0 2)))
noncomputable def f_X7_homeSlot (sd : SD) (a1 : Int32) : Option Int32 := x_bind (f_X4_hasPlatter (sd) a1) fun (q1 : Int32) => (if q1 = 0 then some ((-1000001 : Int32)) else x_guard (vp_in a1 10) <| some ((sd 3 (a1).toNatClampNeg 0)))
noncomputable def f_X7_platterInSlot (sd : SD) (a1 : Int32) : Option Int32 := x_bind (f_X4_hasSlot (sd) a1) fun (q1 : Int32) => (if q1 = 0 then some ((-1000001 : Int32)) else x_bind (f_X4_platterWithHome (sd) a1) fun (q2 : Int32) => (if q2 = (-1 : Int32) then some ((-1000005 : Int32)) else x_bind (f_X4_driveHolding (sd) q2) fun (q3 : Int32) => (if q3 = (-1 : Int32) then some (q2) else some ((-1000005 : Int32)))))
noncomputable def f_X7_foundOrNot (a0 : Int32) : Option Int32 := (if a0 = (-1 : Int32) then some ((-1000005 : Int32)) else some (a0))
noncomputable def f_X7_driveOf (sd : SD) (a1 : Int32) : Option Int32 := x_bind (f_X4_hasPlatter (sd) a1) fun (q1 : Int32) => (if q1 = 0 then some ((-1000001 : Int32)) else x_bind (f_X4_driveHolding (sd) a1) fun (q2 : Int32) => x_bind (f_X7_foundOrNot q2) fun (q3 : Int32) => some (q3))
noncomputable def f_X7_platterInDrive (sd : SD) (a1 : Int32) : Option Int32 := x_bind (f_X4_hasDrive (sd) a1) fun (q1 : Int32) => (if q1 = 0 then some ((-1000001 : Int32)) else x_guard (vp_in a1 4) <| x_bind (f_X7_foundOrNot ((sd 0 (a1).toNatClampNeg 1))) fun (q3 : Int32) => some (q3))
noncomputable def f_X7_pickerPosition (sd : SD) : Option Int32 := some ((sd 4 0 14))
noncomputable def f_X7_clock (sd : SD) : Option Int32 := some ((sd 4 0 15))
noncomputable def f_X7_exchanges (sd : SD) : Option Int32 := some ((sd 4 0 16))
noncomputable def f_X7_travel (sd : SD) : Option Int32 := some ((sd 4 0 17))
noncomputable def f_X7_mountProblem (sd : SD) (a1 : Int32) : Option Int32 := x_bind (f_X4_hasPlatter (sd) a1) fun (q1 : Int32) => (if q1 = 0 then some ((-1000001 : Int32)) else (if (sd 4 0 3) = 0 then some ((-1000007 : Int32)) else some ((0 : Int32))))
noncomputable def f_X7_chosenDrive (sd : SD) (a1 : Int32) : Option Int32 := x_bind (f_X7_mountProblem (sd) a1) fun (q1 : Int32) => (if q1 = 0 then x_bind (f_X4_driveToChoose (sd) a1) fun (q2 : Int32) => some (q2) else some (q1))
noncomputable def f_X7_mountTime (sd : SD) (a1 : Int32) : Option Int32 := x_bind (f_X7_mountProblem (sd) a1) fun (q1 : Int32) => (if q1 = 0 then x_bind (f_X4_chosenBringTime (sd) a1) fun (q2 : Int32) => some (q2) else some (q1))
noncomputable def f_X7_mountTimeIn (sd : SD) (a1 : Int32) (a2 : Int32) : Option Int32 := x_bind (f_X4_hasPlatter (sd) a1) fun (q1 : Int32) => (if q1 = 0 then some ((-1000001 : Int32)) else x_bind (f_X4_hasDrive (sd) a2) fun (q2 : Int32) => (if q2 = 0 then some ((-1000001 : Int32)) else x_bind (f_X4_driveHolding (sd) a1) fun (q3 : Int32) => (x_let (fun (_u : Unit) => (x_bind (f_X4_bringTime (sd) a1 a2) fun (q5 : Int32) => some (q5) : Option Int32)) fun K4 => (if q3 = (-1 : Int32) then K4 (()) else (if q3 = a2 then K4 (()) else some ((-1000005 : Int32)))))))
noncomputable def f_X7_freeSectors (sd : SD) (a1 : Int32) : Option Int32 := x_bind (f_X4_hasPlatter (sd) a1) fun (q1 : Int32) => (if q1 = 0 then some ((-1000001 : Int32)) else x_guard (vp_in a1 10) <| x_bind (f_X3_unused (sd) ((a1).toNatClampNeg)) fun (q3 : Int32) => some (q3))
noncomputable def f_X7_sessionCount (sd : SD) (a1 : Int32) : Option Int32 := x_bind (f_X4_hasPlatter (sd) a1) fun (q1 : Int32) => (if q1 = 0 then some ((-1000001 : Int32)) else x_guard (vp_in a1 10) <| some ((sd 3 (a1).toNatClampNeg 4)))
noncomputable def f_X7_hasOpenSession (sd : SD) (a1 : Int32) : Option Int32 := x_bind (f_X4_hasPlatter (sd) a1) fun (q1 : Int32) => (if q1 = 0 then some ((-1000001 : Int32)) else x_guard (vp_in a1 10) <| (if (sd 3 (a1).toNatClampNeg 5) = 0 then some ((0 : Int32)) else some ((1 : Int32))))
noncomputable def f_X7_sessionStart (sd : SD) (a1 : Int32) (a2 : Int32) : Option Int32 := x_bind (f_X4_hasSession (sd) a1 a2) fun (q1 : Int32) => (if q1 = 0 then some ((-1000001 : Int32)) else x_guard (vp_in a1 10) <| x_guard (vp_in a2 8) <| some ((sd 16 (a1).toNatClampNeg (a2).toNatClampNeg)))
noncomputable def f_X7_sessionSize (sd : SD) (a1 : Int32) (a2 : Int32) : Option Int32 := x_bind (f_X4_hasSession (sd) a1 a2) fun (q1 : Int32) => (if q1 = 0 then some ((-1000001 : Int32)) else x_guard (vp_in a1 10) <| x_guard (vp_in a2 8) <| some ((sd 17 (a1).toNatClampNeg (a2).toNatClampNeg)))
noncomputable def f_X7_sparesLeft (sd : SD) (a1 : Int32) : Option Int32 := x_bind (f_X4_hasPlatter (sd) a1) fun (q1 : Int32) => (if q1 = 0 then some ((-1000001 : Int32)) else x_guard (vp_in a1 10) <| some ((sd 3 (a1).toNatClampNeg 2)))
noncomputable def f_X7_staleSectors (sd : SD) (a1 : Int32) : Option Int32 := x_bind (f_X4_hasPlatter (sd) a1) fun (q1 : Int32) => (if q1 = 0 then some ((-1000001 : Int32)) else x_bind (f_X4_countStale (sd) a1) fun (q2 : Int32) => some (q2))
noncomputable def f_X7_sectorKind (sd : SD) (a1 : Int32) (a2 : Int32) : Option Int32 := x_bind (f_X4_hasSector (sd) a1 a2) fun (q1 : Int32) => (if q1 = 0 then some ((-1000001 : Int32)) else x_bind (f_X4_kindOfSector (sd) a1 a2) fun (q2 : Int32) => some (q2))
noncomputable def f_X7_bitsOfShare_L17 (a0 : Int32) (a1 : Int32) : Nat → Int32 → Option Int32
  | 0, _ => none
  | n_17 + 1, v4_17 => (x_let (fun (_u : Unit) => (x_let (((a0).toInt64 <<< ((v4_17).toInt64 &&& 63))) fun (x2 : Int64) => x_guard (¬ (a1).toInt64 = 0) <| x_let ((x2 / (a1).toInt64)) fun (x4 : Int64) => x_guard (¬ (a1).toInt64 = 0) <| (x_let (fun (y7 : Int64) => (x_let (((150 : Int32) - v4_17)) fun (x8 : Int32) => some (((x8 <<< ((23 : Int32) &&& 31)) + ((y7 - (8388608 : Int64))).toInt32)) : Option Int32)) fun K6 => (if (lg_cmp ((2 : Int64) * (x2 - x2 / (a1).toInt64 * (a1).toInt64)) (a1).toInt64) < 0 then K6 (x4) else x_let ((x4 + (1 : Int64))) fun (x9 : Int64) => K6 (x9))) : Option Int32)) fun K1 => (if (40 : Int32) ≤ v4_17 then K1 (()) else x_guard (¬ (a1).toInt64 = 0) <| (if 0 ≤ (lg_cmp (((a0).toInt64 <<< ((v4_17).toInt64 &&& 63)) / (a1).toInt64) (8388608 : Int64)) then K1 (()) else x_let (v4_17 + (1 : Int32)) fun (x11 : Int32) => f_X7_bitsOfShare_L17 a0 a1 n_17 (x11))))
noncomputable def f_X7_bitsOfShare (a0 : Int32) (a1 : Int32) : Option Int32 := (if a0 ≤ 0 then some ((0 : Int32)) else (if 0 < a1 then f_X7_bitsOfShare_L17 a0 a1 fuel ((0 : Int32)) else some ((0 : Int32))))
noncomputable def f_X7_fillBits (sd : SD) (a1 : Int32) : Option Int32 := x_bind (f_X4_hasPlatter (sd) a1) fun (q1 : Int32) => (if q1 = 0 then some ((-1000001 : Int32)) else x_guard (vp_in a1 10) <| x_bind (f_X7_bitsOfShare ((sd 3 (a1).toNatClampNeg 3)) ((sd 3 (a1).toNatClampNeg 1))) fun (q3 : Int32) => some (q3))
noncomputable def f_X7_cleanRun (sd : SD) (a1 : Int32) : Option Int32 := x_bind (f_X4_hasPlatter (sd) a1) fun (q1 : Int32) => (if q1 = 0 then some ((-1000001 : Int32)) else x_guard (vp_in a1 10) <| x_bind (f_X3_longestCleanRun (sd) ((a1).toNatClampNeg)) fun (q3 : Int32) => some (q3))
noncomputable def f_X7_isSize (a0 : Int32) : Option Int32 := (if a0 < (1 : Int32) then some ((0 : Int32)) else (if (300 : Int32) < a0 then some ((0 : Int32)) else some ((1 : Int32))))
noncomputable def f_X7_bestPlatter_L33 (sd_of_cs : SD) (a1 : Int32) : Nat → Int32 → Int32 → Int32 → Int32 → Option Int32
  | 0, _, _, _, _ => none
  | n_33 + 1, v2_33, v3_33, v4_33, v5_33 => (if (sd_of_cs 4 0 6) ≤ v5_33 then x_bind (f_X7_foundOrNot v2_33) fun (q2 : Int32) => some (q2) else x_guard (vp_in v5_33 10) <| x_bind (f_X3_canTake (sd_of_cs) ((v5_33).toNatClampNeg) a1) fun (q4 : Int32) => (if q4 = 0 then x_let (v5_33 + (1 : Int32)) fun (x5 : Int32) => f_X7_bestPlatter_L33 sd_of_cs a1 n_33 (v2_33) (v3_33) (v4_33) (x5) else x_bind (f_X4_chosenBringTime (sd_of_cs) v5_33) fun (q6 : Int32) => x_bind (f_X3_unused (sd_of_cs) ((v5_33).toNatClampNeg)) fun (q7 : Int32) => (x_let (fun (_u : Unit) => (x_let (v5_33 + (1 : Int32)) fun (x9 : Int32) => f_X7_bestPlatter_L33 sd_of_cs a1 n_33 (v5_33) (q6) (q7) (x9) : Option Int32)) fun K8 => (if v2_33 = (-1 : Int32) then K8 (()) else (if q6 < v3_33 then K8 (()) else (if q6 = v3_33 then (if v4_33 ≤ q7 then x_let (v5_33 + (1 : Int32)) fun (x11 : Int32) => f_X7_bestPlatter_L33 sd_of_cs a1 n_33 (v2_33) (v3_33) (v4_33) (x11) else K8 (())) else x_let (v5_33 + (1 : Int32)) fun (x10 : Int32) => f_X7_bestPlatter_L33 sd_of_cs a1 n_33 (v2_33) (v3_33) (v4_33) (x10)))))))
noncomputable def f_X7_bestPlatter (sd : SD) (a1 : Int32) : Option Int32 := x_bind (f_X7_isSize a1) fun (q1 : Int32) => (if q1 = 0 then some ((-1000002 : Int32)) else (if (sd 4 0 3) = 0 then some ((-1000007 : Int32)) else f_X7_bestPlatter_L33 sd a1 fuel ((-1 : Int32)) ((0 : Int32)) ((0 : Int32)) ((0 : Int32))))
noncomputable def f_X7_versionCount (sd : SD) (a1 : Int32) : Option Int32 := x_bind (f_X4_hasFile (sd) a1) fun (q1 : Int32) => (if q1 = 0 then some ((-1000001 : Int32)) else x_bind (f_X4_countVersions (sd) a1) fun (q2 : Int32) => some (q2))
noncomputable def f_X7_filePlatter (sd : SD) (a1 : Int32) : Option Int32 := x_bind (f_X4_hasFile (sd) a1) fun (q1 : Int32) => (if q1 = 0 then some ((-1000001 : Int32)) else x_bind (f_X4_currentVersion (sd) a1) fun (q2 : Nat) => some ((sd 6 q2 1)))
noncomputable def f_X7_fileStart (sd : SD) (a1 : Int32) : Option Int32 := x_bind (f_X4_hasFile (sd) a1) fun (q1 : Int32) => (if q1 = 0 then some ((-1000001 : Int32)) else x_bind (f_X4_currentVersion (sd) a1) fun (q2 : Nat) => some ((sd 6 q2 2)))
noncomputable def f_X7_fileSize (sd : SD) (a1 : Int32) : Option Int32 := x_bind (f_X4_hasFile (sd) a1) fun (q1 : Int32) => (if q1 = 0 then some ((-1000001 : Int32)) else x_bind (f_X4_currentVersion (sd) a1) fun (q2 : Nat) => some ((sd 6 q2 3)))
noncomputable def f_X7_fileSession (sd : SD) (a1 : Int32) : Option Int32 := x_bind (f_X4_hasFile (sd) a1) fun (q1 : Int32) => (if q1 = 0 then some ((-1000001 : Int32)) else x_bind (f_X4_currentVersion (sd) a1) fun (q2 : Nat) => some ((sd 6 q2 4)))
noncomputable def f_X7_remappedSectors (sd : SD) (a1 : Int32) : Option Int32 := x_bind (f_X4_hasFile (sd) a1) fun (q1 : Int32) => (if q1 = 0 then some ((-1000001 : Int32)) else x_bind (f_X4_currentVersion (sd) a1) fun (q2 : Nat) => some ((sd 6 q2 5)))
noncomputable def f_X7_fileState (sd : SD) (a1 : Int32) : Option Int32 := x_bind (f_X4_hasFile (sd) a1) fun (q1 : Int32) => (if q1 = 0 then some ((-1000001 : Int32)) else x_bind (f_X4_currentVersion (sd) a1) fun (q2 : Nat) => (if (sd 6 q2 6) = 0 then x_bind (f_X4_isReadable (sd) a1) fun (q3 : Int32) => (if q3 = 0 then some ((2 : Int32)) else some ((0 : Int32))) else some ((1 : Int32))))
noncomputable def f_X7_readProblem (sd : SD) (a1 : Int32) : Option Int32 := x_bind (f_X4_hasFile (sd) a1) fun (q1 : Int32) => (if q1 = 0 then some ((-1000001 : Int32)) else (if (sd 4 0 3) = 0 then some ((-1000007 : Int32)) else x_bind (f_X4_isReadable (sd) a1) fun (q2 : Int32) => (if q2 = 0 then some ((-1000008 : Int32)) else some ((0 : Int32)))))
noncomputable def f_X7_readTime (sd : SD) (a1 : Int32) : Option Int32 := x_bind (f_X7_readProblem (sd) a1) fun (q1 : Int32) => (if q1 = 0 then x_bind (f_X4_currentVersion (sd) a1) fun (q2 : Nat) => x_bind (f_X4_chosenBringTime (sd) ((sd 6 q2 1))) fun (q3 : Int32) => x_bind (f_X4_sectorsReadTime (sd) q2) fun (q4 : Int32) => some ((q3 + q4)) else some (q1))
noncomputable def f_X7_lastGoodVersion (sd : SD) (a1 : Int32) : Option Int32 := x_bind (f_X4_hasFile (sd) a1) fun (q1 : Int32) => (if q1 = 0 then some ((-1000001 : Int32)) else x_bind (f_X4_lastGood (sd) a1) fun (q2 : Int32) => x_bind (f_X7_foundOrNot q2) fun (q3 : Int32) => some (q3))
noncomputable def f_X7_fileOfSector (sd : SD) (a1 : Int32) (a2 : Int32) : Option Int32 := x_bind (f_X4_hasSector (sd) a1 a2) fun (q1 : Int32) => (if q1 = 0 then some ((-1000001 : Int32)) else x_bind (f_X4_versionAt (sd) a1 a2) fun (q2 : Int32) => (if q2 = (-1 : Int32) then some ((-1000005 : Int32)) else x_guard (vp_in q2 40) <| some ((sd 6 (q2).toNatClampNeg 0))))
noncomputable def f_X7_filesOn (sd : SD) (a1 : Int32) : Option Int32 := x_bind (f_X4_hasPlatter (sd) a1) fun (q1 : Int32) => (if q1 = 0 then some ((-1000001 : Int32)) else x_bind (f_X4_countFiles (sd) a1) fun (q2 : Int32) => some (q2))
noncomputable def f_X7_remember (cs : CT) : Option CT := x_bind (f_X1_keep cs) fun (c1 : CT) => f_X7_forgetPlan c1
noncomputable def f_X7_mount (cs : CT) (a1 : Int32) : Option (Int32 × CT) := x_bind (f_X7_mountProblem ((k_xs cs (k_st cs))) a1) fun (q1 : Int32) => (if q1 = 0 then x_bind (f_X7_remember cs) fun (q2 : CT) => x_let (((k_xs q2 (k_st q2)) 4 0 15)) fun (x3 : Int32) => x_bind (f_X4_bringToChosen ((k_xs q2 (k_st q2))) a1) fun (q4 : SD) => some (((q4 4 0 15) - x3), (kS q2 (k_st q2) q4)) else some (q1, cs))
noncomputable def f_X7_eject (cs : CT) (a1 : Int32) : Option (Int32 × CT) := x_bind (f_X4_hasDrive ((k_xs cs (k_st cs))) a1) fun (q1 : Int32) => (if q1 = 0 then some ((-1000001 : Int32), cs) else x_guard (vp_in a1 4) <| (if ((k_xs cs (k_st cs)) 0 (a1).toNatClampNeg 1) = (-1 : Int32) then some ((-1000005 : Int32), cs) else x_bind (f_X7_remember cs) fun (q3 : CT) => x_let (((k_xs q3 (k_st q3)) 4 0 15)) fun (x4 : Int32) => x_bind (f_X4_carryHome ((k_xs q3 (k_st q3))) a1) fun (q5 : SD) => some (((q5 4 0 15) - x4), (kS q3 (k_st q3) q5))))
noncomputable def f_X7_read (cs : CT) (a1 : Int32) : Option (Int32 × CT) := x_bind (f_X7_readProblem ((k_xs cs (k_st cs))) a1) fun (q1 : Int32) => (if q1 = 0 then x_bind (f_X7_remember cs) fun (q2 : CT) => x_let (((k_xs q2 (k_st q2)) 4 0 15)) fun (x3 : Int32) => x_bind (f_X4_readFile ((k_xs q2 (k_st q2))) a1) fun (q4 : SD) => some (((q4 4 0 15) - x3), (kS q2 (k_st q2) q4)) else some (q1, cs))
noncomputable def f_X7_writeProblem (sd : SD) (a1 : Int32) (a2 : Int32) : Option Int32 := (if (sd 4 0 9) < (40 : Int32) then (if (sd 4 0 3) = 0 then some ((-1000007 : Int32)) else x_guard (vp_in a2 10) <| x_bind (f_X3_canTake (sd) ((a2).toNatClampNeg) a1) fun (q2 : Int32) => (if q2 = 0 then some ((-1000008 : Int32)) else some ((0 : Int32)))) else some ((-1000003 : Int32)))
noncomputable def f_X7_write (cs : CT) (a1 : Int32) (a2 : Int32) (a3 : Int32) : Option (Int32 × CT) := x_bind (f_X4_hasFile ((k_xs cs (k_st cs))) a1) fun (q1 : Int32) => (if q1 = 0 then some ((-1000001 : Int32), cs) else x_bind (f_X4_hasPlatter ((k_xs cs (k_st cs))) a3) fun (q2 : Int32) => (if q2 = 0 then some ((-1000001 : Int32), cs) else x_bind (f_X7_isSize a2) fun (q3 : Int32) => (if q3 = 0 then some ((-1000002 : Int32), cs) else x_bind (f_X7_writeProblem ((k_xs cs (k_st cs))) a2 a3) fun (q4 : Int32) => (if q4 = 0 then x_bind (f_X7_remember cs) fun (q5 : CT) => x_let (((k_xs q5 (k_st q5)) 4 0 15)) fun (x6 : Int32) => x_bind (f_X4_writeVersion ((k_xs q5 (k_st q5))) a1 a2 a3) fun (q7 : SD) => some (((q7 4 0 15) - x6), (kS q5 (k_st q5) q7)) else some (q4, cs)))))
noncomputable def f_X7_create (cs : CT) (a1 : Int32) (a2 : Int32) : Option (Int32 × CT) := x_bind (f_X4_hasPlatter ((k_xs cs (k_st cs))) a2) fun (q1 : Int32) => (if q1 = 0 then some ((-1000001 : Int32), cs) else x_bind (f_X7_isSize a1) fun (q2 : Int32) => (if q2 = 0 then some ((-1000002 : Int32), cs) else (if ((k_xs cs (k_st cs)) 4 0 11) < (20 : Int32) then x_bind (f_X7_writeProblem ((k_xs cs (k_st cs))) a1 a2) fun (q3 : Int32) => (if q3 = 0 then x_bind (f_X7_remember cs) fun (q4 : CT) => x_let (((k_xs q4 (k_st q4)) 4 0 11)) fun (x5 : Int32) => x_let (upS (k_xs q4 (k_st q4)) 4 0 11 (((k_xs q4 (k_st q4)) 4 0 11) + (1 : Int32))) fun (sd6 : SD) => x_bind (f_X4_writeVersion sd6 x5 a1 a2) fun (q7 : SD) => some (x5, (kS q4 (k_st q4) q7)) else some (q3, cs)) else some ((-1000003 : Int32), cs))))
noncomputable def f_X7_closeSession (cs : CT) (a1 : Int32) : Option (Int32 × CT) := x_bind (f_X4_hasPlatter ((k_xs cs (k_st cs))) a1) fun (q1 : Int32) => (if q1 = 0 then some ((-1000001 : Int32), cs) else x_guard (vp_in a1 10) <| (if ((k_xs cs (k_st cs)) 3 (a1).toNatClampNeg 5) = 0 then some ((-1000005 : Int32), cs) else (if ((k_xs cs (k_st cs)) 4 0 3) = 0 then some ((-1000007 : Int32), cs) else x_bind (f_X7_remember cs) fun (q3 : CT) => x_bind (f_X4_closeInDrive ((k_xs q3 (k_st q3))) a1) fun (q4 : (Int32 × SD)) => some (q4.1, (kS q3 (k_st q3) q4.2)))))
noncomputable def f_X7_markBad (cs : CT) (a1 : Int32) (a2 : Int32) : Option (Int32 × CT) := x_bind (f_X4_hasSector ((k_xs cs (k_st cs))) a1 a2) fun (q1 : Int32) => (if q1 = 0 then some ((-1000001 : Int32), cs) else x_guard (vp_in a1 10) <| x_bind (f_X3_isBad ((k_xs cs (k_st cs))) ((a1).toNatClampNeg) a2) fun (q3 : Int32) => (if q3 = 0 then (if ((k_xs cs (k_st cs)) 4 0 7) < (20 : Int32) then x_bind (f_X7_remember cs) fun (q4 : CT) => x_bind (f_X4_spoil ((k_xs q4 (k_st q4))) a1 a2) fun (q5 : SD) => x_bind (f_X4_countDamaged q5) fun (q6 : Int32) => some (q6, (kS q4 (k_st q4) q5)) else some ((-1000003 : Int32), cs)) else some ((-1000004 : Int32), cs)))
noncomputable def f_X7_moveHome (cs : CT) (a1 : Int32) (a2 : Int32) : Option (Int32 × CT) := x_bind (f_X4_hasPlatter ((k_xs cs (k_st cs))) a1) fun (q1 : Int32) => (if q1 = 0 then some ((-1000001 : Int32), cs) else x_bind (f_X4_hasSlot ((k_xs cs (k_st cs))) a2) fun (q2 : Int32) => (if q2 = 0 then some ((-1000001 : Int32), cs) else x_guard (vp_in a1 10) <| x_let (((k_xs cs (k_st cs)) 3 (a1).toNatClampNeg 0)) fun (x4 : Int32) => (if x4 = a2 then some ((-1000004 : Int32), cs) else x_bind (f_X4_driveHolding ((k_xs cs (k_st cs))) a1) fun (q5 : Int32) => (if q5 = (-1 : Int32) then x_bind (f_X4_platterWithHome ((k_xs cs (k_st cs))) a2) fun (q6 : Int32) => (if q6 = (-1 : Int32) then x_bind (f_X7_remember cs) fun (q7 : CT) => x_guard (vp_in a1 10) <| x_let (upS (k_xs q7 (k_st q7)) 3 (a1).toNatClampNeg 0 a2) fun (sd9 : SD) => some (x4, (kS q7 (k_st q7) sd9)) else some ((-1000003 : Int32), cs)) else some ((-1000005 : Int32), cs)))))
noncomputable def f_X7_isTime (a0 : Int32) : Option Int32 := (if a0 < 0 then some ((0 : Int32)) else (if (99 : Int32) < a0 then some ((0 : Int32)) else some ((1 : Int32))))
noncomputable def f_X7_setTimes (cs : CT) (a1 : Int32) (a2 : Int32) (a3 : Int32) (a4 : Int32) (a5 : Int32) : Option (Int32 × CT) := x_bind (f_X7_isTime a1) fun (q1 : Int32) => (if q1 = 0 then some ((-1000002 : Int32), cs) else x_bind (f_X7_isTime a2) fun (q2 : Int32) => (if q2 = 0 then some ((-1000002 : Int32), cs) else x_bind (f_X7_isTime a3) fun (q3 : Int32) => (if q3 = 0 then some ((-1000002 : Int32), cs) else x_bind (f_X7_isTime a4) fun (q4 : Int32) => (if q4 = 0 then some ((-1000002 : Int32), cs) else x_bind (f_X7_isTime a5) fun (q5 : Int32) => (if q5 = 0 then some ((-1000002 : Int32), cs) else (x_let (fun (_u : Unit) => (x_bind (f_X7_remember cs) fun (q7 : CT) => x_let (((((((k_xs q7 (k_st q7)) 10 0 0) + ((k_xs q7 (k_st q7)) 10 0 1)) + ((k_xs q7 (k_st q7)) 10 0 2)) + ((k_xs q7 (k_st q7)) 10 0 3)) + ((k_xs q7 (k_st q7)) 10 0 4))) fun (x8 : Int32) => x_bind (f_X4_putTimes ((k_xs q7 (k_st q7))) a1 a2 a3 a4 a5) fun (q9 : SD) => some (x8, (kS q7 (k_st q7) q9)) : Option (Int32 × CT))) fun K6 => (if ((k_xs cs (k_st cs)) 10 0 0) = a1 then (if ((k_xs cs (k_st cs)) 10 0 1) = a2 then (if ((k_xs cs (k_st cs)) 10 0 2) = a3 then (if ((k_xs cs (k_st cs)) 10 0 3) = a4 then (if ((k_xs cs (k_st cs)) 10 0 4) = a5 then some ((-1000004 : Int32), cs) else K6 (())) else K6 (())) else K6 (())) else K6 (())) else K6 (()))))))))
noncomputable def f_X7_request (cs : CT) (a1 : Int32) : Option (Int32 × CT) := x_bind (f_X4_hasFile ((k_xs cs (k_st cs))) a1) fun (q1 : Int32) => (if q1 = 0 then some ((-1000001 : Int32), cs) else x_bind (f_X4_isReadable ((k_xs cs (k_st cs))) a1) fun (q2 : Int32) => (if q2 = 0 then some ((-1000008 : Int32), cs) else (if ((k_xs cs (k_st cs)) 4 0 13) < (16 : Int32) then x_bind (f_X7_remember cs) fun (q3 : CT) => x_guard (vp_in ((k_xs q3 (k_st q3)) 4 0 13) 16) <| x_let (upS (k_xs q3 (k_st q3)) 15 0 (((k_xs q3 (k_st q3)) 4 0 13)).toNatClampNeg a1) fun (sd5 : SD) => x_let (upS sd5 4 0 13 ((sd5 4 0 13) + (1 : Int32))) fun (sd6 : SD) => some ((sd6 4 0 13), (kS q3 (k_st q3) sd6)) else some ((-1000003 : Int32), cs))))
noncomputable def f_X7_dropRequest (cs : CT) (a1 : Int32) : Option (Int32 × CT) := x_bind (f_X4_hasRequest ((k_xs cs (k_st cs))) a1) fun (q1 : Int32) => (if q1 = 0 then some ((-1000001 : Int32), cs) else x_bind (f_X7_remember cs) fun (q2 : CT) => x_bind (f_X4_removeRequest ((k_xs q2 (k_st q2))) a1) fun (q3 : (Int32 × SD)) => some (q3.1, (kS q2 (k_st q2) q3.2)))
noncomputable def f_X7_batchProblem_L29 (sd_of_cs : SD) : Nat → Int32 → Option Int32
  | 0, _ => none
  | n_29 + 1, v2_29 => (if (sd_of_cs 4 0 13) ≤ v2_29 then some ((0 : Int32)) else x_guard (vp_in v2_29 16) <| x_bind (f_X4_isReadable (sd_of_cs) ((sd_of_cs 15 0 (v2_29).toNatClampNeg))) fun (q2 : Int32) => (if q2 = 0 then some ((-1000008 : Int32)) else x_let (v2_29 + (1 : Int32)) fun (x3 : Int32) => f_X7_batchProblem_L29 sd_of_cs n_29 (x3)))
noncomputable def f_X7_batchProblem (sd : SD) (a1 : Int32) : Option Int32 := (if a1 ≤ (sd 4 0 13) then (if (sd 4 0 3) = 0 then some ((-1000007 : Int32)) else f_X7_batchProblem_L29 sd fuel ((0 : Int32))) else some ((-1000005 : Int32)))
/-- the planner's cells as they are made -/
def pd0 : SD := upS (upS (fun _ _ _ => 0) 2 0 4 (-1)) 2 0 5 (-1)
noncomputable def f_X7_readyPlanner (cs : CT) : Option (Nat × CT) := match k_pl cs with
  | some pi => some (pi, cs)
  | none => some (k_sz cs, kA (kP (kZ cs (k_st cs, k_sp cs, some (k_sz cs))) pd0) (k_S cs, k_sz cs + 4))
noncomputable def f_X7_planBatch (cs : CT) : Option (Int32 × CT) := x_bind (f_X7_batchProblem (k_xs cs (k_st cs)) 1) fun (p : Int32) => if p = 0 then x_bind (f_X7_readyPlanner cs) fun (r : Nat × CT) => x_bind (f_X2_planOrder (k_xs r.2 (k_st r.2)) (k_pd r.2)) fun (pd : SD) => some (p, kP r.2 pd) else some (p, cs)
noncomputable def f_X7_serveBatch_L (pd : SD) : Nat → SD → Int32 → Option SD
  | 0, _, _ => none
  | n + 1, sd, v => if pd 2 0 3 ≤ v then some sd else x_guard (vp_in v 10) <| x_bind (f_X4_bringInto sd (pd 25 0 v.toNatClampNeg) (pd 2 0 4)) fun (s1 : SD) => x_bind (f_X4_readRequestsIn s1 (pd 2 0 4)) fun (s2 : SD) => x_let (v + 1) fun (v5 : Int32) => f_X7_serveBatch_L pd n s2 v5
noncomputable def f_X7_serveBatch (cs : CT) : Option (Int32 × CT) := x_bind (f_X7_planBatch cs) fun (b : Int32 × CT) => if b.1 = 0 then x_bind (f_X7_remember b.2) fun (c1 : CT) => x_let ((k_xs c1 (k_st c1)) 4 0 15) fun (t0 : Int32) => x_bind (k_pl c1) fun (_ : Nat) => x_bind (f_X4_readInDrives (k_xs c1 (k_st c1))) fun (s1 : SD) => x_bind (f_X7_serveBatch_L (k_pd c1) fuel s1 0) fun (s2 : SD) => x_let (upS s2 4 0 13 0) fun (s3 : SD) => some (s3 4 0 15 - t0, kS c1 (k_st c1) s3) else some (b.1, b.2)
noncomputable def f_X7_undo (cs : CT) : Option (Int32 × CT) := if k_hd cs 1 0 2 = 0 then some ((-1000005 : Int32), cs) else x_bind (f_X1_goBack cs) fun (q : Nat × CT) => x_let (kZ q.2 (q.1, k_sp q.2, k_pl q.2)) fun (c1 : CT) => x_bind (f_X7_forgetPlan c1) fun (c2 : CT) => some (k_hd c2 1 0 2, c2)
noncomputable def f_X7_requestedFile (sd : SD) (a1 : Int32) : Option Int32 := x_bind (f_X4_hasRequest (sd) a1) fun (q1 : Int32) => (if q1 = 0 then some ((-1000001 : Int32)) else x_guard (vp_in a1 16) <| some ((sd 15 0 (a1).toNatClampNeg)))
noncomputable def f_X7_batchTime (cs : CT) : Option (Int32 × CT) := x_bind (f_X7_batchProblem (k_xs cs (k_st cs)) 1) fun (p : Int32) => if p = 0 then x_bind (f_X7_readyPlanner cs) fun (r : Nat × CT) => x_bind (f_X2_timeWithout (k_xs r.2 (k_st r.2)) (k_pd r.2) (-1)) fun (t : Int32 × SD) => some (t.1, kP r.2 t.2) else some (p, cs)
noncomputable def f_X7_batchExchanges (cs : CT) : Option (Int32 × CT) := x_bind (f_X7_planBatch cs) fun (b : Int32 × CT) => if b.1 = 0 then x_bind (k_pl b.2) fun (_ : Nat) => some (k_pd b.2 2 0 3, b.2) else some (b.1, b.2)
noncomputable def f_X7_batchPlatter (cs : CT) (a1 : Int32) : Option (Int32 × CT) := x_bind (f_X7_planBatch cs) fun (b : Int32 × CT) => if b.1 = 0 then x_bind (k_pl b.2) fun (_ : Nat) => if a1 < 0 then some ((-1000001 : Int32), b.2) else if a1 < k_pd b.2 2 0 3 then x_guard (vp_in a1 10) <| some (k_pd b.2 25 0 a1.toNatClampNeg, b.2) else some ((-1000001 : Int32), b.2) else some (b.1, b.2)
noncomputable def f_X7_oneByOneTime_L (sd : SD) : Nat → SD → Int32 → Option SD
  | 0, _, _ => none
  | n + 1, so, v => if sd 4 0 13 ≤ v then some so else x_guard (vp_in v 16) <| x_bind (f_X4_readFile so (sd 15 0 v.toNatClampNeg)) fun (s1 : SD) => x_let (v + 1) fun (v5 : Int32) => f_X7_oneByOneTime_L sd n s1 v5
noncomputable def f_X7_oneByOneTime (cs : CT) : Option (Int32 × CT) := x_bind (f_X7_batchProblem (k_xs cs (k_st cs)) 1) fun (p : Int32) => if p = 0 then x_guard (k_st cs ≠ k_sp cs) <| x_bind (f_X4_copyFrom (k_xs cs (k_sp cs)) (k_xs cs (k_st cs))) fun (s1 : SD) => x_bind (f_X7_oneByOneTime_L (k_xs cs (k_st cs)) fuel s1 0) fun (s2 : SD) => some (s2 4 0 15 - (k_xs cs (k_st cs)) 4 0 15, kS cs (k_sp cs) s2) else some (p, cs)
noncomputable def f_X7_leastTimeWithoutOne_L (sd : SD) : Nat → SD → Int32 → Int32 → Option (Int32 × SD)
  | 0, _, _, _ => none
  | n + 1, pd, v3, v4 => if sd 4 0 13 ≤ v4 then some (v3, pd) else x_bind (f_X2_timeWithout sd pd v4) fun (t : Int32 × SD) => x_let (v4 + 1) fun (v5 : Int32) => f_X7_leastTimeWithoutOne_L sd n t.2 (if t.1 < v3 then t.1 else v3) v5
noncomputable def f_X7_leastTimeWithoutOne (cs : CT) : Option (Int32 × CT) := x_bind (f_X7_batchProblem (k_xs cs (k_st cs)) 2) fun (p : Int32) => if p = 0 then x_bind (f_X7_readyPlanner cs) fun (r : Nat × CT) => x_bind (f_X7_leastTimeWithoutOne_L (k_xs r.2 (k_st r.2)) fuel (k_pd r.2) 2147483647 0) fun (t : Int32 × SD) => some (t.1, kP r.2 t.2) else some (p, cs)
noncomputable def f_X7_nearestHome_L20 (sd_of_cs : SD) (a1 : Int32) : Nat → Int32 → Int32 → Int32 → Option Int32
  | 0, _, _, _ => none
  | n_20 + 1, v3_20, v4_20, v5_20 => (if (sd_of_cs 4 0 0) ≤ v5_20 then x_bind (f_X7_foundOrNot v3_20) fun (q2 : Int32) => some (q2) else x_bind (f_X4_platterWithHome (sd_of_cs) v5_20) fun (q3 : Int32) => x_bind (f_X4_distanceToDrive (sd_of_cs) v5_20) fun (q4 : Int32) => (x_let (fun (_u : Unit) => ((x_let (fun (_u : Unit) => (x_let (v5_20 + (1 : Int32)) fun (x7 : Int32) => f_X7_nearestHome_L20 sd_of_cs a1 n_20 (v5_20) (q4) (x7) : Option Int32)) fun K6 => (if v3_20 = (-1 : Int32) then K6 (()) else (if v4_20 ≤ q4 then x_let (v5_20 + (1 : Int32)) fun (x8 : Int32) => f_X7_nearestHome_L20 sd_of_cs a1 n_20 (v3_20) (v4_20) (x8) else K6 (())))) : Option Int32)) fun K5 => (if q3 = (-1 : Int32) then K5 (()) else (if q3 = a1 then K5 (()) else x_let (v5_20 + (1 : Int32)) fun (x9 : Int32) => f_X7_nearestHome_L20 sd_of_cs a1 n_20 (v3_20) (v4_20) (x9)))))
noncomputable def f_X7_nearestHome (sd : SD) (a1 : Int32) : Option Int32 := x_bind (f_X7_mountProblem (sd) a1) fun (q1 : Int32) => (if q1 = 0 then f_X7_nearestHome_L20 sd a1 fuel ((-1 : Int32)) ((0 : Int32)) ((0 : Int32)) else some (q1))
noncomputable def f_X7_putByte (jd : SD) (a1 : Int32) : Option SD := (if (280 : Int32) ≤ (jd 7 0 8) then some (jd) else x_guard (vp_in (jd 7 0 8) 280) <| x_let (upS jd 26 0 ((jd 7 0 8)).toNatClampNeg ((a1).toInt8.toInt32).toInt8.toInt32) fun (jd2 : SD) => x_let (upS jd2 7 0 8 ((jd2 7 0 8) + (1 : Int32))) fun (jd3 : SD) => some (jd3))
noncomputable def f_X7_putNumber (jd : SD) (a1 : Int32) : Option SD := (x_let (fun (jd2 : SD) => ((x_let (fun (jd4 : SD) => (x_bind (f_X7_putByte jd4 (((48 : Int32) + (a1 - a1 / (10 : Int32) * (10 : Int32))))) fun (q5 : SD) => some (q5) : Option SD)) fun K3 => (if a1 < (10 : Int32) then K3 (jd2) else x_bind (f_X7_putByte jd2 (((48 : Int32) + ((a1 / (10 : Int32)) - (a1 / (10 : Int32)) / (10 : Int32) * (10 : Int32))))) fun (q6 : SD) => K3 (q6))) : Option SD)) fun K1 => (if a1 < (100 : Int32) then K1 (jd) else x_bind (f_X7_putByte (jd) (((48 : Int32) + ((a1 / (100 : Int32)) - (a1 / (100 : Int32)) / (10 : Int32) * (10 : Int32))))) fun (q7 : SD) => K1 (q7)))
noncomputable def f_X7_writeCatalogue_L7 (sd_of_cs : SD) : Nat → Int32 → SD → Option (Int32 × SD)
  | 0, _, _ => none
  | n_7 + 1, v1_7, jd_7 => (if (sd_of_cs 4 0 11) ≤ v1_7 then some ((jd_7 7 0 8), jd_7) else x_bind (f_X4_currentVersion (sd_of_cs) v1_7) fun (q2 : Nat) => x_bind (f_X7_putNumber jd_7 v1_7) fun (q3 : SD) => x_bind (f_X7_putByte q3 (58 : Int32)) fun (q4 : SD) => x_bind (f_X7_putNumber q4 ((sd_of_cs 6 q2 1))) fun (q5 : SD) => x_bind (f_X7_putByte q5 (44 : Int32)) fun (q6 : SD) => x_bind (f_X7_putNumber q6 ((sd_of_cs 6 q2 2))) fun (q7 : SD) => x_bind (f_X7_putByte q7 (44 : Int32)) fun (q8 : SD) => x_bind (f_X7_putNumber q8 ((sd_of_cs 6 q2 3))) fun (q9 : SD) => x_bind (f_X4_isReadable (sd_of_cs) v1_7) fun (q10 : Int32) => (x_let (fun (jd12 : SD) => (x_bind (f_X7_putByte jd12 (59 : Int32)) fun (q13 : SD) => x_let (v1_7 + (1 : Int32)) fun (x14 : Int32) => f_X7_writeCatalogue_L7 sd_of_cs n_7 (x14) (q13) : Option (Int32 × SD))) fun K11 => (if q10 = 0 then K11 (q9) else x_bind (f_X7_putByte q9 (42 : Int32)) fun (q15 : SD) => K11 (q15))))
noncomputable def f_X7_writeCatalogue (sd : SD) (jd : SD) : Option (Int32 × SD) := x_let (upS jd 7 0 8 (0 : Int32)) fun (jd1 : SD) => f_X7_writeCatalogue_L7 sd fuel ((0 : Int32)) (jd1)
noncomputable def f_X7_outputByte (jd : SD) (a1 : Int32) : Option Int32 := (if a1 < 0 then some ((-1000001 : Int32)) else (if a1 < (jd 7 0 8) then x_guard (vp_in a1 280) <| some ((jd 26 0 (a1).toNatClampNeg)) else some ((-1000001 : Int32))))
end
section
/-! Layer 2: the class's pure functions against the reference's. Base: numbers, forms, searches, loops -/
theorem xl {α β : Type} (a : α) (f : α → β) : x_let a f = f a := rfl
theorem xg {β : Type} (a : Option β) : x_guard True a = a := x_guard_pos trivial a
theorem xb {α β : Type} (x : α) (f : α → Option β) : x_bind (some x) f = f x := rfl
theorem vin {n N : Nat} (h : n < 2 ^ 31) : vp_in (nI n) N ↔ n < N := by
  have h0 := nI_pos h
  unfold vp_in
  rw [nI_clamp h]
  exact ⟨fun z => Nat.not_le.mp (fun y => z (Or.inr y)), fun z y => y.elim h0 (fun y => absurd y (Nat.not_le.mpr z))⟩
theorem vinT {n N : Nat} (h : n < N) (hN : N < 2 ^ 31) : vp_in (nI n) N = True := eq_true (vp_in_nI h hN)
theorem m1neg : (-1 : Int32) < 0 := by decide
theorem nm1 {n : Nat} (h : n < 2 ^ 31) : nI n = -1 ↔ False := ⟨fun z => nI_pos h (by rw [z]; exact m1neg), False.elim⟩
theorem m1n {n : Nat} (h : n < 2 ^ 31) : -1 = nI n ↔ False := ⟨fun z => nI_pos h (by rw [← z]; exact m1neg), False.elim⟩
theorem nneg {n : Nat} (h : n < 2 ^ 31) : nI n < 0 ↔ False := ⟨nI_pos h, False.elim⟩
theorem npos {n : Nat} (h : n < 2 ^ 31) : 0 ≤ nI n ↔ True := ⟨fun _ => trivial, fun _ => nI_pos' h⟩
theorem la (k n : Nat) : (no_index (OfNat.ofNat k) : Int32) + nI n = nI (OfNat.ofNat k + n) := nI_add k n
theorem ra (k n : Nat) : nI n + (no_index (OfNat.ofNat k) : Int32) = nI (n + OfNat.ofNat k) := nI_add n k
theorem lm (k n : Nat) : (no_index (OfNat.ofNat k) : Int32) * nI n = nI (OfNat.ofNat k * n) := pk_mul k n
theorem rmu (k n : Nat) : nI n * (no_index (OfNat.ofNat k) : Int32) = nI (n * OfNat.ofNat k) := pk_mul n k
theorem rsu {k n : Nat} (h : OfNat.ofNat k ≤ n) : nI n - (no_index (OfNat.ofNat k) : Int32) = nI (n - OfNat.ofNat k) := pk_sub h
theorem lsu {k n : Nat} (h : n ≤ OfNat.ofNat k) : (no_index (OfNat.ofNat k) : Int32) - nI n = nI (OfNat.ofNat k - n) := pk_sub h
theorem rdi {k n : Nat} (hn : n < 2 ^ 31) (h0 : 0 < (OfNat.ofNat k : Nat)) (hk : (OfNat.ofNat k : Nat) < 2 ^ 31) : nI n / (no_index (OfNat.ofNat k) : Int32) = nI (n / OfNat.ofNat k) := pk_div hn h0 hk
theorem lle {k n : Nat} (hk : (OfNat.ofNat k : Nat) < 2 ^ 31) (hn : n < 2 ^ 31) : (no_index (OfNat.ofNat k) : Int32) ≤ nI n ↔ OfNat.ofNat k ≤ n := nI_leI hk hn
theorem rle {k n : Nat} (hk : (OfNat.ofNat k : Nat) < 2 ^ 31) (hn : n < 2 ^ 31) : nI n ≤ (no_index (OfNat.ofNat k) : Int32) ↔ n ≤ OfNat.ofNat k := nI_leI hn hk
theorem llt {k n : Nat} (hk : (OfNat.ofNat k : Nat) < 2 ^ 31) (hn : n < 2 ^ 31) : (no_index (OfNat.ofNat k) : Int32) < nI n ↔ OfNat.ofNat k < n := nI_ltI hk hn
theorem rlt {k n : Nat} (hk : (OfNat.ofNat k : Nat) < 2 ^ 31) (hn : n < 2 ^ 31) : nI n < (no_index (OfNat.ofNat k) : Int32) ↔ n < OfNat.ofNat k := nI_ltI hn hk
theorem leq {k n : Nat} (hk : (OfNat.ofNat k : Nat) < 2 ^ 31) (hn : n < 2 ^ 31) : (no_index (OfNat.ofNat k) : Int32) = nI n ↔ OfNat.ofNat k = n := nI_eq hk hn
theorem req {k n : Nat} (hk : (OfNat.ofNat k : Nat) < 2 ^ 31) (hn : n < 2 ^ 31) : nI n = (no_index (OfNat.ofNat k) : Int32) ↔ n = OfNat.ofNat k := nI_eq hn hk
theorem li (k : Nat) : (OfNat.ofNat k : Int32) = nI (OfNat.ofNat k) := rfl
theorem i01 : ((0 : Int32) = 1) = False := by decide
theorem i10 : ((1 : Int32) = 0) = False := by decide
theorem i32_lt_le {x y : Int32} : ¬ x < y ↔ y ≤ x := Int32.not_lt
theorem i32_le_lt {x y : Int32} : ¬ x ≤ y ↔ y < x := Int32.not_le
/-! ranges -/
noncomputable def hasV (x : Int32) (n : Nat) : Int32 := if x < 0 then 0 else if nI n ≤ x then 0 else 1
theorem hasV_in {j n : Nat} (h : j < n) (hn : n < 2 ^ 31) : hasV (nI j) n = 1 := by
  unfold hasV
  rw [if_neg (nI_pos (by omega)), if_neg (nI_ge h hn)]
theorem hasV_cases (x : Int32) {n : Nat} (hn : n < 2 ^ 31) : hasV x n = 0 ∨ (hasV x n = 1 ∧ ∃ j, j < n ∧ x = nI j) := by
  rcases pk_ix x hn with h | h | ⟨j, hj, rfl⟩
  · left; unfold hasV; rw [if_pos h]
  · left; unfold hasV
    by_cases h0 : x < 0
    · rw [if_pos h0]
    · rw [if_neg h0, if_pos h]
  · exact Or.inr ⟨hasV_in hj hn, j, hj, rfl⟩
theorem hasV_01 (x : Int32) (n : Nat) : (hasV x n = 0 ∨ hasV x n = 1) = True := by
  unfold hasV
  split
  · simp
  · split <;> simp
theorem isIn64 (u v w : Int64) : f_X8_isIn u v w = some (if u < v then 0 else if w < u then 0 else 1) := by
  have key : ∀ x y : Int64, (lg_cmp x y < 0 ↔ x < y) ∧ (0 < lg_cmp x y ↔ y < x) := by
    intro x y
    unfold lg_cmp
    rcases Int.lt_trichotomy x.toInt y.toInt with h | h | h
    · have h1 : x < y := Int64.lt_iff_toInt_lt.mpr h
      have h2 : ¬ (x > y) := fun z => by have := Int64.lt_iff_toInt_lt.mp z; omega
      have h3 : ¬ (x = y) := fun z => by rw [z] at h; omega
      rw [if_neg h2, if_neg h3]
      exact ⟨⟨fun _ => h1, fun _ => by decide⟩, ⟨fun z => absurd z (by decide), fun z => absurd z h2⟩⟩
    · have h3 : x = y := Int64.toInt_inj.mp h
      subst h3
      have h2 : ¬ (x > x) := fun z => by have := Int64.lt_iff_toInt_lt.mp z; omega
      rw [if_neg h2, if_pos rfl]
      exact ⟨⟨fun z => absurd z (by decide), fun z => absurd z h2⟩, ⟨fun z => absurd z (by decide), fun z => absurd z h2⟩⟩
    · have h1 : x > y := Int64.lt_iff_toInt_lt.mpr h
      have h2 : ¬ (x < y) := fun z => by have := Int64.lt_iff_toInt_lt.mp z; omega
      rw [if_pos h1]
      exact ⟨⟨fun z => absurd z (by decide), fun z => absurd z h2⟩, ⟨fun _ => h1, fun _ => by decide⟩⟩
  unfold f_X8_isIn
  simp only [(key u v).1, (key u w).2]
  split
  · rfl
  · split <;> rfl
theorem isIn32 (x a b : Int32) : f_X8_isIn x.toInt64 a.toInt64 b.toInt64 = some (if x < a then 0 else if b < x then 0 else 1) := by
  rw [isIn64]
  simp only [Int32.toInt64_lt]
theorem nI_m1 {n : Nat} (hn : n < 2 ^ 31) (x : Int32) : nI n - 1 < x ↔ nI n ≤ x := by
  rw [Int32.lt_iff_toInt_lt, Int32.le_iff_toInt_le, nI_toInt hn]
  have h1 : (nI n - 1).toInt = (n : Int) - 1 := by
    have := pk_sub_toInt (a := n) (b := 1)
    rcases n with _ | n
    · decide
    · rw [nI_pred, nI_toInt (by omega)]
      omega
  rw [h1]
  omega
theorem isIn0 (x : Int32) {n : Nat} (hn : n < 2 ^ 31) : f_X8_isIn x.toInt64 (0 : Int64) (nI n - 1).toInt64 = some (hasV x n) := by
  have h : (0 : Int64) = (0 : Int32).toInt64 := by decide
  rw [h, isIn32]
  simp only [nI_m1 hn]
  rfl
theorem isInR {s a b : Nat} (hs : s < 2 ^ 30) (ha : a < 2 ^ 30) (hb : b < 2 ^ 30) : f_X8_isIn (nI s).toInt64 (nI a).toInt64 (nI a + nI b - 1).toInt64 = some (if a ≤ s ∧ s < a + b then 1 else 0) := by
  rw [isIn32, nI_add]
  simp only [nI_m1 (show a + b < 2 ^ 31 by omega), nI_ltI (show s < 2 ^ 31 by omega) (show a < 2 ^ 31 by omega), nI_leI (show a + b < 2 ^ 31 by omega) (show s < 2 ^ 31 by omega)]
  by_cases h : s < a
  · rw [if_pos h, if_neg (by omega)]
  · rw [if_neg h]
    by_cases g : a + b ≤ s
    · rw [if_pos g, if_neg (by omega)]
    · rw [if_neg g, if_pos (by omega)]
theorem isInT (x : Int32) : f_X8_isIn x.toInt64 (0 : Int64) (99 : Int64) = some (hasV x 100) := by
  have h : (0 : Int64) = (0 : Int32).toInt64 := by decide
  have g : (99 : Int64) = (nI 100 - 1 : Int32).toInt64 := by decide
  rw [g]
  exact isIn0 x (by decide)
/-- a size from 1 to 300 -/
noncomputable def szV (x : Int32) : Int32 := if x < 1 then 0 else if 300 < x then 0 else 1
theorem isInS (x : Int32) : f_X8_isIn x.toInt64 (1 : Int64) (300 : Int64) = some (szV x) := by
  have h : (1 : Int64) = (1 : Int32).toInt64 := by decide
  have g : (300 : Int64) = (300 : Int32).toInt64 := by decide
  rw [h, g, isIn32]
  rfl
theorem szV_in {n : Nat} (h0 : 0 < n) (h : n ≤ 300) : szV (nI n) = 1 := by
  unfold szV
  rw [if_neg (by rw [rlt (by decide) (by omega)]; exact Nat.not_lt.mpr h0), if_neg (by rw [llt (by decide) (by omega)]; exact Nat.not_lt.mpr h)]
theorem szV_cases (x : Int32) : szV x = 0 ∨ (szV x = 1 ∧ ∃ n, 0 < n ∧ n ≤ 300 ∧ x = nI n) := by
  by_cases h : x < 1
  · left; unfold szV; rw [if_pos h]
  · by_cases g : (300 : Int32) < x
    · left; unfold szV; rw [if_neg h, if_pos g]
    · right
      have h1 := i32_lt_le.mp h
      have g1 := i32_lt_le.mp g
      rw [Int32.le_iff_toInt_le] at h1 g1
      have e1 : (1 : Int32).toInt = 1 := by decide
      have e3 : (300 : Int32).toInt = 300 := by decide
      rw [e1] at h1
      rw [e3] at g1
      have h0 : ¬ x < 0 := by
        rw [Int32.lt_iff_toInt_lt]
        have : (0 : Int32).toInt = 0 := by decide
        omega
      obtain ⟨j, hj, rfl⟩ := nI_of h0
      rw [nI_toInt hj] at h1 g1
      exact ⟨szV_in (by omega) (by omega), j, by omega, by omega, rfl⟩
/-! searches -/
/-- the first of n numbers from d on with the property, or -1 -/
def fst (P : Nat → Bool) : Nat → Nat → Int32
  | 0, _ => -1
  | n + 1, d => if P d = true then nI d else fst P n (d + 1)
theorem fst_congr {P Q : Nat → Bool} : ∀ {n d : Nat}, (∀ e, d ≤ e → e < d + n → P e = Q e) → fst P n d = fst Q n d
  | 0, _, _ => rfl
  | n + 1, d, h => by
    unfold fst
    rw [h d (Nat.le_refl _) (by omega), fst_congr (n := n) (d := d + 1) (fun e h1 h2 => h e (by omega) (by omega))]
theorem fst_congr0 {P Q : Nat → Bool} {n : Nat} (h : ∀ e, e < n → P e = Q e) : fst P n 0 = fst Q n 0 := fst_congr (fun e _ h2 => h e (by omega))
theorem fst_cases {P : Nat → Bool} : ∀ {n d : Nat}, (fst P n d = -1 ∧ ∀ e, d ≤ e → e < d + n → P e = false) ∨ ∃ e, d ≤ e ∧ e < d + n ∧ fst P n d = nI e ∧ P e = true ∧ ∀ f, d ≤ f → f < e → P f = false
  | 0, d => Or.inl ⟨rfl, fun e h1 h2 => by omega⟩
  | n + 1, d => by
    unfold fst
    by_cases hp : P d = true
    · rw [if_pos hp]
      exact Or.inr ⟨d, Nat.le_refl _, by omega, rfl, hp, fun f h1 h2 => by omega⟩
    · rw [if_neg hp]
      have hp : P d = false := by simpa using hp
      rcases fst_cases (P := P) (n := n) (d := d + 1) with ⟨h1, h2⟩ | ⟨e, h1, h2, h3, h4, h5⟩
      · refine Or.inl ⟨h1, fun e h3 h4 => ?_⟩
        by_cases he : e = d
        · rw [he]; exact hp
        · exact h2 e (by omega) (by omega)
      · refine Or.inr ⟨e, by omega, by omega, h3, h4, fun f h6 h7 => ?_⟩
        by_cases hf : f = d
        · rw [hf]; exact hp
        · exact h5 f (by omega) h7
theorem fst_cases0 {P : Nat → Bool} {n : Nat} : (fst P n 0 = -1 ∧ ∀ e, e < n → P e = false) ∨ ∃ e, e < n ∧ fst P n 0 = nI e ∧ P e = true ∧ ∀ f, f < e → P f = false := by
  rcases fst_cases (P := P) (n := n) (d := 0) with ⟨h1, h2⟩ | ⟨e, h1, h2, h3, h4, h5⟩
  · exact Or.inl ⟨h1, fun e h => h2 e (Nat.zero_le _) (by omega)⟩
  · exact Or.inr ⟨e, by omega, h3, h4, fun f h => h5 f (Nat.zero_le _) h⟩
/-- a search loop is a search -/
theorem srch {L : Nat → Int32 → Option Int32} {P : Nat → Bool} {N : Nat} (hN : N < 2 ^ 30) (he : ∀ n, L (n + 1) (nI N) = some (-1)) (hs : ∀ n d, d < N → L (n + 1) (nI d) = if P d = true then some (nI d) else L n (nI (d + 1))) : ∀ (k d n : Nat), d + k = N → k < n → L n (nI d) = some (fst P k d) := by
  intro k
  induction k with
  | zero =>
    intro d n h1 h2
    obtain ⟨n, rfl⟩ : ∃ m, n = m + 1 := ⟨n - 1, by omega⟩
    have : d = N := by omega
    rw [this, he]
    rfl
  | succ k ih =>
    intro d n h1 h2
    obtain ⟨n, rfl⟩ : ∃ m, n = m + 1 := ⟨n - 1, by omega⟩
    rw [hs n d (by omega), fst]
    split
    · rfl
    · exact ih (d + 1) n (by omega) (by omega)
theorem srch0 {L : Nat → Int32 → Option Int32} {P : Nat → Bool} {N : Nat} (hN : N < 10000) (he : ∀ n, L (n + 1) (nI N) = some (-1)) (hs : ∀ n d, d < N → L (n + 1) (nI d) = if P d = true then some (nI d) else L n (nI (d + 1))) : L fuel 0 = some (fst P N 0) := by
  have h := srch (by omega) he hs N 0 fuel (by omega) (by unfold fuel; omega)
  rw [nI_0] at h
  exact h
/-- a counting loop -/
def itr {σ : Type} (f : Nat → σ → σ) : Nat → Nat → σ → σ
  | 0, _, s => s
  | n + 1, d, s => itr f n (d + 1) (f d s)
theorem itr_congr {σ : Type} {f g : Nat → σ → σ} : ∀ {n d : Nat} {s : σ}, (∀ e s, d ≤ e → e < d + n → f e s = g e s) → itr f n d s = itr g n d s
  | 0, _, _, _ => rfl
  | n + 1, d, s, h => by
    unfold itr
    rw [h d s (Nat.le_refl _) (by omega)]
    exact itr_congr (fun e s h1 h2 => h e s (by omega) (by omega))
theorem loopN {σ ρ : Type} {L : Nat → Int32 → σ → Option ρ} {N : Nat} {f : Nat → σ → σ} {I : Nat → σ → Prop} {fin : σ → Option ρ} (he : ∀ n s, I N s → L (n + 1) (nI N) s = fin s) (hs : ∀ n d s, d < N → I d s → L (n + 1) (nI d) s = L n (nI (d + 1)) (f d s) ∧ I (d + 1) (f d s)) : ∀ (k d n : Nat) (s : σ), I d s → d + k = N → k < n → L n (nI d) s = fin (itr f k d s) ∧ I N (itr f k d s) := by
  intro k
  induction k with
  | zero =>
    intro d n s hI h1 h2
    obtain ⟨n, rfl⟩ : ∃ m, n = m + 1 := ⟨n - 1, by omega⟩
    have : d = N := by omega
    subst this
    exact ⟨he n s hI, hI⟩
  | succ k ih =>
    intro d n s hI h1 h2
    obtain ⟨n, rfl⟩ : ∃ m, n = m + 1 := ⟨n - 1, by omega⟩
    obtain ⟨h3, h4⟩ := hs n d s (by omega) hI
    rw [h3, itr]
    exact ih (d + 1) n _ h4 (by omega) (by omega)
theorem loop0 {σ ρ : Type} {L : Nat → Int32 → σ → Option ρ} {N : Nat} (f : Nat → σ → σ) (I : Nat → σ → Prop) (fin : σ → Option ρ) (hN : N < 10000) (he : ∀ n s, I N s → L (n + 1) (nI N) s = fin s) (hs : ∀ n d s, d < N → I d s → L (n + 1) (nI d) s = L n (nI (d + 1)) (f d s) ∧ I (d + 1) (f d s)) (s : σ) (h0 : I 0 s) : L fuel 0 s = fin (itr f N 0 s) ∧ I N (itr f N 0 s) := by
  have h := loopN he hs N 0 fuel s h0 (by omega) (by unfold fuel; omega)
  rw [nI_0] at h
  exact h
/-! cells -/
theorem upS_hit (s : SD) (k j t : Nat) (v : Int32) : upS s k j t v k j t = v := by simp [upS]
theorem upS_k {s : SD} {k j t : Nat} {v : Int32} {k' j' t' : Nat} (h : k' ≠ k) : upS s k j t v k' j' t' = s k' j' t' := by simp [upS, h]
theorem upS_j {s : SD} {k j t : Nat} {v : Int32} {k' j' t' : Nat} (h : j' ≠ j) : upS s k j t v k' j' t' = s k' j' t' := by simp [upS, h]
theorem upS_t {s : SD} {k j t : Nat} {v : Int32} {k' j' t' : Nat} (h : t' ≠ t) : upS s k j t v k' j' t' = s k' j' t' := by simp [upS, h]
abbrev RW : Type := Nat → Int32
def rup (r : RW) (i : Nat) (v : Int32) : RW := fun q => if q = i then v else r q
theorem rup_hit (r : RW) (i : Nat) (v : Int32) : rup r i v i = v := by simp [rup]
theorem rup_ne {r : RW} {i q : Nat} {v : Int32} (h : q ≠ i) : rup r i v q = r q := by simp [rup, h]
theorem row_up (m : SD) (k i : Nat) (v : Int32) : upS m k 0 i v k 0 = rup (m k 0) i v := by
  funext q
  simp [upS, rup]
theorem row_ne (m : SD) {k k' : Nat} (j i : Nat) (v : Int32) (h : k' ≠ k) : upS m k j i v k' = m k' := by
  funext a b
  simp [upS, h]
def nv (r : RW) (i : Nat) : Nat := (r i).toNatClampNeg
theorem nv_of {r : RW} {i n : Nat} (h : r i = nI n) (hn : n < 2 ^ 31) : nv r i = n := by
  unfold nv
  rw [h, nI_clamp hn]
end
section
/-! Layer 2: what a row of the reference holds, and how a State of the class stands to it -/
def isN (r : RW) (i m : Nat) : Prop := r i = nI (nv r i) ∧ nv r i ≤ m
def I_cnt (r : RW) : Prop := isN r 0 24 ∧ 4 ≤ nv r 0 ∧ isN r 6 4 ∧ isN r 7 10 ∧ isN r 8 20 ∧ isN r 9 20 ∧ isN r 10 40 ∧ isN r 16 16
def I_tim (r : RW) : Prop := isN r 1 99 ∧ isN r 2 99 ∧ isN r 3 99 ∧ isN r 4 99 ∧ isN r 5 99
def I_pick (r : RW) : Prop := isN r 11 23 ∧ nv r 11 < nv r 0
def I_drv (r : RW) : Prop := ∀ d, d < nv r 6 → (isN r (17 + d) 23 ∧ nv r (17 + d) < nv r 0) ∧ (r (21 + d) = -1 ∨ (isN r (21 + d) 9 ∧ nv r (21 + d) < nv r 7))
def I_drd (r : RW) : Prop := ∀ d e, d < nv r 6 → e < nv r 6 → r (21 + d) = r (21 + e) → d = e ∨ r (21 + d) = -1
def I_plt (r : RW) : Prop := ∀ p, p < nv r 7 → (isN r (29 + p) 23 ∧ nv r (29 + p) < nv r 0) ∧ (isN r (39 + p) 300 ∧ 10 ≤ nv r (39 + p)) ∧ isN r (49 + p) 9 ∧ (isN r (59 + p) 300 ∧ nv r (59 + p) ≤ nv r (39 + p)) ∧ isN r (69 + p) 8 ∧ isN r (79 + p) 1 ∧ (nv r (79 + p) = 1 → 0 < nv r (69 + p))
def I_hom (r : RW) : Prop := ∀ p q, p < nv r 7 → q < nv r 7 → r (29 + p) = r (29 + q) → p = q
def I_bad (r : RW) : Prop := ∀ k, k < nv r 8 → (isN r (249 + k) 9 ∧ nv r (249 + k) < nv r 7) ∧ isN r (269 + k) 299 ∧ nv r (269 + k) < nv r (39 + nv r (249 + k))
def I_bdd (r : RW) : Prop := ∀ k l, k < nv r 8 → l < nv r 8 → r (249 + k) = r (249 + l) → r (269 + k) = r (269 + l) → k = l
def I_cur (F : Nat) (r : RW) : Prop := ∀ f, f < F → isN r (289 + f) 39 ∧ nv r (289 + f) < nv r 10
def I_ver (F : Nat) (r : RW) : Prop := ∀ v, v < nv r 10 → (isN r (309 + v) 19 ∧ nv r (309 + v) < F) ∧ (isN r (349 + v) 9 ∧ nv r (349 + v) < nv r 7) ∧ isN r (389 + v) 300 ∧ isN r (429 + v) 300 ∧ nv r (389 + v) + nv r (429 + v) ≤ nv r (59 + nv r (349 + v)) ∧ (isN r (469 + v) 7 ∧ nv r (469 + v) < nv r (69 + nv r (349 + v))) ∧ isN r (509 + v) 9 ∧ isN r (549 + v) 1
def I_req (F : Nat) (r : RW) : Prop := ∀ q, q < nv r 16 → isN r (589 + q) 19 ∧ nv r (589 + q) < F
/-- the row is a jukebox; F files have a version -/
def InvF (F : Nat) (r : RW) : Prop := I_cnt r ∧ I_tim r ∧ I_pick r ∧ I_drv r ∧ I_drd r ∧ I_plt r ∧ I_hom r ∧ I_bad r ∧ I_bdd r ∧ I_cur F r ∧ I_ver F r ∧ I_req F r ∧ F ≤ 20
abbrev Inv (r : RW) : Prop := InvF (nv r 9) r
theorem isN.e {r : RW} {i m : Nat} (h : isN r i m) : r i = nI (nv r i) := h.1
theorem isN.l {r : RW} {i m : Nat} (h : isN r i m) : nv r i ≤ m := h.2
section INV
variable {r : RW} {F : Nat}
theorem InvF.c0 (h : InvF F r) : r 0 = nI (nv r 0) := h.1.1.1
theorem InvF.l0 (h : InvF F r) : 4 ≤ nv r 0 ∧ nv r 0 ≤ 24 := ⟨h.1.2.1, h.1.1.2⟩
theorem InvF.c6 (h : InvF F r) : r 6 = nI (nv r 6) := h.1.2.2.1.1
theorem InvF.l6 (h : InvF F r) : nv r 6 ≤ 4 := h.1.2.2.1.2
theorem InvF.c7 (h : InvF F r) : r 7 = nI (nv r 7) := h.1.2.2.2.1.1
theorem InvF.l7 (h : InvF F r) : nv r 7 ≤ 10 := h.1.2.2.2.1.2
theorem InvF.c8 (h : InvF F r) : r 8 = nI (nv r 8) := h.1.2.2.2.2.1.1
theorem InvF.l8 (h : InvF F r) : nv r 8 ≤ 20 := h.1.2.2.2.2.1.2
theorem InvF.c9 (h : InvF F r) : r 9 = nI (nv r 9) := h.1.2.2.2.2.2.1.1
theorem InvF.l9 (h : InvF F r) : nv r 9 ≤ 20 := h.1.2.2.2.2.2.1.2
theorem InvF.c10 (h : InvF F r) : r 10 = nI (nv r 10) := h.1.2.2.2.2.2.2.1.1
theorem InvF.l10 (h : InvF F r) : nv r 10 ≤ 40 := h.1.2.2.2.2.2.2.1.2
theorem InvF.c16 (h : InvF F r) : r 16 = nI (nv r 16) := h.1.2.2.2.2.2.2.2.1
theorem InvF.l16 (h : InvF F r) : nv r 16 ≤ 16 := h.1.2.2.2.2.2.2.2.2
theorem InvF.tim (h : InvF F r) : I_tim r := h.2.1
theorem InvF.pick (h : InvF F r) : I_pick r := h.2.2.1
theorem InvF.drv (h : InvF F r) : I_drv r := h.2.2.2.1
theorem InvF.drd (h : InvF F r) : I_drd r := h.2.2.2.2.1
theorem InvF.plt (h : InvF F r) : I_plt r := h.2.2.2.2.2.1
theorem InvF.hom (h : InvF F r) : I_hom r := h.2.2.2.2.2.2.1
theorem InvF.bad (h : InvF F r) : I_bad r := h.2.2.2.2.2.2.2.1
theorem InvF.bdd (h : InvF F r) : I_bdd r := h.2.2.2.2.2.2.2.2.1
theorem InvF.cur (h : InvF F r) : I_cur F r := h.2.2.2.2.2.2.2.2.2.1
theorem InvF.ver (h : InvF F r) : I_ver F r := h.2.2.2.2.2.2.2.2.2.2.1
theorem InvF.req (h : InvF F r) : I_req F r := h.2.2.2.2.2.2.2.2.2.2.2.1
theorem InvF.lF (h : InvF F r) : F ≤ 20 := h.2.2.2.2.2.2.2.2.2.2.2.2
end INV
def ns (sd : SD) (k j t : Nat) : Nat := (sd k j t).toNatClampNeg
/-- the class's bit of a sector, and the reference's entry -/
def bdc (sd : SD) (p s : Nat) : Bool := (sd 18 p (s / 32)).toBitVec.getLsbD (s % 32)
def bdm (r : RW) (p s : Nat) : Prop := ∃ k, k < nv r 8 ∧ r (249 + k) = nI p ∧ r (269 + k) = nI s
def R_sc (sd : SD) (r : RW) : Prop := sd 4 0 0 = r 0 ∧ sd 4 0 3 = r 6 ∧ sd 4 0 6 = r 7 ∧ sd 4 0 7 = r 8 ∧ sd 4 0 9 = r 10 ∧ sd 4 0 11 = r 9 ∧ sd 4 0 13 = r 16 ∧ sd 4 0 14 = r 11 ∧ sd 4 0 15 = r 12 ∧ sd 4 0 16 = r 13 ∧ sd 4 0 17 = r 14
def R_tm (sd : SD) (r : RW) : Prop := sd 10 0 0 = r 1 ∧ sd 10 0 1 = r 2 ∧ sd 10 0 2 = r 3 ∧ sd 10 0 3 = r 4 ∧ sd 10 0 4 = r 5
def R_dr (sd : SD) (r : RW) : Prop := ∀ d, d < nv r 6 → sd 0 d 0 = r (17 + d) ∧ sd 0 d 1 = r (21 + d)
def R_us (b : Nat) (sd : SD) (r : RW) : Prop := (sd 4 0 4 = nI (ns sd 4 0 4) ∧ ns sd 4 0 4 ≤ b) ∧ isN r 15 b ∧ (∀ d, d < nv r 6 → (sd 0 d 2 = nI (ns sd 0 d 2) ∧ ns sd 0 d 2 ≤ ns sd 4 0 4) ∧ isN r (25 + d) (nv r 15)) ∧ ∀ d e, d < nv r 6 → e < nv r 6 → (ns sd 0 d 2 < ns sd 0 e 2 ↔ nv r (25 + d) < nv r (25 + e))
def R_pl (sd : SD) (r : RW) : Prop := ∀ p, p < nv r 7 → sd 3 p 0 = r (29 + p) ∧ sd 3 p 1 = r (39 + p) ∧ sd 3 p 2 = r (49 + p) ∧ sd 3 p 3 = r (59 + p) ∧ sd 3 p 4 = r (69 + p) ∧ sd 3 p 5 = r (79 + p)
def R_se (sd : SD) (r : RW) : Prop := ∀ p s, p < nv r 7 → s < nv r (69 + p) → sd 16 p s = r (89 + 8 * p + s) ∧ sd 17 p s = r (169 + 8 * p + s)
def R_bd (sd : SD) (r : RW) : Prop := ∀ p s, p < nv r 7 → s < 300 → (bdc sd p s = true ↔ bdm r p s)
def R_cu (F : Nat) (sd : SD) (r : RW) : Prop := ∀ f, f < F → sd 14 0 f = r (289 + f)
def R_ve (sd : SD) (r : RW) : Prop := ∀ v, v < nv r 10 → sd 6 v 0 = r (309 + v) ∧ sd 6 v 1 = r (349 + v) ∧ sd 6 v 2 = r (389 + v) ∧ sd 6 v 3 = r (429 + v) ∧ sd 6 v 4 = r (469 + v) ∧ sd 6 v 5 = r (509 + v) ∧ sd 6 v 6 = r (549 + v)
def R_rq (sd : SD) (r : RW) : Prop := ∀ q, q < nv r 16 → sd 15 0 q = r (589 + q)
/-- a State of the class is the row; the numbers of uses are at most b -/
def RelF (F b : Nat) (sd : SD) (r : RW) : Prop := R_sc sd r ∧ R_tm sd r ∧ R_dr sd r ∧ R_us b sd r ∧ R_pl sd r ∧ R_se sd r ∧ R_bd sd r ∧ R_cu F sd r ∧ R_ve sd r ∧ R_rq sd r
abbrev Rel (b : Nat) (sd : SD) (r : RW) : Prop := RelF (nv r 9) b sd r
section REL
variable {F b : Nat} {sd : SD} {r : RW}
theorem RelF.sc (h : RelF F b sd r) : R_sc sd r := h.1
theorem RelF.s0 (h : RelF F b sd r) : sd 4 0 0 = r 0 := h.1.1
theorem RelF.s3 (h : RelF F b sd r) : sd 4 0 3 = r 6 := h.1.2.1
theorem RelF.s6 (h : RelF F b sd r) : sd 4 0 6 = r 7 := h.1.2.2.1
theorem RelF.s7 (h : RelF F b sd r) : sd 4 0 7 = r 8 := h.1.2.2.2.1
theorem RelF.s9 (h : RelF F b sd r) : sd 4 0 9 = r 10 := h.1.2.2.2.2.1
theorem RelF.s11 (h : RelF F b sd r) : sd 4 0 11 = r 9 := h.1.2.2.2.2.2.1
theorem RelF.s13 (h : RelF F b sd r) : sd 4 0 13 = r 16 := h.1.2.2.2.2.2.2.1
theorem RelF.s14 (h : RelF F b sd r) : sd 4 0 14 = r 11 := h.1.2.2.2.2.2.2.2.1
theorem RelF.s15 (h : RelF F b sd r) : sd 4 0 15 = r 12 := h.1.2.2.2.2.2.2.2.2.1
theorem RelF.s16 (h : RelF F b sd r) : sd 4 0 16 = r 13 := h.1.2.2.2.2.2.2.2.2.2.1
theorem RelF.s17 (h : RelF F b sd r) : sd 4 0 17 = r 14 := h.1.2.2.2.2.2.2.2.2.2.2
theorem RelF.tm (h : RelF F b sd r) : R_tm sd r := h.2.1
theorem RelF.dr (h : RelF F b sd r) : R_dr sd r := h.2.2.1
theorem RelF.us (h : RelF F b sd r) : R_us b sd r := h.2.2.2.1
theorem RelF.pl (h : RelF F b sd r) : R_pl sd r := h.2.2.2.2.1
theorem RelF.se (h : RelF F b sd r) : R_se sd r := h.2.2.2.2.2.1
theorem RelF.bd (h : RelF F b sd r) : R_bd sd r := h.2.2.2.2.2.2.1
theorem RelF.cu (h : RelF F b sd r) : R_cu F sd r := h.2.2.2.2.2.2.2.1
theorem RelF.ve (h : RelF F b sd r) : R_ve sd r := h.2.2.2.2.2.2.2.2.1
theorem RelF.rq (h : RelF F b sd r) : R_rq sd r := h.2.2.2.2.2.2.2.2.2
end REL
/-- cells of the reference that no later call reads before it writes them -/
def scr (k t : Nat) : Prop := (k = 8 ∧ (t = 0 ∨ t = 6 ∨ t = 10)) ∨ k = 32 ∨ k = 34 ∨ k = 35 ∨ k = 36
def MSame (m m' : SD) : Prop := ∀ k j t, ¬ scr k t → m' k j t = m k j t
theorem MSame.rf (m : SD) : MSame m m := fun _ _ _ _ => rfl
theorem MSame.tr {a b c : SD} (h : MSame a b) (g : MSame b c) : MSame a c := fun k j t n => (g k j t n).trans (h k j t n)
theorem MSame.up {m m' : SD} (h : MSame m m') {k j t : Nat} {v : Int32} (hs : scr k t) : MSame m (upS m' k j t v) := fun k' j' t' n => by
  unfold upS
  split
  · rename_i z
    obtain ⟨rfl, rfl, rfl⟩ := z
    exact absurd hs n
  · exact h k' j' t' n
theorem MSame.row {m m' : SD} (h : MSame m m') : m' 30 0 = m 30 0 := by
  funext t
  exact h 30 0 t (by unfold scr; omega)
/-- both answer alike, and the reference is as it was -/
def Ans (m : SD) (x : Option Int32) (y : Option (Int32 × SD)) : Prop := ∃ v m', x = some v ∧ y = some (v, m') ∧ MSame m m'
theorem thr (m : SD) : ∃ m1, upS m 8 0 0 0 = m1 ∧ m1 30 0 = m 30 0 ∧ MSame m m1 := ⟨_, rfl, (MSame.up (MSame.rf m) (Or.inl ⟨rfl, Or.inl rfl⟩)).row, MSame.up (MSame.rf m) (Or.inl ⟨rfl, Or.inl rfl⟩)⟩
end
section
/-! Layer 2: tests and searches of both sides -/
section Q1
variable {F : Nat} {b : Nat} {sd md : SD} {r : RW} {k0 : Nat}
theorem hasE (a : Int32) (n : Nat) : (if a < 0 then some (0 : Int32) else if nI n ≤ a then some (0 : Int32) else some (1 : Int32)) = some (hasV a n) := by
  unfold hasV
  split
  · rfl
  · split <;> rfl
theorem c_hasSlot (hI : InvF F r) (hR : RelF F b sd r) (a : Int32) : f_X4_hasSlot sd a = some (hasV a (nv r 0)) := by
  unfold f_X4_hasSlot
  rw [hR.s0, hI.c0]
  exact hasE _ _
theorem c_hasDrive (hI : InvF F r) (hR : RelF F b sd r) (a : Int32) : f_X4_hasDrive sd a = some (hasV a (nv r 6)) := by
  unfold f_X4_hasDrive
  rw [hR.s3, hI.c6]
  exact hasE _ _
theorem c_hasPlatter (hI : InvF F r) (hR : RelF F b sd r) (a : Int32) : f_X4_hasPlatter sd a = some (hasV a (nv r 7)) := by
  unfold f_X4_hasPlatter
  rw [hR.s6, hI.c7]
  exact hasE _ _
theorem c_hasFile (hI : InvF F r) (hR : RelF F b sd r) (a : Int32) : f_X4_hasFile sd a = some (hasV a (nv r 9)) := by
  unfold f_X4_hasFile
  rw [hR.s11, hI.c9]
  exact hasE _ _
theorem c_hasRequest (hI : InvF F r) (hR : RelF F b sd r) (a : Int32) : f_X4_hasRequest sd a = some (hasV a (nv r 16)) := by
  unfold f_X4_hasRequest
  rw [hR.s13, hI.c16]
  exact hasE _ _
theorem m_isPlatter (hr : md 30 0 = r) (hI : InvF F r) (a : Int32) : f_X8_isPlatter md a = some (hasV a (nv r 7)) := by
  have := hI.l7
  unfold f_X8_isPlatter
  rw [hr, hI.c7, isIn0 a (by omega), xb]
  simp only [hasV_01, xg]
theorem m_isDrive (hr : md 30 0 = r) (hI : InvF F r) (a : Int32) : f_X8_isDrive md a = some (hasV a (nv r 6)) := by
  have := hI.l6
  unfold f_X8_isDrive
  rw [hr, hI.c6, isIn0 a (by omega), xb]
  simp only [hasV_01, xg]
theorem m_isSlot (hr : md 30 0 = r) (hI : InvF F r) (a : Int32) : f_X8_isSlot md a = some (hasV a (nv r 0)) := by
  have := hI.l0
  unfold f_X8_isSlot
  rw [hr, hI.c0, isIn0 a (by omega), xb]
  simp only [hasV_01, xg]
theorem m_isFile (hr : md 30 0 = r) (hI : InvF F r) (a : Int32) : f_X8_isFile md a = some (hasV a (nv r 9)) := by
  have := hI.l9
  unfold f_X8_isFile
  rw [hr, hI.c9, isIn0 a (by omega), xb]
  simp only [hasV_01, xg]
theorem m_isRequest (hr : md 30 0 = r) (hI : InvF F r) (a : Int32) : f_X8_isRequest md a = some (hasV a (nv r 16)) := by
  have := hI.l16
  unfold f_X8_isRequest
  rw [hr, hI.c16, isIn0 a (by omega), xb]
  simp only [hasV_01, xg]
theorem hasV_2 (x : Int32) (n : Nat) : (if hasV x n = 0 then some (0 : Int32) else some (1 : Int32)) = some (hasV x n) := by
  unfold hasV
  split
  · rfl
  · split <;> rfl
theorem c_hasSession (hI : InvF F r) (hR : RelF F b sd r) {p : Nat} (hp : p < nv r 7) (a : Int32) : f_X4_hasSession sd (nI p) a = some (hasV a (nv r (69 + p))) := by
  have l7 := hI.l7
  unfold f_X4_hasSession
  rw [c_hasPlatter hI hR, xb, hasV_in hp (by omega)]
  simp (disch := omega) only [xl, xg, xb, vinT, nI_clamp, la, ra, lm, rmu, rsu, nI_add, pk_mul, nm1, m1n, nneg, npos, lle, rle, llt, rlt, leq, req, nI_leI, nI_ltI, nI_eq, if_pos, if_neg, if_true, if_false, i01, i10, (hR.pl p hp).2.2.2.2.1, (hI.plt p hp).2.2.2.2.1.e]
  exact hasE _ _
theorem c_hasSector (hI : InvF F r) (hR : RelF F b sd r) {p : Nat} (hp : p < nv r 7) (a : Int32) : f_X4_hasSector sd (nI p) a = some (hasV a (nv r (39 + p))) := by
  have l7 := hI.l7
  unfold f_X4_hasSector
  rw [c_hasPlatter hI hR, xb, hasV_in hp (by omega)]
  simp (disch := omega) only [xl, xg, xb, vinT, nI_clamp, la, ra, lm, rmu, rsu, nI_add, pk_mul, nm1, m1n, nneg, npos, lle, rle, llt, rlt, leq, req, nI_leI, nI_ltI, nI_eq, if_pos, if_neg, if_true, if_false, i01, i10, (hR.pl p hp).2.1, (hI.plt p hp).2.1.1.e]
  exact hasE _ _
theorem m_isSession (hr : md 30 0 = r) (hI : InvF F r) {p : Nat} (hp : p < nv r 7) (a : Int32) : f_X8_isSession md (nI p) a = some (hasV a (nv r (69 + p))) := by
  have l7 := hI.l7
  have l := (hI.plt p hp).2.2.2.2.1.l
  unfold f_X8_isSession
  rw [m_isPlatter hr hI, xb, hasV_in hp (by omega), hr]
  simp (disch := omega) only [xl, xg, xb, vinT, nI_clamp, la, ra, lm, rmu, rsu, nI_add, pk_mul, nm1, m1n, nneg, npos, lle, rle, llt, rlt, leq, req, nI_leI, nI_ltI, nI_eq, if_pos, if_neg, if_true, if_false, i01, i10, (hI.plt p hp).2.2.2.2.1.e, isIn0]
  exact hasV_2 _ _
theorem m_isSector (hr : md 30 0 = r) (hI : InvF F r) {p : Nat} (hp : p < nv r 7) (a : Int32) : f_X8_isSector md (nI p) a = some (hasV a (nv r (39 + p))) := by
  have l7 := hI.l7
  have l := (hI.plt p hp).2.1.1.l
  unfold f_X8_isSector
  rw [m_isPlatter hr hI, xb, hasV_in hp (by omega), hr]
  simp (disch := omega) only [xl, xg, xb, vinT, nI_clamp, la, ra, lm, rmu, rsu, nI_add, pk_mul, nm1, m1n, nneg, npos, lle, rle, llt, rlt, leq, req, nI_leI, nI_ltI, nI_eq, if_pos, if_neg, if_true, if_false, i01, i10, (hI.plt p hp).2.1.1.e, isIn0]
  exact hasV_2 _ _
/-- where a platter is -/
abbrev holdQ (r : RW) (a : Int32) : Int32 := fst (fun d => decide (r (21 + d) = a)) (nv r 6) 0
theorem c_driveHolding (hI : InvF F r) (hR : RelF F b sd r) (a : Int32) : f_X4_driveHolding sd a = some (holdQ r a) := by
  have l6 := hI.l6
  unfold f_X4_driveHolding
  refine srch0 (L := fun n v => f_X4_driveHolding_L2 sd a n v) (by omega) (fun n => ?_) (fun n d hd => ?_)
  · show f_X4_driveHolding_L2 sd a (n + 1) (nI (nv r 6)) = _
    rw [f_X4_driveHolding_L2, hR.s3, hI.c6]
    exact if_pos (nI_le (Nat.le_refl _) (by omega))
  · show f_X4_driveHolding_L2 sd a (n + 1) (nI d) = _
    rw [f_X4_driveHolding_L2, hR.s3, hI.c6]
    simp (disch := omega) only [xl, xg, xb, vinT, nI_clamp, la, ra, lm, rmu, rsu, nI_add, pk_mul, nm1, m1n, nneg, npos, lle, rle, llt, rlt, leq, req, nI_leI, nI_ltI, nI_eq, if_pos, if_neg, if_true, if_false, i01, i10, (hR.dr d hd).2, decide_eq_true_eq]
theorem m_inDrive (hr : md 30 0 = r) (hI : InvF F r) (a : Int32) : f_X8_inDrive md a = some (holdQ r a) := by
  have l6 := hI.l6
  unfold f_X8_inDrive
  refine srch0 (L := fun n v => f_X8_inDrive_L2 md a n v) (by omega) (fun n => ?_) (fun n d hd => ?_)
  · show f_X8_inDrive_L2 md a (n + 1) (nI (nv r 6)) = _
    rw [f_X8_inDrive_L2, hr, hI.c6]
    exact if_pos (nI_le (Nat.le_refl _) (by omega))
  · show f_X8_inDrive_L2 md a (n + 1) (nI d) = _
    rw [f_X8_inDrive_L2, hr, hI.c6]
    simp (disch := omega) only [xl, xg, xb, vinT, nI_clamp, la, ra, lm, rmu, rsu, nI_add, pk_mul, nm1, m1n, nneg, npos, lle, rle, llt, rlt, leq, req, nI_leI, nI_ltI, nI_eq, if_pos, if_neg, if_true, if_false, i01, i10, decide_eq_true_eq]
abbrev homeQ (r : RW) (a : Int32) : Int32 := fst (fun p => decide (r (29 + p) = a)) (nv r 7) 0
theorem c_platterWithHome (hI : InvF F r) (hR : RelF F b sd r) (a : Int32) : f_X4_platterWithHome sd a = some (homeQ r a) := by
  have l7 := hI.l7
  unfold f_X4_platterWithHome
  refine srch0 (L := fun n v => f_X4_platterWithHome_L2 sd a n v) (by omega) (fun n => ?_) (fun n d hd => ?_)
  · show f_X4_platterWithHome_L2 sd a (n + 1) (nI (nv r 7)) = _
    rw [f_X4_platterWithHome_L2, hR.s6, hI.c7]
    exact if_pos (nI_le (Nat.le_refl _) (by omega))
  · show f_X4_platterWithHome_L2 sd a (n + 1) (nI d) = _
    rw [f_X4_platterWithHome_L2, hR.s6, hI.c7]
    simp (disch := omega) only [xl, xg, xb, vinT, nI_clamp, la, ra, lm, rmu, rsu, nI_add, pk_mul, nm1, m1n, nneg, npos, lle, rle, llt, rlt, leq, req, nI_leI, nI_ltI, nI_eq, if_pos, if_neg, if_true, if_false, i01, i10, (hR.pl d hd).1, decide_eq_true_eq]
theorem m_homeAt (hr : md k0 0 = r) (hI : InvF F r) (a : Int32) : f_X8_homeAt md k0 a = some (homeQ r a) := by
  have l7 := hI.l7
  unfold f_X8_homeAt
  refine srch0 (L := fun n v => f_X8_homeAt_L2 md k0 a n v) (by omega) (fun n => ?_) (fun n d hd => ?_)
  · show f_X8_homeAt_L2 md k0 a (n + 1) (nI (nv r 7)) = _
    rw [f_X8_homeAt_L2, hr, hI.c7]
    exact if_pos (nI_le (Nat.le_refl _) (by omega))
  · show f_X8_homeAt_L2 md k0 a (n + 1) (nI d) = _
    rw [f_X8_homeAt_L2, hr, hI.c7]
    simp (disch := omega) only [xl, xg, xb, vinT, nI_clamp, la, ra, lm, rmu, rsu, nI_add, pk_mul, nm1, m1n, nneg, npos, lle, rle, llt, rlt, leq, req, nI_leI, nI_ltI, nI_eq, if_pos, if_neg, if_true, if_false, i01, i10, decide_eq_true_eq]
abbrev verQ (r : RW) (p s : Nat) : Int32 := fst (fun v => decide (r (349 + v) = nI p ∧ nv r (389 + v) ≤ s ∧ s < nv r (389 + v) + nv r (429 + v))) (nv r 10) 0
theorem c_versionAt (hI : InvF F r) (hR : RelF F b sd r) {p s : Nat} (hs : s < 300) : f_X4_versionAt sd (nI p) (nI s) = some (verQ r p s) := by
  have l10 := hI.l10
  unfold f_X4_versionAt
  refine srch0 (L := fun n v => f_X4_versionAt_L2 sd (nI p) (nI s) n v) (by omega) (fun n => ?_) (fun n d hd => ?_)
  · show f_X4_versionAt_L2 sd (nI p) (nI s) (n + 1) (nI (nv r 10)) = _
    rw [f_X4_versionAt_L2, hR.s9, hI.c10]
    exact if_pos (nI_le (Nat.le_refl _) (by omega))
  · show f_X4_versionAt_L2 sd (nI p) (nI s) (n + 1) (nI d) = _
    have v := hI.ver d hd
    have l2 := v.2.2.1.l
    have l3 := v.2.2.2.1.l
    rw [f_X4_versionAt_L2, hR.s9, hI.c10]
    unfold f_X6_holds
    simp (disch := omega) only [xl, xg, xb, vinT, nI_clamp, la, ra, lm, rmu, rsu, nI_add, pk_mul, nm1, m1n, nneg, npos, lle, rle, llt, rlt, leq, req, nI_leI, nI_ltI, nI_eq, if_pos, if_neg, if_true, if_false, i01, i10, (hR.ve d hd).2.1, (hR.ve d hd).2.2.1, (hR.ve d hd).2.2.2.1, v.2.2.1.e, v.2.2.2.1.e, decide_eq_true_eq]
    by_cases h1 : r (349 + d) = nI p
    · by_cases h2 : nv r (389 + d) ≤ s
      · by_cases h3 : s < nv r (389 + d) + nv r (429 + d)
        · simp [h1, h2, h3, Nat.not_lt.mpr h2, Nat.not_le.mpr h3, xb]
        · simp [h1, h2, h3, Nat.not_lt.mpr h2, Nat.not_lt.mp h3, xb]
      · simp [h1, h2, Nat.not_le.mp h2, xb]
    · simp [h1, xb]
theorem m_versionAt (hr : md k0 0 = r) (hI : InvF F r) {p s : Nat} (hs : s < 300) : f_X8_versionAt md k0 (nI p) (nI s) = some (verQ r p s) := by
  have l10 := hI.l10
  unfold f_X8_versionAt
  refine srch0 (L := fun n v => f_X8_versionAt_L2 md k0 (nI p) (nI s) n v) (by omega) (fun n => ?_) (fun n d hd => ?_)
  · show f_X8_versionAt_L2 md k0 (nI p) (nI s) (n + 1) (nI (nv r 10)) = _
    rw [f_X8_versionAt_L2, hr, hI.c10]
    exact if_pos (nI_le (Nat.le_refl _) (by omega))
  · show f_X8_versionAt_L2 md k0 (nI p) (nI s) (n + 1) (nI d) = _
    have v := hI.ver d hd
    have l2 := v.2.2.1.l
    have l3 := v.2.2.2.1.l
    rw [f_X8_versionAt_L2, hr, hI.c10]
    simp (disch := omega) only [xl, xg, xb, vinT, nI_clamp, la, ra, if_neg, nI_leI, v.2.2.1.e, v.2.2.2.1.e, isInR, decide_eq_true_eq]
    by_cases h1 : r (349 + d) = nI p
    · by_cases h2 : nv r (389 + d) ≤ s ∧ s < nv r (389 + d) + nv r (429 + d)
      · simp [h1, h2]
      · simp [h1, h2]
    · simp [h1]
theorem verQ_cases (r : RW) (p s : Nat) : (verQ r p s = -1 ∧ ∀ v, v < nv r 10 → ¬ (r (349 + v) = nI p ∧ nv r (389 + v) ≤ s ∧ s < nv r (389 + v) + nv r (429 + v))) ∨ ∃ v, v < nv r 10 ∧ verQ r p s = nI v ∧ r (349 + v) = nI p ∧ nv r (389 + v) ≤ s ∧ s < nv r (389 + v) + nv r (429 + v) := by
  rcases fst_cases0 (P := fun v => decide (r (349 + v) = nI p ∧ nv r (389 + v) ≤ s ∧ s < nv r (389 + v) + nv r (429 + v))) (n := nv r 10) with ⟨h1, h2⟩ | ⟨e, h1, h2, h3, h4⟩
  · exact Or.inl ⟨h1, fun v hv => of_decide_eq_false (h2 v hv)⟩
  · exact Or.inr ⟨e, h1, h2, of_decide_eq_true h3⟩
theorem holdQ_cases (r : RW) (a : Int32) : (holdQ r a = -1 ∧ ∀ d, d < nv r 6 → r (21 + d) ≠ a) ∨ ∃ d, d < nv r 6 ∧ holdQ r a = nI d ∧ r (21 + d) = a := by
  rcases fst_cases0 (P := fun d => decide (r (21 + d) = a)) (n := nv r 6) with ⟨h1, h2⟩ | ⟨e, h1, h2, h3, h4⟩
  · exact Or.inl ⟨h1, fun v hv => of_decide_eq_false (h2 v hv)⟩
  · exact Or.inr ⟨e, h1, h2, of_decide_eq_true h3⟩
theorem homeQ_cases (r : RW) (a : Int32) : (homeQ r a = -1 ∧ ∀ d, d < nv r 7 → r (29 + d) ≠ a) ∨ ∃ d, d < nv r 7 ∧ homeQ r a = nI d ∧ r (29 + d) = a := by
  rcases fst_cases0 (P := fun d => decide (r (29 + d) = a)) (n := nv r 7) with ⟨h1, h2⟩ | ⟨e, h1, h2, h3, h4⟩
  · exact Or.inl ⟨h1, fun v hv => of_decide_eq_false (h2 v hv)⟩
  · exact Or.inr ⟨e, h1, h2, of_decide_eq_true h3⟩
end Q1
end
section
/-! Layer 2: the picker and the drives -/
def dst (a b : Nat) : Nat := (a - b) + (b - a)
theorem dst_le {a b n : Nat} (ha : a ≤ n) (hb : b ≤ n) : dst a b ≤ n := by unfold dst; omega
theorem c_abs {a b : Nat} (ha : a < 2 ^ 30) (hb : b < 2 ^ 30) : (if 0 ≤ nI a - nI b then nI a - nI b else 0 - (nI a - nI b)) = nI (dst a b) := by
  by_cases h : b ≤ a
  · rw [pk_sub h, if_pos (nI_pos' (by omega))]
    congr 1
    unfold dst
    omega
  · rw [if_neg (by rw [i32_le_lt]; exact pk_sneg hb (by omega))]
    have e : (0 : Int32) - (nI a - nI b) = nI b - nI a := by grind
    rw [e, pk_sub (by omega)]
    congr 1
    unfold dst
    omega
theorem m_far {a b : Nat} (ha : a < 2 ^ 31) (hb : b < 2 ^ 31) : f_X8_far (nI a) (nI b) = some (nI (dst a b)) := by
  unfold f_X8_far
  simp only [nI_leI hb ha]
  by_cases h : b ≤ a
  · rw [if_pos h, pk_sub h]
    congr 2
    unfold dst
    omega
  · rw [if_neg h, pk_sub (by omega)]
    congr 2
    unfold dst
    omega
/-- how far the picker goes to bring a platter into a drive -/
def mvs (r : RW) (p d : Nat) : Nat := if r (21 + d) = -1 then dst (nv r 11) (nv r (29 + p)) + dst (nv r (29 + p)) (nv r (17 + d)) else dst (nv r 11) (nv r (17 + d)) + dst (nv r (17 + d)) (nv r (29 + nv r (21 + d))) + dst (nv r (29 + nv r (21 + d))) (nv r (29 + p)) + dst (nv r (29 + p)) (nv r (17 + d))
/-- how long that takes -/
def btm (r : RW) (p d : Nat) : Nat := mvs r p d * nv r 1 + (if r (21 + d) = -1 then 2 else 4) * nv r 2 + nv r 3
section MECH
variable {F : Nat} {b : Nat} {sd md : SD} {r : RW} {k0 : Nat}
theorem c_bringMoves (hI : InvF F r) (hR : RelF F b sd r) {p d : Nat} (hp : p < nv r 7) (hd : d < nv r 6) : f_X4_bringMoves sd (nI p) (nI d) = some (nI (mvs r p d)) := by
  have l6 := hI.l6
  have l7 := hI.l7
  obtain ⟨⟨x1, x2⟩, x3⟩ := hI.drv d hd
  obtain ⟨y1, y2⟩ := (hI.plt p hp).1
  have k1 := hI.pick.1
  have b1 := x1.l
  have b2 := y1.l
  have b3 := k1.l
  unfold f_X4_bringMoves mvs
  rcases x3 with h | ⟨z1, z2⟩
  · simp (disch := omega) only [xl, xg, xb, vinT, nI_clamp, la, ra, lm, rmu, rsu, nI_add, pk_mul, nm1, m1n, nneg, npos, lle, rle, llt, rlt, leq, req, nI_leI, nI_ltI, nI_eq, if_pos, if_neg, if_true, if_false, i01, i10, (hR.dr d hd).1, (hR.dr d hd).2, hR.s14, (hR.pl p hp).1, x1.e, y1.e, k1.e, h, c_abs, Nat.zero_add]
  · obtain ⟨w1, w2⟩ := (hI.plt _ z2).1
    have b4 := w1.l
    have b5 := z1.l
    have hne : ¬ (r (21 + d) = -1) := by rw [z1.e, nm1 (by omega)]; exact id
    simp (disch := omega) only [xl, xg, xb, vinT, nI_clamp, (hR.dr d hd).1, (hR.dr d hd).2, hR.s14, (hR.pl p hp).1, x1.e, y1.e, k1.e, if_neg hne]
    simp (disch := omega) only [xl, xg, xb, vinT, nI_clamp, la, ra, lm, rmu, rsu, nI_add, pk_mul, nm1, m1n, nneg, npos, lle, rle, llt, rlt, leq, req, nI_leI, nI_ltI, nI_eq, if_pos, if_neg, if_true, if_false, i01, i10, z1.e, (hR.pl _ z2).1, w1.e, c_abs]
theorem c_bringTime (hI : InvF F r) (hR : RelF F b sd r) {p d : Nat} (hp : p < nv r 7) (hd : d < nv r 6) : f_X4_bringTime sd (nI p) (nI d) = some (if r (21 + d) = nI p then 0 else nI (btm r p d)) := by
  have l6 := hI.l6
  obtain ⟨t1, t2, t3, t4, t5⟩ := hI.tim
  unfold f_X4_bringTime btm
  simp (disch := omega) only [xl, xg, xb, vinT, nI_clamp, la, ra, lm, rmu, rsu, nI_add, pk_mul, nm1, m1n, nneg, npos, lle, rle, llt, rlt, leq, req, nI_leI, nI_ltI, nI_eq, if_pos, if_neg, if_true, if_false, i01, i10, (hR.dr d hd).2, c_bringMoves hI hR hp hd, hR.tm.1, hR.tm.2.1, hR.tm.2.2.1, t1.e, t2.e, t3.e]
  split
  · rfl
  · split <;> rfl
/-- the row behind an exchange but for the uses -/
def br0 (r : RW) (p d : Nat) : RW := rup (rup (rup (rup (rup r 11 (r (17 + d))) 12 (r 12 + nI (btm r p d))) 13 (r 13 + 1)) 14 (r 14 + nI (mvs r p d))) (21 + d) (nI p)
def useR (r : RW) (d : Nat) : RW := rup (rup r 15 (r 15 + 1)) (25 + d) (r 15 + 1)
/-- only the row changes, and cells that are written before they are read -/
def MX (m m' : SD) : Prop := ∀ k j t, ¬ (k = 30 ∧ j = 0 ∧ t < 605) → ¬ (k = 34 ∨ k = 35 ∨ k = 36 ∨ (k = 8 ∧ t = 10)) → m' k j t = m k j t
theorem MX.rf (m : SD) : MX m m := fun _ _ _ _ _ => rfl
theorem MX.tr {x y z : SD} (h : MX x y) (g : MX y z) : MX x z := fun k j t a c => (g k j t a c).trans (h k j t a c)
theorem MX.up {m m' : SD} (h : MX m m') {t : Nat} {v : Int32} (ht : t < 605) : MX m (upS m' 30 0 t v) := fun k j q a c => by
  unfold upS
  rw [if_neg (fun z => a ⟨z.1, z.2.1, by omega⟩)]
  exact h k j q a c
theorem MX.uw {m m' : SD} (h : MX m m') {k j t : Nat} {v : Int32} (hs : k = 34 ∨ k = 35 ∨ k = 36 ∨ (k = 8 ∧ t = 10)) : MX m (upS m' k j t v) := fun k' j' t' a c => by
  unfold upS
  rw [if_neg (fun z => c (by obtain ⟨rfl, rfl, rfl⟩ := z; exact hs))]
  exact h k' j' t' a c
theorem m_goes (hr : md 30 0 = r) {k x : Nat} (hk : r 11 = nI k) (hk2 : k < 2 ^ 30) (hx : x < 2 ^ 30) : ∃ m', f_X8_goes md (nI x) = some m' ∧ MX md m' ∧ (∀ i, i ≠ 11 → i ≠ 12 → i ≠ 14 → m' 30 0 i = r i) ∧ m' 30 0 11 = nI x ∧ m' 30 0 12 = r 12 + nI (dst k x) * r 1 ∧ m' 30 0 14 = r 14 + nI (dst k x) := by
  subst hr
  unfold f_X8_goes
  rw [hk, m_far (by omega) (by omega), xb]
  simp only [xl]
  refine ⟨_, rfl, ((((MX.rf md).up (by omega)).up (by omega)).up (by omega)), fun i h1 h2 h3 => ?_, ?_, ?_, ?_⟩
  all_goals simp (disch := omega) only [upS_t, upS_hit]
theorem m_grips (hr : md 30 0 = r) : ∃ m', f_X8_grips md = some m' ∧ MX md m' ∧ (∀ i, i ≠ 12 → m' 30 0 i = r i) ∧ m' 30 0 12 = r 12 + r 2 := by
  subst hr
  refine ⟨_, rfl, (MX.rf md).up (by omega), fun i h => ?_, ?_⟩
  all_goals simp (disch := omega) only [upS_t, upS_hit]
theorem m_uses (hr : md 30 0 = r) {d : Nat} (hd : d < 4) : ∃ m', f_X8_uses md (nI d) = some m' ∧ MX md m' ∧ m' 30 0 = useR r d := by
  subst hr
  unfold f_X8_uses
  simp (disch := omega) only [xl, xg, xb, vinT, nI_clamp, la, ra, lm, rmu, rsu, nI_add, pk_mul, nm1, m1n, nneg, npos, lle, rle, llt, rlt, leq, req, nI_leI, nI_ltI, nI_eq, if_pos, if_neg, if_true, if_false, i01, i10]
  refine ⟨_, rfl, ((MX.rf md).up (by omega)).up (by omega), ?_⟩
  simp only [row_up, rup_hit]
  rfl
theorem m_empties (hr : md 30 0 = r) (hI : InvF F r) {d q : Nat} (hd : d < nv r 6) (hq : r (21 + d) = nI q) (hq2 : q < nv r 7) : ∃ m', f_X8_empties md (nI d) = some m' ∧ MX md m' ∧ (∀ i, i ≠ 11 → i ≠ 12 → i ≠ 14 → i ≠ 21 + d → m' 30 0 i = r i) ∧ m' 30 0 11 = nI (nv r (29 + q)) ∧ m' 30 0 12 = r 12 + (nI (dst (nv r 11) (nv r (17 + d)) + dst (nv r (17 + d)) (nv r (29 + q))) * r 1 + 2 * r 2) ∧ m' 30 0 14 = r 14 + nI (dst (nv r 11) (nv r (17 + d)) + dst (nv r (17 + d)) (nv r (29 + q))) ∧ m' 30 0 (21 + d) = -1 := by
  have l6 := hI.l6
  have l7 := hI.l7
  obtain ⟨⟨x1, x2⟩, -⟩ := hI.drv d hd
  obtain ⟨y1, y2⟩ := (hI.plt q hq2).1
  have b1 := x1.l
  have b2 := y1.l
  have b3 := hI.pick.1.l
  unfold f_X8_empties
  obtain ⟨m1, e1, f1, g1, g11, g12, g14⟩ := m_goes hr (x := nv r (17 + d)) hI.pick.1.e (by omega) (by omega)
  obtain ⟨m2, e2, f2, h2, h12⟩ := m_grips (md := m1) rfl
  have c1 : m2 30 0 (21 + d) = nI q := by rw [h2 _ (by omega), g1 _ (by omega) (by omega) (by omega), hq]
  have c2 : m2 30 0 (29 + q) = nI (nv r (29 + q)) := by rw [h2 _ (by omega), g1 _ (by omega) (by omega) (by omega)]; exact y1.e
  have c3 : (m2 30 0) 11 = nI (nv r (17 + d)) := by rw [h2 _ (by omega), g11]
  obtain ⟨m3, e3, f3, i1, i11, i12, i14⟩ := m_goes (md := m2) rfl (x := nv r (29 + q)) c3 (by omega) (by omega)
  obtain ⟨m4, e4, f4, j2, j12⟩ := m_grips (md := m3) rfl
  have hr1 : md 30 0 (17 + d) = nI (nv r (17 + d)) := by rw [hr]; exact x1.e
  simp (disch := omega) only [xg, vinT, la, nI_clamp]
  rw [hr1, e1, xb, e2, xb, c1]
  simp (disch := omega) only [xg, vinT, la, nI_clamp]
  rw [c2, e3, xb, e4, xb]
  simp only [xl]
  refine ⟨_, rfl, (f1.tr (f2.tr (f3.tr f4))).up (by omega), fun i k1 k2 k3 k4 => ?_, ?_, ?_, ?_, ?_⟩
  · rw [upS_t k4, j2 i k2, i1 i k1 k2 k3, h2 i k2, g1 i k1 k2 k3]
  · rw [upS_t (by omega), j2 _ (by omega), i11]
  · rw [upS_t (by omega), j12, i12, i1 2 (by omega) (by omega) (by omega), h12, h2 1 (by omega), h2 2 (by omega), g12, g1 1 (by omega) (by omega) (by omega), g1 2 (by omega) (by omega) (by omega), ← nI_add]
    grind
  · rw [upS_t (by omega), j2 _ (by omega), i14, h2 _ (by omega), g14, ← nI_add]
    grind
  · rw [upS_hit]
theorem br_eq {x r : RW} {p d : Nat} (hd : d < 4) (h0 : ∀ i, i ≠ 11 → i ≠ 12 → i ≠ 13 → i ≠ 14 → i ≠ 15 → i ≠ 21 + d → i ≠ 25 + d → x i = r i) (h11 : x 11 = r (17 + d)) (h12 : x 12 = r 12 + nI (btm r p d)) (h13 : x 13 = r 13 + 1) (h14 : x 14 = r 14 + nI (mvs r p d)) (h15 : x 15 = r 15 + 1) (h21 : x (21 + d) = nI p) (h25 : x (25 + d) = r 15 + 1) : x = useR (br0 r p d) d := by
  funext i
  unfold useR br0
  by_cases z : i = 25 + d
  · subst z; simp (disch := omega) only [rup_hit, rup_ne, h25]
  by_cases z : i = 21 + d
  · subst z; simp (disch := omega) only [rup_hit, rup_ne, h21]
  by_cases z : i = 15
  · subst z; simp (disch := omega) only [rup_hit, rup_ne, h15]
  by_cases z : i = 14
  · subst z; simp (disch := omega) only [rup_hit, rup_ne, h14]
  by_cases z : i = 13
  · subst z; simp (disch := omega) only [rup_hit, rup_ne, h13]
  by_cases z : i = 12
  · subst z; simp (disch := omega) only [rup_hit, rup_ne, h12]
  by_cases z : i = 11
  · subst z; simp (disch := omega) only [rup_hit, rup_ne, h11]
  simp (disch := omega) only [rup_ne]
  exact h0 i (by omega) (by omega) (by omega) (by omega) (by omega) (by omega) (by omega)
theorem m_brings (hr : md 30 0 = r) (hI : InvF F r) {p d : Nat} (hp : p < nv r 7) (hd : d < nv r 6) : ∃ m', f_X8_brings md (nI p) (nI d) = some m' ∧ MX md m' ∧ m' 30 0 = useR (br0 r p d) d := by
  have l6 := hI.l6
  have l7 := hI.l7
  obtain ⟨⟨x1, x2⟩, x3⟩ := hI.drv d hd
  obtain ⟨y1, y2⟩ := (hI.plt p hp).1
  obtain ⟨t1, t2, t3, t4, t5⟩ := hI.tim
  have b1 := x1.l
  have b2 := y1.l
  have b3 := hI.pick.1.l
  have go : ∀ (m0 : SD) (k : Nat) (T C : Int32), k < 24 → MX md m0 → (∀ i, i ≠ 11 → i ≠ 12 → i ≠ 14 → i ≠ 21 + d → m0 30 0 i = r i) → m0 30 0 11 = nI k → m0 30 0 12 = C → m0 30 0 14 = T → ∃ m', x_bind (f_X8_goes m0 (m0 30 0 (29 + p))) (fun q5 => x_bind (f_X8_grips q5) fun q6 => x_bind (f_X8_goes q6 (q6 30 0 (17 + d))) fun q8 => x_bind (f_X8_grips q8) fun q9 => x_bind (f_X8_uses (upS (upS (upS q9 30 0 (21 + d) (nI p)) 30 0 12 ((upS q9 30 0 (21 + d) (nI p)) 30 0 12 + (upS q9 30 0 (21 + d) (nI p)) 30 0 3)) 30 0 13 ((upS (upS q9 30 0 (21 + d) (nI p)) 30 0 12 ((upS q9 30 0 (21 + d) (nI p)) 30 0 12 + (upS q9 30 0 (21 + d) (nI p)) 30 0 3)) 30 0 13 + 1)) (nI d)) fun q14 => some q14) = some m' ∧ MX md m' ∧ (∀ i, i ≠ 11 → i ≠ 12 → i ≠ 13 → i ≠ 14 → i ≠ 15 → i ≠ 21 + d → i ≠ 25 + d → m' 30 0 i = r i) ∧ m' 30 0 11 = r (17 + d) ∧ m' 30 0 12 = C + (nI (dst k (nv r (29 + p)) + dst (nv r (29 + p)) (nv r (17 + d))) * r 1 + 2 * r 2 + r 3) ∧ m' 30 0 13 = r 13 + 1 ∧ m' 30 0 14 = T + nI (dst k (nv r (29 + p)) + dst (nv r (29 + p)) (nv r (17 + d))) ∧ m' 30 0 15 = r 15 + 1 ∧ m' 30 0 (21 + d) = nI p ∧ m' 30 0 (25 + d) = r 15 + 1 := by
    intro m0 k T C hk f0 z0 z11 z12 z14
    have a1 : m0 30 0 (29 + p) = nI (nv r (29 + p)) := by rw [z0 _ (by omega) (by omega) (by omega) (by omega)]; exact y1.e
    obtain ⟨m1, e1, f1, g1, g11, g12, g14⟩ := m_goes (md := m0) rfl (x := nv r (29 + p)) z11 (by omega) (by omega)
    obtain ⟨m2, e2, f2, h2, h12⟩ := m_grips (md := m1) rfl
    have a3 : m2 30 0 (17 + d) = nI (nv r (17 + d)) := by rw [h2 _ (by omega), g1 _ (by omega) (by omega) (by omega), z0 _ (by omega) (by omega) (by omega) (by omega)]; exact x1.e
    have a4 : (m2 30 0) 11 = nI (nv r (29 + p)) := by rw [h2 _ (by omega), g11]
    obtain ⟨m3, e3, f3, i1, i11, i12, i14⟩ := m_goes (md := m2) rfl (x := nv r (17 + d)) a4 (by omega) (by omega)
    obtain ⟨m4, e4, f4, j2, j12⟩ := m_grips (md := m3) rfl
    obtain ⟨m5, e5, f5, g5⟩ := m_uses (md := upS (upS (upS m4 30 0 (21 + d) (nI p)) 30 0 12 ((upS m4 30 0 (21 + d) (nI p)) 30 0 12 + (upS m4 30 0 (21 + d) (nI p)) 30 0 3)) 30 0 13 ((upS (upS m4 30 0 (21 + d) (nI p)) 30 0 12 ((upS m4 30 0 (21 + d) (nI p)) 30 0 12 + (upS m4 30 0 (21 + d) (nI p)) 30 0 3)) 30 0 13 + 1)) rfl (d := d) (by omega)
    refine ⟨m5, ?_, (f0.tr (f1.tr (f2.tr (f3.tr f4)))).tr ((((MX.rf m4).up (by omega)).up (by omega)).up (by omega) |>.tr f5), fun i k1 k2 k3 k4 k5 k6 k7 => ?_, ?_, ?_, ?_, ?_, ?_, ?_, ?_⟩
    · rw [a1, e1, xb, e2, xb, a3, e3, xb, e4, xb, e5, xb]
    all_goals rw [g5]
    all_goals unfold useR
    all_goals simp (disch := omega) only [rup_ne, rup_hit, upS_t, upS_hit]
    · rw [j2 i k2, i1 i k1 k2 k4, h2 i k2, g1 i k1 k2 k4, z0 i k1 k2 k4 k6]
    · rw [j2 _ (by omega), i11]; exact x1.e.symm
    · rw [j12, j2 3 (by omega), i12, i1 2 (by omega) (by omega) (by omega), i1 3 (by omega) (by omega) (by omega), h12, h2 1 (by omega), h2 2 (by omega), h2 3 (by omega), g12, g1 1 (by omega) (by omega) (by omega), g1 2 (by omega) (by omega) (by omega), g1 3 (by omega) (by omega) (by omega), z12, z0 1 (by omega) (by omega) (by omega) (by omega), z0 2 (by omega) (by omega) (by omega) (by omega), z0 3 (by omega) (by omega) (by omega) (by omega), ← nI_add]
      grind
    · rw [j2 _ (by omega), i1 _ (by omega) (by omega) (by omega), h2 _ (by omega), g1 _ (by omega) (by omega) (by omega), z0 _ (by omega) (by omega) (by omega) (by omega)]
    · rw [j2 _ (by omega), i14, h2 _ (by omega), g14, z14, ← nI_add]
      grind
    · rw [j2 _ (by omega), i1 _ (by omega) (by omega) (by omega), h2 _ (by omega), g1 _ (by omega) (by omega) (by omega), z0 _ (by omega) (by omega) (by omega) (by omega)]
    · rw [j2 _ (by omega), i1 _ (by omega) (by omega) (by omega), h2 _ (by omega), g1 _ (by omega) (by omega) (by omega), z0 _ (by omega) (by omega) (by omega) (by omega)]
  have hr1 : ∀ i, md 30 0 i = r i := fun i => by rw [hr]
  unfold f_X8_brings
  rcases x3 with h | ⟨z1, z2⟩
  · obtain ⟨m', e, f, k0, k11, k12, k13, k14, k15, k21, k25⟩ := go md (nv r 11) (r 14) (r 12) (by omega) (MX.rf md) (fun i _ _ _ _ => hr1 i) (by rw [hr1]; exact hI.pick.1.e) (hr1 12) (hr1 14)
    refine ⟨m', ?_, f, br_eq (by omega) k0 k11 ?_ k13 ?_ k15 k21 k25⟩
    · rw [← e]
      simp (disch := omega) only [xl, xg, vinT, nI_clamp, la, if_pos (show md 30 0 (21 + d) = -1 by rw [hr1]; exact h)]
    · rw [k12]
      unfold btm mvs
      rw [if_pos h, if_pos h]
      simp only [← nI_add, ← pk_mul, ← t1.e, ← t2.e, ← t3.e]
      rfl
    · rw [k14]
      unfold mvs
      rw [if_pos h]
  · have hne : ¬ (r (21 + d) = -1) := by rw [z1.e, nm1 (by have := z1.l; omega)]; exact id
    obtain ⟨m1, e1, f1, g0, g11, g12, g14, g21⟩ := m_empties hr hI hd z1.e z2
    obtain ⟨w1, w2⟩ := (hI.plt _ z2).1
    have b4 := w1.l
    obtain ⟨m', e, f, k0, k11, k12, k13, k14, k15, k21, k25⟩ := go m1 _ _ _ (by omega) f1 g0 g11 g12 g14
    refine ⟨m', ?_, f, br_eq (by omega) k0 k11 ?_ k13 ?_ k15 k21 k25⟩
    · rw [← e]
      simp (disch := omega) only [xl, xg, vinT, nI_clamp, la, if_neg (show ¬ md 30 0 (21 + d) = -1 by rw [hr1]; exact hne), e1, xb]
    · rw [k12]
      unfold btm mvs
      rw [if_neg hne, if_neg hne]
      simp only [← nI_add, ← pk_mul, ← t1.e, ← t2.e, ← t3.e]
      have e4 : nI 4 = (2 : Int32) + 2 := rfl
      rw [e4]
      grind
    · rw [k14]
      unfold mvs
      rw [if_neg hne]
      simp only [← nI_add]
      grind
end MECH
end
section
/-! Layer 2: trying and taking back; which drive; a platter comes into a drive -/
def cpM (m : SD) (k0 k1 : Nat) : SD := fun k j t => if k = k1 ∧ j = 0 ∧ t < 605 then m k0 0 t else m k j t
theorem m_copies (m : SD) {k0 k1 : Nat} (hk : k0 ≠ k1) : f_X8_copies m k0 k1 = some (cpM m k0 k1) := by
  unfold f_X8_copies
  obtain ⟨h1, h2⟩ := loop0 (L := fun n v s => f_X8_copies_L2 k1 k0 n v s) (N := 605) (fun d s => upS s k1 0 d (s k0 0 d)) (fun d s => ∀ k j t, s k j t = if k = k1 ∧ j = 0 ∧ t < d then m k0 0 t else m k j t) (fun s => some s) (by decide) (fun n s _ => by
      show f_X8_copies_L2 k1 k0 (n + 1) (nI 605) s = some s
      rw [f_X8_copies_L2]
      exact if_pos (by decide)) (fun n d s hd hI => by
      refine ⟨?_, fun k j t => ?_⟩
      · show f_X8_copies_L2 k1 k0 (n + 1) (nI d) s = f_X8_copies_L2 k1 k0 n (nI (d + 1)) _
        rw [f_X8_copies_L2]
        simp (disch := omega) only [xl, xg, xb, vinT, nI_clamp, la, ra, lm, rmu, rsu, nI_add, pk_mul, nm1, m1n, nneg, npos, lle, rle, llt, rlt, leq, req, nI_leI, nI_ltI, nI_eq, if_pos, if_neg, if_true, if_false, i01, i10]
      · show upS s k1 0 d (s k0 0 d) k j t = _
        unfold upS
        by_cases h : k = k1 ∧ j = 0 ∧ t = d
        · obtain ⟨rfl, rfl, rfl⟩ := h
          rw [if_pos ⟨rfl, rfl, rfl⟩, if_pos ⟨rfl, rfl, by omega⟩, hI, if_neg (fun z => hk z.1)]
        · rw [if_neg h, hI]
          by_cases g : k = k1 ∧ j = 0 ∧ t < d
          · rw [if_pos g, if_pos ⟨g.1, g.2.1, by omega⟩]
          · rw [if_neg g, if_neg (fun z => by
              by_cases e : t = d
              · exact h ⟨z.1, z.2.1, e⟩
              · exact g ⟨z.1, z.2.1, by omega⟩)]) m (fun k j t => by rw [if_neg (by omega)])
  rw [h1]
  exact congrArg some (funext fun k => funext fun j => funext fun t => h2 k j t)
def trM (m : SD) : SD := upS (cpM m 30 32) 8 0 6 (m 30 0 12)
theorem m_tries (m : SD) : f_X8_tries m = some (trM m) := by
  unfold f_X8_tries
  rw [m_copies m (by decide), xb]
  simp only [xl]
  congr 1
theorem trM_row (m : SD) : trM m 30 0 = m 30 0 := by
  funext t
  simp [trM, cpM, upS]
theorem m_back {m m2 : SD} (h : MX (trM m) m2) : ∃ m3, f_X8_takesBack m2 = some (m2 30 0 12 - m 30 0 12, m3) ∧ MSame m m3 := by
  unfold f_X8_takesBack
  rw [m_copies m2 (by decide)]
  simp only [xl, xb]
  have h6 : m2 8 0 6 = m 30 0 12 := by
    rw [h 8 0 6 (by omega) (by omega)]
    simp [trM, upS]
  rw [h6]
  refine ⟨_, rfl, fun k j t hs => ?_⟩
  unfold scr at hs
  unfold cpM
  by_cases g : k = 30 ∧ j = 0 ∧ t < 605
  · obtain ⟨rfl, rfl, ht⟩ := g
    rw [if_pos ⟨rfl, rfl, ht⟩, h 32 0 t (by omega) (by omega)]
    simp [trM, cpM, upS, ht]
  · rw [if_neg g, h k j t g (by omega)]
    unfold trM upS cpM
    rw [if_neg (by omega), if_neg (by omega)]
/-! the drive -/
def argm (u : Nat → Nat) : Nat → Nat → Nat → Nat
  | 0, _, b => b
  | n + 1, d, b => argm u n (d + 1) (if u d < u b then d else b)
theorem argm_lt {u : Nat → Nat} {D : Nat} : ∀ {n d b : Nat}, b < D → d + n ≤ D → argm u n d b < D
  | 0, _, _, h, _ => h
  | n + 1, d, b, h, g => by
    unfold argm
    refine argm_lt ?_ (by omega)
    split
    · omega
    · exact h
theorem argm_congr {u w : Nat → Nat} {D : Nat} (h : ∀ d e, d < D → e < D → (u d < u e ↔ w d < w e)) : ∀ {n d b : Nat}, b < D → d + n ≤ D → argm u n d b = argm w n d b
  | 0, _, _, _, _ => rfl
  | n + 1, d, b, h1, h2 => by
    unfold argm
    have e : (if u d < u b then d else b) = if w d < w b then d else b := by
      by_cases z : u d < u b
      · rw [if_pos z, if_pos ((h d b (by omega) h1).mp z)]
      · rw [if_neg z, if_neg (fun y => z ((h d b (by omega) h1).mpr y))]
    rw [e]
    refine argm_congr h ?_ (by omega)
    split
    · omega
    · exact h1
abbrev empQ (r : RW) : Int32 := fst (fun d => decide (r (21 + d) = -1)) (nv r 6) 0
/-- the drive for a platter that is in none, by when the drives were used -/
def freQ (r : RW) (u : Nat → Nat) : Int32 := if empQ r = -1 then nI (argm u (nv r 6 - 1) 1 0) else empQ r
theorem freQ_cases (r : RW) (u : Nat → Nat) (h : 0 < nv r 6) : ∃ d, d < nv r 6 ∧ freQ r u = nI d := by
  unfold freQ
  rcases fst_cases0 (P := fun d => decide (r (21 + d) = -1)) (n := nv r 6) with ⟨h1, h2⟩ | ⟨e, h1, h2, h3, h4⟩
  · rw [if_pos h1]
    exact ⟨_, argm_lt h (by omega), rfl⟩
  · by_cases g : empQ r = -1
    · rw [if_pos g]
      exact ⟨_, argm_lt h (by omega), rfl⟩
    · rw [if_neg g]
      exact ⟨e, h1, h2⟩
theorem freQ_congr {r : RW} {u w : Nat → Nat} (h : ∀ d e, d < nv r 6 → e < nv r 6 → (u d < u e ↔ w d < w e)) (h0 : 0 < nv r 6) : freQ r u = freQ r w := by
  unfold freQ
  rw [argm_congr h h0 (by omega)]
theorem fst_snoc (P : Nat → Bool) : ∀ (k d : Nat), k + d < 2 ^ 31 → fst P (k + 1) d = if fst P k d = -1 then (if P (d + k) = true then nI (d + k) else -1) else fst P k d
  | 0, d, _ => by
    simp only [fst, Nat.add_zero, if_true]
  | k + 1, d, h => by
    rw [fst]
    by_cases hp : P d = true
    · rw [if_pos hp, fst, if_pos hp, if_neg (by rw [nm1 (by omega)]; exact id)]
    · rw [if_neg hp, fst_snoc P k (d + 1) (by omega), fst, if_neg hp]
      have e : d + 1 + k = d + (k + 1) := by omega
      rw [e]
section DRV
variable {F : Nat} {b : Nat} {sd md : SD} {r : RW}
theorem m_free48 (hr : md 30 0 = r) (hI : InvF F r) (hU : ∀ d, d < nv r 6 → isN r (25 + d) (2 ^ 30)) : ∀ (k d b n : Nat), d + k = nv r 6 → b < nv r 6 → k < n → f_X8_freeDrive_L48 md n (nI b) (nI d) = some (nI (argm (fun e => nv r (25 + e)) k d b)) := by
  have l6 := hI.l6
  intro k
  induction k with
  | zero =>
    intro d b n h1 h2 h3
    obtain ⟨n, rfl⟩ : ∃ m, n = m + 1 := ⟨n - 1, by omega⟩
    rw [f_X8_freeDrive_L48, hr, hI.c6]
    simp (disch := omega) only [xl, xg, xb, vinT, nI_clamp, la, ra, lm, rmu, rsu, nI_add, pk_mul, nm1, m1n, nneg, npos, lle, rle, llt, rlt, leq, req, nI_leI, nI_ltI, nI_eq, if_pos, if_neg, if_true, if_false, i01, i10]
    rfl
  | succ k ih =>
    intro d b n h1 h2 h3
    obtain ⟨n, rfl⟩ : ∃ m, n = m + 1 := ⟨n - 1, by omega⟩
    have u1 := hU d (by omega)
    have u2 := hU b h2
    have v1 := u1.l
    have v2 := u2.l
    rw [f_X8_freeDrive_L48, hr, hI.c6]
    simp (disch := omega) only [xl, xg, xb, vinT, nI_clamp, la, ra, lm, rmu, rsu, nI_add, pk_mul, nm1, m1n, nneg, npos, lle, rle, llt, rlt, leq, req, nI_leI, nI_ltI, nI_eq, if_pos, if_neg, if_true, if_false, i01, i10, u1.e, u2.e]
    rw [argm]
    by_cases z : nv r (25 + b) ≤ nv r (25 + d)
    · rw [if_pos z, if_neg (by omega)]
      exact ih (d + 1) b n (by omega) h2 (by omega)
    · rw [if_neg z, if_pos (by omega)]
      exact ih (d + 1) d n (by omega) (by omega) (by omega)
theorem m_freeDrive (hr : md 30 0 = r) (hI : InvF F r) (hU : ∀ d, d < nv r 6 → isN r (25 + d) (2 ^ 30)) (h0 : 0 < nv r 6) : f_X8_freeDrive md = some (freQ r (fun d => nv r (25 + d))) := by
  have l6 := hI.l6
  have key : ∀ (k n : Nat) (best : Int32), k ≤ nv r 6 → k < n → f_X8_freeDrive_L12 md n best (nI k - 1) = if fst (fun d => decide (r (21 + d) = -1)) k 0 = -1 then (if best = -1 then f_X8_freeDrive_L48 md fuel 0 1 else some best) else some (fst (fun d => decide (r (21 + d) = -1)) k 0) := by
    intro k
    induction k with
    | zero =>
      intro n best h1 h2
      obtain ⟨n, rfl⟩ : ∃ m, n = m + 1 := ⟨n - 1, by omega⟩
      rw [f_X8_freeDrive_L12, if_pos (by decide)]
      simp only [fst, if_true]
    | succ k ih =>
      intro n best h1 h2
      obtain ⟨n, rfl⟩ : ∃ m, n = m + 1 := ⟨n - 1, by omega⟩
      rw [nI_pred, f_X8_freeDrive_L12, fst_snoc _ k 0 (by omega), hr]
      have e : nI k + (-1) = nI k - 1 := by grind
      simp (disch := omega) only [xl, xg, vinT, nneg, if_false, la, nI_clamp, Nat.zero_add, decide_eq_true_eq, e]
      rw [ih n (nI k) (by omega) (by omega), ih n best (by omega) (by omega)]
      have ne : ¬ (nI k = -1) := by rw [nm1 (by omega)]; exact id
      by_cases hp : r (21 + k) = -1
      · simp only [hp, if_true, if_neg ne]
        by_cases hf : fst (fun d => decide (r (21 + d) = -1)) k 0 = -1
        · simp only [hf, if_true, if_neg ne]
        · simp only [hf, if_false]
      · simp only [hp, if_false]
        by_cases hf : fst (fun d => decide (r (21 + d) = -1)) k 0 = -1
        · simp only [hf, if_true]
        · simp only [hf, if_false]
  unfold f_X8_freeDrive
  rw [hr, hI.c6, xl, key (nv r 6) fuel (-1) (Nat.le_refl _) (by unfold fuel; omega)]
  unfold freQ
  have h48 := m_free48 hr hI hU (nv r 6 - 1) 1 0 fuel (by omega) h0 (by unfold fuel; omega)
  by_cases hf : empQ r = -1
  · rw [if_pos hf, if_pos hf, if_pos rfl]
    exact h48
  · rw [if_neg hf, if_neg hf]
end DRV
/-! bits of small sets -/
theorem nI31 : ∀ d, d < 32 → nI d &&& 31 = nI d ∧ ((nI d).toBitVec.smod 32).toNat = d := by decide
theorem bit_t {M d : Nat} (hM : M < 2 ^ 31) (hd : d < 32) : ((nI M >>> (nI d &&& 31)) &&& (1 : Int32)) = nI (M / 2 ^ d % 2) := by
  obtain ⟨h1, h2⟩ := nI31 d hd
  rw [h1, pk_shrN hM (nI d) d h2]
  exact pk_andN (Nat.lt_of_le_of_lt (Nat.div_le_self _ _) (by omega)) 1 rfl
section DRV2
variable {F : Nat} {b : Nat} {sd md : SD} {r : RW}
/-- when a drive was used, as the class sees it behind the reading of a batch -/
def useC (sd : SD) (M d : Nat) : Nat := if M / 2 ^ d % 2 = 0 then ns sd 0 d 2 else ns sd 4 0 4 + 1 + d
theorem c_away7 (hI : InvF F r) (hR : RelF F b sd r) (hb : b < 2 ^ 29) {M : Nat} (hM : M < 2 ^ 31) : ∀ (k d o n : Nat), d + k = nv r 6 → o < nv r 6 → k < n → f_X4_driveForAway_L7 sd (nI M) n (nI o) (nI (useC sd M o)) (nI d) = some (if fst (fun d => decide (r (21 + d) = -1)) k d = -1 then nI (argm (useC sd M) k d o) else fst (fun d => decide (r (21 + d) = -1)) k d) := by
  have l6 := hI.l6
  obtain ⟨⟨u1, u2⟩, u3, u4, u5⟩ := hR.us
  have hw : ∀ d, d < nv r 6 → useC sd M d < 2 ^ 30 := fun d hd => by
    have := (u4 d hd).1.2
    unfold useC
    split <;> omega
  intro k
  induction k with
  | zero =>
    intro d o n h1 h2 h3
    obtain ⟨n, rfl⟩ : ∃ m, n = m + 1 := ⟨n - 1, by omega⟩
    rw [f_X4_driveForAway_L7, hR.s3, hI.c6]
    simp (disch := omega) only [xl, xg, xb, vinT, nI_clamp, la, ra, lm, rmu, rsu, nI_add, pk_mul, nm1, m1n, nneg, npos, lle, rle, llt, rlt, leq, req, nI_leI, nI_ltI, nI_eq, if_pos, if_neg, if_true, if_false, i01, i10]
    rfl
  | succ k ih =>
    intro d o n h1 h2 h3
    obtain ⟨n, rfl⟩ : ∃ m, n = m + 1 := ⟨n - 1, by omega⟩
    have hd : d < nv r 6 := by omega
    have w1 := hw d hd
    have w2 := hw o h2
    rw [f_X4_driveForAway_L7, hR.s3, hI.c6, fst, argm]
    simp (disch := omega) only [xl, xg, vinT, nI_clamp, nI_leI, if_neg, (hR.dr d hd).2, decide_eq_true_eq, bit_t hM (show d < 32 by omega), nm1, if_false, ra, nI_add]
    by_cases hp : r (21 + d) = -1
    · simp only [hp, if_true]
      rw [if_neg (by rw [nm1 (by omega)]; exact id)]
    · simp only [hp, if_false]
      have e2 : (if nI (M / 2 ^ d % 2) = 0 then (if nI (useC sd M o) ≤ sd 0 d 2 then f_X4_driveForAway_L7 sd (nI M) n (nI o) (nI (useC sd M o)) (nI (d + 1)) else f_X4_driveForAway_L7 sd (nI M) n (nI d) (sd 0 d 2) (nI (d + 1))) else (if nI (useC sd M o) ≤ sd 4 0 4 + 1 + nI d then f_X4_driveForAway_L7 sd (nI M) n (nI o) (nI (useC sd M o)) (nI (d + 1)) else f_X4_driveForAway_L7 sd (nI M) n (nI d) (sd 4 0 4 + 1 + nI d) (nI (d + 1)))) = (if useC sd M o ≤ useC sd M d then f_X4_driveForAway_L7 sd (nI M) n (nI o) (nI (useC sd M o)) (nI (d + 1)) else f_X4_driveForAway_L7 sd (nI M) n (nI d) (nI (useC sd M d)) (nI (d + 1))) := by
        have q0 : nI (M / 2 ^ d % 2) = 0 ↔ M / 2 ^ d % 2 = 0 := req (k := 0) (by decide) (by omega)
        by_cases z : M / 2 ^ d % 2 = 0
        · have ed : useC sd M d = ns sd 0 d 2 := by unfold useC; rw [if_pos z]
          rw [if_pos (q0.mpr z), ed, (u4 d hd).1.1]
          have e3 : ns sd 0 d 2 < 2 ^ 30 := by rw [← ed]; exact w1
          simp (disch := omega) only [nI_leI]
        · have ed : useC sd M d = ns sd 4 0 4 + 1 + d := by unfold useC; rw [if_neg z]
          rw [if_neg (fun y => z (q0.mp y)), ed, u1]
          simp (disch := omega) only [ra, nI_add, nI_leI]
      first | rw [e2] | (simp only [xl] at e2 ⊢; rw [e2])
      by_cases z : useC sd M o ≤ useC sd M d
      · rw [if_pos z, if_neg (show ¬ useC sd M d < useC sd M o by omega)]
        exact ih (d + 1) o n (by omega) h2 (by omega)
      · rw [if_neg z, if_pos (show useC sd M d < useC sd M o by omega)]
        exact ih (d + 1) d n (by omega) hd (by omega)
theorem c_driveForAway (hI : InvF F r) (hR : RelF F b sd r) (hb : b < 2 ^ 29) {M : Nat} (hM : M < 2 ^ 31) (h0 : 0 < nv r 6) : f_X4_driveForAway sd (nI M) = some (freQ r (useC sd M)) := by
  have l6 := hI.l6
  obtain ⟨⟨u1, u2⟩, u3, u4, u5⟩ := hR.us
  unfold f_X4_driveForAway freQ
  have hf : fuel = 19999 + 1 := rfl
  rw [hf, ← nI_0, f_X4_driveForAway_L7, hR.s3, hI.c6]
  have h7 := c_away7 hI hR hb hM (nv r 6 - 1) 1 0 19999 (by omega) h0 (by omega)
  have es : fst (fun d => decide (r (21 + d) = -1)) (nv r 6) 0 = if r (21 + 0) = -1 then nI 0 else fst (fun d => decide (r (21 + d) = -1)) (nv r 6 - 1) 1 := by
    have : nv r 6 = (nv r 6 - 1) + 1 := by omega
    rw [this, fst]
    simp only [decide_eq_true_eq, Nat.add_sub_cancel, Nat.zero_add]
  unfold empQ
  simp only [es]
  simp (disch := omega) only [xl, xg, vinT, nI_clamp, nI_leI, if_neg, (hR.dr 0 h0).2, bit_t hM (show 0 < 32 by omega), if_true, ra, nI_add]
  by_cases hp : r (21 + 0) = -1
  · simp only [hp, if_true]
    rw [if_neg (by rw [nm1 (by omega)]; exact id)]
  · simp only [hp, if_false]
    have q0 : nI (M / 2 ^ 0 % 2) = 0 ↔ M / 2 ^ 0 % 2 = 0 := req (k := 0) (by decide) (by omega)
    by_cases z : M / 2 ^ 0 % 2 = 0
    · have ed : useC sd M 0 = ns sd 0 0 2 := by unfold useC; rw [if_pos z]
      rw [if_pos (q0.mpr z), (u4 0 h0).1.1, ← ed]
      rw [h7]
    · have ed : useC sd M 0 = ns sd 4 0 4 + 1 + 0 := by unfold useC; rw [if_neg z]
      rw [if_neg (fun y => z (q0.mp y)), u1]
      simp (disch := omega) only [ra, nI_add]
      rw [← ed, h7]
end DRV2
end
section
/-! Layer 2: the mechanics keep the relation -/
theorem nv_eq {r r' : RW} {i j : Nat} (h : r' i = r j) : nv r' i = nv r j := by unfold nv; rw [h]
theorem isN_eq {r r' : RW} {i m : Nat} (h : r' i = r i) (g : isN r i m) : isN r' i m := by unfold isN at g ⊢; rw [nv_eq h, h]; exact g
theorem isN_nI {r : RW} {i n m : Nat} (h : r i = nI n) (hn : n ≤ m) (hm : m < 2 ^ 31) : isN r i m := by
  have e := nv_of h (by omega)
  exact ⟨by rw [e]; exact h, by rw [e]; exact hn⟩
/-- the numbers that the mechanics touch -/
def mec (i : Nat) : Prop := (11 ≤ i ∧ i ≤ 15) ∨ (21 ≤ i ∧ i ≤ 28)
section MV
variable {F : Nat} {b b' : Nat} {sd sd' md : SD} {r r' : RW}
theorem InvF.mech (hI : InvF F r) (hf : ∀ i, ¬ mec i → r' i = r i) (hp : I_pick r') (hd : ∀ d, d < nv r 6 → r' (21 + d) = -1 ∨ (isN r' (21 + d) 9 ∧ nv r' (21 + d) < nv r 7)) (hdd : ∀ d e, d < nv r 6 → e < nv r 6 → r' (21 + d) = r' (21 + e) → d = e ∨ r' (21 + d) = -1) : InvF F r' := by
  have hn : ∀ i, ¬ mec i → nv r' i = nv r i := fun i h => nv_eq (hf i h)
  unfold mec at hf hn
  have e0 := hn 0 (by omega)
  have e6 := hn 6 (by omega)
  have e7 := hn 7 (by omega)
  have e8 := hn 8 (by omega)
  have e9 := hn 9 (by omega)
  have e10 := hn 10 (by omega)
  have e16 := hn 16 (by omega)
  have l6 := hI.l6
  refine ⟨?_, ?_, hp, ?_, ?_, ?_, ?_, ?_, ?_, ?_, ?_, ?_, hI.lF⟩
  · have h := hI.1
    unfold I_cnt isN at h ⊢
    simp (disch := omega) only [hf, hn]
    exact h
  · have h := hI.tim
    unfold I_tim isN at h ⊢
    simp (disch := omega) only [hf, hn]
    exact h
  · intro d h
    rw [e6] at h
    have g := (hI.drv d h).1
    have k := hd d h
    refine ⟨?_, ?_⟩
    · unfold isN at g ⊢
      simp (disch := omega) only [hf, hn]
      exact g
    · rw [e7]
      exact k
  · intro d e h1 h2
    rw [e6] at h1 h2
    exact hdd d e h1 h2
  · intro p h
    rw [e7] at h
    have g := hI.plt p h
    unfold isN at g ⊢
    simp (disch := omega) only [hf, hn]
    exact g
  · intro p q h1 h2 h3
    rw [e7] at h1 h2
    simp (disch := omega) only [hf] at h3
    exact hI.hom p q h1 h2 h3
  · intro k h
    rw [e8] at h
    have g := hI.bad k h
    unfold isN at g ⊢
    simp (disch := omega) only [hf, hn]
    exact g
  · intro k l h1 h2 h3 h4
    rw [e8] at h1 h2
    simp (disch := omega) only [hf] at h3 h4
    exact hI.bdd k l h1 h2 h3 h4
  · intro f h
    have g := hI.cur f h
    unfold isN at g ⊢
    simp (disch := omega) only [hf, hn]
    exact g
  · intro v h
    rw [e10] at h
    have g := hI.ver v h
    unfold isN at g ⊢
    simp (disch := omega) only [hf, hn]
    exact g
  · intro q h
    rw [e16] at h
    have g := hI.req q h
    unfold isN at g ⊢
    simp (disch := omega) only [hf, hn]
    exact g
theorem RelF.mech (hI : InvF F r) (hR : RelF F b sd r) (hf : ∀ i, ¬ mec i → r' i = r i) (hs : ∀ k j t, k ≠ 4 → k ≠ 0 → sd' k j t = sd k j t) (h4 : ∀ t, ¬ (t = 4 ∨ (14 ≤ t ∧ t ≤ 17)) → sd' 4 0 t = sd 4 0 t) (hc : sd' 4 0 14 = r' 11 ∧ sd' 4 0 15 = r' 12 ∧ sd' 4 0 16 = r' 13 ∧ sd' 4 0 17 = r' 14) (hd : ∀ d, d < nv r 6 → sd' 0 d 0 = r (17 + d) ∧ sd' 0 d 1 = r' (21 + d)) (hu : R_us b' sd' r') : RelF F b' sd' r' := by
  have hn : ∀ i, ¬ mec i → nv r' i = nv r i := fun i h => nv_eq (hf i h)
  unfold mec at hf hn
  have e6 := hn 6 (by omega)
  have e7 := hn 7 (by omega)
  have e9 := hn 9 (by omega)
  have e10 := hn 10 (by omega)
  have e16 := hn 16 (by omega)
  have l6 := hI.l6
  refine ⟨?_, ?_, ?_, hu, ?_, ?_, ?_, ?_, ?_, ?_⟩
  · have h := hR.sc
    unfold R_sc at h ⊢
    simp (disch := omega) only [hf, h4]
    exact ⟨h.1, h.2.1, h.2.2.1, h.2.2.2.1, h.2.2.2.2.1, h.2.2.2.2.2.1, h.2.2.2.2.2.2.1, hc.1, hc.2.1, hc.2.2.1, hc.2.2.2⟩
  · have h := hR.tm
    unfold R_tm at h ⊢
    simp (disch := omega) only [hf, hs]
    exact h
  · intro d h
    rw [e6] at h
    have g := hd d h
    simp (disch := omega) only [hf]
    exact g
  · intro p h
    rw [e7] at h
    have g := hR.pl p h
    simp (disch := omega) only [hf, hs]
    exact g
  · intro p s h1 h2
    rw [e7] at h1
    rw [hn (69 + p) (by omega)] at h2
    have g := hR.se p s h1 h2
    simp (disch := omega) only [hf, hs]
    exact g
  · intro p s h1 h2
    rw [e7] at h1
    have g := hR.bd p s h1 h2
    unfold bdc bdm at g ⊢
    simp (disch := omega) only [hf, hn, hs]
    exact g
  · intro f h
    have g := hR.cu f h
    simp (disch := omega) only [hf, hs]
    exact g
  · intro v h
    rw [e10] at h
    have g := hR.ve v h
    simp (disch := omega) only [hf, hs]
    exact g
  · intro q h
    rw [e16] at h
    have g := hR.rq q h
    simp (disch := omega) only [hf, hs]
    exact g
theorem us_use (h : R_us b sd r) (hD : nv r' 6 = nv r 6) {d y : Nat} (hd : d < nv r 6) (h1 : sd' 4 0 4 = sd 4 0 4 + 1) (h2 : sd' 0 d 2 = sd 4 0 4 + 1) (h3 : ∀ e, e ≠ d → sd' 0 e 2 = sd 0 e 2) (g1 : r' 15 = nI y) (g2 : r' (25 + d) = nI y) (g3 : ∀ e, e < nv r 6 → e ≠ d → r' (25 + e) = r (25 + e)) (hy : nv r 15 < y) (hy2 : y ≤ b') (hb : b + 1 ≤ b') (hb2 : b' < 2 ^ 30) : R_us b' sd' r' := by
  obtain ⟨⟨u1, u2⟩, u3, u4, u5⟩ := h
  have a1 : sd' 4 0 4 = nI (ns sd 4 0 4 + 1) := by rw [h1, u1, nI_1]
  have a2 : sd' 0 d 2 = nI (ns sd 4 0 4 + 1) := by rw [h2, ← h1]; exact a1
  have c1 : ns sd' 4 0 4 = ns sd 4 0 4 + 1 := by
    have : ns sd' 4 0 4 = (nI (ns sd 4 0 4 + 1)).toNatClampNeg := by rw [← a1]; rfl
    rw [this, nI_clamp (by omega)]
  have c2 : ns sd' 0 d 2 = ns sd 4 0 4 + 1 := by
    have : ns sd' 0 d 2 = (nI (ns sd 4 0 4 + 1)).toNatClampNeg := by rw [← a2]; rfl
    rw [this, nI_clamp (by omega)]
  have c3 : ∀ e, e ≠ d → ns sd' 0 e 2 = ns sd 0 e 2 := fun e he => by unfold ns; rw [h3 e he]
  have d1 : nv r' 15 = y := nv_of g1 (by omega)
  have d2 : nv r' (25 + d) = y := nv_of g2 (by omega)
  have d3 : ∀ e, e < nv r 6 → e ≠ d → nv r' (25 + e) = nv r (25 + e) := fun e h1 h2 => nv_eq (g3 e h1 h2)
  refine ⟨⟨by rw [c1]; exact a1, by omega⟩, isN_nI g1 hy2 (by omega), fun e he => ?_, fun e f he hf => ?_⟩
  · rw [hD] at he
    by_cases z : e = d
    · subst z
      exact ⟨⟨by rw [c2]; exact a2, by omega⟩, isN_nI g2 (by omega) (by omega)⟩
    · obtain ⟨⟨v1, v2⟩, v3⟩ := u4 e he
      have v4 := v3.l
      refine ⟨⟨by rw [h3 e z, c3 e z]; exact v1, by rw [c3 e z]; omega⟩, ?_⟩
      have := isN_eq (g3 e he z) v3
      exact ⟨this.1, by rw [d3 e he z, d1]; omega⟩
  · rw [hD] at he hf
    by_cases z : e = d
    · by_cases z2 : f = d
      · subst z; subst z2
        omega
      · subst z
        have v1 := (u4 f hf).1.2
        have v2 := (u4 f hf).2.l
        rw [c2, c3 f z2, d2, d3 f hf z2]
        omega
    · have v1 := (u4 e he).1.2
      have v2 := (u4 e he).2.l
      by_cases z2 : f = d
      · subst z2
        rw [c2, c3 e z, d2, d3 e he z]
        omega
      · rw [c3 e z, c3 f z2, d3 e he z, d3 f hf z2]
        exact u5 e f he hf
def usC (sd : SD) (d : Nat) : SD := upS (upS sd 4 0 4 (sd 4 0 4 + 1)) 0 d 2 (sd 4 0 4 + 1)
def brC (sd : SD) (p d : Nat) (tm mv : Int32) : SD := upS (upS (upS (upS (upS sd 4 0 15 (sd 4 0 15 + tm)) 4 0 17 (sd 4 0 17 + mv)) 4 0 14 (sd 0 d 0)) 0 d 1 (nI p)) 4 0 16 (sd 4 0 16 + 1)
theorem c_useDrive (sd : SD) {d : Nat} (hd : d < 4) : f_X4_useDrive sd (nI d) = some (usC sd d) := by
  unfold f_X4_useDrive usC
  simp (disch := omega) only [xl, xg, xb, vinT, nI_clamp, la, ra, lm, rmu, rsu, nI_add, pk_mul, nm1, m1n, nneg, npos, lle, rle, llt, rlt, leq, req, nI_leI, nI_ltI, nI_eq, if_pos, if_neg, if_true, if_false, i01, i10]
  simp [upS]
theorem bm_frame (sd : SD) (v a c : Int32) : f_X4_bringMoves (upS sd 4 0 15 v) a c = f_X4_bringMoves sd a c := by
  unfold f_X4_bringMoves
  simp [upS]
theorem c_bringInto (hI : InvF F r) (hR : RelF F b sd r) {p d : Nat} (hp : p < nv r 7) (hd : d < nv r 6) (hne : r (21 + d) ≠ nI p) : f_X4_bringInto sd (nI p) (nI d) = some (usC (brC sd p d (nI (btm r p d)) (nI (mvs r p d))) d) := by
  have l6 := hI.l6
  unfold f_X4_bringInto
  simp (disch := omega) only [xl, xg, vinT, nI_clamp, (hR.dr d hd).2, c_bringTime hI hR hp hd, if_neg hne, xb, bm_frame, c_bringMoves hI hR hp hd]
  have e : (upS (upS (upS (upS (upS sd 4 0 15 (sd 4 0 15 + nI (btm r p d))) 4 0 17 (upS sd 4 0 15 (sd 4 0 15 + nI (btm r p d)) 4 0 17 + nI (mvs r p d))) 4 0 14 (upS (upS sd 4 0 15 (sd 4 0 15 + nI (btm r p d))) 4 0 17 (upS sd 4 0 15 (sd 4 0 15 + nI (btm r p d)) 4 0 17 + nI (mvs r p d)) 0 d 0)) 0 d 1 (nI p)) 4 0 16 (upS (upS (upS (upS sd 4 0 15 (sd 4 0 15 + nI (btm r p d))) 4 0 17 (upS sd 4 0 15 (sd 4 0 15 + nI (btm r p d)) 4 0 17 + nI (mvs r p d))) 4 0 14 (upS (upS sd 4 0 15 (sd 4 0 15 + nI (btm r p d))) 4 0 17 (upS sd 4 0 15 (sd 4 0 15 + nI (btm r p d)) 4 0 17 + nI (mvs r p d)) 0 d 0)) 0 d 1 (nI p) 4 0 16 + 1)) = brC sd p d (nI (btm r p d)) (nI (mvs r p d)) := by
    unfold brC
    simp [upS]
  rw [e, c_useDrive _ (by omega), xb]
theorem c_bringSame (hI : InvF F r) (hR : RelF F b sd r) {p d : Nat} (hd : d < nv r 6) (he : r (21 + d) = nI p) : f_X4_bringInto sd (nI p) (nI d) = some (usC sd d) := by
  have l6 := hI.l6
  unfold f_X4_bringInto
  simp (disch := omega) only [xl, xg, vinT, nI_clamp, (hR.dr d hd).2, if_pos he, xb, c_useDrive]
end MV
end
section
/-! Layer 2: both sides bring a platter, empty a drive, read a file -/
section BOTH
variable {F : Nat} {b b' : Nat} {sd sd' md : SD} {r r' : RW}
theorem us_same (h : R_us b sd r) (hb : b ≤ b') (hD : nv r' 6 = nv r 6) (h1 : sd' 4 0 4 = sd 4 0 4) (h2 : ∀ e, sd' 0 e 2 = sd 0 e 2) (g1 : r' 15 = r 15) (g2 : ∀ e, e < nv r 6 → r' (25 + e) = r (25 + e)) : R_us b' sd' r' := by
  obtain ⟨⟨u1, u2⟩, u3, u4, u5⟩ := h
  have c1 : ns sd' 4 0 4 = ns sd 4 0 4 := by unfold ns; rw [h1]
  have c2 : ∀ e, ns sd' 0 e 2 = ns sd 0 e 2 := fun e => by unfold ns; rw [h2]
  have d1 := nv_eq g1
  refine ⟨⟨by rw [h1, c1]; exact u1, by rw [c1]; omega⟩, ⟨(isN_eq g1 u3).1, by rw [d1]; exact Nat.le_trans u3.2 hb⟩, fun e he => ?_, fun e f he hf => ?_⟩
  · rw [hD] at he
    obtain ⟨⟨v1, v2⟩, v3⟩ := u4 e he
    refine ⟨⟨by rw [h2, c2]; exact v1, by rw [c2, c1]; exact v2⟩, ?_⟩
    have := isN_eq (g2 e he) v3
    rw [← d1] at this
    exact this
  · rw [hD] at he hf
    rw [c2, c2, nv_eq (g2 e he), nv_eq (g2 f hf)]
    exact u5 e f he hf
theorem clock_step (hI : InvF F r) (hR : RelF F b sd r) (v : Int32) : InvF F (rup r 12 v) ∧ RelF F b (upS sd 4 0 15 v) (rup r 12 v) := by
  have l6 := hI.l6
  have hf : ∀ i, ¬ mec i → rup r 12 v i = r i := fun i h => rup_ne (by unfold mec at h; omega)
  have hn : ∀ i, i ≠ 12 → nv (rup r 12 v) i = nv r i := fun i h => nv_eq (rup_ne h)
  have hI' : InvF F (rup r 12 v) := by
    refine hI.mech hf ?_ (fun d h => ?_) (fun d e h1 h2 h3 => ?_)
    · have := hI.pick
      unfold I_pick isN at this ⊢
      simp (disch := omega) only [hn, rup_ne]
      exact this
    · have := (hI.drv d h).2
      unfold isN at this ⊢
      simp (disch := omega) only [hn, rup_ne]
      exact this
    · simp (disch := omega) only [rup_ne] at h3 ⊢
      exact hI.drd d e h1 h2 h3
  refine ⟨hI', hR.mech hI hf (fun k j t h1 h2 => upS_k h1) (fun t h => upS_t (by omega)) ?_ (fun d h => ?_) ?_⟩
  · simp (disch := omega) only [upS_t, upS_hit, rup_ne, rup_hit]
    exact ⟨hR.s14, trivial, hR.s16, hR.s17⟩
  · simp (disch := omega) only [upS_k, rup_ne]
    exact hR.dr d h
  · refine us_same hR.us (Nat.le_refl _) (hn 6 (by omega)) (upS_t (by omega)) (fun e => upS_k (by omega)) (rup_ne (by omega)) (fun e he => rup_ne (by omega))
/-- the drive for a platter -/
def chQ (r : RW) (p : Nat) : Int32 := if holdQ r (nI p) = -1 then freQ r (fun d => nv r (25 + d)) else holdQ r (nI p)
theorem c_driveToChoose (hI : InvF F r) (hR : RelF F b sd r) (hb : b < 2 ^ 29) (h0 : 0 < nv r 6) (p : Nat) : f_X4_driveToChoose sd (nI p) = some (chQ r p) := by
  unfold f_X4_driveToChoose chQ
  have e : freQ r (useC sd 0) = freQ r (fun d => nv r (25 + d)) := freQ_congr (fun d e hd he => by
    unfold useC
    rw [if_pos (by simp), if_pos (by simp)]
    exact hR.us.2.2.2 d e hd he) h0
  have h := c_driveForAway hI hR hb (M := 0) (by decide) h0
  rw [nI_0, e] at h
  rw [c_driveHolding hI hR, xb, h, xb]
  split <;> rfl
theorem RelF.useN (hR : RelF F b sd r) (hb : b ≤ 2 ^ 30) : ∀ d, d < nv r 6 → isN r (25 + d) (2 ^ 30) := fun d hd => by
  have h := (hR.us.2.2.1 d hd).2
  exact ⟨h.1, Nat.le_trans h.2 (Nat.le_trans hR.us.2.1.2 hb)⟩
theorem m_chosen (hr : md 30 0 = r) (hI : InvF F r) (hU : ∀ d, d < nv r 6 → isN r (25 + d) (2 ^ 30)) (h0 : 0 < nv r 6) (p : Nat) : f_X8_chosen md (nI p) = some (chQ r p) := by
  unfold f_X8_chosen chQ
  rw [m_inDrive hr hI, xb, m_freeDrive hr hI hU h0, xb]
  split <;> rfl
theorem chQ_cases (h0 : 0 < nv r 6) (p : Nat) : ∃ d, d < nv r 6 ∧ chQ r p = nI d ∧ ((holdQ r (nI p) = -1 ∧ ∀ e, e < nv r 6 → r (21 + e) ≠ nI p) ∨ (holdQ r (nI p) ≠ -1 ∧ holdQ r (nI p) = nI d ∧ r (21 + d) = nI p)) := by
  unfold chQ
  by_cases h : holdQ r (nI p) = -1
  · rw [if_pos h]
    obtain ⟨d, h1, h2⟩ := freQ_cases r (fun d => nv r (25 + d)) h0
    refine ⟨d, h1, h2, Or.inl ⟨h, fun e he => ?_⟩⟩
    rcases holdQ_cases r (nI p) with ⟨-, h3⟩ | ⟨f, h3, h4, -⟩
    · exact h3 e he
    · rcases fst_cases0 (P := fun d => decide (r (21 + d) = nI p)) (n := nv r 6) with ⟨-, g2⟩ | ⟨x, g1, g2, g3, g4⟩
      · exact of_decide_eq_false (g2 e he)
      · have : nI x = -1 := g2.symm.trans h
        exact absurd this (by
          intro z
          have z2 : x < 2 ^ 31 ∨ ¬ x < 2 ^ 31 := Nat.lt_or_ge _ _ |>.imp id Nat.not_lt.mpr
          rcases z2 with z2 | z2
          · exact (nm1 z2).mp z
          · have : nv r 6 < 2 ^ 31 := by
              unfold nv
              exact Int32.toNatClampNeg_lt _
            omega)
  · rw [if_neg h]
    rcases holdQ_cases r (nI p) with ⟨h3, -⟩ | ⟨f, h3, h4, h5⟩
    · exact absurd h3 h
    · exact ⟨f, h3, h4, Or.inr ⟨h, h4, h5⟩⟩
/-- a use of a drive on both sides -/
theorem use_rows (d : Nat) (hd : d < 4) (r : RW) : (∀ i, i ≠ 15 → i ≠ 25 + d → useR r d i = r i) ∧ useR r d 15 = r 15 + 1 ∧ useR r d (25 + d) = r 15 + 1 := by
  unfold useR
  refine ⟨fun i h1 h2 => ?_, ?_, ?_⟩
  · simp (disch := omega) only [rup_ne]
  · simp (disch := omega) only [rup_ne, rup_hit]
  · simp (disch := omega) only [rup_hit]
theorem usC_cells (sd : SD) (d : Nat) : (∀ k j t, ¬ (k = 4 ∧ j = 0 ∧ t = 4) → ¬ (k = 0 ∧ j = d ∧ t = 2) → usC sd d k j t = sd k j t) ∧ usC sd d 4 0 4 = sd 4 0 4 + 1 ∧ usC sd d 0 d 2 = sd 4 0 4 + 1 := by
  unfold usC upS
  refine ⟨fun k j t h1 h2 => ?_, ?_, ?_⟩
  · rw [if_neg h2, if_neg h1]
  · simp
  · simp
theorem use_step (hI : InvF F r) (hR : RelF F b sd r) (hb : b < 2 ^ 29) {d : Nat} (hd : d < nv r 6) : InvF F (useR r d) ∧ RelF F (b + 1) (usC sd d) (useR r d) := by
  have l6 := hI.l6
  obtain ⟨a1, a2, a3⟩ := use_rows d (by omega) r
  obtain ⟨c1, c2, c3⟩ := usC_cells sd d
  obtain ⟨⟨u1, u2⟩, u3, u4, u5⟩ := hR.us
  have hf : ∀ i, ¬ mec i → useR r d i = r i := fun i h => a1 i (by unfold mec at h; omega) (by unfold mec at h; omega)
  have hn : ∀ i, i ≠ 15 → i ≠ 25 + d → nv (useR r d) i = nv r i := fun i h1 h2 => nv_eq (a1 i h1 h2)
  have hI' : InvF F (useR r d) := by
    refine hI.mech hf ?_ (fun e h => ?_) (fun e f h1 h2 h3 => ?_)
    · have := hI.pick
      unfold I_pick isN at this ⊢
      simp (disch := omega) only [hn, a1]
      exact this
    · have := (hI.drv e h).2
      unfold isN at this ⊢
      simp (disch := omega) only [hn, a1]
      exact this
    · simp (disch := omega) only [a1] at h3 ⊢
      exact hI.drd e f h1 h2 h3
  refine ⟨hI', hR.mech hI hf (fun k j t h1 h2 => c1 k j t (by omega) (by omega)) (fun t h => c1 4 0 t (by omega) (by omega)) ?_ (fun e h => ?_) ?_⟩
  · simp (disch := omega) only [c1, a1]
    exact ⟨hR.s14, hR.s15, hR.s16, hR.s17⟩
  · simp (disch := omega) only [c1, a1]
    exact hR.dr e h
  · have hu := u3.l
    refine us_use (y := nv r 15 + 1) hR.us (hn 6 (by omega) (by omega)) hd c2 c3 (fun e he => c1 0 e 2 (by omega) (by omega)) ?_ ?_ (fun e he hne => a1 _ (by omega) (by omega)) (by omega) (by omega) (by omega) (by omega)
    · rw [a2, u3.e, nI_1]
    · rw [a3, u3.e, nI_1]
/-- a further use on the reference's side alone, of the drive that was used last -/
theorem use_more (hI : InvF F r) (hR : RelF F b sd r) (hb : b < 2 ^ 29) {d : Nat} (hd : d < nv r 6) (hl : ∀ e, e < nv r 6 → e ≠ d → ns sd 0 e 2 < ns sd 0 d 2) : InvF F (useR r d) ∧ RelF F (b + 1) sd (useR r d) := by
  have l6 := hI.l6
  obtain ⟨a1, a2, a3⟩ := use_rows d (by omega) r
  obtain ⟨⟨u1, u2⟩, u3, u4, u5⟩ := hR.us
  have hf : ∀ i, ¬ mec i → useR r d i = r i := fun i h => a1 i (by unfold mec at h; omega) (by unfold mec at h; omega)
  have hn : ∀ i, i ≠ 15 → i ≠ 25 + d → nv (useR r d) i = nv r i := fun i h1 h2 => nv_eq (a1 i h1 h2)
  have hI' : InvF F (useR r d) := by
    refine hI.mech hf ?_ (fun e h => ?_) (fun e f h1 h2 h3 => ?_)
    · have := hI.pick
      unfold I_pick isN at this ⊢
      simp (disch := omega) only [hn, a1]
      exact this
    · have := (hI.drv e h).2
      unfold isN at this ⊢
      simp (disch := omega) only [hn, a1]
      exact this
    · simp (disch := omega) only [a1] at h3 ⊢
      exact hI.drd e f h1 h2 h3
  refine ⟨hI', hR.mech hI hf (fun k j t h1 h2 => rfl) (fun t h => rfl) ?_ (fun e h => ?_) ?_⟩
  · simp (disch := omega) only [a1]
    exact ⟨hR.s14, hR.s15, hR.s16, hR.s17⟩
  · simp (disch := omega) only [a1]
    exact hR.dr e h
  · have hu := u3.l
    have b2 : useR r d 15 = nI (nv r 15 + 1) := by rw [a2, u3.e, nI_1]
    have b3 : useR r d (25 + d) = nI (nv r 15 + 1) := by rw [a3, u3.e, nI_1]
    have d1 := nv_of b2 (by omega)
    have d2 := nv_of b3 (by omega)
    have hD := hn 6 (by omega) (by omega)
    refine ⟨⟨u1, by omega⟩, isN_nI b2 (by omega) (by omega), fun e he => ?_, fun e f he hq => ?_⟩
    · rw [hD] at he
      refine ⟨(u4 e he).1, ?_⟩
      by_cases z : e = d
      · subst z
        exact isN_nI b3 (by omega) (by omega)
      · have v := (u4 e he).2
        have := isN_eq (a1 (25 + e) (by omega) (by omega)) v
        exact ⟨this.1, by rw [hn (25 + e) (by omega) (by omega), d1]; have := v.l; omega⟩
    · rw [hD] at he hq
      have v1 := (u4 e he).2.l
      have v2 := (u4 f hq).2.l
      by_cases z : e = d
      · by_cases z2 : f = d
        · subst z; subst z2
          omega
        · subst z
          have := hl f hq z2
          rw [d2, hn (25 + f) (by omega) (by omega)]
          omega
      · by_cases z2 : f = d
        · subst z2
          have := hl e he z
          rw [d2, hn (25 + e) (by omega) (by omega)]
          omega
        · rw [hn (25 + e) (by omega) (by omega), hn (25 + f) (by omega) (by omega)]
          exact u5 e f he hq
/-- the exchange itself -/
theorem br_step (hI : InvF F r) (hR : RelF F b sd r) {p d : Nat} (hp : p < nv r 7) (hd : d < nv r 6) (hne : ∀ e, e < nv r 6 → r (21 + e) ≠ nI p) : InvF F (br0 r p d) ∧ RelF F b (brC sd p d (nI (btm r p d)) (nI (mvs r p d))) (br0 r p d) := by
  have l6 := hI.l6
  have l7 := hI.l7
  have a1 : ∀ i, i ≠ 11 → i ≠ 12 → i ≠ 13 → i ≠ 14 → i ≠ 21 + d → br0 r p d i = r i := fun i h1 h2 h3 h4 h5 => by
    unfold br0
    simp (disch := omega) only [rup_ne]
  have a11 : br0 r p d 11 = r (17 + d) := by unfold br0; simp (disch := omega) only [rup_ne, rup_hit]
  have a12 : br0 r p d 12 = r 12 + nI (btm r p d) := by unfold br0; simp (disch := omega) only [rup_ne, rup_hit]
  have a13 : br0 r p d 13 = r 13 + 1 := by unfold br0; simp (disch := omega) only [rup_ne, rup_hit]
  have a14 : br0 r p d 14 = r 14 + nI (mvs r p d) := by unfold br0; simp (disch := omega) only [rup_ne, rup_hit]
  have a21 : br0 r p d (21 + d) = nI p := by unfold br0; simp (disch := omega) only [rup_hit]
  have hf : ∀ i, ¬ mec i → br0 r p d i = r i := fun i h => by unfold mec at h; exact a1 i (by omega) (by omega) (by omega) (by omega) (by omega)
  have hn : ∀ i, i ≠ 11 → i ≠ 12 → i ≠ 13 → i ≠ 14 → i ≠ 21 + d → nv (br0 r p d) i = nv r i := fun i h1 h2 h3 h4 h5 => nv_eq (a1 i h1 h2 h3 h4 h5)
  obtain ⟨⟨x1, x2⟩, x3⟩ := hI.drv d hd
  have hI' : InvF F (br0 r p d) := by
    refine hI.mech hf ?_ (fun e h => ?_) (fun e f h1 h2 h3 => ?_)
    · have e11 := nv_eq a11
      unfold I_pick
      rw [e11, hn 0 (by omega) (by omega) (by omega) (by omega) (by omega)]
      exact ⟨⟨by rw [a11, e11]; exact x1.1, by rw [e11]; exact x1.2⟩, x2⟩
    · by_cases z : e = d
      · subst z
        exact Or.inr ⟨isN_nI a21 (by omega) (by omega), by rw [nv_of a21 (by omega)]; exact hp⟩
      · have := (hI.drv e h).2
        unfold isN at this ⊢
        simp (disch := omega) only [hn, a1]
        exact this
    · by_cases z : e = d
      · by_cases z2 : f = d
        · exact Or.inl (z.trans z2.symm)
        · subst z
          rw [a21, a1 (21 + f) (by omega) (by omega) (by omega) (by omega) (by omega)] at h3
          exact absurd h3.symm (hne f h2)
      · by_cases z2 : f = d
        · subst z2
          rw [a21, a1 (21 + e) (by omega) (by omega) (by omega) (by omega) (by omega)] at h3
          exact absurd h3 (hne e h1)
        · simp (disch := omega) only [a1] at h3 ⊢
          exact hI.drd e f h1 h2 h3
  refine ⟨hI', hR.mech hI hf (fun k j t h1 h2 => ?_) (fun t h => ?_) ?_ (fun e h => ?_) ?_⟩
  · unfold brC
    simp (disch := omega) only [upS_k]
  · unfold brC
    simp (disch := omega) only [upS_k, upS_t]
  · rw [a11, a12, a13, a14]
    unfold brC
    simp (disch := omega) only [upS_k, upS_t, upS_hit]
    exact ⟨(hR.dr d hd).1, by rw [hR.s15], by rw [hR.s16], by rw [hR.s17]⟩
  · unfold brC
    by_cases z : e = d
    · subst z
      simp (disch := omega) only [upS_k, upS_t, upS_hit, a21]
      exact ⟨(hR.dr e h).1, trivial⟩
    · simp (disch := omega) only [upS_k, upS_j, a1]
      exact hR.dr e h
  · refine us_same hR.us (Nat.le_refl _) (hn 6 (by omega) (by omega) (by omega) (by omega) (by omega)) ?_ (fun e => ?_) (a1 15 (by omega) (by omega) (by omega) (by omega) (by omega)) (fun e he => a1 _ (by omega) (by omega) (by omega) (by omega) (by omega))
    · unfold brC
      simp (disch := omega) only [upS_k, upS_t]
    · unfold brC
      simp (disch := omega) only [upS_k, upS_t]
end BOTH
end
section
/-! Layer 2: mounting, reading, emptying, on both sides -/
section MNT
variable {F : Nat} {b b' : Nat} {sd sd' md : SD} {r r' : RW}
theorem brC_use (sd : SD) (p d : Nat) (tm mv : Int32) : (brC sd p d tm mv) 4 0 4 = sd 4 0 4 ∧ ∀ e, (brC sd p d tm mv) 0 e 2 = sd 0 e 2 := by
  unfold brC
  refine ⟨?_, fun e => ?_⟩ <;> simp (disch := omega) only [upS_k, upS_t]
theorem usC_top (hI : InvF F r) (hR : RelF F b sd r) (hb : b < 2 ^ 29) {d : Nat} (hd : d < nv r 6) : ∀ e, e < nv r 6 → e ≠ d → ns (usC sd d) 0 e 2 < ns (usC sd d) 0 d 2 := by
  obtain ⟨c1, c2, c3⟩ := usC_cells sd d
  obtain ⟨⟨u1, u2⟩, u3, u4, u5⟩ := hR.us
  intro e he hne
  have h1 := (u4 e he).1.2
  have e1 : ns (usC sd d) 0 e 2 = ns sd 0 e 2 := by unfold ns; rw [c1 0 e 2 (by omega) (by omega)]
  have e2 : ns (usC sd d) 0 d 2 = ns sd 4 0 4 + 1 := by
    have h : usC sd d 0 d 2 = nI (ns sd 4 0 4 + 1) := by rw [c3, u1, nI_1]
    show (usC sd d 0 d 2).toNatClampNeg = _
    rw [h, nI_clamp (by omega)]
  rw [e1, e2]
  omega
theorem mount_both (hr : md 30 0 = r) (hI : InvF F r) (hR : RelF F b sd r) (hb : b < 2 ^ 28) (h0 : 0 < nv r 6) {p : Nat} (hp : p < nv r 7) : ∃ sd' m' d, d < nv r 6 ∧ chQ r p = nI d ∧ f_X4_bringToChosen sd (nI p) = some sd' ∧ f_X8_mounts md (nI p) = some (nI d, m') ∧ MX md m' ∧ InvF F (m' 30 0) ∧ RelF F (b + 2) sd' (m' 30 0) ∧ (∀ i, ¬ mec i → m' 30 0 i = r i) ∧ (m' 30 0) 12 = r 12 + (if holdQ r (nI p) = -1 then nI (btm r p d) else 0) := by
  have l6 := hI.l6
  obtain ⟨d, hd, hq, hc⟩ := chQ_cases h0 p
  have hU := hR.useN (by omega)
  have e1 : f_X4_driveToChoose sd (nI p) = some (nI d) := by rw [c_driveToChoose hI hR (by omega) h0, hq]
  have e2 : f_X8_chosen md (nI p) = some (nI d) := by rw [m_chosen hr hI hU h0, hq]
  have ne : ¬ (nI d = -1) := by rw [nm1 (by omega)]; exact id
  rcases hc with ⟨hh, hn⟩ | ⟨hh, hq2, hn⟩
  · obtain ⟨m1, f1, g1, q1⟩ := m_brings hr hI hp hd
    obtain ⟨m2, f2, g2, q2⟩ := m_uses q1 (d := d) (by omega)
    obtain ⟨i1, s1⟩ := br_step hI hR hp hd hn
    have d6 : nv (br0 r p d) 6 = nv r 6 := nv_eq (by unfold br0; simp (disch := omega) only [rup_ne])
    obtain ⟨i2, s2⟩ := use_step i1 s1 (by omega) (d := d) (by omega)
    have d7 : nv (useR (br0 r p d) d) 6 = nv r 6 := by rw [nv_eq ((use_rows d (by omega) (br0 r p d)).1 6 (by omega) (by omega)), d6]
    have top := usC_top i1 s1 (by omega) (d := d) (by omega)
    obtain ⟨i3, s3⟩ := use_more i2 s2 (by omega) (d := d) (by omega) (fun e he hne => top e (by omega) hne)
    refine ⟨usC (brC sd p d (nI (btm r p d)) (nI (mvs r p d))) d, m2, d, hd, hq, ?_, ?_, g1.tr g2, by rw [q2]; exact i3, by rw [q2]; exact s3, fun i hi => ?_, ?_⟩
    · unfold f_X4_bringToChosen
      rw [e1, xb, if_neg ne, c_bringInto hI hR hp hd (hn d hd), xb]
    · unfold f_X8_mounts
      rw [e2, xb, m_inDrive hr hI, xb]
      simp only [xl]
      rw [if_pos hh, f1, xb, f2, xb]
    · rw [q2]
      unfold mec at hi
      obtain ⟨a1, -, -⟩ := use_rows d (by omega) (useR (br0 r p d) d)
      obtain ⟨c1, -, -⟩ := use_rows d (by omega) (br0 r p d)
      rw [a1 i (by omega) (by omega), c1 i (by omega) (by omega)]
      unfold br0
      simp (disch := omega) only [rup_ne]
    · rw [q2, if_pos hh]
      obtain ⟨a1, -, -⟩ := use_rows d (by omega) (useR (br0 r p d) d)
      obtain ⟨c1, -, -⟩ := use_rows d (by omega) (br0 r p d)
      rw [a1 12 (by omega) (by omega), c1 12 (by omega) (by omega)]
      unfold br0
      simp (disch := omega) only [rup_ne, rup_hit]
  · obtain ⟨m2, f2, g2, q2⟩ := m_uses hr (d := d) (by omega)
    obtain ⟨i2, s2⟩ := use_step hI hR (by omega) hd
    refine ⟨usC sd d, m2, d, hd, hq, ?_, ?_, g2, by rw [q2]; exact i2, ?_, fun i hi => ?_, ?_⟩
    · unfold f_X4_bringToChosen
      rw [e1, xb, if_neg ne, c_bringSame hI hR hd hn, xb]
    · unfold f_X8_mounts
      rw [e2, xb, m_inDrive hr hI, xb]
      simp only [xl]
      rw [if_neg hh, f2, xb]
    · rw [q2]
      exact ⟨s2.1, s2.2.1, s2.2.2.1, us_same s2.us (by omega) rfl rfl (fun _ => rfl) rfl (fun _ _ => rfl), s2.2.2.2.2⟩
    · rw [q2]
      unfold mec at hi
      exact (use_rows d (by omega) r).1 i (by omega) (by omega)
    · rw [q2, if_neg hh, (use_rows d (by omega) r).1 12 (by omega) (by omega)]
      grind
theorem c_currentVersion (hI : InvF F r) (hR : RelF F b sd r) {f : Nat} (hf : f < F) : f_X4_currentVersion sd (nI f) = some (nv r (289 + f)) := by
  have l9 := hI.lF
  have l10 := hI.l10
  obtain ⟨x1, x2⟩ := hI.cur f hf
  unfold f_X4_currentVersion
  simp (disch := omega) only [xg, vinT, nI_clamp, hR.cu f hf, x1.e]
theorem m_version (hr : md 30 0 = r) (hI : InvF F r) {f : Nat} (hf : f < F) : f_X8_version md (nI f) = some (nI (nv r (289 + f))) := by
  have l9 := hI.lF
  obtain ⟨x1, x2⟩ := hI.cur f hf
  unfold f_X8_version
  rw [hr]
  simp (disch := omega) only [xg, vinT, la, nI_clamp, x1.e]
theorem m_platterOf (hr : md 30 0 = r) (hI : InvF F r) {f : Nat} (hf : f < F) : f_X8_platterOf md (nI f) = some (nI (nv r (349 + nv r (289 + f)))) := by
  have l10 := hI.l10
  obtain ⟨x1, x2⟩ := hI.cur f hf
  have y := (hI.ver _ x2).2.1.1
  unfold f_X8_platterOf
  rw [m_version hr hI hf, xb, hr]
  simp (disch := omega) only [xg, vinT, la, nI_clamp, y.e]
/-- how long the sectors of a version take -/
def rdT (r : RW) (v : Nat) : Int32 := r 4 * (r (429 + v) + r (509 + v))
theorem c_sectors (hI : InvF F r) (hR : RelF F b sd r) {v : Nat} (hv : v < nv r 10) : f_X4_sectorsReadTime sd v = some (rdT r v) := by
  unfold f_X4_sectorsReadTime rdT
  rw [hR.tm.2.2.2.1, (hR.ve v hv).2.2.2.1, (hR.ve v hv).2.2.2.2.2.1]
theorem read_both (hr : md 30 0 = r) (hI : InvF F r) (hR : RelF F b sd r) (hb : b < 2 ^ 28) (h0 : 0 < nv r 6) {f : Nat} (hf : f < F) : ∃ sd' m' d, d < nv r 6 ∧ chQ r (nv r (349 + nv r (289 + f))) = nI d ∧ f_X4_readFile sd (nI f) = some sd' ∧ f_X8_reads md (nI f) = some m' ∧ MX md m' ∧ InvF F (m' 30 0) ∧ RelF F (b + 2) sd' (m' 30 0) ∧ (∀ i, ¬ mec i → m' 30 0 i = r i) ∧ (m' 30 0) 12 = r 12 + (if holdQ r (nI (nv r (349 + nv r (289 + f)))) = -1 then nI (btm r (nv r (349 + nv r (289 + f))) d) else 0) + rdT r (nv r (289 + f)) := by
  have l10 := hI.l10
  obtain ⟨x1, x2⟩ := hI.cur f hf
  obtain ⟨y1, y2⟩ := (hI.ver _ x2).2.1
  obtain ⟨sd1, m1, d, hd, hq, e1, e2, hX, hI1, hR1, hfr, hck⟩ := mount_both hr hI hR hb h0 y2
  have n9 : nv (m1 30 0) 9 = nv r 9 := nv_eq (hfr 9 (by unfold mec; omega))
  have n10 : nv (m1 30 0) 10 = nv r 10 := nv_eq (hfr 10 (by unfold mec; omega))
  have n289 : nv (m1 30 0) (289 + f) = nv r (289 + f) := nv_eq (hfr _ (by unfold mec; omega))
  have hv : m1 30 0 = m1 30 0 := rfl
  have e3 := m_version (md := m1) rfl hI1 (f := f) hf
  have e4 := c_sectors hI1 hR1 (v := nv r (289 + f)) (by rw [n10]; exact x2)
  obtain ⟨hI2, hR2⟩ := clock_step hI1 hR1 ((m1 30 0) 12 + rdT (m1 30 0) (nv r (289 + f)))
  have hT : rdT (m1 30 0) (nv r (289 + f)) = rdT r (nv r (289 + f)) := by
    unfold rdT
    rw [hfr 4 (by unfold mec; omega), hfr _ (by unfold mec; omega), hfr _ (by unfold mec; omega)]
  refine ⟨upS sd1 4 0 15 ((m1 30 0) 12 + rdT (m1 30 0) (nv r (289 + f))), upS m1 30 0 12 ((m1 30 0) 12 + rdT (m1 30 0) (nv r (289 + f))), d, hd, hq, ?_, ?_, hX.up (by omega), ?_, ?_, fun i hi => ?_, ?_⟩
  · unfold f_X4_readFile
    rw [c_currentVersion hI hR hf, xb, (hR.ve _ x2).2.1, y1.e, e1, xb, e4, xb]
    simp only [xl]
    rw [hR1.s15]
  · unfold f_X8_reads
    rw [m_platterOf hr hI hf, xb, e2, xb]
    show x_bind (f_X8_version m1 (nI f)) _ = _
    rw [e3, xb, n289]
    simp (disch := omega) only [xl, xg, vinT, la, nI_clamp]
    rfl
  · rw [row_up]
    exact hI2
  · rw [row_up]
    exact hR2
  · rw [row_up, rup_ne (by unfold mec at hi; omega)]
    exact hfr i hi
  · rw [row_up, rup_hit, hck, hT]
/-- a drive is emptied -/
def emC (sd : SD) (d q : Nat) (tm mv : Int32) : SD := upS (upS (upS (upS sd 4 0 15 (sd 4 0 15 + tm)) 4 0 17 (sd 4 0 17 + mv)) 4 0 14 (sd 3 q 0)) 0 d 1 (-1)
theorem empty_both (hr : md 30 0 = r) (hI : InvF F r) (hR : RelF F b sd r) {d : Nat} (hd : d < nv r 6) (hne : r (21 + d) ≠ -1) : ∃ sd' m', f_X4_carryHome sd (nI d) = some sd' ∧ f_X8_empties md (nI d) = some m' ∧ MX md m' ∧ InvF F (m' 30 0) ∧ RelF F b sd' (m' 30 0) := by
  have l6 := hI.l6
  have l7 := hI.l7
  obtain ⟨⟨x1, x2⟩, x3⟩ := hI.drv d hd
  rcases x3 with h | ⟨z1, z2⟩
  · exact absurd h hne
  obtain ⟨w1, w2⟩ := (hI.plt _ z2).1
  obtain ⟨t1, t2, t3, t4, t5⟩ := hI.tim
  have k1 := hI.pick.1
  have b1 := x1.l
  have b3 := k1.l
  have b4 := w1.l
  have b5 := z1.l
  obtain ⟨m1, e1, f1, a1, a11, a12, a14, a21⟩ := m_empties hr hI hd z1.e z2
  refine ⟨emC sd d (nv r (21 + d)) (nI (dst (nv r 11) (nv r (17 + d)) + dst (nv r (17 + d)) (nv r (29 + nv r (21 + d)))) * r 1 + 2 * r 2) (nI (dst (nv r 11) (nv r (17 + d)) + dst (nv r (17 + d)) (nv r (29 + nv r (21 + d))))), m1, ?_, e1, f1, ?_, ?_⟩
  · unfold f_X4_carryHome emC
    simp (disch := omega) only [xl, xg, vinT, nI_clamp, (hR.dr d hd).1, (hR.dr d hd).2, hR.s14, x1.e, k1.e]
    rw [if_neg hne, z1.e]
    simp (disch := omega) only [xl, xg, vinT, nI_clamp, (hR.pl _ z2).1, w1.e, c_abs, nI_add, hR.tm.1, hR.tm.2.1]
    congr 1
  all_goals
    generalize m1 30 0 = r1 at a1 a11 a12 a14 a21 ⊢
    have hf : ∀ i, ¬ mec i → r1 i = r i := fun i h => by unfold mec at h; exact a1 i (by omega) (by omega) (by omega) (by omega)
    have hn : ∀ i, i ≠ 11 → i ≠ 12 → i ≠ 14 → i ≠ 21 + d → nv r1 i = nv r i := fun i h1 h2 h3 h4 => nv_eq (a1 i h1 h2 h3 h4)
  · refine hI.mech hf ?_ (fun e h => ?_) (fun e f h1 h2 h3 => ?_)
    · have e11 := nv_of a11 (by omega)
      unfold I_pick
      rw [e11, hn 0 (by omega) (by omega) (by omega) (by omega)]
      exact ⟨isN_nI a11 (by omega) (by omega), w2⟩
    · by_cases z : e = d
      · subst z
        exact Or.inl a21
      · have := (hI.drv e h).2
        unfold isN at this ⊢
        simp (disch := omega) only [hn, a1]
        exact this
    · by_cases z : e = d
      · subst z
        exact Or.inr a21
      · by_cases z2 : f = d
        · subst z2
          exact Or.inr (h3.trans a21)
        · simp (disch := omega) only [a1] at h3 ⊢
          exact hI.drd e f h1 h2 h3
  · refine hR.mech hI hf (fun k j t h1 h2 => ?_) (fun t h => ?_) ?_ (fun e h => ?_) ?_
    · unfold emC
      simp (disch := omega) only [upS_k]
    · unfold emC
      simp (disch := omega) only [upS_k, upS_t]
    · rw [a11, a12, a14, a1 13 (by omega) (by omega) (by omega) (by omega)]
      unfold emC
      simp (disch := omega) only [upS_k, upS_t, upS_hit]
      exact ⟨by rw [(hR.pl _ z2).1]; exact w1.e, by rw [hR.s15], hR.s16, by rw [hR.s17]⟩
    · unfold emC
      by_cases z : e = d
      · subst z
        simp (disch := omega) only [upS_k, upS_t, upS_hit, a21]
        exact ⟨(hR.dr e h).1, trivial⟩
      · simp (disch := omega) only [upS_k, upS_j, a1]
        exact hR.dr e h
    · refine us_same hR.us (Nat.le_refl _) (hn 6 (by omega) (by omega) (by omega) (by omega)) ?_ (fun e => ?_) (a1 15 (by omega) (by omega) (by omega) (by omega)) (fun e he => a1 _ (by omega) (by omega) (by omega) (by omega))
      · unfold emC
        simp (disch := omega) only [upS_k, upS_t]
      · unfold emC
        simp (disch := omega) only [upS_k, upS_t]
end MNT
end
section
/-! Layer 2: a State is copied -/
theorem cpS_in {s : SD} {k j n : Nat} {f : Nat → Int32} {t : Nat} (h : t < n) : cpS s k j n f k j t = f t := by simp [cpS, h]
theorem cpS_k {s : SD} {k j n : Nat} {f : Nat → Int32} {k' j' t : Nat} (h : k' ≠ k) : cpS s k j n f k' j' t = s k' j' t := by simp [cpS, h]
theorem cpS_j {s : SD} {k j n : Nat} {f : Nat → Int32} {k' j' t : Nat} (h : j' ≠ j) : cpS s k j n f k' j' t = s k' j' t := by simp [cpS, h]
/-- the cells of a State that count, for so many drives, platters and versions -/
def LE (so s : SD) (D P V : Nat) : Prop := (∀ t, t ≠ 1 → t ≠ 2 → t ≠ 5 → t ≠ 8 → t ≠ 10 → t ≠ 12 → t < 18 → s 4 0 t = so 4 0 t) ∧ (∀ t, t < 5 → s 10 0 t = so 10 0 t) ∧ (∀ d t, d < D → t < 3 → s 0 d t = so 0 d t) ∧ (∀ p t, p < P → t < 6 → s 3 p t = so 3 p t) ∧ (∀ p t, p < P → t < 8 → s 16 p t = so 16 p t ∧ s 17 p t = so 17 p t) ∧ (∀ p t, p < P → t < 10 → s 18 p t = so 18 p t) ∧ (∀ v t, v < V → t < 7 → s 6 v t = so 6 v t) ∧ (∀ t, t < 20 → s 14 0 t = so 14 0 t) ∧ ∀ t, t < 16 → s 15 0 t = so 15 0 t
section COPY
variable {F : Nat} {b : Nat} {so sd s : SD} {r : RW}
theorem RelF.copy (hI : InvF F r) (hR : RelF F b so r) (h : LE so s (nv r 6) (nv r 7) (nv r 10)) : RelF F b s r := by
  obtain ⟨h1, h2, h3, h4, h5, h6, h7, h8, h9⟩ := h
  have l9 := hI.lF
  have l16 := hI.l16
  refine ⟨?_, ?_, ?_, ?_, ?_, ?_, ?_, ?_, ?_, ?_⟩
  · have g := hR.sc
    unfold R_sc at g ⊢
    simp (disch := omega) only [h1]
    exact g
  · have g := hR.tm
    unfold R_tm at g ⊢
    simp (disch := omega) only [h2]
    exact g
  · intro d hd
    simp (disch := omega) only [h3]
    exact hR.dr d hd
  · have g := hR.us
    unfold R_us at g ⊢
    have e1 : ns s 4 0 4 = ns so 4 0 4 := by unfold ns; rw [h1 4 (by omega) (by omega) (by omega) (by omega) (by omega) (by omega) (by omega)]
    have e2 : ∀ d, d < nv r 6 → ns s 0 d 2 = ns so 0 d 2 := fun d hd => by unfold ns; rw [h3 d 2 hd (by omega)]
    rw [e1, h1 4 (by omega) (by omega) (by omega) (by omega) (by omega) (by omega) (by omega)]
    refine ⟨g.1, g.2.1, fun d hd => ?_, fun d e hd he => ?_⟩
    · rw [e2 d hd, h3 d 2 hd (by omega)]
      exact g.2.2.1 d hd
    · rw [e2 d hd, e2 e he]
      exact g.2.2.2 d e hd he
  · intro p hp
    simp (disch := omega) only [h4]
    exact hR.pl p hp
  · intro p q hp hq
    have := (hI.plt p hp).2.2.2.2.1.l
    rw [(h5 p q hp (by omega)).1, (h5 p q hp (by omega)).2]
    exact hR.se p q hp hq
  · intro p q hp hq
    have g := hR.bd p q hp hq
    unfold bdc at g ⊢
    rw [h6 p (q / 32) hp (by omega)]
    exact g
  · intro f hf
    rw [h8 f (by omega)]
    exact hR.cu f hf
  · intro v hv
    simp (disch := omega) only [h7]
    exact hR.ve v hv
  · intro q hq
    rw [h9 q (by omega)]
    exact hR.rq q hq
theorem c_copy0 (sd so : SD) (j : Nat) : ∃ s, f_X0_copyFrom sd so j j = some s ∧ (∀ k i t, ¬ (k = 0 ∧ i = j) → s k i t = sd k i t) ∧ ∀ t, t < 3 → s 0 j t = so 0 j t := by
  refine ⟨_, rfl, fun k i t h => ?_, fun t h => ?_⟩
  · simp only [upS]
    rw [if_neg (by omega), if_neg (by omega), if_neg (by omega)]
  · rcases (show t = 0 ∨ t = 1 ∨ t = 2 by omega) with rfl | rfl | rfl <;> simp [upS]
theorem c_copy6 (sd so : SD) (j : Nat) (hg : so 6 j 6 = 0 ∨ so 6 j 6 = 1) : ∃ s, f_X6_copyFrom sd so j j = some s ∧ (∀ k i t, ¬ (k = 6 ∧ i = j) → s k i t = sd k i t) ∧ ∀ t, t < 7 → s 6 j t = so 6 j t := by
  unfold f_X6_copyFrom
  simp only [xl, eq_true hg, xg]
  refine ⟨_, rfl, fun k i t h => ?_, fun t h => ?_⟩
  · simp only [upS]
    rw [if_neg (by omega), if_neg (by omega), if_neg (by omega), if_neg (by omega), if_neg (by omega), if_neg (by omega), if_neg (by omega)]
  · rcases (show t = 0 ∨ t = 1 ∨ t = 2 ∨ t = 3 ∨ t = 4 ∨ t = 5 ∨ t = 6 by omega) with rfl | rfl | rfl | rfl | rfl | rfl | rfl <;> simp [upS]
theorem c_copy3 (sd so : SD) (j : Nat) (hg : so 3 j 5 = 0 ∨ so 3 j 5 = 1) : ∃ s, f_X3_copyFrom sd so j j = some s ∧ (∀ k i t, ¬ ((k = 3 ∨ k = 16 ∨ k = 17 ∨ k = 18) ∧ i = j) → s k i t = sd k i t) ∧ (∀ t, t < 6 → s 3 j t = so 3 j t) ∧ (∀ t, t < 8 → s 16 j t = so 16 j t ∧ s 17 j t = so 17 j t) ∧ ∀ t, t < 10 → s 18 j t = so 18 j t := by
  unfold f_X3_copyFrom
  simp only [xl, eq_true hg, xg]
  refine ⟨_, rfl, fun k i t h => ?_, fun t h => ?_, fun t h => ⟨?_, ?_⟩, fun t h => ?_⟩
  · simp only [upS, cpS]
    rw [if_neg (by omega), if_neg (by omega), if_neg (by omega), if_neg (by omega), if_neg (by omega), if_neg (by omega), if_neg (by omega), if_neg (by omega), if_neg (by omega)]
  · rcases (show t = 0 ∨ t = 1 ∨ t = 2 ∨ t = 3 ∨ t = 4 ∨ t = 5 by omega) with rfl | rfl | rfl | rfl | rfl | rfl <;> simp [upS, cpS]
  · simp [upS, cpS, h]
  · simp [upS, cpS, h]
  · simp [cpS, h]
theorem c_copy126 (D P : Nat) {V : Nat} (hV : V ≤ 40) (hg : ∀ v, v < V → so 6 v 6 = 0 ∨ so 6 v 6 = 1) (hso : so 4 0 9 = nI V) : ∀ (k d n : Nat) (s : SD), d + k = V → k < n → s 4 0 9 = nI V → ((∀ t, (t = 0 ∨ t = 3 ∨ t = 4 ∨ t = 6 ∨ t = 7 ∨ t = 9) → s 4 0 t = so 4 0 t) ∧ (∀ t, t < 5 → s 10 0 t = so 10 0 t) ∧ (∀ d t, d < D → t < 3 → s 0 d t = so 0 d t) ∧ (∀ p t, p < P → t < 6 → s 3 p t = so 3 p t) ∧ (∀ p t, p < P → t < 8 → s 16 p t = so 16 p t ∧ s 17 p t = so 17 p t) ∧ (∀ p t, p < P → t < 10 → s 18 p t = so 18 p t) ∧ (∀ v t, v < d → t < 7 → s 6 v t = so 6 v t)) → ∃ s', f_X4_copyFrom_L126 so n (nI d) s = some s' ∧ LE so s' D P V := by
  intro k
  induction k with
  | zero =>
    intro d n s h1 h2 h3 h
    obtain ⟨n, rfl⟩ : ∃ m, n = m + 1 := ⟨n - 1, by omega⟩
    have hd : d = V := by omega
    subst hd
    obtain ⟨a1, a2, a3, a4, a5, a6, a7⟩ := h
    rw [f_X4_copyFrom_L126, h3, if_pos (nI_le (Nat.le_refl _) (by omega))]
    simp only [xl]
    refine ⟨_, rfl, fun t q1 q2 q5 q8 q10 q12 q18 => ?_, fun t ht => ?_, fun e t he ht => ?_, fun p t hp ht => ?_, fun p t hp ht => ⟨?_, ?_⟩, fun p t hp ht => ?_, fun v t hv ht => ?_, fun t ht => ?_, fun t ht => ?_⟩
    · rcases (show (t = 0 ∨ t = 3 ∨ t = 4 ∨ t = 6 ∨ t = 7 ∨ t = 9) ∨ t = 11 ∨ t = 13 ∨ t = 14 ∨ t = 15 ∨ t = 16 ∨ t = 17 by omega) with g | rfl | rfl | rfl | rfl | rfl | rfl
      · simp (disch := omega) only [upS_t, cpS_k]
        exact a1 t g
      all_goals simp (disch := omega) only [upS_t, upS_hit, cpS_k]
    · simp (disch := omega) only [upS_k, cpS_k]; exact a2 t ht
    · simp (disch := omega) only [upS_k, cpS_k]; exact a3 e t he ht
    · simp (disch := omega) only [upS_k, cpS_k]; exact a4 p t hp ht
    · simp (disch := omega) only [upS_k, cpS_k]; exact (a5 p t hp ht).1
    · simp (disch := omega) only [upS_k, cpS_k]; exact (a5 p t hp ht).2
    · simp (disch := omega) only [upS_k, cpS_k]; exact a6 p t hp ht
    · simp (disch := omega) only [upS_k, cpS_k]; exact a7 v t hv ht
    · simp (disch := omega) only [upS_k, cpS_k, cpS_in]
    · simp (disch := omega) only [upS_k, cpS_in]
  | succ k ih =>
    intro d n s h1 h2 h3 h
    obtain ⟨n, rfl⟩ : ∃ m, n = m + 1 := ⟨n - 1, by omega⟩
    obtain ⟨a1, a2, a3, a4, a5, a6, a7⟩ := h
    obtain ⟨s1, e1, f1, g1⟩ := c_copy6 s so d (hg d (by omega))
    rw [f_X4_copyFrom_L126, h3]
    simp (disch := omega) only [xl, xg, xb, vinT, nI_clamp, la, ra, lm, rmu, rsu, nI_add, pk_mul, nm1, m1n, nneg, npos, lle, rle, llt, rlt, leq, req, nI_leI, nI_ltI, nI_eq, if_pos, if_neg, if_true, if_false, i01, i10, e1]
    refine ih (d + 1) n s1 (by omega) (by omega) (by rw [f1 _ _ _ (by omega)]; exact h3) ⟨fun t ht => ?_, fun t ht => ?_, fun e t he ht => ?_, fun p t hp ht => ?_, fun p t hp ht => ⟨?_, ?_⟩, fun p t hp ht => ?_, fun v t hv ht => ?_⟩
    · rw [f1 _ _ _ (by omega)]; exact a1 t ht
    · rw [f1 _ _ _ (by omega)]; exact a2 t ht
    · rw [f1 _ _ _ (by omega)]; exact a3 e t he ht
    · rw [f1 _ _ _ (by omega)]; exact a4 p t hp ht
    · rw [f1 _ _ _ (by omega)]; exact (a5 p t hp ht).1
    · rw [f1 _ _ _ (by omega)]; exact (a5 p t hp ht).2
    · rw [f1 _ _ _ (by omega)]; exact a6 p t hp ht
    · by_cases z : v = d
      · subst z; exact g1 t ht
      · rw [f1 _ _ _ (by omega)]; exact a7 v t (by omega) ht
theorem c_copy79 (D : Nat) {P V : Nat} (hP : P ≤ 10) (hV : V ≤ 40) (hg : ∀ v, v < V → so 6 v 6 = 0 ∨ so 6 v 6 = 1) (hg3 : ∀ p, p < P → so 3 p 5 = 0 ∨ so 3 p 5 = 1) (hso : so 4 0 9 = nI V) : ∀ (k d n : Nat) (s : SD), d + k = P → k < n → s 4 0 6 = nI P → ((∀ t, (t = 0 ∨ t = 3 ∨ t = 4 ∨ t = 6) → s 4 0 t = so 4 0 t) ∧ (∀ t, t < 5 → s 10 0 t = so 10 0 t) ∧ (∀ d t, d < D → t < 3 → s 0 d t = so 0 d t) ∧ (∀ p t, p < d → t < 6 → s 3 p t = so 3 p t) ∧ (∀ p t, p < d → t < 8 → s 16 p t = so 16 p t ∧ s 17 p t = so 17 p t) ∧ (∀ p t, p < d → t < 10 → s 18 p t = so 18 p t)) → ∃ s', f_X4_copyFrom_L79 so n (nI d) s = some s' ∧ LE so s' D P V := by
  intro k
  induction k with
  | zero =>
    intro d n s h1 h2 h3 h
    obtain ⟨n, rfl⟩ : ∃ m, n = m + 1 := ⟨n - 1, by omega⟩
    have hd : d = P := by omega
    subst hd
    obtain ⟨a1, a2, a3, a4, a5, a6⟩ := h
    rw [f_X4_copyFrom_L79, h3, if_pos (nI_le (Nat.le_refl _) (by omega))]
    simp only [xl]
    have := c_copy126 D d hV hg hso V 0 fuel (upS (upS s 4 0 7 (so 4 0 7)) 4 0 9 (so 4 0 9)) (by omega) (by unfold fuel; omega) (by rw [upS_hit]; exact hso) ⟨fun t ht => ?_, fun t ht => ?_, fun e t he ht => ?_, fun p t hp ht => ?_, fun p t hp ht => ⟨?_, ?_⟩, fun p t hp ht => ?_, fun v t hv ht => by omega⟩
    · rw [nI_0] at this
      exact this
    · rcases (show (t = 0 ∨ t = 3 ∨ t = 4 ∨ t = 6) ∨ t = 7 ∨ t = 9 by omega) with g | rfl | rfl
      · simp (disch := omega) only [upS_t]
        exact a1 t g
      all_goals simp (disch := omega) only [upS_t, upS_hit]
    · simp (disch := omega) only [upS_k]; exact a2 t ht
    · simp (disch := omega) only [upS_k]; exact a3 e t he ht
    · simp (disch := omega) only [upS_k]; exact a4 p t hp ht
    · simp (disch := omega) only [upS_k]; exact (a5 p t hp ht).1
    · simp (disch := omega) only [upS_k]; exact (a5 p t hp ht).2
    · simp (disch := omega) only [upS_k]; exact a6 p t hp ht
  | succ k ih =>
    intro d n s h1 h2 h3 h
    obtain ⟨n, rfl⟩ : ∃ m, n = m + 1 := ⟨n - 1, by omega⟩
    obtain ⟨a1, a2, a3, a4, a5, a6⟩ := h
    obtain ⟨s1, e1, f1, g1, g2, g3⟩ := c_copy3 s so d (hg3 d (by omega))
    rw [f_X4_copyFrom_L79, h3]
    simp (disch := omega) only [xl, xg, xb, vinT, nI_clamp, la, ra, lm, rmu, rsu, nI_add, pk_mul, nm1, m1n, nneg, npos, lle, rle, llt, rlt, leq, req, nI_leI, nI_ltI, nI_eq, if_pos, if_neg, if_true, if_false, i01, i10, e1]
    refine ih (d + 1) n s1 (by omega) (by omega) (by rw [f1 _ _ _ (by omega)]; exact h3) ⟨fun t ht => ?_, fun t ht => ?_, fun e t he ht => ?_, fun p t hp ht => ?_, fun p t hp ht => ?_, fun p t hp ht => ?_⟩
    · rw [f1 _ _ _ (by omega)]; exact a1 t ht
    · rw [f1 _ _ _ (by omega)]; exact a2 t ht
    · rw [f1 _ _ _ (by omega)]; exact a3 e t he ht
    · by_cases z : p = d
      · subst z; exact g1 t ht
      · rw [f1 _ _ _ (by omega)]; exact a4 p t (by omega) ht
    · by_cases z : p = d
      · subst z; exact g2 t ht
      · rw [f1 _ _ _ (by omega), f1 _ _ _ (by omega)]; exact a5 p t (by omega) ht
    · by_cases z : p = d
      · subst z; exact g3 t ht
      · rw [f1 _ _ _ (by omega)]; exact a6 p t (by omega) ht
theorem c_copy32 {D P V : Nat} (hD : D ≤ 4) (hP : P ≤ 10) (hV : V ≤ 40) (hg : ∀ v, v < V → so 6 v 6 = 0 ∨ so 6 v 6 = 1) (hg3 : ∀ p, p < P → so 3 p 5 = 0 ∨ so 3 p 5 = 1) (hso6 : so 4 0 6 = nI P) (hso : so 4 0 9 = nI V) : ∀ (k d n : Nat) (s : SD), d + k = D → k < n → s 4 0 3 = nI D → ((∀ t, (t = 0 ∨ t = 3) → s 4 0 t = so 4 0 t) ∧ (∀ t, t < 5 → s 10 0 t = so 10 0 t) ∧ (∀ e t, e < d → t < 3 → s 0 e t = so 0 e t)) → ∃ s', f_X4_copyFrom_L32 so n (nI d) s = some s' ∧ LE so s' D P V := by
  intro k
  induction k with
  | zero =>
    intro d n s h1 h2 h3 h
    obtain ⟨n, rfl⟩ : ∃ m, n = m + 1 := ⟨n - 1, by omega⟩
    have hd : d = D := by omega
    subst hd
    obtain ⟨a1, a2, a3⟩ := h
    rw [f_X4_copyFrom_L32, h3, if_pos (nI_le (Nat.le_refl _) (by omega))]
    simp only [xl]
    have := c_copy79 d hP hV hg hg3 hso P 0 fuel (upS (upS s 4 0 4 (so 4 0 4)) 4 0 6 (so 4 0 6)) (by omega) (by unfold fuel; omega) (by rw [upS_hit]; exact hso6) ⟨fun t ht => ?_, fun t ht => ?_, fun e t he ht => ?_, fun p t hp ht => by omega, fun p t hp ht => by omega, fun p t hp ht => by omega⟩
    · rw [nI_0] at this
      exact this
    · rcases (show (t = 0 ∨ t = 3) ∨ t = 4 ∨ t = 6 by omega) with g | rfl | rfl
      · simp (disch := omega) only [upS_t]
        exact a1 t g
      all_goals simp (disch := omega) only [upS_t, upS_hit]
    · simp (disch := omega) only [upS_k]; exact a2 t ht
    · simp (disch := omega) only [upS_k]; exact a3 e t he ht
  | succ k ih =>
    intro d n s h1 h2 h3 h
    obtain ⟨n, rfl⟩ : ∃ m, n = m + 1 := ⟨n - 1, by omega⟩
    obtain ⟨a1, a2, a3⟩ := h
    obtain ⟨s1, e1, f1, g1⟩ := c_copy0 s so d
    rw [f_X4_copyFrom_L32, h3]
    simp (disch := omega) only [xl, xg, xb, vinT, nI_clamp, la, ra, lm, rmu, rsu, nI_add, pk_mul, nm1, m1n, nneg, npos, lle, rle, llt, rlt, leq, req, nI_leI, nI_ltI, nI_eq, if_pos, if_neg, if_true, if_false, i01, i10, e1]
    refine ih (d + 1) n s1 (by omega) (by omega) (by rw [f1 _ _ _ (by omega)]; exact h3) ⟨fun t ht => ?_, fun t ht => ?_, fun e t he ht => ?_⟩
    · rw [f1 _ _ _ (by omega)]; exact a1 t ht
    · rw [f1 _ _ _ (by omega)]; exact a2 t ht
    · by_cases z : e = d
      · subst z; exact g1 t ht
      · rw [f1 _ _ _ (by omega)]; exact a3 e t (by omega) ht
theorem nI_01 {n : Nat} (h : n ≤ 1) : nI n = 0 ∨ nI n = 1 := by
  rcases (show n = 0 ∨ n = 1 by omega) with rfl | rfl
  · exact Or.inl rfl
  · exact Or.inr rfl
/-- a copy of a State stands for the same row -/
theorem c_copyFrom (hI : InvF F r) (hR : RelF F b so r) (sd : SD) : ∃ s, f_X4_copyFrom sd so = some s ∧ RelF F b s r := by
  have hg : ∀ v, v < nv r 10 → so 6 v 6 = 0 ∨ so 6 v 6 = 1 := fun v hv => by
    have h := (hI.ver v hv).2.2.2.2.2.2.2
    rw [(hR.ve v hv).2.2.2.2.2.2, h.e]
    exact nI_01 h.l
  have hg3 : ∀ p, p < nv r 7 → so 3 p 5 = 0 ∨ so 3 p 5 = 1 := fun p hp => by
    have h := (hI.plt p hp).2.2.2.2.2.1
    rw [(hR.pl p hp).2.2.2.2.2, h.e]
    exact nI_01 h.l
  have h3 : so 4 0 3 = nI (nv r 6) := by rw [hR.s3]; exact hI.c6
  have h6 : so 4 0 6 = nI (nv r 7) := by rw [hR.s6]; exact hI.c7
  have h9 : so 4 0 9 = nI (nv r 10) := by rw [hR.s9]; exact hI.c10
  have l6 := hI.l6
  obtain ⟨s, e, hl⟩ := c_copy32 l6 hI.l7 hI.l10 hg hg3 h6 h9 (nv r 6) 0 fuel (upS (cpS (upS sd 4 0 0 (so 4 0 0)) 10 0 5 (so 10 0)) 4 0 3 (so 4 0 3)) (by omega) (by unfold fuel; omega) (by rw [upS_hit]; exact h3) ⟨fun t ht => by
      rcases ht with rfl | rfl
      · simp (disch := omega) only [upS_t, cpS_k, upS_hit]
      · simp (disch := omega) only [upS_hit], fun t ht => by simp (disch := omega) only [upS_k, cpS_in], fun e t he ht => by omega⟩
  rw [nI_0] at e
  exact ⟨s, e, hR.copy hI hl⟩
end COPY
end
section
/-! Layer 2: the questions, one by one -/
section QRY
variable {b : Nat} {sd md : SD} {r : RW}
theorem q_homeSlot (hr : md 30 0 = r) (hI : Inv r) (hR : Rel b sd r) (a : Int32) : Ans md (f_X7_homeSlot sd a) (f_X8_homeSlot md a) := by
  obtain ⟨m1, e1, r1, s1⟩ := thr md
  have hr1 : m1 30 0 = r := r1.trans hr
  have hi1 : ∀ i, m1 30 0 i = r i := fun i => by rw [hr1]
  have l6 := hI.l6
  have l7 := hI.l7
  have l9 := hI.l9
  have l10 := hI.l10
  unfold f_X7_homeSlot f_X8_homeSlot
  rw [c_hasPlatter hI hR, xb, xl, e1, m_isPlatter hr1 hI, xb]
  rcases hasV_cases a (n := nv r 7) (by omega) with h | ⟨h, p, hp, rfl⟩
  · rw [h, if_pos rfl, if_pos rfl]; exact ⟨_, _, rfl, rfl, s1⟩
  · rw [h]
    simp (disch := omega) only [xl, xg, xb, vinT, nI_clamp, la, ra, lm, rmu, rsu, nI_add, pk_mul, nm1, m1n, nneg, npos, lle, rle, llt, rlt, leq, req, nI_leI, nI_ltI, nI_eq, if_pos, if_neg, if_true, if_false, i01, i10, hi1, (hR.pl p hp).1]
    exact ⟨_, _, rfl, rfl, s1⟩
theorem q_sessionCount (hr : md 30 0 = r) (hI : Inv r) (hR : Rel b sd r) (a : Int32) : Ans md (f_X7_sessionCount sd a) (f_X8_sessionCount md a) := by
  obtain ⟨m1, e1, r1, s1⟩ := thr md
  have hr1 : m1 30 0 = r := r1.trans hr
  have hi1 : ∀ i, m1 30 0 i = r i := fun i => by rw [hr1]
  have l6 := hI.l6
  have l7 := hI.l7
  have l9 := hI.l9
  have l10 := hI.l10
  unfold f_X7_sessionCount f_X8_sessionCount
  rw [c_hasPlatter hI hR, xb, xl, e1, m_isPlatter hr1 hI, xb]
  rcases hasV_cases a (n := nv r 7) (by omega) with h | ⟨h, p, hp, rfl⟩
  · rw [h, if_pos rfl, if_pos rfl]; exact ⟨_, _, rfl, rfl, s1⟩
  · rw [h]
    simp (disch := omega) only [xl, xg, xb, vinT, nI_clamp, la, ra, lm, rmu, rsu, nI_add, pk_mul, nm1, m1n, nneg, npos, lle, rle, llt, rlt, leq, req, nI_leI, nI_ltI, nI_eq, if_pos, if_neg, if_true, if_false, i01, i10, hi1, (hR.pl p hp).2.2.2.2.1]
    exact ⟨_, _, rfl, rfl, s1⟩
theorem q_sparesLeft (hr : md 30 0 = r) (hI : Inv r) (hR : Rel b sd r) (a : Int32) : Ans md (f_X7_sparesLeft sd a) (f_X8_sparesLeft md a) := by
  obtain ⟨m1, e1, r1, s1⟩ := thr md
  have hr1 : m1 30 0 = r := r1.trans hr
  have hi1 : ∀ i, m1 30 0 i = r i := fun i => by rw [hr1]
  have l6 := hI.l6
  have l7 := hI.l7
  have l9 := hI.l9
  have l10 := hI.l10
  unfold f_X7_sparesLeft f_X8_sparesLeft
  rw [c_hasPlatter hI hR, xb, xl, e1, m_isPlatter hr1 hI, xb]
  rcases hasV_cases a (n := nv r 7) (by omega) with h | ⟨h, p, hp, rfl⟩
  · rw [h, if_pos rfl, if_pos rfl]; exact ⟨_, _, rfl, rfl, s1⟩
  · rw [h]
    simp (disch := omega) only [xl, xg, xb, vinT, nI_clamp, la, ra, lm, rmu, rsu, nI_add, pk_mul, nm1, m1n, nneg, npos, lle, rle, llt, rlt, leq, req, nI_leI, nI_ltI, nI_eq, if_pos, if_neg, if_true, if_false, i01, i10, hi1, (hR.pl p hp).2.2.1]
    exact ⟨_, _, rfl, rfl, s1⟩
theorem q_freeSectors (hr : md 30 0 = r) (hI : Inv r) (hR : Rel b sd r) (a : Int32) : Ans md (f_X7_freeSectors sd a) (f_X8_freeSectors md a) := by
  obtain ⟨m1, e1, r1, s1⟩ := thr md
  have hr1 : m1 30 0 = r := r1.trans hr
  have hi1 : ∀ i, m1 30 0 i = r i := fun i => by rw [hr1]
  have l6 := hI.l6
  have l7 := hI.l7
  have l9 := hI.l9
  have l10 := hI.l10
  unfold f_X7_freeSectors f_X8_freeSectors
  rw [c_hasPlatter hI hR, xb, xl, e1, m_isPlatter hr1 hI, xb]
  rcases hasV_cases a (n := nv r 7) (by omega) with h | ⟨h, p, hp, rfl⟩
  · rw [h, if_pos rfl, if_pos rfl]; exact ⟨_, _, rfl, rfl, s1⟩
  · rw [h]
    unfold f_X3_unused f_X8_free
    simp (disch := omega) only [xl, xg, xb, vinT, nI_clamp, la, ra, lm, rmu, rsu, nI_add, pk_mul, nm1, m1n, nneg, npos, lle, rle, llt, rlt, leq, req, nI_leI, nI_ltI, nI_eq, if_pos, if_neg, if_true, if_false, i01, i10, hi1, (hR.pl p hp).2.1, (hR.pl p hp).2.2.2.1]
    exact ⟨_, _, rfl, rfl, s1⟩
theorem q_hasOpenSession (hr : md 30 0 = r) (hI : Inv r) (hR : Rel b sd r) (a : Int32) : Ans md (f_X7_hasOpenSession sd a) (f_X8_hasOpenSession md a) := by
  obtain ⟨m1, e1, r1, s1⟩ := thr md
  have hr1 : m1 30 0 = r := r1.trans hr
  have hi1 : ∀ i, m1 30 0 i = r i := fun i => by rw [hr1]
  have l6 := hI.l6
  have l7 := hI.l7
  have l9 := hI.l9
  have l10 := hI.l10
  unfold f_X7_hasOpenSession f_X8_hasOpenSession
  rw [c_hasPlatter hI hR, xb, xl, e1, m_isPlatter hr1 hI, xb]
  rcases hasV_cases a (n := nv r 7) (by omega) with h | ⟨h, p, hp, rfl⟩
  · rw [h, if_pos rfl, if_pos rfl]; exact ⟨_, _, rfl, rfl, s1⟩
  · rw [h]
    have w := (hI.plt p hp).2.2.2.2.2.1
    have wl := w.l
    simp (disch := omega) only [xl, xg, xb, vinT, nI_clamp, la, ra, lm, rmu, rsu, nI_add, pk_mul, nm1, m1n, nneg, npos, lle, rle, llt, rlt, leq, req, nI_leI, nI_ltI, nI_eq, if_pos, if_neg, if_true, if_false, i01, i10, hi1, (hR.pl p hp).2.2.2.2.2]
    by_cases z : r (79 + p) = 0
    · rw [if_pos z, z]; exact ⟨_, _, rfl, rfl, s1⟩
    · rw [if_neg z]
      have : r (79 + p) = 1 := by
        rcases nI_01 wl with g | g
        · exact absurd (w.e.trans g) z
        · exact w.e.trans g
      rw [this]; exact ⟨_, _, rfl, rfl, s1⟩
theorem q_pickerPosition (hr : md 30 0 = r) (hI : Inv r) (hR : Rel b sd r) : Ans md (f_X7_pickerPosition sd) (f_X8_pickerPosition md) := by
  obtain ⟨m1, e1, r1, s1⟩ := thr md
  have hr1 : m1 30 0 = r := r1.trans hr
  have hi1 : ∀ i, m1 30 0 i = r i := fun i => by rw [hr1]
  have l6 := hI.l6
  have l7 := hI.l7
  have l9 := hI.l9
  have l10 := hI.l10
  unfold f_X7_pickerPosition f_X8_pickerPosition
  rw [xl, e1, hR.s14, hi1]
  exact ⟨_, _, rfl, rfl, s1⟩
theorem q_clock (hr : md 30 0 = r) (hI : Inv r) (hR : Rel b sd r) : Ans md (f_X7_clock sd) (f_X8_clock md) := by
  obtain ⟨m1, e1, r1, s1⟩ := thr md
  have hr1 : m1 30 0 = r := r1.trans hr
  have hi1 : ∀ i, m1 30 0 i = r i := fun i => by rw [hr1]
  have l6 := hI.l6
  have l7 := hI.l7
  have l9 := hI.l9
  have l10 := hI.l10
  unfold f_X7_clock f_X8_clock
  rw [xl, e1, hR.s15, hi1]
  exact ⟨_, _, rfl, rfl, s1⟩
theorem q_exchanges (hr : md 30 0 = r) (hI : Inv r) (hR : Rel b sd r) : Ans md (f_X7_exchanges sd) (f_X8_exchanges md) := by
  obtain ⟨m1, e1, r1, s1⟩ := thr md
  have hr1 : m1 30 0 = r := r1.trans hr
  have hi1 : ∀ i, m1 30 0 i = r i := fun i => by rw [hr1]
  have l6 := hI.l6
  have l7 := hI.l7
  have l9 := hI.l9
  have l10 := hI.l10
  unfold f_X7_exchanges f_X8_exchanges
  rw [xl, e1, hR.s16, hi1]
  exact ⟨_, _, rfl, rfl, s1⟩
theorem q_travel (hr : md 30 0 = r) (hI : Inv r) (hR : Rel b sd r) : Ans md (f_X7_travel sd) (f_X8_travel md) := by
  obtain ⟨m1, e1, r1, s1⟩ := thr md
  have hr1 : m1 30 0 = r := r1.trans hr
  have hi1 : ∀ i, m1 30 0 i = r i := fun i => by rw [hr1]
  have l6 := hI.l6
  have l7 := hI.l7
  have l9 := hI.l9
  have l10 := hI.l10
  unfold f_X7_travel f_X8_travel
  rw [xl, e1, hR.s17, hi1]
  exact ⟨_, _, rfl, rfl, s1⟩
theorem c_found (x : Int32) : f_X7_foundOrNot x = some (if x = -1 then -1000005 else x) := by
  unfold f_X7_foundOrNot
  split <;> rfl
theorem m_found (x : Int32) : f_X8_found x = some (if x = -1 then -1000005 else x) := by
  unfold f_X8_found
  split <;> rfl
theorem q_driveOf (hr : md 30 0 = r) (hI : Inv r) (hR : Rel b sd r) (a : Int32) : Ans md (f_X7_driveOf sd a) (f_X8_driveOf md a) := by
  obtain ⟨m1, e1, r1, s1⟩ := thr md
  have hr1 : m1 30 0 = r := r1.trans hr
  have hi1 : ∀ i, m1 30 0 i = r i := fun i => by rw [hr1]
  have l6 := hI.l6
  have l7 := hI.l7
  have l9 := hI.l9
  have l10 := hI.l10
  unfold f_X7_driveOf f_X8_driveOf
  rw [c_hasPlatter hI hR, xb, xl, e1, m_isPlatter hr1 hI, xb, c_driveHolding hI hR, xb, c_found, xb, m_inDrive hr1 hI, xb, m_found, xb]
  by_cases h : hasV a (nv r 7) = 0
  · rw [if_pos h, if_pos h]; exact ⟨_, _, rfl, rfl, s1⟩
  · rw [if_neg h, if_neg h]; exact ⟨_, _, rfl, rfl, s1⟩
theorem q_platterInDrive (hr : md 30 0 = r) (hI : Inv r) (hR : Rel b sd r) (a : Int32) : Ans md (f_X7_platterInDrive sd a) (f_X8_platterInDrive md a) := by
  obtain ⟨m1, e1, r1, s1⟩ := thr md
  have hr1 : m1 30 0 = r := r1.trans hr
  have hi1 : ∀ i, m1 30 0 i = r i := fun i => by rw [hr1]
  have l6 := hI.l6
  have l7 := hI.l7
  have l9 := hI.l9
  have l10 := hI.l10
  unfold f_X7_platterInDrive f_X8_platterInDrive
  rw [c_hasDrive hI hR, xb, xl, e1, m_isDrive hr1 hI, xb]
  rcases hasV_cases a (n := nv r 6) (by omega) with h | ⟨h, d, hd, rfl⟩
  · rw [h, if_pos rfl, if_pos rfl]; exact ⟨_, _, rfl, rfl, s1⟩
  · rw [h]
    simp (disch := omega) only [xl, xg, xb, vinT, nI_clamp, la, ra, lm, rmu, rsu, nI_add, pk_mul, nm1, m1n, nneg, npos, lle, rle, llt, rlt, leq, req, nI_leI, nI_ltI, nI_eq, if_pos, if_neg, if_true, if_false, i01, i10, hi1, (hR.dr d hd).2, c_found, m_found]
    exact ⟨_, _, rfl, rfl, s1⟩
theorem q_platterInSlot (hr : md 30 0 = r) (hI : Inv r) (hR : Rel b sd r) (a : Int32) : Ans md (f_X7_platterInSlot sd a) (f_X8_platterInSlot md a) := by
  obtain ⟨m1, e1, r1, s1⟩ := thr md
  have hr1 : m1 30 0 = r := r1.trans hr
  have hi1 : ∀ i, m1 30 0 i = r i := fun i => by rw [hr1]
  have l6 := hI.l6
  have l7 := hI.l7
  have l9 := hI.l9
  have l10 := hI.l10
  have l0 := hI.l0
  unfold f_X7_platterInSlot f_X8_platterInSlot
  rw [c_hasSlot hI hR, xb, xl, e1, m_isSlot hr1 hI, xb]
  rcases hasV_cases a (n := nv r 0) (by omega) with h | ⟨h, sl, hsl, rfl⟩
  · rw [h, if_pos rfl, if_pos rfl]; exact ⟨_, _, rfl, rfl, s1⟩
  · rw [h, if_neg (by decide), if_neg (by decide), c_platterWithHome hI hR, xb]
    -- the reference's loop: the first platter that lies in the slot; homes differ
    have key : ∀ (k d n : Nat), d + k = nv r 7 → k < n → (∀ e, e < d → r (29 + e) = nI sl → holdQ r (nI e) ≠ -1) → f_X8_platterInSlot_L18 m1 (nI sl) n (nI d) = some (if fst (fun p => decide (r (29 + p) = nI sl)) k d = -1 then -1000005 else if holdQ r (fst (fun p => decide (r (29 + p) = nI sl)) k d) = -1 then fst (fun p => decide (r (29 + p) = nI sl)) k d else -1000005, m1) := by
      intro k
      induction k with
      | zero =>
        intro d n h1 h2 h3
        obtain ⟨n, rfl⟩ : ∃ m, n = m + 1 := ⟨n - 1, by omega⟩
        rw [f_X8_platterInSlot_L18, hi1, hI.c7]
        simp (disch := omega) only [nI_leI, if_pos, fst]
        rfl
      | succ k ih =>
        intro d n h1 h2 h3
        obtain ⟨n, rfl⟩ : ∃ m, n = m + 1 := ⟨n - 1, by omega⟩
        rw [f_X8_platterInSlot_L18, hi1, hI.c7, fst]
        simp (disch := omega) only [xl, xg, xb, vinT, nI_clamp, la, ra, nI_leI, if_neg, hi1, m_inDrive hr1 hI, decide_eq_true_eq]
        by_cases z : r (29 + d) = nI sl
        · have nd : ¬ (nI d = -1) := by rw [nm1 (by omega)]; exact id
          simp only [z, if_true, if_neg nd]
          by_cases y : holdQ r (nI d) = -1
          · simp only [y, if_true]
          · simp only [y, if_false]
            -- no other platter has this home
            have none' : ∀ (k d' n : Nat), d < d' → d' + k = nv r 7 → k < n → f_X8_platterInSlot_L18 m1 (nI sl) n (nI d') = some (-1000005, m1) := by
              intro k
              induction k with
              | zero =>
                intro d' n h4 h5 h6
                obtain ⟨n, rfl⟩ : ∃ m, n = m + 1 := ⟨n - 1, by omega⟩
                rw [f_X8_platterInSlot_L18, hi1, hI.c7]
                simp (disch := omega) only [nI_leI, if_pos]
              | succ k ih2 =>
                intro d' n h4 h5 h6
                obtain ⟨n, rfl⟩ : ∃ m, n = m + 1 := ⟨n - 1, by omega⟩
                rw [f_X8_platterInSlot_L18, hi1, hI.c7]
                have hne : ¬ r (29 + d') = nI sl := fun w => by
                  have := hI.hom d d' (by omega) (by omega) (z.trans w.symm)
                  omega
                simp (disch := omega) only [xl, xg, xb, vinT, nI_clamp, la, ra, nI_leI, if_neg, hi1, if_neg hne]
                exact ih2 (d' + 1) n (by omega) (by omega) (by omega)
            exact none' k (d + 1) n (by omega) (by omega) (by omega)
        · simp only [z, if_false]
          refine ih (d + 1) n (by omega) (by omega) (fun e he hz => ?_)
          by_cases w : e = d
          · subst w; exact absurd hz z
          · exact h3 e (by omega) hz
    have k0 := key (nv r 7) 0 fuel (by omega) (by unfold fuel; omega) (fun e he => by omega)
    rw [nI_0] at k0
    rw [k0, c_driveHolding hI hR, xb]
    by_cases y : homeQ r (nI sl) = -1
    · rw [if_pos y, if_pos y]; exact ⟨_, _, rfl, rfl, s1⟩
    · rw [if_neg y, if_neg y]
      by_cases w : holdQ r (homeQ r (nI sl)) = -1
      · rw [if_pos w, if_pos w]; exact ⟨_, _, rfl, rfl, s1⟩
      · rw [if_neg w, if_neg w]; exact ⟨_, _, rfl, rfl, s1⟩
theorem q_sessionStart (hr : md 30 0 = r) (hI : Inv r) (hR : Rel b sd r) (a : Int32) (c : Int32) : Ans md (f_X7_sessionStart sd a c) (f_X8_sessionStart md a c) := by
  obtain ⟨m1, e1, r1, s1⟩ := thr md
  have hr1 : m1 30 0 = r := r1.trans hr
  have hi1 : ∀ i, m1 30 0 i = r i := fun i => by rw [hr1]
  have l6 := hI.l6
  have l7 := hI.l7
  have l9 := hI.l9
  have l10 := hI.l10
  unfold f_X7_sessionStart f_X8_sessionStart
  rcases hasV_cases a (n := nv r 7) (by omega) with h | ⟨h, p, hp, rfl⟩
  · have e2 : f_X4_hasSession sd a c = some 0 := by
      unfold f_X4_hasSession
      rw [c_hasPlatter hI hR, xb, h, if_pos rfl]
    have e3 : f_X8_isSession m1 a c = some 0 := by
      unfold f_X8_isSession
      rw [m_isPlatter hr1 hI, xb, h, if_pos rfl]
    rw [e2, xb, xl, e1, e3, xb, if_pos rfl, if_pos rfl]; exact ⟨_, _, rfl, rfl, s1⟩
  · have w := (hI.plt p hp).2.2.2.2.1.l
    rw [c_hasSession hI hR hp, xb, xl, e1, m_isSession hr1 hI hp, xb]
    rcases hasV_cases c (n := nv r (69 + p)) (by omega) with g | ⟨g, q, hq, rfl⟩
    · rw [g, if_pos rfl, if_pos rfl]; exact ⟨_, _, rfl, rfl, s1⟩
    · rw [g]
      simp (disch := omega) only [xl, xg, xb, vinT, nI_clamp, la, ra, lm, rmu, rsu, nI_add, pk_mul, nm1, m1n, nneg, npos, lle, rle, llt, rlt, leq, req, nI_leI, nI_ltI, nI_eq, if_pos, if_neg, if_true, if_false, i01, i10, hi1, (hR.se p q hp hq).1]
      exact ⟨_, _, rfl, rfl, s1⟩
theorem q_sessionSize (hr : md 30 0 = r) (hI : Inv r) (hR : Rel b sd r) (a : Int32) (c : Int32) : Ans md (f_X7_sessionSize sd a c) (f_X8_sessionSize md a c) := by
  obtain ⟨m1, e1, r1, s1⟩ := thr md
  have hr1 : m1 30 0 = r := r1.trans hr
  have hi1 : ∀ i, m1 30 0 i = r i := fun i => by rw [hr1]
  have l6 := hI.l6
  have l7 := hI.l7
  have l9 := hI.l9
  have l10 := hI.l10
  unfold f_X7_sessionSize f_X8_sessionSize
  rcases hasV_cases a (n := nv r 7) (by omega) with h | ⟨h, p, hp, rfl⟩
  · have e2 : f_X4_hasSession sd a c = some 0 := by
      unfold f_X4_hasSession
      rw [c_hasPlatter hI hR, xb, h, if_pos rfl]
    have e3 : f_X8_isSession m1 a c = some 0 := by
      unfold f_X8_isSession
      rw [m_isPlatter hr1 hI, xb, h, if_pos rfl]
    rw [e2, xb, xl, e1, e3, xb, if_pos rfl, if_pos rfl]; exact ⟨_, _, rfl, rfl, s1⟩
  · have w := (hI.plt p hp).2.2.2.2.1.l
    rw [c_hasSession hI hR hp, xb, xl, e1, m_isSession hr1 hI hp, xb]
    rcases hasV_cases c (n := nv r (69 + p)) (by omega) with g | ⟨g, q, hq, rfl⟩
    · rw [g, if_pos rfl, if_pos rfl]; exact ⟨_, _, rfl, rfl, s1⟩
    · rw [g]
      simp (disch := omega) only [xl, xg, xb, vinT, nI_clamp, la, ra, lm, rmu, rsu, nI_add, pk_mul, nm1, m1n, nneg, npos, lle, rle, llt, rlt, leq, req, nI_leI, nI_ltI, nI_eq, if_pos, if_neg, if_true, if_false, i01, i10, hi1, (hR.se p q hp hq).2]
      exact ⟨_, _, rfl, rfl, s1⟩
theorem q_filePlatter (hr : md 30 0 = r) (hI : Inv r) (hR : Rel b sd r) (a : Int32) : Ans md (f_X7_filePlatter sd a) (f_X8_filePlatter md a) := by
  obtain ⟨m1, e1, r1, s1⟩ := thr md
  have hr1 : m1 30 0 = r := r1.trans hr
  have hi1 : ∀ i, m1 30 0 i = r i := fun i => by rw [hr1]
  have l6 := hI.l6
  have l7 := hI.l7
  have l9 := hI.l9
  have l10 := hI.l10
  unfold f_X7_filePlatter f_X8_filePlatter f_X8_ofVersion
  rw [c_hasFile hI hR, xb, xl, e1, m_isFile hr1 hI, xb]
  rcases hasV_cases a (n := nv r 9) (by omega) with h | ⟨h, f, hf, rfl⟩
  · rw [h, if_pos rfl, if_pos rfl, xb]; exact ⟨_, _, rfl, rfl, s1⟩
  · obtain ⟨x1, x2⟩ := hI.cur f hf
    rw [h, c_currentVersion hI hR hf, xb, m_version hr1 hI hf, xb]
    simp (disch := omega) only [xl, xg, xb, vinT, nI_clamp, la, ra, lm, rmu, rsu, nI_add, pk_mul, nm1, m1n, nneg, npos, lle, rle, llt, rlt, leq, req, nI_leI, nI_ltI, nI_eq, if_pos, if_neg, if_true, if_false, i01, i10, hi1, (hR.ve _ x2).2.1]
    exact ⟨_, _, rfl, rfl, s1⟩
theorem q_fileStart (hr : md 30 0 = r) (hI : Inv r) (hR : Rel b sd r) (a : Int32) : Ans md (f_X7_fileStart sd a) (f_X8_fileStart md a) := by
  obtain ⟨m1, e1, r1, s1⟩ := thr md
  have hr1 : m1 30 0 = r := r1.trans hr
  have hi1 : ∀ i, m1 30 0 i = r i := fun i => by rw [hr1]
  have l6 := hI.l6
  have l7 := hI.l7
  have l9 := hI.l9
  have l10 := hI.l10
  unfold f_X7_fileStart f_X8_fileStart f_X8_ofVersion
  rw [c_hasFile hI hR, xb, xl, e1, m_isFile hr1 hI, xb]
  rcases hasV_cases a (n := nv r 9) (by omega) with h | ⟨h, f, hf, rfl⟩
  · rw [h, if_pos rfl, if_pos rfl, xb]; exact ⟨_, _, rfl, rfl, s1⟩
  · obtain ⟨x1, x2⟩ := hI.cur f hf
    rw [h, c_currentVersion hI hR hf, xb, m_version hr1 hI hf, xb]
    simp (disch := omega) only [xl, xg, xb, vinT, nI_clamp, la, ra, lm, rmu, rsu, nI_add, pk_mul, nm1, m1n, nneg, npos, lle, rle, llt, rlt, leq, req, nI_leI, nI_ltI, nI_eq, if_pos, if_neg, if_true, if_false, i01, i10, hi1, (hR.ve _ x2).2.2.1]
    exact ⟨_, _, rfl, rfl, s1⟩
theorem q_fileSize (hr : md 30 0 = r) (hI : Inv r) (hR : Rel b sd r) (a : Int32) : Ans md (f_X7_fileSize sd a) (f_X8_fileSize md a) := by
  obtain ⟨m1, e1, r1, s1⟩ := thr md
  have hr1 : m1 30 0 = r := r1.trans hr
  have hi1 : ∀ i, m1 30 0 i = r i := fun i => by rw [hr1]
  have l6 := hI.l6
  have l7 := hI.l7
  have l9 := hI.l9
  have l10 := hI.l10
  unfold f_X7_fileSize f_X8_fileSize f_X8_ofVersion
  rw [c_hasFile hI hR, xb, xl, e1, m_isFile hr1 hI, xb]
  rcases hasV_cases a (n := nv r 9) (by omega) with h | ⟨h, f, hf, rfl⟩
  · rw [h, if_pos rfl, if_pos rfl, xb]; exact ⟨_, _, rfl, rfl, s1⟩
  · obtain ⟨x1, x2⟩ := hI.cur f hf
    rw [h, c_currentVersion hI hR hf, xb, m_version hr1 hI hf, xb]
    simp (disch := omega) only [xl, xg, xb, vinT, nI_clamp, la, ra, lm, rmu, rsu, nI_add, pk_mul, nm1, m1n, nneg, npos, lle, rle, llt, rlt, leq, req, nI_leI, nI_ltI, nI_eq, if_pos, if_neg, if_true, if_false, i01, i10, hi1, (hR.ve _ x2).2.2.2.1]
    exact ⟨_, _, rfl, rfl, s1⟩
theorem q_fileSession (hr : md 30 0 = r) (hI : Inv r) (hR : Rel b sd r) (a : Int32) : Ans md (f_X7_fileSession sd a) (f_X8_fileSession md a) := by
  obtain ⟨m1, e1, r1, s1⟩ := thr md
  have hr1 : m1 30 0 = r := r1.trans hr
  have hi1 : ∀ i, m1 30 0 i = r i := fun i => by rw [hr1]
  have l6 := hI.l6
  have l7 := hI.l7
  have l9 := hI.l9
  have l10 := hI.l10
  unfold f_X7_fileSession f_X8_fileSession f_X8_ofVersion
  rw [c_hasFile hI hR, xb, xl, e1, m_isFile hr1 hI, xb]
  rcases hasV_cases a (n := nv r 9) (by omega) with h | ⟨h, f, hf, rfl⟩
  · rw [h, if_pos rfl, if_pos rfl, xb]; exact ⟨_, _, rfl, rfl, s1⟩
  · obtain ⟨x1, x2⟩ := hI.cur f hf
    rw [h, c_currentVersion hI hR hf, xb, m_version hr1 hI hf, xb]
    simp (disch := omega) only [xl, xg, xb, vinT, nI_clamp, la, ra, lm, rmu, rsu, nI_add, pk_mul, nm1, m1n, nneg, npos, lle, rle, llt, rlt, leq, req, nI_leI, nI_ltI, nI_eq, if_pos, if_neg, if_true, if_false, i01, i10, hi1, (hR.ve _ x2).2.2.2.2.1]
    exact ⟨_, _, rfl, rfl, s1⟩
theorem q_remappedSectors (hr : md 30 0 = r) (hI : Inv r) (hR : Rel b sd r) (a : Int32) : Ans md (f_X7_remappedSectors sd a) (f_X8_remappedSectors md a) := by
  obtain ⟨m1, e1, r1, s1⟩ := thr md
  have hr1 : m1 30 0 = r := r1.trans hr
  have hi1 : ∀ i, m1 30 0 i = r i := fun i => by rw [hr1]
  have l6 := hI.l6
  have l7 := hI.l7
  have l9 := hI.l9
  have l10 := hI.l10
  unfold f_X7_remappedSectors f_X8_remappedSectors f_X8_ofVersion
  rw [c_hasFile hI hR, xb, xl, e1, m_isFile hr1 hI, xb]
  rcases hasV_cases a (n := nv r 9) (by omega) with h | ⟨h, f, hf, rfl⟩
  · rw [h, if_pos rfl, if_pos rfl, xb]; exact ⟨_, _, rfl, rfl, s1⟩
  · obtain ⟨x1, x2⟩ := hI.cur f hf
    rw [h, c_currentVersion hI hR hf, xb, m_version hr1 hI hf, xb]
    simp (disch := omega) only [xl, xg, xb, vinT, nI_clamp, la, ra, lm, rmu, rsu, nI_add, pk_mul, nm1, m1n, nneg, npos, lle, rle, llt, rlt, leq, req, nI_leI, nI_ltI, nI_eq, if_pos, if_neg, if_true, if_false, i01, i10, hi1, (hR.ve _ x2).2.2.2.2.2.1]
    exact ⟨_, _, rfl, rfl, s1⟩
theorem q_requestedFile (hr : md 30 0 = r) (hI : Inv r) (hR : Rel b sd r) (a : Int32) : Ans md (f_X7_requestedFile sd a) (f_X8_requestedFile md a) := by
  obtain ⟨m1, e1, r1, s1⟩ := thr md
  have hr1 : m1 30 0 = r := r1.trans hr
  have hi1 : ∀ i, m1 30 0 i = r i := fun i => by rw [hr1]
  have l6 := hI.l6
  have l7 := hI.l7
  have l9 := hI.l9
  have l10 := hI.l10
  have l16 := hI.l16
  unfold f_X7_requestedFile f_X8_requestedFile
  rw [c_hasRequest hI hR, xb, xl, e1, m_isRequest hr1 hI, xb]
  rcases hasV_cases a (n := nv r 16) (by omega) with h | ⟨h, q, hq, rfl⟩
  · rw [h, if_pos rfl, if_pos rfl]; exact ⟨_, _, rfl, rfl, s1⟩
  · rw [h]
    simp (disch := omega) only [xl, xg, xb, vinT, nI_clamp, la, ra, lm, rmu, rsu, nI_add, pk_mul, nm1, m1n, nneg, npos, lle, rle, llt, rlt, leq, req, nI_leI, nI_ltI, nI_eq, if_pos, if_neg, if_true, if_false, i01, i10, hi1, hR.rq q hq]
    exact ⟨_, _, rfl, rfl, s1⟩
end QRY
end
section
/-! Layer 2: files and versions -/
/-- a version's session is closed -/
def clV (r : RW) (v : Nat) : Int32 := if nv r (79 + nv r (349 + v)) = 0 then 1 else if nv r (469 + v) + 1 < nv r (69 + nv r (349 + v)) then 1 else 0
def gdV (r : RW) (v : Nat) : Int32 := if nv r (549 + v) = 0 then clV r v else 0
theorem clV_01 (r : RW) (v : Nat) : clV r v = 0 ∨ clV r v = 1 := by
  unfold clV
  split
  · exact Or.inr rfl
  · split
    · exact Or.inr rfl
    · exact Or.inl rfl
theorem gdV_01 (r : RW) (v : Nat) : gdV r v = 0 ∨ gdV r v = 1 := by
  unfold gdV
  split
  · exact clV_01 r v
  · exact Or.inl rfl
theorem if01 {x : Int32} (h : x = 0 ∨ x = 1) : (if x = 0 then some (0 : Int32) else some (1 : Int32)) = some x := by
  rcases h with rfl | rfl
  · rfl
  · rfl
section FIL
variable {b : Nat} {sd md : SD} {r : RW}
theorem c_isClosed (hI : Inv r) (hR : Rel b sd r) {v : Nat} (hv : v < nv r 10) : f_X3_isClosed sd (nv r (349 + v)) (sd 6 v 4) = some (clV r v) := by
  obtain ⟨-, ⟨p1, p2⟩, -, -, -, ⟨s1, s2⟩, -, -⟩ := hI.ver v hv
  have w := (hI.plt _ p2).2.2.2.2
  have w1 := w.1.l
  have w2 := w.2.1.l
  have w3 := s1.l
  unfold f_X3_isClosed clV
  rw [(hR.ve v hv).2.2.2.2.1, (hR.pl _ p2).2.2.2.2.2, (hR.pl _ p2).2.2.2.2.1, s1.e, w.1.e, w.2.1.e]
  simp (disch := omega) only [req, rsu, nI_eq]
  by_cases z : nv r (79 + nv r (349 + v)) = 0
  · rw [if_pos z, if_pos z]
  · rw [if_neg z, if_neg z]
    by_cases y : nv r (469 + v) = nv r (69 + nv r (349 + v)) - 1
    · rw [if_pos y, if_neg (by omega)]
    · rw [if_neg y, if_pos (by omega)]
theorem c_isGood (hI : Inv r) (hR : Rel b sd r) {v : Nat} (hv : v < nv r 10) : f_X4_isGood sd v = some (gdV r v) := by
  have l7 := hI.l7
  obtain ⟨-, ⟨p1, p2⟩, -, -, -, -, -, d1⟩ := hI.ver v hv
  have d2 := d1.l
  have hc := c_isClosed hI hR hv
  unfold f_X4_isGood gdV
  rw [(hR.ve v hv).2.2.2.2.2.2, (hR.ve v hv).2.1, p1.e, d1.e]
  simp (disch := omega) only [req, xg, vinT, nI_clamp, hc, xb, if01 (clV_01 r v)]
  by_cases z : nv r (549 + v) = 0
  · rw [if_pos z, if_pos z]
  · rw [if_neg z, if_neg z]
theorem m_isClosed (hr : md 30 0 = r) (hI : Inv r) {v : Nat} (hv : v < nv r 10) : f_X8_isClosed md (nI v) = some (clV r v) := by
  have l7 := hI.l7
  have l10 := hI.l10
  obtain ⟨-, ⟨p1, p2⟩, -, -, -, ⟨s1, s2⟩, -, -⟩ := hI.ver v hv
  have w := (hI.plt _ p2).2.2.2.2
  have w1 := w.1.l
  have w2 := w.2.1.l
  have w3 := s1.l
  unfold f_X8_isClosed clV
  rw [hr]
  simp (disch := omega) only [xl, xg, vinT, la, nI_clamp, p1.e, s1.e, w.1.e, w.2.1.e, req, rsu, nI_leI]
  by_cases z : nv r (79 + nv r (349 + v)) = 0
  · rw [if_pos z, if_pos z]
  · rw [if_neg z, if_neg z]
    by_cases y : nv r (69 + nv r (349 + v)) - 1 ≤ nv r (469 + v)
    · rw [if_pos y, if_neg (by omega)]
    · rw [if_neg y, if_pos (by omega)]
theorem m_isGood (hr : md 30 0 = r) (hI : Inv r) {v : Nat} (hv : v < nv r 10) : f_X8_isGood md (nI v) = some (gdV r v) := by
  have l10 := hI.l10
  obtain ⟨-, -, -, -, -, -, -, d1⟩ := hI.ver v hv
  have d2 := d1.l
  unfold f_X8_isGood gdV
  rw [m_isClosed hr hI hv, hr]
  simp (disch := omega) only [xg, vinT, la, nI_clamp, d1.e, req, xb, if01 (clV_01 r v)]
  by_cases z : nv r (549 + v) = 0
  · rw [if_pos z, if_pos z]
  · rw [if_neg z, if_neg z]
theorem c_isReadable (hI : Inv r) (hR : Rel b sd r) {f : Nat} (hf : f < nv r 9) : f_X4_isReadable sd (nI f) = some (gdV r (nv r (289 + f))) := by
  unfold f_X4_isReadable
  rw [c_currentVersion hI hR hf, xb, c_isGood hI hR (hI.cur f hf).2, xb]
  simp only [eq_true (gdV_01 r _), xg]
theorem m_isReadable (hr : md 30 0 = r) (hI : Inv r) {f : Nat} (hf : f < nv r 9) : f_X8_isReadable md (nI f) = some (gdV r (nv r (289 + f))) := by
  unfold f_X8_isReadable
  rw [m_version hr hI hf, xb, m_isGood hr hI (hI.cur f hf).2, xb]
  simp only [eq_true (gdV_01 r _), xg]
theorem q_fileState (hr : md 30 0 = r) (hI : Inv r) (hR : Rel b sd r) (a : Int32) : Ans md (f_X7_fileState sd a) (f_X8_fileState md a) := by
  obtain ⟨m1, e1, r1, s1⟩ := thr md
  have hr1 : m1 30 0 = r := r1.trans hr
  have hi1 : ∀ i, m1 30 0 i = r i := fun i => by rw [hr1]
  have l9 := hI.l9
  have l10 := hI.l10
  unfold f_X7_fileState f_X8_fileState
  rw [c_hasFile hI hR, xb, xl, e1, m_isFile hr1 hI, xb]
  rcases hasV_cases a (n := nv r 9) (by omega) with h | ⟨h, f, hf, rfl⟩
  · rw [h, if_pos rfl, if_pos rfl]; exact ⟨_, _, rfl, rfl, s1⟩
  · obtain ⟨x1, x2⟩ := hI.cur f hf
    have d1 := (hI.ver _ x2).2.2.2.2.2.2.2
    have d2 := d1.l
    rw [h, if_neg (by decide), if_neg (by decide), c_currentVersion hI hR hf, xb, m_version hr1 hI hf, xb, c_isReadable hI hR hf, xb, xb, m_isClosed hr1 hI x2, xb]
    simp (disch := omega) only [xg, vinT, la, nI_clamp, hi1, (hR.ve _ x2).2.2.2.2.2.2, d1.e, req]
    unfold gdV
    by_cases z : nv r (549 + nv r (289 + f)) = 0
    · have z1 : ¬ nv r (549 + nv r (289 + f)) = 1 := by omega
      simp only [if_pos z, if_neg z1]
      by_cases y : clV r (nv r (289 + f)) = 0
      · rw [if_pos y, if_pos y]; exact ⟨_, _, rfl, rfl, s1⟩
      · rw [if_neg y, if_neg y]; exact ⟨_, _, rfl, rfl, s1⟩
    · have z1 : nv r (549 + nv r (289 + f)) = 1 := by omega
      simp only [if_neg z, if_pos z1]; exact ⟨_, _, rfl, rfl, s1⟩
theorem q_versionCount (hr : md 30 0 = r) (hI : Inv r) (hR : Rel b sd r) (a : Int32) : Ans md (f_X7_versionCount sd a) (f_X8_versionCount md a) := by
  obtain ⟨m1, e1, r1, s1⟩ := thr md
  have hr1 : m1 30 0 = r := r1.trans hr
  have hi1 : ∀ i, m1 30 0 i = r i := fun i => by rw [hr1]
  have l9 := hI.l9
  have l10 := hI.l10
  unfold f_X7_versionCount f_X8_versionCount f_X4_countVersions
  rw [c_hasFile hI hR, xb, xl, e1, m_isFile hr1 hI, xb]
  have key : ∀ (k d n : Nat) (acc : Int32), d + k = nv r 10 → k < n → ∃ q, f_X4_countVersions_L4 sd a n acc (nI d) = some q ∧ f_X8_versionCount_L20 m1 a n acc (nI d) = some (q, m1) := by
    intro k
    induction k with
    | zero =>
      intro d n acc h1 h2
      obtain ⟨n, rfl⟩ : ∃ m, n = m + 1 := ⟨n - 1, by omega⟩
      rw [f_X4_countVersions_L4, f_X8_versionCount_L20, hR.s9, hi1, hI.c10]
      simp (disch := omega) only [nI_leI, if_pos]
      exact ⟨_, rfl, rfl⟩
    | succ k ih =>
      intro d n acc h1 h2
      obtain ⟨n, rfl⟩ : ∃ m, n = m + 1 := ⟨n - 1, by omega⟩
      have hd : d < nv r 10 := by omega
      rw [f_X4_countVersions_L4, f_X8_versionCount_L20, hR.s9, hi1, hI.c10]
      simp (disch := omega) only [xl, xg, vinT, nI_clamp, la, ra, nI_leI, if_neg, hi1, (hR.ve d hd).1]
      by_cases z : r (309 + d) = a
      · rw [if_pos z, if_pos z]
        exact ih (d + 1) n _ (by omega) (by omega)
      · rw [if_neg z, if_neg z]
        have e0 : acc + 0 = acc := by grind
        rw [e0]
        exact ih (d + 1) n _ (by omega) (by omega)
  obtain ⟨q, k1, k2⟩ := key (nv r 10) 0 fuel 0 (by omega) (by unfold fuel; omega)
  rw [nI_0] at k1 k2
  rw [k1, xb, k2]
  by_cases h : hasV a (nv r 9) = 0
  · rw [if_pos h, if_pos h]; exact ⟨_, _, rfl, rfl, s1⟩
  · rw [if_neg h, if_neg h]; exact ⟨_, _, rfl, rfl, s1⟩
theorem q_lastGoodVersion (hr : md 30 0 = r) (hI : Inv r) (hR : Rel b sd r) (a : Int32) : Ans md (f_X7_lastGoodVersion sd a) (f_X8_lastGoodVersion md a) := by
  obtain ⟨m1, e1, r1, s1⟩ := thr md
  have hr1 : m1 30 0 = r := r1.trans hr
  have hi1 : ∀ i, m1 30 0 i = r i := fun i => by rw [hr1]
  have l9 := hI.l9
  have l10 := hI.l10
  unfold f_X7_lastGoodVersion f_X8_lastGoodVersion f_X4_lastGood
  rw [c_hasFile hI hR, xb, xl, e1, m_isFile hr1 hI, xb]
  have key : ∀ (k d n c : Nat) (x : Int32), d + k = nv r 10 → k < n → c ≤ d → (x = -1 ∨ ∃ j, j < 100 ∧ x = nI j) → ∃ q, f_X4_lastGood_L7 sd a n (nI c) x (nI d) = some q ∧ f_X8_lastGoodVersion_L24 m1 a n (if x = -1 then -1000005 else x) (nI c) (nI d) = some (if q = -1 then -1000005 else q, m1) := by
    intro k
    induction k with
    | zero =>
      intro d n c x h1 h2 h3 h4
      obtain ⟨n, rfl⟩ : ∃ m, n = m + 1 := ⟨n - 1, by omega⟩
      rw [f_X4_lastGood_L7, f_X8_lastGoodVersion_L24, hR.s9, hi1, hI.c10]
      simp (disch := omega) only [nI_leI, if_pos]
      exact ⟨_, rfl, rfl⟩
    | succ k ih =>
      intro d n c x h1 h2 h3 h4
      obtain ⟨n, rfl⟩ : ∃ m, n = m + 1 := ⟨n - 1, by omega⟩
      have hd : d < nv r 10 := by omega
      rw [f_X4_lastGood_L7, f_X8_lastGoodVersion_L24, hR.s9, hi1, hI.c10]
      simp (disch := omega) only [xl, xg, xb, vinT, nI_clamp, la, ra, nI_leI, if_neg, hi1, (hR.ve d hd).1, c_isGood hI hR hd, m_isGood hr1 hI hd]
      by_cases z : r (309 + d) = a
      · rw [if_pos z, if_pos z]
        by_cases y : gdV r d = 0
        · rw [if_pos y, if_pos y]
          exact ih (d + 1) n (c + 1) x (by omega) (by omega) (by omega) h4
        · rw [if_neg y, if_neg y]
          have := ih (d + 1) n (c + 1) (nI c) (by omega) (by omega) (by omega) (Or.inr ⟨c, by omega, rfl⟩)
          rw [if_neg (by rw [nm1 (by omega)]; exact id)] at this
          exact this
      · rw [if_neg z, if_neg z]
        exact ih (d + 1) n c x (by omega) (by omega) (by omega) h4
  obtain ⟨q, k1, k2⟩ := key (nv r 10) 0 fuel 0 (-1) (by omega) (by unfold fuel; omega) (by omega) (Or.inl rfl)
  rw [nI_0] at k1 k2
  rw [if_pos rfl] at k2
  rw [k1, xb, k2, c_found]
  by_cases h : hasV a (nv r 9) = 0
  · rw [if_pos h, if_pos h]; exact ⟨_, _, rfl, rfl, s1⟩
  · rw [if_neg h, if_neg h]; exact ⟨_, _, rfl, rfl, s1⟩
theorem q_filesOn (hr : md 30 0 = r) (hI : Inv r) (hR : Rel b sd r) (a : Int32) : Ans md (f_X7_filesOn sd a) (f_X8_filesOn md a) := by
  obtain ⟨m1, e1, r1, s1⟩ := thr md
  have hr1 : m1 30 0 = r := r1.trans hr
  have hi1 : ∀ i, m1 30 0 i = r i := fun i => by rw [hr1]
  have l7 := hI.l7
  have l9 := hI.l9
  have l10 := hI.l10
  unfold f_X7_filesOn f_X8_filesOn f_X4_countFiles
  rw [c_hasPlatter hI hR, xb, xl, e1, m_isPlatter hr1 hI, xb]
  have key : ∀ (k d n : Nat) (acc : Int32), d + k = nv r 9 → k < n → ∃ q, f_X4_countFiles_L4 sd a n acc (nI d) = some q ∧ f_X8_filesOn_L20 m1 a n acc (nI d) = some (q, m1) := by
    intro k
    induction k with
    | zero =>
      intro d n acc h1 h2
      obtain ⟨n, rfl⟩ : ∃ m, n = m + 1 := ⟨n - 1, by omega⟩
      rw [f_X4_countFiles_L4, f_X8_filesOn_L20, hR.s11, hi1, hI.c9]
      simp (disch := omega) only [nI_leI, if_pos]
      exact ⟨_, rfl, rfl⟩
    | succ k ih =>
      intro d n acc h1 h2
      obtain ⟨n, rfl⟩ : ∃ m, n = m + 1 := ⟨n - 1, by omega⟩
      have hd : d < nv r 9 := by omega
      obtain ⟨x1, x2⟩ := hI.cur d hd
      have y1 := (hI.ver _ x2).2.1.1
      rw [f_X4_countFiles_L4, f_X8_filesOn_L20, hR.s11, hi1, hI.c9]
      simp (disch := omega) only [xl, xg, xb, vinT, nI_clamp, la, ra, nI_leI, if_neg, hi1, c_currentVersion hI hR hd, m_platterOf hr1 hI hd, (hR.ve _ x2).2.1, y1.e]
      by_cases z : nI (nv r (349 + nv r (289 + d))) = a
      · rw [if_pos z, if_pos z]
        exact ih (d + 1) n _ (by omega) (by omega)
      · rw [if_neg z, if_neg z]
        have e0 : acc + 0 = acc := by grind
        rw [e0]
        exact ih (d + 1) n _ (by omega) (by omega)
  obtain ⟨q, k1, k2⟩ := key (nv r 9) 0 fuel 0 (by omega) (by unfold fuel; omega)
  rw [nI_0] at k1 k2
  rw [k1, xb, k2]
  by_cases h : hasV a (nv r 7) = 0
  · rw [if_pos h, if_pos h]; exact ⟨_, _, rfl, rfl, s1⟩
  · rw [if_neg h, if_neg h]; exact ⟨_, _, rfl, rfl, s1⟩
/-- a version is its file's last -/
def cuV (r : RW) (v : Nat) : Int32 := if nv r (289 + nv r (309 + v)) = v then 1 else 0
theorem c_isCurrent (hI : Inv r) (hR : Rel b sd r) {v : Nat} (hv : v < nv r 10) : f_X4_isCurrent sd (nI v) = some (cuV r v) := by
  have l9 := hI.l9
  have l10 := hI.l10
  obtain ⟨f1, f2⟩ := (hI.ver v hv).1
  obtain ⟨x1, x2⟩ := hI.cur _ f2
  unfold f_X4_isCurrent cuV
  simp (disch := omega) only [xg, vinT, nI_clamp, (hR.ve v hv).1, f1.e, hR.cu _ f2, x1.e, nI_eq]
  split <;> rfl
theorem m_isCurrent (hr : md 30 0 = r) (hI : Inv r) {v : Nat} (hv : v < nv r 10) : f_X8_isCurrent md (nI v) = some (cuV r v) := by
  have l9 := hI.l9
  have l10 := hI.l10
  obtain ⟨f1, f2⟩ := (hI.ver v hv).1
  obtain ⟨x1, x2⟩ := hI.cur _ f2
  unfold f_X8_isCurrent cuV
  rw [hr]
  simp (disch := omega) only [xg, vinT, la, nI_clamp, f1.e, x1.e, nI_eq]
  split <;> rfl
theorem cuV_01 (r : RW) (v : Nat) : cuV r v = 0 ∨ cuV r v = 1 := by
  unfold cuV
  split
  · exact Or.inr rfl
  · exact Or.inl rfl
theorem q_staleSectors (hr : md 30 0 = r) (hI : Inv r) (hR : Rel b sd r) (a : Int32) : Ans md (f_X7_staleSectors sd a) (f_X8_staleSectors md a) := by
  obtain ⟨m1, e1, r1, s1⟩ := thr md
  have hr1 : m1 30 0 = r := r1.trans hr
  have hi1 : ∀ i, m1 30 0 i = r i := fun i => by rw [hr1]
  have l7 := hI.l7
  have l10 := hI.l10
  unfold f_X7_staleSectors f_X8_staleSectors f_X4_countStale
  rw [c_hasPlatter hI hR, xb, xl, e1, m_isPlatter hr1 hI, xb]
  have key : ∀ (k d n : Nat) (acc : Int32), d + k = nv r 10 → k < n → ∃ q, f_X4_countStale_L4 sd a n acc (nI d) = some q ∧ f_X8_staleSectors_L20 m1 a n acc (nI d) = some (q, m1) := by
    intro k
    induction k with
    | zero =>
      intro d n acc h1 h2
      obtain ⟨n, rfl⟩ : ∃ m, n = m + 1 := ⟨n - 1, by omega⟩
      rw [f_X4_countStale_L4, f_X8_staleSectors_L20, hR.s9, hi1, hI.c10]
      simp (disch := omega) only [nI_leI, if_pos]
      exact ⟨_, rfl, rfl⟩
    | succ k ih =>
      intro d n acc h1 h2
      obtain ⟨n, rfl⟩ : ∃ m, n = m + 1 := ⟨n - 1, by omega⟩
      have hd : d < nv r 10 := by omega
      have e0 : acc + 0 = acc := by grind
      rw [f_X4_countStale_L4, f_X8_staleSectors_L20, hR.s9, hi1, hI.c10]
      simp (disch := omega) only [xl, xg, xb, vinT, nI_clamp, la, ra, nI_leI, if_neg, hi1, (hR.ve d hd).2.1, (hR.ve d hd).2.2.2.1, c_isCurrent hI hR hd, m_isCurrent hr1 hI hd, e0]
      by_cases z : r (349 + d) = a
      · rw [if_pos z, if_pos z]
        by_cases y : cuV r d = 0
        · rw [if_pos y, if_pos y]
          exact ih (d + 1) n _ (by omega) (by omega)
        · rw [if_neg y, if_neg y]
          exact ih (d + 1) n _ (by omega) (by omega)
      · rw [if_neg z, if_neg z]
        exact ih (d + 1) n _ (by omega) (by omega)
  obtain ⟨q, k1, k2⟩ := key (nv r 10) 0 fuel 0 (by omega) (by unfold fuel; omega)
  rw [nI_0] at k1 k2
  rw [k1, xb, k2]
  by_cases h : hasV a (nv r 7) = 0
  · rw [if_pos h, if_pos h]; exact ⟨_, _, rfl, rfl, s1⟩
  · rw [if_neg h, if_neg h]; exact ⟨_, _, rfl, rfl, s1⟩
theorem q_fileOfSector (hr : md 30 0 = r) (hI : Inv r) (hR : Rel b sd r) (a c : Int32) : Ans md (f_X7_fileOfSector sd a c) (f_X8_fileOfSector md a c) := by
  obtain ⟨m1, e1, r1, s1⟩ := thr md
  have hr1 : m1 30 0 = r := r1.trans hr
  have hi1 : ∀ i, m1 30 0 i = r i := fun i => by rw [hr1]
  have l7 := hI.l7
  have l10 := hI.l10
  unfold f_X7_fileOfSector f_X8_fileOfSector
  rcases hasV_cases a (n := nv r 7) (by omega) with h | ⟨h, p, hp, rfl⟩
  · have e2 : f_X4_hasSector sd a c = some 0 := by
      unfold f_X4_hasSector
      rw [c_hasPlatter hI hR, xb, h, if_pos rfl]
    have e3 : f_X8_isSector m1 a c = some 0 := by
      unfold f_X8_isSector
      rw [m_isPlatter hr1 hI, xb, h, if_pos rfl]
    rw [e2, xb, xl, e1, e3, xb, if_pos rfl, if_pos rfl]; exact ⟨_, _, rfl, rfl, s1⟩
  · have w := (hI.plt p hp).2.1.1.l
    rw [c_hasSector hI hR hp, xb, xl, e1, m_isSector hr1 hI hp, xb]
    rcases hasV_cases c (n := nv r (39 + p)) (by omega) with g | ⟨g, s, hs, rfl⟩
    · rw [g, if_pos rfl, if_pos rfl]; exact ⟨_, _, rfl, rfl, s1⟩
    · rw [g, if_neg (by decide), if_neg (by decide), c_versionAt hI hR (by omega), xb, m_versionAt hr1 hI (by omega), xb]
      rcases verQ_cases r p s with ⟨h1, h2⟩ | ⟨v, h1, h2, h3⟩
      · rw [h1, if_pos rfl, if_pos rfl]; exact ⟨_, _, rfl, rfl, s1⟩
      · rw [h2, if_neg (by rw [nm1 (by omega)]; exact id), if_neg (by rw [nm1 (by omega)]; exact id)]
        simp (disch := omega) only [xg, vinT, la, nI_clamp, hi1, (hR.ve v h1).1]
        exact ⟨_, _, rfl, rfl, s1⟩
end FIL
end
section
/-! Layer 2: bad sectors -/
theorem nI_all (x : Int32) : nI x.toBitVec.toNat = x := by
  unfold nI
  apply Int32.toBitVec_inj.mp
  simp
theorem ush31 : ∀ t, t < 32 → (((nI t).toUInt32 &&& Int32.toUInt32 31).toBitVec % 32).toNat = t := by decide
theorem bit_u (x : Int32) {t : Nat} (ht : t < 32) : ((((x.toUInt32 >>> ((nI t).toUInt32 &&& Int32.toUInt32 31)).toInt32 &&& (1 : Int32)) = 0) ↔ x.toBitVec.getLsbD t = false) := by
  have hx := x.toBitVec.isLt
  have e : (x.toUInt32 >>> ((nI t).toUInt32 &&& Int32.toUInt32 31)).toInt32 = nI (x.toBitVec.toNat / 2 ^ t) := by
    have h := pk_ushrN (n := x.toBitVec.toNat) hx (nI t) t (ush31 t ht)
    rw [nI_all] at h
    exact h
  have hl : x.toBitVec.toNat / 2 ^ t < 2 ^ 32 := Nat.lt_of_le_of_lt (Nat.div_le_self _ _) hx
  have e2 : nI (x.toBitVec.toNat / 2 ^ t) &&& (1 : Int32) = nI (x.toBitVec.toNat / 2 ^ t % 2 ^ 1) := pk_andN hl 1 rfl
  rw [e, e2]
  have h0 : nI (x.toBitVec.toNat / 2 ^ t % 2 ^ 1) = 0 ↔ x.toBitVec.toNat / 2 ^ t % 2 ^ 1 = 0 := req (k := 0) (by decide) (by omega)
  rw [h0]
  have e3 : x.toBitVec.getLsbD t = x.toBitVec.toNat.testBit t := rfl
  rw [e3, Nat.testBit_eq_decide_div_mod_eq]
  simp only [decide_eq_false_iff_not]
  omega
theorem sh1 : ∀ t, t < 32 → ((1 : Int32) <<< (nI t &&& 31)).toBitVec = BitVec.twoPow 32 t := by decide
theorem bit_o (x : Int32) {t u : Nat} (ht : t < 32) (hu : u < 32) : (x ||| ((1 : Int32) <<< (nI t &&& 31))).toBitVec.getLsbD u = (x.toBitVec.getLsbD u || decide (u = t)) := by
  have e : (x ||| ((1 : Int32) <<< (nI t &&& 31))).toBitVec = x.toBitVec ||| ((1 : Int32) <<< (nI t &&& 31)).toBitVec := rfl
  rw [e, sh1 t ht, BitVec.getLsbD_or, BitVec.getLsbD_twoPow]
  congr 1
  by_cases h : u = t
  · subst h; simp [ht]
  · have : ¬ t = u := fun z => h z.symm
    simp [h, this]
def b01 (p : Bool) : Int32 := if p = true then 1 else 0
section BAD
variable {F : Nat} {b : Nat} {sd md : SD} {r : RW} {k0 : Nat}
theorem c_isBad (sd : SD) (p : Nat) {s : Nat} (hs : s < 300) : f_X3_isBad sd p (nI s) = some (b01 (bdc sd p s)) := by
  unfold f_X3_isBad b01 bdc
  have e32 : nI s / (32 : Int32) = nI (s / 32) := rdi (by omega) (by decide) (by decide)
  have er : nI s - nI (s / 32) * (32 : Int32) = nI (s % 32) := by
    rw [← e32]
    exact pk_rem (a := s) (d := 32) (by omega) (by decide) (by decide)
  rw [e32, er]
  simp (disch := omega) only [nneg, if_false, rlt, if_pos, xg, vinT, nI_clamp, bit_u _ (show s % 32 < 32 by omega)]
  cases (sd 18 p (s / 32)).toBitVec.getLsbD (s % 32) <;> simp
theorem m_isBad (hr : md k0 0 = r) (hI : InvF F r) (p s : Nat) : (bdm r p s → f_X8_isBad md k0 (nI p) (nI s) = some 1) ∧ (¬ bdm r p s → f_X8_isBad md k0 (nI p) (nI s) = some 0) := by
  have l8 := hI.l8
  have key : ∀ (k d n : Nat), d + k = nv r 8 → k < n → ((∃ e, d ≤ e ∧ e < nv r 8 ∧ r (249 + e) = nI p ∧ r (269 + e) = nI s) → f_X8_isBad_L2 md k0 (nI p) (nI s) n (nI d) = some 1) ∧ ((¬ ∃ e, d ≤ e ∧ e < nv r 8 ∧ r (249 + e) = nI p ∧ r (269 + e) = nI s) → f_X8_isBad_L2 md k0 (nI p) (nI s) n (nI d) = some 0) := by
    intro k
    induction k with
    | zero =>
      intro d n h1 h2
      obtain ⟨n, rfl⟩ : ∃ m, n = m + 1 := ⟨n - 1, by omega⟩
      rw [f_X8_isBad_L2, hr, hI.c8]
      simp (disch := omega) only [nI_leI, if_pos]
      refine ⟨fun ⟨e, h3, h4, _⟩ => by omega, fun _ => trivial⟩
    | succ k ih =>
      intro d n h1 h2
      obtain ⟨n, rfl⟩ : ∃ m, n = m + 1 := ⟨n - 1, by omega⟩
      obtain ⟨i1, i2⟩ := ih (d + 1) n (by omega) (by omega)
      rw [f_X8_isBad_L2, hr, hI.c8]
      simp (disch := omega) only [xl, xg, vinT, nI_clamp, la, ra, nI_leI, if_neg]
      by_cases z : r (249 + d) = nI p
      · by_cases y : r (269 + d) = nI s
        · simp only [z, y, if_true]
          refine ⟨fun _ => trivial, fun h => absurd ⟨d, Nat.le_refl _, by omega, z, y⟩ h⟩
        · simp only [z, y, if_true, if_false]
          refine ⟨fun ⟨e, h3, h4, h5, h6⟩ => i1 ⟨e, ?_, h4, h5, h6⟩, fun h => i2 (fun ⟨e, h3, h4, h5⟩ => h ⟨e, by omega, h4, h5⟩)⟩
          by_cases w : e = d
          · subst w; exact absurd h6 y
          · omega
      · simp only [z, if_false]
        refine ⟨fun ⟨e, h3, h4, h5, h6⟩ => i1 ⟨e, ?_, h4, h5, h6⟩, fun h => i2 (fun ⟨e, h3, h4, h5⟩ => h ⟨e, by omega, h4, h5⟩)⟩
        by_cases w : e = d
        · subst w; exact absurd h5 z
        · omega
  unfold f_X8_isBad
  have k1 := key (nv r 8) 0 fuel (by omega) (by unfold fuel; omega)
  rw [nI_0] at k1
  exact ⟨fun ⟨e, h⟩ => k1.1 ⟨e, Nat.zero_le _, h⟩, fun h => k1.2 (fun ⟨e, _, g⟩ => h ⟨e, g⟩)⟩
theorem m_isBad2 (hr : md k0 0 = r) (hI : InvF F r) (hB : R_bd sd r) {p s : Nat} (hp : p < nv r 7) (hs : s < 300) : f_X8_isBad md k0 (nI p) (nI s) = some (b01 (bdc sd p s)) := by
  obtain ⟨h1, h2⟩ := m_isBad hr hI p s
  have h := hB p s hp hs
  unfold b01
  by_cases z : bdc sd p s = true
  · rw [if_pos z]; exact h1 (h.mp z)
  · rw [if_neg z]; exact h2 (fun y => z (h.mpr y))
theorem b01_0 (p : Bool) : (b01 p = 0) ↔ p = false := by cases p <;> simp [b01]
/-! counting -/
def cnt (P : Nat → Bool) : Nat → Nat
  | 0 => 0
  | n + 1 => cnt P n + (if P n = true then 1 else 0)
theorem cnt_le (P : Nat → Bool) : ∀ n, cnt P n ≤ n
  | 0 => Nat.le_refl _
  | n + 1 => by
    unfold cnt
    have := cnt_le P n
    split <;> omega
theorem cnt_congr {P Q : Nat → Bool} : ∀ {n : Nat}, (∀ k, k < n → P k = Q k) → cnt P n = cnt Q n
  | 0, _ => rfl
  | n + 1, h => by
    unfold cnt
    rw [cnt_congr (fun k hk => h k (by omega)), h n (by omega)]
theorem cnt_or {P Q T : Nat → Bool} : ∀ {n : Nat}, (∀ k, k < n → T k = (P k || Q k) ∧ ¬ (P k = true ∧ Q k = true)) → cnt T n = cnt P n + cnt Q n
  | 0, _ => rfl
  | n + 1, h => by
    unfold cnt
    rw [cnt_or (fun k hk => h k (by omega))]
    obtain ⟨h1, h2⟩ := h n (by omega)
    rw [h1]
    cases hp : P n <;> cases hq : Q n
    · simp
    · simp; omega
    · simp; omega
    · exact absurd ⟨hp, hq⟩ h2
theorem cnt_none {P : Nat → Bool} : ∀ {n : Nat}, (∀ k, k < n → P k = false) → cnt P n = 0
  | 0, _ => rfl
  | n + 1, h => by
    unfold cnt
    rw [cnt_none (fun k hk => h k (by omega)), h n (by omega)]
    rfl
theorem cnt_one {P : Nat → Bool} : ∀ {n j : Nat}, j < n → P j = true → (∀ k, k < n → P k = true → k = j) → cnt P n = 1
  | 0, _, h, _, _ => by omega
  | n + 1, j, h, hj, hu => by
    unfold cnt
    by_cases z : j = n
    · subst z
      rw [cnt_none (fun k hk => by
        cases hk2 : P k
        · rfl
        · have := hu k (by omega) hk2
          omega), if_pos hj]
    · rw [cnt_one (n := n) (j := j) (by omega) hj (fun k hk h2 => hu k (by omega) h2), if_neg (fun y => z (hu n (by omega) y).symm)]
/-- how many of so many sectors are bad -/
def bads (sd : SD) (p e n : Nat) : Nat := cnt (fun i => bdc sd p (e + i)) n
theorem c_badAmong {p e n : Nat} (h3 : sd 3 p 3 = nI e) (hn : e + n ≤ 300) : f_X3_badAmongNext sd p (nI n) = some (nI (bads sd p e n)) := by
  unfold f_X3_badAmongNext
  rw [xl, h3]
  have key : ∀ (k d m : Nat), d + k = n → k < m → f_X3_badAmongNext_L7 sd p (nI n) m (nI (bads sd p (e) d)) (nI (e + d)) = some (nI (bads sd p (e) n)) := by
    intro k
    induction k with
    | zero =>
      intro d m h1 h2
      obtain ⟨m, rfl⟩ : ∃ q, m = q + 1 := ⟨m - 1, by omega⟩
      have : d = n := by omega
      subst this
      rw [f_X3_badAmongNext_L7, h3, nI_add]
      simp (disch := omega) only [nI_leI, if_pos]
    | succ k ih =>
      intro d m h1 h2
      obtain ⟨m, rfl⟩ : ∃ q, m = q + 1 := ⟨m - 1, by omega⟩
      rw [f_X3_badAmongNext_L7, h3, nI_add]
      simp (disch := omega) only [xl, xb, nI_leI, if_neg, c_isBad sd p (show e + d < 300 by omega), b01_0, ra]
      have i := ih (d + 1) m (by omega) (by omega)
      have e9 : bads sd p (e) (d + 1) = bads sd p (e) d + (if bdc sd p (e + d) = true then 1 else 0) := rfl
      rw [e9] at i
      by_cases z : bdc sd p (e + d) = true
      · rw [if_pos z] at i
        rw [if_neg (by rw [z]; decide)]
        exact i
      · rw [if_neg z] at i
        have z : bdc sd p (e + d) = false := by simpa using z
        rw [if_pos z]
        exact i
  have k1 := key n 0 fuel (by omega) (by unfold fuel; omega)
  have e0 : bads sd p (e) 0 = 0 := rfl
  rw [e0, nI_0, Nat.add_zero] at k1
  exact k1
/-- the entries of the reference in a range -/
def ent (r : RW) (p e n : Nat) : Nat := cnt (fun k => decide (r (249 + k) = nI p ∧ e ≤ nv r (269 + k) ∧ nv r (269 + k) < e + n)) (nv r 8)
theorem ent_bads (hI : InvF F r) (hB : R_bd sd r) {p : Nat} (hp : p < nv r 7) (e : Nat) : ∀ n, e + n ≤ 300 → ent r p e n = bads sd p e n := by
  have l8 := hI.l8
  intro n
  induction n with
  | zero =>
    intro _
    unfold ent bads
    rw [cnt_none (fun k hk => decide_eq_false (fun z => by omega))]
    rfl
  | succ n ih =>
    intro h
    have i := ih (by omega)
    have e1 : bads sd p e (n + 1) = bads sd p e n + (if bdc sd p (e + n) = true then 1 else 0) := rfl
    rw [e1, ← i]
    unfold ent
    rw [cnt_or (P := fun k => decide (r (249 + k) = nI p ∧ e ≤ nv r (269 + k) ∧ nv r (269 + k) < e + n)) (Q := fun k => decide (r (249 + k) = nI p ∧ nv r (269 + k) = e + n)) (fun k hk => by
      refine ⟨?_, fun ⟨z1, z2⟩ => ?_⟩
      · by_cases z : r (249 + k) = nI p
        · by_cases y : nv r (269 + k) = e + n
          · simp only [z, y, true_and, decide_true, Bool.or_true]
            exact decide_eq_true ⟨by omega, by omega⟩
          · have : (e ≤ nv r (269 + k) ∧ nv r (269 + k) < e + (n + 1)) ↔ (e ≤ nv r (269 + k) ∧ nv r (269 + k) < e + n) := by omega
            simp only [z, y, true_and, this, decide_false, Bool.or_false]
        · simp only [z, false_and, decide_false, Bool.or_false]
      · have z1 := of_decide_eq_true z1
        have z2 := of_decide_eq_true z2
        omega)]
    congr 1
    have hb := hB p (e + n) hp (by omega)
    by_cases z : bdc sd p (e + n) = true
    · rw [if_pos z]
      obtain ⟨k, h1, h2, h3⟩ := hb.mp z
      refine cnt_one h1 (decide_eq_true ⟨h2, nv_of h3 (by omega)⟩) (fun l hl hq => ?_)
      obtain ⟨q1, q2⟩ := of_decide_eq_true hq
      refine hI.bdd l k hl h1 (q1.trans h2.symm) ?_
      rw [(hI.bad l hl).2.1.e, q2, h3]
    · rw [if_neg z]
      refine cnt_none (fun k hk => decide_eq_false (fun ⟨q1, q2⟩ => z (hb.mpr ⟨k, hk, q1, ?_⟩)))
      rw [(hI.bad k hk).2.1.e, q2]
theorem bads_congr {sd' : SD} {p e n : Nat} (h : ∀ t, sd' 18 p t = sd 18 p t) : bads sd' p e n = bads sd p e n := by
  unfold bads
  refine cnt_congr (fun k hk => ?_)
  unfold bdc
  rw [h]
theorem m_badsIn (hr : ∀ i, i = 8 ∨ (249 ≤ i ∧ i < 289) → md k0 0 i = r i) (hI : InvF F r) {p e n : Nat} (he : e ≤ 300) (hn : n ≤ 300) : f_X8_badsIn md k0 (nI p) (nI e) (nI n) = some (nI (ent r p e n)) := by
  have l8 := hI.l8
  unfold f_X8_badsIn ent
  have key : ∀ (k d m : Nat), d + k = nv r 8 → k < m → f_X8_badsIn_L6 md k0 (nI p) (nI e) (nI n) m (nI (cnt (fun k => decide (r (249 + k) = nI p ∧ e ≤ nv r (269 + k) ∧ nv r (269 + k) < e + n)) d)) (nI d) = some (nI (cnt (fun k => decide (r (249 + k) = nI p ∧ e ≤ nv r (269 + k) ∧ nv r (269 + k) < e + n)) (nv r 8))) := by
    intro k
    induction k with
    | zero =>
      intro d m h1 h2
      obtain ⟨m, rfl⟩ : ∃ q, m = q + 1 := ⟨m - 1, by omega⟩
      have : d = nv r 8 := by omega
      subst this
      rw [f_X8_badsIn_L6, hr 8 (by omega), hI.c8]
      simp (disch := omega) only [nI_leI, if_pos]
    | succ k ih =>
      intro d m h1 h2
      obtain ⟨m, rfl⟩ : ∃ q, m = q + 1 := ⟨m - 1, by omega⟩
      have w := (hI.bad d (by omega)).2.1
      have w2 := w.l
      rw [f_X8_badsIn_L6, hr 8 (by omega), hI.c8]
      simp (disch := omega) only [xl, xg, xb, vinT, nI_clamp, la, ra, nI_leI, if_neg, hr, w.e, isInR]
      have i := ih (d + 1) m (by omega) (by omega)
      rw [cnt] at i
      by_cases z : r (249 + d) = nI p
      · by_cases y : e ≤ nv r (269 + d) ∧ nv r (269 + d) < e + n
        · simp only [z, y, and_self, decide_true, if_true, i10, if_false, ra] at i ⊢
          exact i
        · simp only [z, y, true_and, decide_false, if_true, if_false, Nat.add_zero] at i ⊢
          exact i
      · simp only [z, false_and, decide_false, if_false, Nat.add_zero] at i ⊢
        exact i
  have k1 := key (nv r 8) 0 fuel (by omega) (by unfold fuel; omega)
  have e0 : cnt (fun k => decide (r (249 + k) = nI p ∧ e ≤ nv r (269 + k) ∧ nv r (269 + k) < e + n)) 0 = 0 := rfl
  rw [e0, nI_0] at k1
  exact k1
end BAD
end
section
/-! Layer 2: can a platter take so much; a version is written -/
/-- only the row k0 changes -/
def MK (k0 : Nat) (m m' : SD) : Prop := ∀ k j t, ¬ (k = k0 ∧ j = 0 ∧ t < 605) → m' k j t = m k j t
theorem MK.rf (k0 : Nat) (m : SD) : MK k0 m m := fun _ _ _ _ => rfl
theorem MK.tr {k0 : Nat} {x y z : SD} (h : MK k0 x y) (g : MK k0 y z) : MK k0 x z := fun k j t a => (g k j t a).trans (h k j t a)
theorem MK.up {k0 : Nat} {m m' : SD} (h : MK k0 m m') {t : Nat} {v : Int32} (ht : t < 605) : MK k0 m (upS m' k0 0 t v) := fun k j q a => by
  unfold upS
  rw [if_neg (fun z => a ⟨z.1, z.2.1, by omega⟩)]
  exact h k j q a
theorem MK.mx {m m' : SD} (h : MK 30 m m') : MX m m' := fun k j t a _ => h k j t a
/-- whether a platter can take so many sectors -/
def ctV (r : RW) (p n : Nat) : Int32 := if nv r (79 + p) = 0 ∧ nv r (69 + p) = 8 then 0 else if nv r (39 + p) - nv r (59 + p) < n then 0 else if nv r (49 + p) < ent r p (nv r (59 + p)) n then 0 else 1
section WRI
variable {F : Nat} {b : Nat} {sd md : SD} {r : RW} {k0 : Nat}
theorem c_canTake (hI : InvF F r) (hR : RelF F b sd r) {p n : Nat} (hp : p < nv r 7) (hn : n ≤ 300) : f_X3_canTake sd p (nI n) = some (ctV r p n) := by
  obtain ⟨-, ⟨c1, c2⟩, s1, ⟨e1, e2⟩, n1, o1, -⟩ := hI.plt p hp
  have lc := c1.l
  have ls := s1.l
  have le := e1.l
  have ln := n1.l
  have lo := o1.l
  obtain ⟨-, p1, p2, p3, p4, p5⟩ := hR.pl p hp
  have eu : sd 3 p 1 - sd 3 p 3 = nI (nv r (39 + p) - nv r (59 + p)) := by
    rw [p1, p3, c1.e, e1.e]
    exact pk_sub e2
  unfold f_X3_canTake f_X3_unused ctV
  rw [eu, p4, p5, p2, n1.e, o1.e, s1.e]
  simp (disch := omega) only [xl, xb, req, rlt, nI_ltI]
  by_cases z : nv r (39 + p) - nv r (59 + p) < n
  · simp only [z, if_true]
    by_cases y : nv r (79 + p) = 0
    · by_cases w : nv r (69 + p) = 8
      · simp only [y, w, and_self, if_true, Nat.lt_irrefl, if_false]
      · have w1 : nv r (69 + p) < 8 := by omega
        simp only [y, w, w1, and_false, if_true, if_false]
    · simp only [y, false_and, if_false]
  · have hb : bads sd p (nv r (59 + p)) n = ent r p (nv r (59 + p)) n := (ent_bads hI hR.bd hp _ n (by omega)).symm
    have hle : ent r p (nv r (59 + p)) n ≤ 20 := Nat.le_trans (cnt_le _ _) hI.l8
    rw [c_badAmong (e := nv r (59 + p)) (by rw [p3]; exact e1.e) (by omega), hb]
    simp (disch := omega) only [z, if_false, xb, nI_ltI]
    by_cases y : nv r (79 + p) = 0
    · by_cases w : nv r (69 + p) = 8
      · simp only [y, w, and_self, if_true, Nat.lt_irrefl, if_false]
      · have w1 : nv r (69 + p) < 8 := by omega
        simp only [y, w, w1, and_false, if_true, if_false]
        split <;> rfl
    · simp only [y, false_and, if_false]
      split <;> rfl
theorem m_canWrite (hr : md k0 0 = r) (hI : InvF F r) {p n : Nat} (hp : p < nv r 7) (hn : n ≤ 300) : f_X8_canWrite md k0 (nI p) (nI n) = some (ctV r p n) := by
  have l7 := hI.l7
  obtain ⟨-, ⟨c1, c2⟩, s1, ⟨e1, e2⟩, n1, o1, -⟩ := hI.plt p hp
  have lc := c1.l
  have ls := s1.l
  have le := e1.l
  have ln := n1.l
  have lo := o1.l
  have hle : ent r p (nv r (59 + p)) n ≤ 20 := Nat.le_trans (cnt_le _ _) hI.l8
  have hbi := m_badsIn (md := md) (k0 := k0) (fun i _ => by rw [hr]) hI (p := p) (e := nv r (59 + p)) (n := n) (by omega) hn
  have eu : nI (nv r (39 + p)) - nI (nv r (59 + p)) = nI (nv r (39 + p) - nv r (59 + p)) := pk_sub e2
  unfold f_X8_canWrite ctV
  rw [hr]
  simp (disch := omega) only [xl, xg, vinT, la, nI_clamp, c1.e, e1.e, n1.e, o1.e, s1.e, eu, hbi, xb, req, nI_ltI]
  by_cases y : nv r (79 + p) = 0
  · by_cases w : nv r (69 + p) = 8
    · simp only [y, w, and_self, if_true]
    · simp only [y, w, and_false, if_true, if_false]
      split
      · rfl
      · split <;> rfl
  · simp only [y, false_and, if_false]
    split
    · rfl
    · split <;> rfl
/-- the sessions of a platter behind a write -/
def nSe (r : RW) (p : Nat) : Nat := if nv r (79 + p) = 0 then nv r (69 + p) + 1 else nv r (69 + p)
/-- what a write does to the row -/
def WV (r r' : RW) (f p n : Nat) : Prop :=
  (∀ i, i ≠ 10 → i ≠ 309 + nv r 10 → i ≠ 349 + nv r 10 → i ≠ 389 + nv r 10 → i ≠ 429 + nv r 10 → i ≠ 469 + nv r 10 → i ≠ 509 + nv r 10 → i ≠ 549 + nv r 10 → i ≠ 289 + f → i ≠ 49 + p → i ≠ 59 + p → i ≠ 69 + p → i ≠ 79 + p → i ≠ 89 + 8 * p + (nSe r p - 1) → i ≠ 169 + 8 * p + (nSe r p - 1) → r' i = r i) ∧
  r' 10 = nI (nv r 10 + 1) ∧ r' (309 + nv r 10) = nI f ∧ r' (349 + nv r 10) = nI p ∧ r' (389 + nv r 10) = nI (nv r (59 + p)) ∧ r' (429 + nv r 10) = nI n ∧ r' (469 + nv r 10) = nI (nSe r p - 1) ∧ r' (509 + nv r 10) = nI (ent r p (nv r (59 + p)) n) ∧ r' (549 + nv r 10) = nI 0 ∧ r' (289 + f) = nI (nv r 10) ∧ r' (49 + p) = nI (nv r (49 + p) - ent r p (nv r (59 + p)) n) ∧ r' (59 + p) = nI (nv r (59 + p) + n) ∧ r' (69 + p) = nI (nSe r p) ∧ r' (79 + p) = nI 1 ∧
  (nv r (79 + p) = 0 → r' (89 + 8 * p + (nSe r p - 1)) = nI (nv r (59 + p)) ∧ r' (169 + 8 * p + (nSe r p - 1)) = nI n) ∧ (nv r (79 + p) ≠ 0 → r' (89 + 8 * p + (nSe r p - 1)) = r (89 + 8 * p + (nSe r p - 1)) ∧ r' (169 + 8 * p + (nSe r p - 1)) = r (169 + 8 * p + (nSe r p - 1)) + nI n)
theorem m_writesVersion (hr : md k0 0 = r) (hI : InvF F r) {f p n : Nat} (hf : f < 20) (hp : p < nv r 7) (hn : n ≤ 300) (hV : nv r 10 < 40) (hS : nv r (79 + p) = 0 → nv r (69 + p) < 8) (hle : ent r p (nv r (59 + p)) n ≤ nv r (49 + p)) : ∃ m', f_X8_writesVersion md k0 (nI f) (nI p) (nI n) = some m' ∧ MK k0 md m' ∧ WV r (m' k0 0) f p n := by
  have l7 := hI.l7
  obtain ⟨-, ⟨c1, c2⟩, s1, ⟨e1, e2⟩, n1, o1, o2⟩ := hI.plt p hp
  have lc := c1.l
  have ls := s1.l
  have le := e1.l
  have ln := n1.l
  have lo := o1.l
  have c10 := hI.c10
  have hsp : nI (nv r (49 + p)) - nI (ent r p (nv r (59 + p)) n) = nI (nv r (49 + p) - ent r p (nv r (59 + p)) n) := pk_sub hle
  have hi : ∀ i, md k0 0 i = r i := fun i => by rw [hr]
  by_cases z : nv r (79 + p) = 0
  · have hs := hS z
    have hN : nSe r p = nv r (69 + p) + 1 := by unfold nSe; rw [if_pos z]
    have hN1 : nSe r p - 1 = nv r (69 + p) := by omega
    have o0 : r (79 + p) = 0 := by rw [o1.e, z]; rfl
    -- the row behind the opening of the session
    obtain ⟨m5, hm5⟩ : ∃ m5, m5 = upS (upS (upS (upS md k0 0 (89 + 8 * p + nv r (69 + p)) (nI (nv r (59 + p)))) k0 0 (169 + 8 * p + nv r (69 + p)) 0) k0 0 (69 + p) (nI (nv r (69 + p) + 1))) k0 0 (79 + p) 1 := ⟨_, rfl⟩
    have q0 : ∀ i, i ≠ 89 + 8 * p + nv r (69 + p) → i ≠ 169 + 8 * p + nv r (69 + p) → i ≠ 69 + p → i ≠ 79 + p → m5 k0 0 i = r i := fun i h1 h2 h3 h4 => by rw [hm5]; simp (disch := omega) only [upS_t, hi]
    have q89 : m5 k0 0 (89 + 8 * p + nv r (69 + p)) = nI (nv r (59 + p)) := by rw [hm5]; simp (disch := omega) only [upS_t, upS_hit]
    have q169 : m5 k0 0 (169 + 8 * p + nv r (69 + p)) = 0 := by rw [hm5]; simp (disch := omega) only [upS_t, upS_hit]
    have q69 : m5 k0 0 (69 + p) = nI (nv r (69 + p) + 1) := by rw [hm5]; simp (disch := omega) only [upS_t, upS_hit]
    have q79 : m5 k0 0 (79 + p) = 1 := by rw [hm5]; simp (disch := omega) only [upS_hit]
    have hbi := m_badsIn (md := m5) (k0 := k0) (fun i _ => q0 i (by omega) (by omega) (by omega) (by omega)) hI (p := p) (e := nv r (59 + p)) (n := n) (by omega) hn
    have hmk : MK k0 md m5 := by rw [hm5]; exact ((((MK.rf k0 md).up (by omega)).up (by omega)).up (by omega)).up (by omega)
    have q10 : m5 k0 0 10 = nI (nv r 10) := by rw [q0 _ (by omega) (by omega) (by omega) (by omega)]; exact c10
    have q49 : m5 k0 0 (49 + p) = nI (nv r (49 + p)) := by rw [q0 _ (by omega) (by omega) (by omega) (by omega)]; exact s1.e
    have q59 : m5 k0 0 (59 + p) = nI (nv r (59 + p)) := by rw [q0 _ (by omega) (by omega) (by omega) (by omega)]; exact e1.e
    have ev : f_X8_writesVersion md k0 (nI f) (nI p) (nI n) = some (upS (upS (upS (upS (upS (upS (upS (upS (upS (upS (upS (upS m5 k0 0 10 (nI (nv r 10 + 1))) k0 0 (309 + nv r 10) (nI f)) k0 0 (349 + nv r 10) (nI p)) k0 0 (389 + nv r 10) (nI (nv r (59 + p)))) k0 0 (429 + nv r 10) (nI n)) k0 0 (469 + nv r 10) (nI (nv r (69 + p)))) k0 0 (509 + nv r 10) (nI (ent r p (nv r (59 + p)) n))) k0 0 (549 + nv r 10) 0) k0 0 (289 + f) (nI (nv r 10))) k0 0 (49 + p) (nI (nv r (49 + p) - ent r p (nv r (59 + p)) n))) k0 0 (59 + p) (nI (nv r (59 + p) + n))) k0 0 (169 + 8 * p + nv r (69 + p)) (nI (0 + n))) := by
      unfold f_X8_writesVersion
      simp (disch := omega) only [xl, xg, vinT, la, lm, nI_add, nI_clamp, hi, o0, if_true, e1.e, n1.e, upS_t, upS_hit, ra]
      rw [← hm5, hbi]
      simp (disch := omega) only [xb, xg, vinT, la, lm, ra, rsu, nI_add, nI_clamp, q69, q10, q49, q59, q169, c10, s1.e, e1.e, upS_t, upS_hit, hsp, Nat.add_sub_cancel, li 0]
    refine ⟨_, ev, ?_, ?_⟩
    · exact (((((((((((hmk.up (by omega)).up (by omega)).up (by omega)).up (by omega)).up (by omega)).up (by omega)).up (by omega)).up (by omega)).up (by omega)).up (by omega)).up (by omega)).up (by omega)
    · unfold WV
      rw [hN1, hN]
      refine ⟨fun i k1 k2 k3 k4 k5 k6 k7 k8 k9 k10 k11 k12 k13 k14 k15 => ?_, ?_, ?_, ?_, ?_, ?_, ?_, ?_, ?_, ?_, ?_, ?_, ?_, ?_, fun _ => ⟨?_, ?_⟩, fun h => absurd z h⟩
      · simp (disch := omega) only [upS_t]
        exact q0 i (by omega) (by omega) (by omega) (by omega)
      all_goals simp (disch := omega) only [upS_t, upS_hit, q69, q79, q89, Nat.zero_add]
      all_goals rfl
  · have o3 : nv r (79 + p) = 1 := by omega
    have hs := o2 o3
    have hN : nSe r p = nv r (69 + p) := by unfold nSe; rw [if_neg z]
    have o0 : ¬ (r (79 + p) = 0) := by rw [o1.e, o3]; decide
    have hbi := m_badsIn (md := md) (k0 := k0) (fun i _ => hi i) hI (p := p) (e := nv r (59 + p)) (n := n) (by omega) hn
    have ev : f_X8_writesVersion md k0 (nI f) (nI p) (nI n) = some (upS (upS (upS (upS (upS (upS (upS (upS (upS (upS (upS (upS md k0 0 10 (nI (nv r 10 + 1))) k0 0 (309 + nv r 10) (nI f)) k0 0 (349 + nv r 10) (nI p)) k0 0 (389 + nv r 10) (nI (nv r (59 + p)))) k0 0 (429 + nv r 10) (nI n)) k0 0 (469 + nv r 10) (nI (nv r (69 + p) - 1))) k0 0 (509 + nv r 10) (nI (ent r p (nv r (59 + p)) n))) k0 0 (549 + nv r 10) 0) k0 0 (289 + f) (nI (nv r 10))) k0 0 (49 + p) (nI (nv r (49 + p) - ent r p (nv r (59 + p)) n))) k0 0 (59 + p) (nI (nv r (59 + p) + n))) k0 0 (169 + 8 * p + (nv r (69 + p) - 1)) (r (169 + 8 * p + (nv r (69 + p) - 1)) + nI n)) := by
      unfold f_X8_writesVersion
      simp (disch := omega) only [xl, xg, vinT, la, lm, nI_add, nI_clamp, hi, if_neg o0, e1.e, hbi]
      simp (disch := omega) only [xb, xg, vinT, la, lm, ra, rsu, nI_add, nI_clamp, hi, n1.e, c10, s1.e, e1.e, upS_t, upS_hit, hsp]
    refine ⟨_, ev, ?_, ?_⟩
    · exact ((((((((((((MK.rf k0 md).up (by omega)).up (by omega)).up (by omega)).up (by omega)).up (by omega)).up (by omega)).up (by omega)).up (by omega)).up (by omega)).up (by omega)).up (by omega)).up (by omega)
    · unfold WV
      rw [hN]
      refine ⟨fun i k1 k2 k3 k4 k5 k6 k7 k8 k9 k10 k11 k12 k13 k14 k15 => ?_, ?_, ?_, ?_, ?_, ?_, ?_, ?_, ?_, ?_, ?_, ?_, ?_, ?_, fun h => absurd h z, fun _ => ⟨?_, ?_⟩⟩
      · simp (disch := omega) only [upS_t]
        exact hi i
      all_goals simp (disch := omega) only [upS_t, upS_hit, hi]
      all_goals first | rfl | exact n1.e | (rw [o1.e, o3])
end WRI
end
section
/-! Layer 2: a version is written: the row stays a jukebox, the class does the same -/
section WR2
variable {F F' : Nat} {b : Nat} {sd sd' md : SD} {r r' : RW} {f p n : Nat}
theorem WV_nv (h : WV r r' f p n) {i : Nat} (k1 : i ≠ 10) (k2 : i ≠ 309 + nv r 10) (k3 : i ≠ 349 + nv r 10) (k4 : i ≠ 389 + nv r 10) (k5 : i ≠ 429 + nv r 10) (k6 : i ≠ 469 + nv r 10) (k7 : i ≠ 509 + nv r 10) (k8 : i ≠ 549 + nv r 10) (k9 : i ≠ 289 + f) (k10 : i ≠ 49 + p) (k11 : i ≠ 59 + p) (k12 : i ≠ 69 + p) (k13 : i ≠ 79 + p) (k14 : i ≠ 89 + 8 * p + (nSe r p - 1)) (k15 : i ≠ 169 + 8 * p + (nSe r p - 1)) : nv r' i = nv r i := nv_eq (h.1 i k1 k2 k3 k4 k5 k6 k7 k8 k9 k10 k11 k12 k13 k14 k15)
theorem WV_inv (hI : InvF F r) (h : WV r r' f p n) (hp : p < nv r 7) (hn : n ≤ 300) (hV : nv r 10 < 40) (hS : nv r (79 + p) = 0 → nv r (69 + p) < 8) (hle : ent r p (nv r (59 + p)) n ≤ nv r (49 + p)) (hc : nv r (59 + p) + n ≤ nv r (39 + p)) (hf : f < F') (hFF : F ≤ F') (hF2 : ∀ g, g < F' → g ≠ f → g < F) (hF3 : F' ≤ 20) : InvF F' r' := by
  have l6 := hI.l6
  have l7 := hI.l7
  have l8 := hI.l8
  have l16 := hI.l16
  have l9 := hI.l9
  obtain ⟨⟨h1, h2⟩, ⟨c1, c2⟩, s1, ⟨e1, e2⟩, n1, o1, o2⟩ := hI.plt p hp
  have lc := c1.l
  have ls := s1.l
  have le := e1.l
  have ln := n1.l
  have lo := o1.l
  have hN : nSe r p ≤ 8 ∧ 1 ≤ nSe r p ∧ nv r (69 + p) ≤ nSe r p := by
    unfold nSe
    by_cases z : nv r (79 + p) = 0
    · rw [if_pos z]; have := hS z; omega
    · rw [if_neg z]; have := o2 (by omega); omega
  have hh := h
  obtain ⟨a0, a10, a309, a349, a389, a429, a469, a509, a549, a289, a49, a59, a69, a79, aO, aC⟩ := h
  have b0 : ∀ i, i ≠ 10 → i ≠ 309 + nv r 10 → i ≠ 349 + nv r 10 → i ≠ 389 + nv r 10 → i ≠ 429 + nv r 10 → i ≠ 469 + nv r 10 → i ≠ 509 + nv r 10 → i ≠ 549 + nv r 10 → i ≠ 289 + f → i ≠ 49 + p → i ≠ 59 + p → i ≠ 69 + p → i ≠ 79 + p → i ≠ 89 + 8 * p + (nSe r p - 1) → i ≠ 169 + 8 * p + (nSe r p - 1) → nv r' i = nv r i := fun i k1 k2 k3 k4 k5 k6 k7 k8 k9 k10 k11 k12 k13 k14 k15 => nv_eq (a0 i k1 k2 k3 k4 k5 k6 k7 k8 k9 k10 k11 k12 k13 k14 k15)
  have v10 := nv_of a10 (by omega)
  have v49 := nv_of a49 (by omega)
  have v59 := nv_of a59 (by omega)
  have v69 := nv_of a69 (by omega)
  have v79 := nv_of a79 (by decide)
  have v7 : nv r' 7 = nv r 7 := by simp (disch := omega) only [b0]
  have v0 : nv r' 0 = nv r 0 := by simp (disch := omega) only [b0]
  have v6 : nv r' 6 = nv r 6 := by simp (disch := omega) only [b0]
  have v8 : nv r' 8 = nv r 8 := by simp (disch := omega) only [b0]
  have v16 : nv r' 16 = nv r 16 := by simp (disch := omega) only [b0]
  refine ⟨?_, ?_, ?_, ?_, ?_, ?_, ?_, ?_, ?_, ?_, ?_, ?_, hF3⟩
  · have g := hI.1
    have g10 : isN r' 10 40 := isN_nI a10 (by omega) (by omega)
    unfold I_cnt at g ⊢
    rw [v0]
    refine ⟨?_, g.2.1, ?_, ?_, ?_, ?_, g10, ?_⟩
    · exact isN_eq (a0 _ (by omega) (by omega) (by omega) (by omega) (by omega) (by omega) (by omega) (by omega) (by omega) (by omega) (by omega) (by omega) (by omega) (by omega) (by omega)) g.1
    · exact isN_eq (a0 _ (by omega) (by omega) (by omega) (by omega) (by omega) (by omega) (by omega) (by omega) (by omega) (by omega) (by omega) (by omega) (by omega) (by omega) (by omega)) g.2.2.1
    · exact isN_eq (a0 _ (by omega) (by omega) (by omega) (by omega) (by omega) (by omega) (by omega) (by omega) (by omega) (by omega) (by omega) (by omega) (by omega) (by omega) (by omega)) g.2.2.2.1
    · exact isN_eq (a0 _ (by omega) (by omega) (by omega) (by omega) (by omega) (by omega) (by omega) (by omega) (by omega) (by omega) (by omega) (by omega) (by omega) (by omega) (by omega)) g.2.2.2.2.1
    · exact isN_eq (a0 _ (by omega) (by omega) (by omega) (by omega) (by omega) (by omega) (by omega) (by omega) (by omega) (by omega) (by omega) (by omega) (by omega) (by omega) (by omega)) g.2.2.2.2.2.1
    · exact isN_eq (a0 _ (by omega) (by omega) (by omega) (by omega) (by omega) (by omega) (by omega) (by omega) (by omega) (by omega) (by omega) (by omega) (by omega) (by omega) (by omega)) g.2.2.2.2.2.2.2
  · have g := hI.tim
    unfold I_tim isN at g ⊢
    simp (disch := omega) only [a0, b0]
    exact g
  · have g := hI.pick
    unfold I_pick isN at g ⊢
    simp (disch := omega) only [a0, b0]
    exact g
  · intro d hd
    rw [v6] at hd
    have g := hI.drv d hd
    unfold isN at g ⊢
    simp (disch := omega) only [a0, b0]
    exact g
  · intro d e hd he
    rw [v6] at hd he
    simp (disch := omega) only [a0]
    exact hI.drd d e hd he
  · intro q hq
    rw [v7] at hq
    by_cases z : q = p
    · subst z
      rw [v0, v59, v69, v79]
      refine ⟨⟨isN_eq (a0 _ (by omega) (by omega) (by omega) (by omega) (by omega) (by omega) (by omega) (by omega) (by omega) (by omega) (by omega) (by omega) (by omega) (by omega) (by omega)) h1, ?_⟩, ⟨isN_eq (a0 _ (by omega) (by omega) (by omega) (by omega) (by omega) (by omega) (by omega) (by omega) (by omega) (by omega) (by omega) (by omega) (by omega) (by omega) (by omega)) c1, ?_⟩, isN_nI a49 (by omega) (by omega), ⟨isN_nI a59 (by omega) (by omega), ?_⟩, isN_nI a69 (by omega) (by omega), isN_nI a79 (by omega) (by omega), fun _ => by omega⟩
      · simp (disch := omega) only [b0]; exact h2
      · simp (disch := omega) only [b0]; exact c2
      · simp (disch := omega) only [b0]; exact hc
    · have g := hI.plt q hq
      unfold isN at g ⊢
      simp (disch := omega) only [a0, b0]
      exact g
  · intro x y hx hy hxy
    rw [v7] at hx hy
    simp (disch := omega) only [a0] at hxy
    exact hI.hom x y hx hy hxy
  · intro k hk
    rw [v8] at hk
    have g := hI.bad k hk
    have g9 := g.1.1.l
    unfold isN at g ⊢
    simp (disch := omega) only [a0, b0]
    exact g
  · intro k l hk hl h3 h4
    rw [v8] at hk hl
    simp (disch := omega) only [a0] at h3 h4
    exact hI.bdd k l hk hl h3 h4
  · intro g hg
    by_cases z : g = f
    · subst z
      rw [v10]
      exact ⟨isN_nI a289 (by omega) (by omega), by rw [nv_of a289 (by omega)]; omega⟩
    · have w := hI.cur g (hF2 g hg z)
      rw [v10]
      have e : r' (289 + g) = r (289 + g) := a0 _ (by omega) (by omega) (by omega) (by omega) (by omega) (by omega) (by omega) (by omega) (by omega) (by omega) (by omega) (by omega) (by omega) (by omega) (by omega)
      exact ⟨isN_eq e w.1, by rw [nv_eq e]; have := w.2; omega⟩
  · intro v hv
    rw [v10] at hv
    by_cases z : v = nv r 10
    · subst z
      rw [nv_of a309 (by omega), nv_of a349 (by omega), nv_of a389 (by omega), nv_of a429 (by omega), nv_of a469 (by omega), v7, v59, v69]
      exact ⟨⟨isN_nI a309 (by omega) (by omega), hf⟩, ⟨isN_nI a349 (by omega) (by omega), hp⟩, isN_nI a389 (by omega) (by omega), isN_nI a429 (by omega) (by omega), by omega, ⟨isN_nI a469 (by omega) (by omega), by omega⟩, isN_nI a509 (by omega) (by omega), isN_nI a549 (by omega) (by omega)⟩
    · have hv2 : v < nv r 10 := by omega
      obtain ⟨⟨g1, g2⟩, ⟨g3, g4⟩, g5, g6, g7, ⟨g8, g9⟩, g10, g11⟩ := hI.ver v hv2
      have g3l := g3.l
      have x1 : r' (309 + v) = r (309 + v) := a0 _ (by omega) (by omega) (by omega) (by omega) (by omega) (by omega) (by omega) (by omega) (by omega) (by omega) (by omega) (by omega) (by omega) (by omega) (by omega)
      have x2 : r' (349 + v) = r (349 + v) := a0 _ (by omega) (by omega) (by omega) (by omega) (by omega) (by omega) (by omega) (by omega) (by omega) (by omega) (by omega) (by omega) (by omega) (by omega) (by omega)
      have x3 : r' (389 + v) = r (389 + v) := a0 _ (by omega) (by omega) (by omega) (by omega) (by omega) (by omega) (by omega) (by omega) (by omega) (by omega) (by omega) (by omega) (by omega) (by omega) (by omega)
      have x4 : r' (429 + v) = r (429 + v) := a0 _ (by omega) (by omega) (by omega) (by omega) (by omega) (by omega) (by omega) (by omega) (by omega) (by omega) (by omega) (by omega) (by omega) (by omega) (by omega)
      have x5 : r' (469 + v) = r (469 + v) := a0 _ (by omega) (by omega) (by omega) (by omega) (by omega) (by omega) (by omega) (by omega) (by omega) (by omega) (by omega) (by omega) (by omega) (by omega) (by omega)
      have x6 : r' (509 + v) = r (509 + v) := a0 _ (by omega) (by omega) (by omega) (by omega) (by omega) (by omega) (by omega) (by omega) (by omega) (by omega) (by omega) (by omega) (by omega) (by omega) (by omega)
      have x7 : r' (549 + v) = r (549 + v) := a0 _ (by omega) (by omega) (by omega) (by omega) (by omega) (by omega) (by omega) (by omega) (by omega) (by omega) (by omega) (by omega) (by omega) (by omega) (by omega)
      have y59 : nv r (59 + nv r (349 + v)) ≤ nv r' (59 + nv r (349 + v)) := by
        by_cases w : nv r (349 + v) = p
        · rw [w, v59]; omega
        · have : nv r' (59 + nv r (349 + v)) = nv r (59 + nv r (349 + v)) := by simp (disch := omega) only [b0]
          omega
      have y69 : nv r (69 + nv r (349 + v)) ≤ nv r' (69 + nv r (349 + v)) := by
        by_cases w : nv r (349 + v) = p
        · rw [w, v69]; omega
        · have : nv r' (69 + nv r (349 + v)) = nv r (69 + nv r (349 + v)) := by simp (disch := omega) only [b0]
          omega
      rw [nv_eq x1, nv_eq x2, nv_eq x3, nv_eq x4, nv_eq x5, v7]
      exact ⟨⟨isN_eq x1 g1, by omega⟩, ⟨isN_eq x2 g3, g4⟩, isN_eq x3 g5, isN_eq x4 g6, by omega, ⟨isN_eq x5 g8, by omega⟩, isN_eq x6 g10, isN_eq x7 g11⟩
  · intro q hq
    rw [v16] at hq
    have g := hI.req q hq
    have e : r' (589 + q) = r (589 + q) := a0 _ (by omega) (by omega) (by omega) (by omega) (by omega) (by omega) (by omega) (by omega) (by omega) (by omega) (by omega) (by omega) (by omega) (by omega) (by omega)
    exact ⟨isN_eq e g.1, by rw [nv_eq e]; have := g.2; omega⟩
/-- what a write does to the class's State -/
def WC (sd sd' : SD) (r : RW) (f p n : Nat) : Prop :=
  (∀ k j t, ¬ (k = 6 ∧ j = nv r 10) → ¬ (k = 3 ∧ j = p) → ¬ (k = 16 ∧ j = p ∧ t = nSe r p - 1) → ¬ (k = 17 ∧ j = p ∧ t = nSe r p - 1) → ¬ (k = 14 ∧ j = 0 ∧ t = f) → ¬ (k = 4 ∧ j = 0 ∧ t = 9) → sd' k j t = sd k j t) ∧
  sd' 4 0 9 = nI (nv r 10 + 1) ∧ sd' 14 0 f = nI (nv r 10) ∧ (sd' 6 (nv r 10) 0 = nI f ∧ sd' 6 (nv r 10) 1 = nI p ∧ sd' 6 (nv r 10) 2 = nI (nv r (59 + p)) ∧ sd' 6 (nv r 10) 3 = nI n ∧ sd' 6 (nv r 10) 4 = nI (nSe r p - 1) ∧ sd' 6 (nv r 10) 5 = nI (ent r p (nv r (59 + p)) n) ∧ sd' 6 (nv r 10) 6 = nI 0) ∧
  (sd' 3 p 0 = sd 3 p 0 ∧ sd' 3 p 1 = sd 3 p 1 ∧ sd' 3 p 2 = nI (nv r (49 + p) - ent r p (nv r (59 + p)) n) ∧ sd' 3 p 3 = nI (nv r (59 + p) + n) ∧ sd' 3 p 4 = nI (nSe r p) ∧ sd' 3 p 5 = nI 1) ∧
  (nv r (79 + p) = 0 → sd' 16 p (nSe r p - 1) = nI (nv r (59 + p)) ∧ sd' 17 p (nSe r p - 1) = nI n) ∧ (nv r (79 + p) ≠ 0 → sd' 16 p (nSe r p - 1) = sd 16 p (nSe r p - 1) ∧ sd' 17 p (nSe r p - 1) = sd 17 p (nSe r p - 1) + nI n)
theorem WV_rel (hI : InvF F r) (hR : RelF F b sd r) (h : WV r r' f p n) (hw : WC sd sd' r f p n) (hp : p < nv r 7) (hV : nv r 10 < 40) (hS : nv r (79 + p) = 0 → nv r (69 + p) < 8) (hf : f < F') (hF2 : ∀ g, g < F' → g ≠ f → g < F) (hF3 : F' ≤ 20) : RelF F' b sd' r' := by
  have l6 := hI.l6
  have l7 := hI.l7
  have l8 := hI.l8
  have l16 := hI.l16
  have o2 := (hI.plt p hp).2.2.2.2.2.2
  have lo := (hI.plt p hp).2.2.2.2.2.1.l
  have ln := (hI.plt p hp).2.2.2.2.1.l
  have hN : nSe r p ≤ 8 ∧ 1 ≤ nSe r p ∧ nv r (69 + p) ≤ nSe r p ∧ (nv r (79 + p) ≠ 0 → nSe r p = nv r (69 + p)) ∧ (nv r (79 + p) = 0 → nSe r p = nv r (69 + p) + 1) := by
    unfold nSe
    by_cases z : nv r (79 + p) = 0
    · rw [if_pos z]; have := hS z; omega
    · rw [if_neg z]; have := o2 (by omega); omega
  obtain ⟨a0, a10, a309, a349, a389, a429, a469, a509, a549, a289, a49, a59, a69, a79, aO, aC⟩ := h
  obtain ⟨w0, w9, w14, w6, w3, wO, wC⟩ := hw
  have b0 : ∀ i, i ≠ 10 → i ≠ 309 + nv r 10 → i ≠ 349 + nv r 10 → i ≠ 389 + nv r 10 → i ≠ 429 + nv r 10 → i ≠ 469 + nv r 10 → i ≠ 509 + nv r 10 → i ≠ 549 + nv r 10 → i ≠ 289 + f → i ≠ 49 + p → i ≠ 59 + p → i ≠ 69 + p → i ≠ 79 + p → i ≠ 89 + 8 * p + (nSe r p - 1) → i ≠ 169 + 8 * p + (nSe r p - 1) → nv r' i = nv r i := fun i k1 k2 k3 k4 k5 k6 k7 k8 k9 k10 k11 k12 k13 k14 k15 => nv_eq (a0 i k1 k2 k3 k4 k5 k6 k7 k8 k9 k10 k11 k12 k13 k14 k15)
  have v7 : nv r' 7 = nv r 7 := by simp (disch := omega) only [b0]
  have v6 : nv r' 6 = nv r 6 := by simp (disch := omega) only [b0]
  have v8 : nv r' 8 = nv r 8 := by simp (disch := omega) only [b0]
  have v10 := nv_of a10 (by omega)
  have v16 : nv r' 16 = nv r 16 := by simp (disch := omega) only [b0]
  have v69 := nv_of a69 (by omega)
  refine ⟨?_, ?_, ?_, ?_, ?_, ?_, ?_, ?_, ?_, ?_⟩
  · have g := hR.sc
    unfold R_sc at g ⊢
    rw [w9, a10]
    simp (disch := omega) only [a0, w0]
    exact ⟨g.1, g.2.1, g.2.2.1, g.2.2.2.1, trivial, g.2.2.2.2.2⟩
  · have g := hR.tm
    unfold R_tm at g ⊢
    simp (disch := omega) only [a0, w0]
    exact g
  · intro d hd
    rw [v6] at hd
    simp (disch := omega) only [a0, w0]
    exact hR.dr d hd
  · refine us_same hR.us (Nat.le_refl _) v6 (w0 _ _ _ (by omega) (by omega) (by omega) (by omega) (by omega) (by omega)) (fun e => w0 _ _ _ (by omega) (by omega) (by omega) (by omega) (by omega) (by omega)) ?_ (fun e he => ?_)
    · simp (disch := omega) only [a0]
    · simp (disch := omega) only [a0]
  · intro q hq
    rw [v7] at hq
    have g := hR.pl q hq
    by_cases z : q = p
    · subst z
      rw [w3.1, w3.2.1, w3.2.2.1, w3.2.2.2.1, w3.2.2.2.2.1, w3.2.2.2.2.2, a49, a59, a69, a79]
      simp (disch := omega) only [a0]
      exact ⟨g.1, g.2.1, trivial, trivial, trivial, trivial⟩
    · simp (disch := omega) only [a0, w0]
      exact g
  · intro q s hq hs
    rw [v7] at hq
    by_cases z : q = p
    · subst z
      rw [v69] at hs
      by_cases y : s = nSe r q - 1
      · subst y
        by_cases x : nv r (79 + q) = 0
        · rw [(wO x).1, (wO x).2, (aO x).1, (aO x).2]
          exact ⟨rfl, rfl⟩
        · rw [(wC x).1, (wC x).2, (aC x).1, (aC x).2]
          have g := hR.se q (nSe r q - 1) hq (by have := hN.2.2.2.1 x; omega)
          rw [g.1, g.2]
          exact ⟨rfl, rfl⟩
      · have g := hR.se q s hq (by
          by_cases x : nv r (79 + q) = 0
          · have := hN.2.2.2.2 x; omega
          · have := hN.2.2.2.1 x; omega)
        simp (disch := omega) only [a0, w0]
        exact g
    · have ln2 := (hI.plt q hq).2.2.2.2.1.l
      have e69 : nv r' (69 + q) = nv r (69 + q) := by simp (disch := omega) only [b0]
      rw [e69] at hs
      simp (disch := omega) only [a0, w0]
      exact hR.se q s hq hs
  · intro q s hq hs
    rw [v7] at hq
    have g := hR.bd q s hq hs
    unfold bdc bdm at g ⊢
    rw [v8, w0 _ _ _ (by omega) (by omega) (by omega) (by omega) (by omega) (by omega), g]
    constructor
    · rintro ⟨k, k1, k2, k3⟩
      refine ⟨k, k1, ?_, ?_⟩
      · simp (disch := omega) only [a0]; exact k2
      · simp (disch := omega) only [a0]; exact k3
    · rintro ⟨k, k1, k2, k3⟩
      simp (disch := omega) only [a0] at k2 k3
      exact ⟨k, k1, k2, k3⟩
  · intro g hg
    by_cases z : g = f
    · subst z
      rw [w14, a289]
    · have e := hR.cu g (hF2 g hg z)
      simp (disch := omega) only [a0, w0]
      exact e
  · intro v hv
    rw [v10] at hv
    by_cases z : v = nv r 10
    · subst z
      rw [w6.1, w6.2.1, w6.2.2.1, w6.2.2.2.1, w6.2.2.2.2.1, w6.2.2.2.2.2.1, w6.2.2.2.2.2.2, a309, a349, a389, a429, a469, a509, a549]
      exact ⟨rfl, rfl, rfl, rfl, rfl, rfl, rfl⟩
    · have e := hR.ve v (by omega)
      simp (disch := omega) only [a0, w0]
      exact e
  · intro q hq
    rw [v16] at hq
    have e := hR.rq q hq
    simp (disch := omega) only [a0, w0]
    exact e
end WR2
end
section
/-! Layer 2: the class writes a version -/
section ADV
variable {F F' : Nat} {b : Nat} {sd sd' md : SD} {r r' : RW}
theorem c_take {s : SD} {p n sp e c o bd : Nat} (h2 : s 3 p 2 = nI sp) (h3 : s 3 p 3 = nI e) (h4 : s 3 p 4 = nI c) (h5 : s 3 p 5 = nI o) (ho : o ≤ 1) (hc : o = 0 → c < 8) (hc1 : o ≠ 0 → 0 < c) (hc8 : c ≤ 8) (hb : bd ≤ sp) : ∃ s', f_X3_takeSectors s p (nI n) (nI bd) = some s' ∧ (∀ k j t, ¬ (k = 3 ∧ j = p) → ¬ (k = 16 ∧ j = p ∧ t = (if o = 0 then c + 1 else c) - 1) → ¬ (k = 17 ∧ j = p ∧ t = (if o = 0 then c + 1 else c) - 1) → s' k j t = s k j t) ∧ (s' 3 p 0 = s 3 p 0 ∧ s' 3 p 1 = s 3 p 1 ∧ s' 3 p 2 = nI (sp - bd) ∧ s' 3 p 3 = nI (e + n) ∧ s' 3 p 4 = nI (if o = 0 then c + 1 else c) ∧ s' 3 p 5 = nI 1) ∧ (o = 0 → s' 16 p ((if o = 0 then c + 1 else c) - 1) = nI e ∧ s' 17 p ((if o = 0 then c + 1 else c) - 1) = nI n) ∧ (o ≠ 0 → s' 16 p ((if o = 0 then c + 1 else c) - 1) = s 16 p ((if o = 0 then c + 1 else c) - 1) ∧ s' 17 p ((if o = 0 then c + 1 else c) - 1) = s 17 p ((if o = 0 then c + 1 else c) - 1) + nI n) := by
  by_cases z : o = 0
  · have hc := hc z
    simp only [z, if_true, Nat.add_sub_cancel]
    have h5' : s 3 p 5 = 0 := by rw [h5, z]; rfl
    obtain ⟨s4, hs4⟩ : ∃ s4, s4 = upS (upS (upS (upS (upS s 16 p c (nI e)) 17 p c 0) 3 p 4 (nI (c + 1))) 3 p 5 1) 3 p 2 (nI (sp - bd)) := ⟨_, rfl⟩
    have q4 : s4 3 p 4 = nI (c + 1) := by rw [hs4]; simp (disch := omega) only [upS_t, upS_hit]
    have q17 : s4 17 p c = nI 0 := by rw [hs4]; simp (disch := omega) only [upS_k, upS_hit]; rfl
    have q3 : s4 3 p 3 = nI e := by rw [hs4]; simp (disch := omega) only [upS_k, upS_t, h3]
    have ev : f_X3_takeSectors s p (nI n) (nI bd) = some (upS (upS s4 17 p c (nI (0 + n))) 3 p 3 (nI (e + n))) := by
      unfold f_X3_takeSectors
      simp (disch := omega) only [xl, xg, xb, vinT, h5', if_true, h4, h3, h2, lle, if_neg, nI_clamp, upS_k, upS_t, upS_hit, ra, pk_sub hb]
      rw [← hs4]
      unfold f_X3_extendLastSession
      simp (disch := omega) only [xl, xg, xb, vinT, q4, rle, llt, if_neg, rsu, nI_clamp, Nat.add_sub_cancel, q17, q3, upS_k, upS_t, upS_hit, nI_add]
    refine ⟨_, ev, fun k j t k1 k2 k3 => ?_, ⟨?_, ?_, ?_, ?_, ?_, ?_⟩, fun _ => ⟨?_, ?_⟩, fun h => absurd rfl h⟩
    · simp only [hs4, upS]
      rw [if_neg (by omega), if_neg (by omega), if_neg (by omega), if_neg (by omega), if_neg (by omega), if_neg (by omega), if_neg (by omega)]
    all_goals simp (disch := omega) only [upS_k, upS_t, upS_hit, hs4, Nat.zero_add]
    all_goals rfl
  · have hc1 := hc1 z
    have o1 : o = 1 := by omega
    simp only [z, if_false]
    have h5' : ¬ (s 3 p 5 = 0) := by rw [h5, o1]; decide
    have q4 : (upS s 3 p 2 (nI (sp - bd))) 3 p 4 = nI c := by rw [upS_t (by omega)]; exact h4
    have q3 : (upS s 3 p 2 (nI (sp - bd))) 3 p 3 = nI e := by rw [upS_t (by omega)]; exact h3
    have q17 : (upS s 3 p 2 (nI (sp - bd))) 17 p (c - 1) = s 17 p (c - 1) := by rw [upS_k (by omega)]
    have ev : f_X3_takeSectors s p (nI n) (nI bd) = some (upS (upS (upS s 3 p 2 (nI (sp - bd))) 17 p (c - 1) (s 17 p (c - 1) + nI n)) 3 p 3 (nI (e + n))) := by
      unfold f_X3_takeSectors
      simp (disch := omega) only [xl, if_neg h5', h2, pk_sub hb]
      unfold f_X3_extendLastSession
      simp (disch := omega) only [xl, xg, xb, vinT, q4, rle, llt, if_neg, rsu, nI_clamp, q17, q3, upS_k, upS_t, upS_hit, nI_add]
    refine ⟨_, ev, fun k j t k1 k2 k3 => ?_, ⟨?_, ?_, ?_, ?_, ?_, ?_⟩, fun h => h.elim, fun _ => ⟨?_, ?_⟩⟩
    · simp only [upS]
      rw [if_neg (by omega), if_neg (by omega), if_neg (by omega)]
    all_goals simp (disch := omega) only [upS_k, upS_t, upS_hit]
    · exact h4
    · rw [h5, o1]
theorem c_addVersion (hI : InvF F r) (hR : RelF F b sd r) {f p n : Nat} (hf : f < nv r 9) (hp : p < nv r 7) (hn : nv r (59 + p) + n ≤ 300) (hV : nv r 10 < 40) (hS : nv r (79 + p) = 0 → nv r (69 + p) < 8) (hle : ent r p (nv r (59 + p)) n ≤ nv r (49 + p)) : ∃ sd', f_X4_addVersion sd (nI f) (nI n) (nI p) = some sd' ∧ WC sd sd' r f p n := by
  have l7 := hI.l7
  have l9 := hI.l9
  obtain ⟨-, ⟨c1, c2⟩, s1, ⟨e1, e2⟩, n1, o1, o2⟩ := hI.plt p hp
  have lo := o1.l
  have ln := n1.l
  have ls := s1.l
  obtain ⟨p0, p1, p2, p3, p4, p5⟩ := hR.pl p hp
  have hc9 : sd 4 0 9 = nI (nv r 10) := by rw [hR.s9]; exact hI.c10
  have hb : bads sd p (nv r (59 + p)) n = ent r p (nv r (59 + p)) n := (ent_bads hI hR.bd hp _ n hn).symm
  obtain ⟨s8, hs8⟩ : ∃ s8, s8 = upS (upS (upS (upS sd 6 (nv r 10) 0 (nI f)) 6 (nv r 10) 1 (nI p)) 6 (nv r 10) 2 (nI (nv r (59 + p)))) 6 (nv r 10) 3 (nI n) := ⟨_, rfl⟩
  have k8 : ∀ k j t, k ≠ 6 → s8 k j t = sd k j t := fun k j t h => by rw [hs8]; simp (disch := omega) only [upS_k]
  have hq9 := c_badAmong (sd := s8) (p := p) (e := nv r (59 + p)) (n := n) (by rw [k8 _ _ _ (by omega), p3]; exact e1.e) hn
  rw [bads_congr (sd := sd) (fun t => k8 _ _ _ (by omega)), hb] at hq9
  obtain ⟨s11, hs11⟩ : ∃ s11, s11 = upS (upS s8 6 (nv r 10) 5 (nI (ent r p (nv r (59 + p)) n))) 6 (nv r 10) 6 0 := ⟨_, rfl⟩
  have k11 : ∀ k j t, k ≠ 6 → s11 k j t = sd k j t := fun k j t h => by rw [hs11]; simp (disch := omega) only [upS_k, k8]
  have q5 : s11 6 (nv r 10) 5 = nI (ent r p (nv r (59 + p)) n) := by rw [hs11]; simp (disch := omega) only [upS_t, upS_hit]
  obtain ⟨s12, e12, f0, f3, fO, fC⟩ := c_take (s := s11) (p := p) (n := n) (sp := nv r (49 + p)) (e := nv r (59 + p)) (c := nv r (69 + p)) (o := nv r (79 + p)) (bd := ent r p (nv r (59 + p)) n) (by rw [k11 _ _ _ (by omega), p2]; exact s1.e) (by rw [k11 _ _ _ (by omega), p3]; exact e1.e) (by rw [k11 _ _ _ (by omega), p4]; exact n1.e) (by rw [k11 _ _ _ (by omega), p5]; exact o1.e) lo hS (fun h => o2 (by omega)) ln hle
  have hN : (if nv r (79 + p) = 0 then nv r (69 + p) + 1 else nv r (69 + p)) = nSe r p := rfl
  rw [hN] at f0 f3 fO fC
  have hN1 : 1 ≤ nSe r p ∧ nSe r p ≤ 8 := by
    unfold nSe
    by_cases z : nv r (79 + p) = 0
    · rw [if_pos z]; have := hS z; omega
    · rw [if_neg z]; have := o2 (by omega); omega
  have k9 : s12 4 0 9 = nI (nv r 10) := by rw [f0 _ _ _ (by omega) (by omega) (by omega), k11 _ _ _ (by omega)]; exact hc9
  have ev : f_X4_addVersion sd (nI f) (nI n) (nI p) = some (upS (upS (upS s12 6 (nv r 10) 4 (nI (nSe r p - 1))) 14 0 f (nI (nv r 10))) 4 0 9 (nI (nv r 10 + 1))) := by
    unfold f_X4_addVersion
    rw [c_hasFile hI hR, xb, hasV_in hf (by omega), c_hasPlatter hI hR, xb, hasV_in hp (by omega), hc9]
    simp (disch := omega) only [lle, if_neg, i10, if_false, xg, xl, vinT, nI_clamp, upS_k, p3, e1.e]
    rw [← hs8, hq9, xb, ← hs11, q5, e12, xb, f3.2.2.2.2.1]
    simp (disch := omega) only [xl, xg, vinT, rsu, upS_k, k9, ra, nI_clamp]
  have g6 : ∀ t, s12 6 (nv r 10) t = s11 6 (nv r 10) t := fun t => f0 _ _ _ (by omega) (by omega) (by omega)
  refine ⟨_, ev, fun k j t h1 h2 h3 h4 h5 h6 => ?_, ?_, ?_, ⟨?_, ?_, ?_, ?_, ?_, ?_, ?_⟩, ⟨?_, ?_, ?_, ?_, ?_, ?_⟩, fun z => ⟨?_, ?_⟩, fun z => ⟨?_, ?_⟩⟩
  · simp only [upS]
    rw [if_neg (by omega), if_neg (by omega), if_neg (by omega), f0 _ _ _ h2 h3 h4]
    by_cases y : k = 6
    · subst y
      have hj : j ≠ nv r 10 := fun w => h1 ⟨rfl, w⟩
      rw [hs11, hs8]
      simp (disch := omega) only [upS_j]
    · exact k11 _ _ _ y
  · rw [upS_hit]
  · rw [upS_k (by omega), upS_hit]
  · simp (disch := omega) only [upS_k, upS_t, g6, hs11, hs8, upS_hit]
  · simp (disch := omega) only [upS_k, upS_t, g6, hs11, hs8, upS_hit]
  · simp (disch := omega) only [upS_k, upS_t, g6, hs11, hs8, upS_hit]
  · simp (disch := omega) only [upS_k, upS_t, g6, hs11, hs8, upS_hit]
  · simp (disch := omega) only [upS_k, upS_hit]
  · simp (disch := omega) only [upS_k, upS_t, g6, hs11, hs8, upS_hit]
  · simp (disch := omega) only [upS_k, upS_t, g6, hs11, hs8, upS_hit]
    rfl
  · rw [upS_k (by omega), upS_k (by omega), upS_k (by omega), f3.1, k11 _ _ _ (by omega)]
  · rw [upS_k (by omega), upS_k (by omega), upS_k (by omega), f3.2.1, k11 _ _ _ (by omega)]
  · rw [upS_k (by omega), upS_k (by omega), upS_k (by omega), f3.2.2.1]
  · rw [upS_k (by omega), upS_k (by omega), upS_k (by omega), f3.2.2.2.1]
  · rw [upS_k (by omega), upS_k (by omega), upS_k (by omega), f3.2.2.2.2.1]
  · rw [upS_k (by omega), upS_k (by omega), upS_k (by omega), f3.2.2.2.2.2]
  · rw [upS_k (by omega), upS_k (by omega), upS_k (by omega), (fO z).1]
  · rw [upS_k (by omega), upS_k (by omega), upS_k (by omega), (fO z).2]
  · rw [upS_k (by omega), upS_k (by omega), upS_k (by omega), (fC z).1, k11 _ _ _ (by omega)]
  · rw [upS_k (by omega), upS_k (by omega), upS_k (by omega), (fC z).2, k11 _ _ _ (by omega)]
end ADV
end
section
/-! Layer 2: a session is closed -/
def ldN (r : RW) (p : Nat) : Nat := if nv r (39 + p) - nv r (59 + p) < 2 then nv r (39 + p) - nv r (59 + p) else 2
/-- what the closing does to the row -/
def CV (r r' : RW) (p : Nat) : Prop := (∀ i, i ≠ 59 + p → i ≠ 79 + p → i ≠ 169 + 8 * p + (nv r (69 + p) - 1) → r' i = r i) ∧ r' (59 + p) = nI (nv r (59 + p) + ldN r p) ∧ r' (79 + p) = nI 0 ∧ r' (169 + 8 * p + (nv r (69 + p) - 1)) = r (169 + 8 * p + (nv r (69 + p) - 1)) + nI (ldN r p)
def CC (sd sd' : SD) (r : RW) (p : Nat) : Prop := (∀ k j t, ¬ (k = 3 ∧ j = p ∧ t = 3) → ¬ (k = 3 ∧ j = p ∧ t = 5) → ¬ (k = 17 ∧ j = p ∧ t = nv r (69 + p) - 1) → sd' k j t = sd k j t) ∧ sd' 3 p 3 = nI (nv r (59 + p) + ldN r p) ∧ sd' 3 p 5 = nI 0 ∧ sd' 17 p (nv r (69 + p) - 1) = sd 17 p (nv r (69 + p) - 1) + nI (ldN r p)
section CLO
variable {F : Nat} {b : Nat} {sd sd' md : SD} {r r' : RW} {p k0 : Nat}
theorem m_leadOut (hr : ∀ i, (i = 39 + p ∨ i = 59 + p) → md k0 0 i = r i) (hI : InvF F r) (hp : p < nv r 7) : f_X8_leadOut md k0 (nI p) = some (nI (ldN r p)) := by
  have l7 := hI.l7
  obtain ⟨-, ⟨c1, c2⟩, s1, ⟨e1, e2⟩, n1, o1, o2⟩ := hI.plt p hp
  have lc := c1.l
  have eu : nI (nv r (39 + p)) - nI (nv r (59 + p)) = nI (nv r (39 + p) - nv r (59 + p)) := pk_sub e2
  unfold f_X8_leadOut ldN
  simp (disch := omega) only [xg, vinT, la, nI_clamp, hr (39 + p) (Or.inl rfl), hr (59 + p) (Or.inr rfl), c1.e, e1.e, eu, rlt]
  split <;> rfl
theorem m_closes (hr : md k0 0 = r) (hI : InvF F r) (hp : p < nv r 7) (ho : nv r (79 + p) = 1) : ∃ m', f_X8_closes md k0 (nI p) = some m' ∧ MK k0 md m' ∧ CV r (m' k0 0) p := by
  have l7 := hI.l7
  obtain ⟨-, ⟨c1, c2⟩, s1, ⟨e1, e2⟩, n1, o1, o2⟩ := hI.plt p hp
  have lc := c1.l
  have le := e1.l
  have ln := n1.l
  have hs := o2 ho
  have hi : ∀ i, md k0 0 i = r i := fun i => by rw [hr]
  have ev : f_X8_closes md k0 (nI p) = some (upS (upS (upS md k0 0 (59 + p) (nI (nv r (59 + p) + ldN r p))) k0 0 (169 + 8 * p + (nv r (69 + p) - 1)) (r (169 + 8 * p + (nv r (69 + p) - 1)) + nI (ldN r p))) k0 0 (79 + p) 0) := by
    unfold f_X8_closes
    rw [m_leadOut (fun i _ => hi i) hI hp, xb]
    have es : 169 + 8 * p + nv r (69 + p) - 1 = 169 + 8 * p + (nv r (69 + p) - 1) := by omega
    simp (disch := omega) only [xl, xg, vinT, la, lm, nI_add, nI_clamp, hi, e1.e, upS_t, n1.e, rsu, es]
  refine ⟨_, ev, (((MK.rf k0 md).up (by omega)).up (by omega)).up (by omega), fun i h1 h2 h3 => ?_, ?_, ?_, ?_⟩
  · simp (disch := omega) only [upS_t, hi]
  all_goals simp (disch := omega) only [upS_t, upS_hit]
  all_goals rfl
theorem ld_le (r : RW) (p : Nat) : ldN r p ≤ 2 ∧ ldN r p ≤ nv r (39 + p) - nv r (59 + p) := by
  unfold ldN
  split <;> omega
theorem CV_inv (hI : InvF F r) (h : CV r r' p) (hp : p < nv r 7) (ho : nv r (79 + p) = 1) : InvF F r' := by
  have l6 := hI.l6
  have l7 := hI.l7
  have l8 := hI.l8
  have l9 := hI.lF
  have l10 := hI.l10
  have l16 := hI.l16
  obtain ⟨⟨h1, h2⟩, ⟨c1, c2⟩, s1, ⟨e1, e2⟩, n1, o1, o2⟩ := hI.plt p hp
  have lc := c1.l
  have ln := n1.l
  have hs := o2 ho
  have ll := ld_le r p
  obtain ⟨a0, a59, a79, a169⟩ := h
  have b0 : ∀ i, i ≠ 59 + p → i ≠ 79 + p → i ≠ 169 + 8 * p + (nv r (69 + p) - 1) → nv r' i = nv r i := fun i k1 k2 k3 => nv_eq (a0 i k1 k2 k3)
  have v59 := nv_of a59 (by omega)
  have v79 := nv_of a79 (by decide)
  refine ⟨?_, ?_, ?_, ?_, ?_, ?_, ?_, ?_, ?_, ?_, ?_, ?_, hI.lF⟩
  · have g := hI.1
    unfold I_cnt isN at g ⊢
    simp (disch := omega) only [a0, b0]
    exact g
  · have g := hI.tim
    unfold I_tim isN at g ⊢
    simp (disch := omega) only [a0, b0]
    exact g
  · have g := hI.pick
    unfold I_pick isN at g ⊢
    simp (disch := omega) only [a0, b0]
    exact g
  · intro d hd
    simp (disch := omega) only [b0] at hd
    have g := hI.drv d hd
    unfold isN at g ⊢
    simp (disch := omega) only [a0, b0]
    exact g
  · intro d e hd he
    simp (disch := omega) only [b0] at hd he
    simp (disch := omega) only [a0]
    exact hI.drd d e hd he
  · intro q hq
    simp (disch := omega) only [b0] at hq
    by_cases z : q = p
    · subst z
      have g := hI.plt q hq
      rw [v59, v79]
      have i59 : isN r' (59 + q) 300 := isN_nI a59 (by omega) (by omega)
      have i79 : isN r' (79 + q) 1 := isN_nI a79 (by omega) (by omega)
      unfold isN at g h1 c1 s1 n1 ⊢
      unfold isN at i59 i79
      refine ⟨?_, ?_, ?_, ⟨i59, ?_⟩, ?_, i79, fun h => by omega⟩
      · simp (disch := omega) only [a0, b0]; exact ⟨h1, h2⟩
      · simp (disch := omega) only [a0, b0]; exact ⟨c1, c2⟩
      · simp (disch := omega) only [a0, b0]; exact s1
      · simp (disch := omega) only [b0]; omega
      · simp (disch := omega) only [a0, b0]; exact n1
    · have g := hI.plt q hq
      unfold isN at g ⊢
      simp (disch := omega) only [a0, b0]
      exact g
  · intro x y hx hy hxy
    simp (disch := omega) only [b0] at hx hy
    simp (disch := omega) only [a0] at hxy
    exact hI.hom x y hx hy hxy
  · intro k hk
    simp (disch := omega) only [b0] at hk
    have g := hI.bad k hk
    have g9 := g.1.1.l
    unfold isN at g ⊢
    simp (disch := omega) only [a0, b0]
    exact g
  · intro k l hk hl h3 h4
    simp (disch := omega) only [b0] at hk hl
    simp (disch := omega) only [a0] at h3 h4
    exact hI.bdd k l hk hl h3 h4
  · intro g hg
    have w := hI.cur g hg
    unfold isN at w ⊢
    simp (disch := omega) only [a0, b0]
    exact w
  · intro v hv
    simp (disch := omega) only [b0] at hv
    obtain ⟨g1, ⟨g3, g4⟩, g5, g6, g7, ⟨g8, g9⟩, g10, g11⟩ := hI.ver v hv
    have g3l := g3.l
    have y59 : nv r (59 + nv r (349 + v)) ≤ nv r' (59 + nv r (349 + v)) := by
      by_cases w : nv r (349 + v) = p
      · rw [w, v59]; omega
      · have : nv r' (59 + nv r (349 + v)) = nv r (59 + nv r (349 + v)) := by simp (disch := omega) only [b0]
        omega
    unfold isN at g1 g3 g5 g6 g8 g10 g11 ⊢
    simp (disch := omega) only [a0, b0 (309 + v), b0 (349 + v), b0 (389 + v), b0 (429 + v), b0 (469 + v), b0 (509 + v), b0 (549 + v), b0 7, b0 (69 + nv r (349 + v))]
    exact ⟨g1, ⟨g3, g4⟩, g5, g6, by omega, ⟨g8, g9⟩, g10, g11⟩
  · intro q hq
    simp (disch := omega) only [b0] at hq
    have w := hI.req q hq
    unfold isN at w ⊢
    simp (disch := omega) only [a0, b0]
    exact w
theorem c_addLeadOut (hI : InvF F r) (hR : RelF F b sd r) (hp : p < nv r 7) (ho : nv r (79 + p) = 1) : ∃ sd', f_X3_addLeadOut sd p = some (nI (ldN r p), sd') ∧ CC sd sd' r p := by
  obtain ⟨-, ⟨c1, c2⟩, s1, ⟨e1, e2⟩, n1, o1, o2⟩ := hI.plt p hp
  have lc := c1.l
  have ln := n1.l
  have hs := o2 ho
  obtain ⟨p0, p1, p2, p3, p4, p5⟩ := hR.pl p hp
  have eu : sd 3 p 1 - sd 3 p 3 = nI (nv r (39 + p) - nv r (59 + p)) := by
    rw [p1, p3, c1.e, e1.e]
    exact pk_sub e2
  have el : (if nI (nv r (39 + p) - nv r (59 + p)) < (2 : Int32) then nI (nv r (39 + p) - nv r (59 + p)) else 2) = nI (ldN r p) := by
    unfold ldN
    simp (disch := omega) only [rlt]
    split <;> rfl
  have q4 : sd 3 p 4 = nI (nv r (69 + p)) := by rw [p4]; exact n1.e
  have q3 : sd 3 p 3 = nI (nv r (59 + p)) := by rw [p3]; exact e1.e
  have ev : f_X3_addLeadOut sd p = some (nI (ldN r p), upS (upS (upS sd 17 p (nv r (69 + p) - 1) (sd 17 p (nv r (69 + p) - 1) + nI (ldN r p))) 3 p 3 (nI (nv r (59 + p) + ldN r p))) 3 p 5 0) := by
    unfold f_X3_addLeadOut f_X3_unused f_X3_extendLastSession
    rw [eu, xb, xl, el]
    simp (disch := omega) only [xl, xg, xb, vinT, q4, rle, llt, if_neg, rsu, nI_clamp, upS_k, q3, nI_add]
  refine ⟨_, ev, fun k j t k1 k2 k3 => ?_, ?_, ?_, ?_⟩
  · simp only [upS]
    rw [if_neg k2, if_neg k1, if_neg k3]
  all_goals simp (disch := omega) only [upS_k, upS_t, upS_hit]
  all_goals rfl
theorem CV_rel (hI : InvF F r) (hR : RelF F b sd r) (h : CV r r' p) (hw : CC sd sd' r p) (hp : p < nv r 7) (ho : nv r (79 + p) = 1) : RelF F b sd' r' := by
  have l6 := hI.l6
  have l7 := hI.l7
  have l8 := hI.l8
  have l9 := hI.lF
  have l10 := hI.l10
  have l16 := hI.l16
  obtain ⟨-, -, -, -, n1, o1, o2⟩ := hI.plt p hp
  have ln := n1.l
  have hs := o2 ho
  obtain ⟨a0, a59, a79, a169⟩ := h
  obtain ⟨w0, w3, w5, w17⟩ := hw
  have b0 : ∀ i, i ≠ 59 + p → i ≠ 79 + p → i ≠ 169 + 8 * p + (nv r (69 + p) - 1) → nv r' i = nv r i := fun i k1 k2 k3 => nv_eq (a0 i k1 k2 k3)
  refine ⟨?_, ?_, ?_, ?_, ?_, ?_, ?_, ?_, ?_, ?_⟩
  · have g := hR.sc
    unfold R_sc at g ⊢
    simp (disch := omega) only [a0, w0]
    exact g
  · have g := hR.tm
    unfold R_tm at g ⊢
    simp (disch := omega) only [a0, w0]
    exact g
  · intro d hd
    simp (disch := omega) only [b0] at hd
    simp (disch := omega) only [a0, w0]
    exact hR.dr d hd
  · refine us_same hR.us (Nat.le_refl _) (b0 6 (by omega) (by omega) (by omega)) (w0 _ _ _ (by omega) (by omega) (by omega)) (fun e => w0 _ _ _ (by omega) (by omega) (by omega)) (a0 _ (by omega) (by omega) (by omega)) (fun e he => a0 _ (by omega) (by omega) (by omega))
  · intro q hq
    simp (disch := omega) only [b0] at hq
    have g := hR.pl q hq
    by_cases z : q = p
    · subst z
      rw [w3, w5, a59, a79]
      simp (disch := omega) only [a0, w0]
      exact ⟨g.1, g.2.1, g.2.2.1, trivial, g.2.2.2.2.1, trivial⟩
    · simp (disch := omega) only [a0, w0]
      exact g
  · intro q s hq hs2
    simp (disch := omega) only [b0] at hq
    simp (disch := omega) only [b0] at hs2
    have ln2 := (hI.plt q hq).2.2.2.2.1.l
    have g := hR.se q s hq hs2
    by_cases z : q = p ∧ s = nv r (69 + p) - 1
    · obtain ⟨rfl, rfl⟩ := z
      rw [w17, a169, g.2]
      simp (disch := omega) only [a0, w0]
      exact ⟨g.1, trivial⟩
    · have z2 : 169 + 8 * q + s ≠ 169 + 8 * p + (nv r (69 + p) - 1) := by omega
      rw [w0 17 q s (by omega) (by omega) (by omega), a0 _ (by omega) (by omega) z2]
      simp (disch := omega) only [a0, w0]
      exact g
  · intro q s hq hs2
    simp (disch := omega) only [b0] at hq
    have g := hR.bd q s hq hs2
    unfold bdc bdm at g ⊢
    rw [b0 8 (by omega) (by omega) (by omega), w0 _ _ _ (by omega) (by omega) (by omega), g]
    constructor
    · rintro ⟨k, k1, k2, k3⟩
      refine ⟨k, k1, ?_, ?_⟩
      · simp (disch := omega) only [a0]; exact k2
      · simp (disch := omega) only [a0]; exact k3
    · rintro ⟨k, k1, k2, k3⟩
      simp (disch := omega) only [a0] at k2 k3
      exact ⟨k, k1, k2, k3⟩
  · intro g hg
    have e := hR.cu g hg
    simp (disch := omega) only [a0, w0]
    exact e
  · intro v hv
    simp (disch := omega) only [b0] at hv
    have e := hR.ve v hv
    simp (disch := omega) only [a0, w0]
    exact e
  · intro q hq
    simp (disch := omega) only [b0] at hq
    have e := hR.rq q hq
    simp (disch := omega) only [a0, w0]
    exact e
end CLO
end
section
/-! Layer 2: a sector goes bad -/
def SV (r r' : RW) (p s : Nat) : Prop := (∀ i, i ≠ 8 → i ≠ 249 + nv r 8 → i ≠ 269 + nv r 8 → ¬ (549 ≤ i ∧ i < 589) → r' i = r i) ∧ r' 8 = nI (nv r 8 + 1) ∧ r' (249 + nv r 8) = nI p ∧ r' (269 + nv r 8) = nI s ∧ ∀ v, v < 40 → r' (549 + v) = if verQ r p s = nI v then 1 else r (549 + v)
def SC (sd sd' : SD) (r : RW) (p s : Nat) : Prop := (∀ k j t, ¬ (k = 18 ∧ j = p) → ¬ (k = 4 ∧ j = 0 ∧ t = 7) → ¬ (k = 6 ∧ t = 6) → sd' k j t = sd k j t) ∧ sd' 4 0 7 = nI (nv r 8 + 1) ∧ (∀ u, u < 300 → bdc sd' p u = (bdc sd p u || decide (u = s))) ∧ ∀ v, v < 40 → sd' 6 v 6 = if verQ r p s = nI v then 1 else sd 6 v 6
section SPO
variable {F : Nat} {b : Nat} {sd sd' md : SD} {r r' : RW} {p s k0 : Nat}
theorem m_versionAt' (hr : ∀ i, (i = 10 ∨ (349 ≤ i ∧ i < 469)) → md k0 0 i = r i) (hI : InvF F r) (hs : s < 300) : f_X8_versionAt md k0 (nI p) (nI s) = some (verQ r p s) := by
  have l10 := hI.l10
  unfold f_X8_versionAt
  refine srch0 (L := fun n v => f_X8_versionAt_L2 md k0 (nI p) (nI s) n v) (by omega) (fun n => ?_) (fun n d hd => ?_)
  · show f_X8_versionAt_L2 md k0 (nI p) (nI s) (n + 1) (nI (nv r 10)) = _
    rw [f_X8_versionAt_L2, hr 10 (by omega), hI.c10]
    exact if_pos (nI_le (Nat.le_refl _) (by omega))
  · show f_X8_versionAt_L2 md k0 (nI p) (nI s) (n + 1) (nI d) = _
    have v := hI.ver d hd
    have l2 := v.2.2.1.l
    have l3 := v.2.2.2.1.l
    rw [f_X8_versionAt_L2, hr 10 (by omega), hI.c10]
    simp (disch := omega) only [xl, xg, xb, vinT, nI_clamp, la, ra, if_neg, nI_leI, hr, v.2.2.1.e, v.2.2.2.1.e, isInR, decide_eq_true_eq]
    by_cases h1 : r (349 + d) = nI p
    · by_cases h2 : nv r (389 + d) ≤ s ∧ s < nv r (389 + d) + nv r (429 + d)
      · simp [h1, h2]
      · simp [h1, h2]
    · simp [h1]
theorem va_congr (h9 : sd' 4 0 9 = sd 4 0 9) (h6 : ∀ j t, t ≠ 6 → sd' 6 j t = sd 6 j t) (a c : Int32) : f_X4_versionAt sd' a c = f_X4_versionAt sd a c := by
  unfold f_X4_versionAt
  have key : ∀ n v, f_X4_versionAt_L2 sd' a c n v = f_X4_versionAt_L2 sd a c n v := by
    intro n
    induction n with
    | zero => intro v; rfl
    | succ n ih =>
      intro v
      rw [f_X4_versionAt_L2, f_X4_versionAt_L2]
      unfold f_X6_holds
      simp only [h9, h6 _ 1 (by decide), h6 _ 2 (by decide), h6 _ 3 (by decide), ih]
  exact key _ _
theorem m_marks (hr : md k0 0 = r) (hI : InvF F r) (hB : nv r 8 < 20) (hs : s < 300) : ∃ m', f_X8_marks md k0 (nI p) (nI s) = some m' ∧ MK k0 md m' ∧ SV r (m' k0 0) p s := by
  have l10 := hI.l10
  have c8 := hI.c8
  have hi : ∀ i, md k0 0 i = r i := fun i => by rw [hr]
  obtain ⟨m5, hm5⟩ : ∃ m5, m5 = upS (upS (upS md k0 0 (249 + nv r 8) (nI p)) k0 0 (269 + nv r 8) (nI s)) k0 0 8 (nI (nv r 8 + 1)) := ⟨_, rfl⟩
  have q0 : ∀ i, i ≠ 8 → i ≠ 249 + nv r 8 → i ≠ 269 + nv r 8 → m5 k0 0 i = r i := fun i h1 h2 h3 => by rw [hm5]; simp (disch := omega) only [upS_t, hi]
  have q8 : m5 k0 0 8 = nI (nv r 8 + 1) := by rw [hm5, upS_hit]
  have q249 : m5 k0 0 (249 + nv r 8) = nI p := by rw [hm5]; simp (disch := omega) only [upS_t, upS_hit]
  have q269 : m5 k0 0 (269 + nv r 8) = nI s := by rw [hm5]; simp (disch := omega) only [upS_t, upS_hit]
  have hmk : MK k0 md m5 := by rw [hm5]; exact (((MK.rf k0 md).up (by omega)).up (by omega)).up (by omega)
  have hva := m_versionAt' (md := m5) (k0 := k0) (p := p) (s := s) (fun i h => q0 i (by omega) (by omega) (by omega)) hI hs
  have ev : f_X8_marks md k0 (nI p) (nI s) = (if verQ r p s = -1 then some m5 else x_guard (vp_in ((549 : Int32) + verQ r p s) 605) (some (upS m5 k0 0 ((549 : Int32) + verQ r p s).toNatClampNeg 1))) := by
    unfold f_X8_marks
    simp (disch := omega) only [xl, xg, vinT, la, ra, nI_clamp, hi, c8, upS_t]
    rw [← hm5, hva, xb]
  rcases verQ_cases r p s with ⟨h1, h2⟩ | ⟨v, h1, h2, h3⟩
  · rw [h1, if_pos rfl] at ev
    refine ⟨m5, ev, hmk, fun i k1 k2 k3 _ => q0 i k1 k2 k3, q8, q249, q269, fun v hv => ?_⟩
    rw [h1, if_neg (by rw [m1n (by omega)]; exact id)]
    exact q0 _ (by omega) (by omega) (by omega)
  · rw [h2, if_neg (by rw [nm1 (by omega)]; exact id)] at ev
    simp (disch := omega) only [xg, vinT, la, nI_clamp] at ev
    refine ⟨_, ev, hmk.up (by omega), fun i k1 k2 k3 k4 => ?_, ?_, ?_, ?_, fun u hu => ?_⟩
    · rw [upS_t (by omega)]; exact q0 i k1 k2 k3
    · rw [upS_t (by omega)]; exact q8
    · rw [upS_t (by omega)]; exact q249
    · rw [upS_t (by omega)]; exact q269
    · rw [h2]
      by_cases z : u = v
      · subst z; rw [upS_hit, if_pos rfl]
      · rw [upS_t (by omega), if_neg (by rw [nI_eq (by omega) (by omega)]; omega)]
        exact q0 _ (by omega) (by omega) (by omega)
theorem c_spoil (hI : InvF F r) (hR : RelF F b sd r) (hp : p < nv r 7) (hB : nv r 8 < 20) (hs : s < 300) : ∃ sd', f_X4_spoil sd (nI p) (nI s) = some sd' ∧ SC sd sd' r p s := by
  have l7 := hI.l7
  have l10 := hI.l10
  have e32 : nI s / (32 : Int32) = nI (s / 32) := rdi (by omega) (by decide) (by decide)
  have er : nI s - nI (s / 32) * (32 : Int32) = nI (s % 32) := by
    rw [← e32]
    exact pk_rem (a := s) (d := 32) (by omega) (by decide) (by decide)
  obtain ⟨s3, hs3⟩ : ∃ s3, s3 = upS (upS sd 18 p (s / 32) (sd 18 p (s / 32) ||| ((1 : Int32) <<< (nI (s % 32) &&& 31)))) 4 0 7 (nI (nv r 8 + 1)) := ⟨_, rfl⟩
  have k3 : ∀ k j t, ¬ (k = 18 ∧ j = p) → ¬ (k = 4 ∧ j = 0 ∧ t = 7) → s3 k j t = sd k j t := fun k j t h1 h2 => by
    rw [hs3]
    simp only [upS]
    rw [if_neg h2, if_neg (by omega)]
  have q7 : s3 4 0 7 = nI (nv r 8 + 1) := by rw [hs3, upS_hit]
  have qb : ∀ u, u < 300 → bdc s3 p u = (bdc sd p u || decide (u = s)) := fun u hu => by
    unfold bdc
    rw [hs3, upS_k (by omega)]
    by_cases z : u / 32 = s / 32
    · rw [z, upS_hit, bit_o _ (by omega) (by omega)]
      congr 1
      have : (u % 32 = s % 32) ↔ (u = s) := by omega
      simp only [this]
    · rw [upS_t z]
      have : ¬ (u = s) := fun y => z (by rw [y])
      simp [this]
  have hva : f_X4_versionAt s3 (nI p) (nI s) = some (verQ r p s) := by
    rw [va_congr (sd := sd) (k3 _ _ _ (by omega) (by omega)) (fun j t _ => k3 _ _ _ (by omega) (by omega))]
    exact c_versionAt hI hR hs
  have c7 : sd 4 0 7 = nI (nv r 8) := by rw [hR.s7]; exact hI.c8
  have ev : f_X4_spoil sd (nI p) (nI s) = (if verQ r p s = -1 then some s3 else x_guard (vp_in (verQ r p s) 40) (some (upS s3 6 (verQ r p s).toNatClampNeg 6 1))) := by
    unfold f_X4_spoil f_X3_setBad
    rw [e32, er]
    simp (disch := omega) only [xl, xg, xb, vinT, nI_clamp, nneg, if_false, lle, if_neg, upS_k, c7, ra]
    rw [← hs3, hva, xb]
  rcases verQ_cases r p s with ⟨h1, h2⟩ | ⟨v, h1, h2, h3⟩
  · rw [h1, if_pos rfl] at ev
    refine ⟨s3, ev, fun k j t k1 k2 _ => k3 k j t k1 k2, q7, qb, fun v hv => ?_⟩
    rw [h1, if_neg (by rw [m1n (by omega)]; exact id)]
    exact k3 _ _ _ (by omega) (by omega)
  · rw [h2, if_neg (by rw [nm1 (by omega)]; exact id)] at ev
    simp (disch := omega) only [xg, vinT, nI_clamp] at ev
    refine ⟨_, ev, fun k j t k1 k2 k4 => ?_, ?_, fun u hu => ?_, fun u hu => ?_⟩
    · simp only [upS]
      rw [if_neg (by omega)]
      exact k3 k j t k1 k2
    · rw [upS_k (by omega)]; exact q7
    · have : bdc (upS s3 6 v 6 1) p u = bdc s3 p u := by unfold bdc; rw [upS_k (by omega)]
      rw [this]; exact qb u hu
    · rw [h2]
      by_cases z : u = v
      · subst z; rw [upS_hit, if_pos rfl]
      · rw [upS_j z, if_neg (by rw [nI_eq (by omega) (by omega)]; omega)]
        exact k3 _ _ _ (by omega) (by omega)
theorem SV_inv (hI : InvF F r) (h : SV r r' p s) (hp : p < nv r 7) (hB : nv r 8 < 20) (hs : s < nv r (39 + p)) (hnew : ¬ bdm r p s) : InvF F r' := by
  have l6 := hI.l6
  have l7 := hI.l7
  have l8 := hI.l8
  have l9 := hI.lF
  have l10 := hI.l10
  have l16 := hI.l16
  have lc := (hI.plt p hp).2.1.1.l
  obtain ⟨a0, a8, a249, a269, a549⟩ := h
  have b0 : ∀ i, i ≠ 8 → i ≠ 249 + nv r 8 → i ≠ 269 + nv r 8 → ¬ (549 ≤ i ∧ i < 589) → nv r' i = nv r i := fun i k1 k2 k3 k4 => nv_eq (a0 i k1 k2 k3 k4)
  have v8 := nv_of a8 (by omega)
  refine ⟨?_, ?_, ?_, ?_, ?_, ?_, ?_, ?_, ?_, ?_, ?_, ?_, hI.lF⟩
  · have g := hI.1
    have i8 : isN r' 8 20 := isN_nI a8 (by omega) (by omega)
    unfold I_cnt at g ⊢
    unfold isN at g ⊢
    unfold isN at i8
    simp (disch := omega) only [a0, b0]
    exact ⟨g.1, g.2.1, g.2.2.1, g.2.2.2.1, i8, g.2.2.2.2.2⟩
  · have g := hI.tim
    unfold I_tim isN at g ⊢
    simp (disch := omega) only [a0, b0]
    exact g
  · have g := hI.pick
    unfold I_pick isN at g ⊢
    simp (disch := omega) only [a0, b0]
    exact g
  · intro d hd
    simp (disch := omega) only [b0] at hd
    have g := hI.drv d hd
    unfold isN at g ⊢
    simp (disch := omega) only [a0, b0]
    exact g
  · intro d e hd he
    simp (disch := omega) only [b0] at hd he
    simp (disch := omega) only [a0]
    exact hI.drd d e hd he
  · intro q hq
    simp (disch := omega) only [b0] at hq
    have g := hI.plt q hq
    unfold isN at g ⊢
    simp (disch := omega) only [a0, b0]
    exact g
  · intro x y hx hy hxy
    simp (disch := omega) only [b0] at hx hy
    simp (disch := omega) only [a0] at hxy
    exact hI.hom x y hx hy hxy
  · intro k hk
    rw [v8] at hk
    by_cases z : k = nv r 8
    · subst z
      rw [nv_of a249 (by omega), nv_of a269 (by omega)]
      refine ⟨⟨isN_nI a249 (by omega) (by omega), ?_⟩, isN_nI a269 (by omega) (by omega), ?_⟩
      · simp (disch := omega) only [b0]; exact hp
      · simp (disch := omega) only [b0]; exact hs
    · have g := hI.bad k (by omega)
      have g9 := g.1.1.l
      unfold isN at g ⊢
      simp (disch := omega) only [a0, b0]
      exact g
  · intro k l hk hl h3 h4
    rw [v8] at hk hl
    by_cases z : k = nv r 8
    · by_cases y : l = nv r 8
      · omega
      · subst z
        rw [a249, a0 (249 + l) (by omega) (by omega) (by omega) (by omega)] at h3
        rw [a269, a0 (269 + l) (by omega) (by omega) (by omega) (by omega)] at h4
        exact absurd ⟨l, by omega, h3.symm, h4.symm⟩ hnew
    · by_cases y : l = nv r 8
      · subst y
        rw [a249, a0 (249 + k) (by omega) (by omega) (by omega) (by omega)] at h3
        rw [a269, a0 (269 + k) (by omega) (by omega) (by omega) (by omega)] at h4
        exact absurd ⟨k, by omega, h3, h4⟩ hnew
      · simp (disch := omega) only [a0] at h3 h4
        exact hI.bdd k l (by omega) (by omega) h3 h4
  · intro g hg
    have w := hI.cur g hg
    unfold isN at w ⊢
    simp (disch := omega) only [a0, b0]
    exact w
  · intro v hv
    simp (disch := omega) only [b0] at hv
    obtain ⟨g1, ⟨g3, g4⟩, g5, g6, g7, ⟨g8, g9⟩, g10, g11⟩ := hI.ver v hv
    have g3l := g3.l
    have i549 : isN r' (549 + v) 1 := by
      have e := a549 v (by omega)
      by_cases z : verQ r p s = nI v
      · rw [if_pos z] at e
        exact isN_nI (n := 1) e (by omega) (by omega)
      · rw [if_neg z] at e
        exact isN_eq e g11
    unfold isN at g1 g3 g5 g6 g8 g10 ⊢
    unfold isN at i549
    simp (disch := omega) only [a0, b0]
    exact ⟨g1, ⟨g3, g4⟩, g5, g6, g7, ⟨g8, g9⟩, g10, i549⟩
  · intro q hq
    simp (disch := omega) only [b0] at hq
    have w := hI.req q hq
    unfold isN at w ⊢
    simp (disch := omega) only [a0, b0]
    exact w
theorem SV_rel (hI : InvF F r) (hR : RelF F b sd r) (h : SV r r' p s) (hw : SC sd sd' r p s) (hp : p < nv r 7) (hB : nv r 8 < 20) (hs : s < 300) : RelF F b sd' r' := by
  have l6 := hI.l6
  have l7 := hI.l7
  have l8 := hI.l8
  have l9 := hI.lF
  have l10 := hI.l10
  have l16 := hI.l16
  obtain ⟨a0, a8, a249, a269, a549⟩ := h
  obtain ⟨w0, w7, wb, w6⟩ := hw
  have b0 : ∀ i, i ≠ 8 → i ≠ 249 + nv r 8 → i ≠ 269 + nv r 8 → ¬ (549 ≤ i ∧ i < 589) → nv r' i = nv r i := fun i k1 k2 k3 k4 => nv_eq (a0 i k1 k2 k3 k4)
  have v8 := nv_of a8 (by omega)
  refine ⟨?_, ?_, ?_, ?_, ?_, ?_, ?_, ?_, ?_, ?_⟩
  · have g := hR.sc
    unfold R_sc at g ⊢
    rw [w7, a8]
    simp (disch := omega) only [a0, w0]
    exact ⟨g.1, g.2.1, g.2.2.1, trivial, g.2.2.2.2⟩
  · have g := hR.tm
    unfold R_tm at g ⊢
    simp (disch := omega) only [a0, w0]
    exact g
  · intro d hd
    simp (disch := omega) only [b0] at hd
    simp (disch := omega) only [a0, w0]
    exact hR.dr d hd
  · refine us_same hR.us (Nat.le_refl _) (b0 6 (by omega) (by omega) (by omega) (by omega)) (w0 _ _ _ (by omega) (by omega) (by omega)) (fun e => w0 _ _ _ (by omega) (by omega) (by omega)) (a0 _ (by omega) (by omega) (by omega) (by omega)) (fun e he => a0 _ (by omega) (by omega) (by omega) (by omega))
  · intro q hq
    simp (disch := omega) only [b0] at hq
    have g := hR.pl q hq
    simp (disch := omega) only [a0, w0]
    exact g
  · intro q t hq ht
    simp (disch := omega) only [b0] at hq
    simp (disch := omega) only [b0] at ht
    have ln2 := (hI.plt q hq).2.2.2.2.1.l
    have g := hR.se q t hq ht
    simp (disch := omega) only [a0, w0]
    exact g
  · intro q u hq hu
    simp (disch := omega) only [b0] at hq
    have g := hR.bd q u hq hu
    have hbm : bdm r' q u ↔ (bdm r q u ∨ (q = p ∧ u = s)) := by
      unfold bdm
      rw [v8]
      constructor
      · rintro ⟨k, k1, k2, k3⟩
        by_cases z : k = nv r 8
        · subst z
          rw [a249] at k2
          rw [a269] at k3
          exact Or.inr ⟨((nI_eq (by omega) (by omega)).mp k2).symm, ((nI_eq (by omega) (by omega)).mp k3).symm⟩
        · simp (disch := omega) only [a0] at k2 k3
          exact Or.inl ⟨k, by omega, k2, k3⟩
      · rintro (⟨k, k1, k2, k3⟩ | ⟨rfl, rfl⟩)
        · refine ⟨k, by omega, ?_, ?_⟩
          · simp (disch := omega) only [a0]; exact k2
          · simp (disch := omega) only [a0]; exact k3
        · exact ⟨nv r 8, by omega, a249, a269⟩
    rw [hbm, ← g]
    by_cases z : q = p
    · subst z
      rw [wb u hu]
      simp
    · have : bdc sd' q u = bdc sd q u := by unfold bdc; rw [w0 _ _ _ (by omega) (by omega) (by omega)]
      rw [this]
      simp [z]
  · intro g hg
    have e := hR.cu g hg
    simp (disch := omega) only [a0, w0]
    exact e
  · intro v hv
    simp (disch := omega) only [b0] at hv
    have e := hR.ve v hv
    rw [w6 v (by omega), a549 v (by omega), e.2.2.2.2.2.2]
    simp (disch := omega) only [a0, w0]
    exact ⟨e.1, e.2.1, e.2.2.1, e.2.2.2.1, e.2.2.2.2.1, e.2.2.2.2.2.1, trivial⟩
  · intro q hq
    simp (disch := omega) only [b0] at hq
    have e := hR.rq q hq
    simp (disch := omega) only [a0, w0]
    exact e
end SPO
end
section
/-! Layer 2: homes, times, requests -/
section SMA
variable {F : Nat} {b : Nat} {sd sd' md : SD} {r r' : RW} {p k0 : Nat}
theorem home_step (hI : InvF F r) (hR : RelF F b sd r) (hp : p < nv r 7) {sl : Nat} (hs : sl < nv r 0) (hn : ∀ q, q < nv r 7 → r (29 + q) ≠ nI sl) : InvF F (rup r (29 + p) (nI sl)) ∧ RelF F b (upS sd 3 p 0 (nI sl)) (rup r (29 + p) (nI sl)) := by
  have l0 := hI.l0
  have l6 := hI.l6
  have l7 := hI.l7
  have l8 := hI.l8
  have l9 := hI.lF
  have l10 := hI.l10
  have l16 := hI.l16
  have a0 : ∀ i, i ≠ 29 + p → rup r (29 + p) (nI sl) i = r i := fun i h => rup_ne h
  have a29 : rup r (29 + p) (nI sl) (29 + p) = nI sl := rup_hit _ _ _
  generalize rup r (29 + p) (nI sl) = r' at a0 a29 ⊢
  have b0 : ∀ i, i ≠ 29 + p → nv r' i = nv r i := fun i k1 => nv_eq (a0 i k1)
  have w0 : ∀ k j t, ¬ (k = 3 ∧ j = p ∧ t = 0) → upS sd 3 p 0 (nI sl) k j t = sd k j t := fun k j t h => by simp only [upS]; rw [if_neg h]
  have w3 : upS sd 3 p 0 (nI sl) 3 p 0 = nI sl := upS_hit _ _ _ _ _
  generalize upS sd 3 p 0 (nI sl) = sd' at w0 w3 ⊢
  refine ⟨⟨?_, ?_, ?_, ?_, ?_, ?_, ?_, ?_, ?_, ?_, ?_, ?_, hI.lF⟩, ?_, ?_, ?_, ?_, ?_, ?_, ?_, ?_, ?_, ?_⟩
  · have g := hI.1
    unfold I_cnt isN at g ⊢
    simp (disch := omega) only [a0, b0]
    exact g
  · have g := hI.tim
    unfold I_tim isN at g ⊢
    simp (disch := omega) only [a0, b0]
    exact g
  · have g := hI.pick
    unfold I_pick isN at g ⊢
    simp (disch := omega) only [a0, b0]
    exact g
  · intro d hd
    simp (disch := omega) only [b0] at hd
    have g := hI.drv d hd
    unfold isN at g ⊢
    simp (disch := omega) only [a0, b0]
    exact g
  · intro d e hd he
    simp (disch := omega) only [b0] at hd he
    simp (disch := omega) only [a0]
    exact hI.drd d e hd he
  · intro q hq
    simp (disch := omega) only [b0] at hq
    have g := hI.plt q hq
    by_cases z : q = p
    · subst z
      have i29 : isN r' (29 + q) 23 := isN_nI a29 (by omega) (by omega)
      have v29 := nv_of a29 (by omega)
      unfold isN at g i29 ⊢
      rw [v29] at i29 ⊢
      simp (disch := omega) only [a0, b0]
      exact ⟨⟨i29, hs⟩, g.2⟩
    · unfold isN at g ⊢
      simp (disch := omega) only [a0, b0]
      exact g
  · intro x y hx hy hxy
    simp (disch := omega) only [b0] at hx hy
    by_cases z : x = p
    · by_cases w : y = p
      · omega
      · subst z
        rw [a29, a0 (29 + y) (by omega)] at hxy
        exact absurd hxy.symm (hn y hy)
    · by_cases w : y = p
      · subst w
        rw [a29, a0 (29 + x) (by omega)] at hxy
        exact absurd hxy (hn x hx)
      · rw [a0 (29 + x) (by omega), a0 (29 + y) (by omega)] at hxy
        exact hI.hom x y hx hy hxy
  · intro k hk
    simp (disch := omega) only [b0] at hk
    have g := hI.bad k hk
    have g9 := g.1.1.l
    unfold isN at g ⊢
    simp (disch := omega) only [a0, b0]
    exact g
  · intro k l hk hl h3 h4
    simp (disch := omega) only [b0] at hk hl
    simp (disch := omega) only [a0] at h3 h4
    exact hI.bdd k l hk hl h3 h4
  · intro g hg
    have w := hI.cur g hg
    unfold isN at w ⊢
    simp (disch := omega) only [a0, b0]
    exact w
  · intro v hv
    simp (disch := omega) only [b0] at hv
    have g := hI.ver v hv
    have g3l := g.2.1.1.l
    unfold isN at g ⊢
    simp (disch := omega) only [a0, b0]
    exact g
  · intro q hq
    simp (disch := omega) only [b0] at hq
    have w := hI.req q hq
    unfold isN at w ⊢
    simp (disch := omega) only [a0, b0]
    exact w
  · have g := hR.sc
    unfold R_sc at g ⊢
    simp (disch := omega) only [a0, w0]
    exact g
  · have g := hR.tm
    unfold R_tm at g ⊢
    simp (disch := omega) only [a0, w0]
    exact g
  · intro d hd
    simp (disch := omega) only [b0] at hd
    simp (disch := omega) only [a0, w0]
    exact hR.dr d hd
  · refine us_same hR.us (Nat.le_refl _) (b0 6 (by omega)) (w0 _ _ _ (by omega)) (fun e => w0 _ _ _ (by omega)) (a0 _ (by omega)) (fun e he => a0 _ (by omega))
  · intro q hq
    simp (disch := omega) only [b0] at hq
    have g := hR.pl q hq
    by_cases z : q = p
    · subst z
      rw [w3, a29]
      simp (disch := omega) only [a0, w0]
      exact ⟨trivial, g.2⟩
    · simp (disch := omega) only [a0, w0]
      exact g
  · intro q t hq ht
    simp (disch := omega) only [b0] at hq
    simp (disch := omega) only [b0] at ht
    have g := hR.se q t hq ht
    simp (disch := omega) only [a0, w0]
    exact g
  · intro q u hq hu
    simp (disch := omega) only [b0] at hq
    have g := hR.bd q u hq hu
    unfold bdc bdm at g ⊢
    simp (disch := omega) only [a0, b0, w0]
    exact g
  · intro g hg
    have e := hR.cu g hg
    simp (disch := omega) only [a0, w0]
    exact e
  · intro v hv
    simp (disch := omega) only [b0] at hv
    have e := hR.ve v hv
    simp (disch := omega) only [a0, w0]
    exact e
  · intro q hq
    simp (disch := omega) only [b0] at hq
    have e := hR.rq q hq
    simp (disch := omega) only [a0, w0]
    exact e
theorem time_step (hI : InvF F r) (hR : RelF F b sd r) {t1 t2 t3 t4 t5 : Nat} (h1 : t1 < 100) (h2 : t2 < 100) (h3 : t3 < 100) (h4 : t4 < 100) (h5 : t5 < 100) (a0 : ∀ i, ¬ (1 ≤ i ∧ i ≤ 5) → r' i = r i) (a1 : r' 1 = nI t1) (a2 : r' 2 = nI t2) (a3 : r' 3 = nI t3) (a4 : r' 4 = nI t4) (a5 : r' 5 = nI t5) (w0 : ∀ k j t, ¬ (k = 10 ∧ j = 0) → sd' k j t = sd k j t) (w1 : sd' 10 0 0 = nI t1) (w2 : sd' 10 0 1 = nI t2) (w3 : sd' 10 0 2 = nI t3) (w4 : sd' 10 0 3 = nI t4) (w5 : sd' 10 0 4 = nI t5) : InvF F r' ∧ RelF F b sd' r' := by
  have l6 := hI.l6
  have l7 := hI.l7
  have b0 : ∀ i, ¬ (1 ≤ i ∧ i ≤ 5) → nv r' i = nv r i := fun i k1 => nv_eq (a0 i k1)
  refine ⟨⟨?_, ?_, ?_, ?_, ?_, ?_, ?_, ?_, ?_, ?_, ?_, ?_, hI.lF⟩, ?_, ?_, ?_, ?_, ?_, ?_, ?_, ?_, ?_, ?_⟩
  · have g := hI.1
    unfold I_cnt isN at g ⊢
    simp (disch := omega) only [a0, b0]
    exact g
  · exact ⟨isN_nI a1 (by omega) (by omega), isN_nI a2 (by omega) (by omega), isN_nI a3 (by omega) (by omega), isN_nI a4 (by omega) (by omega), isN_nI a5 (by omega) (by omega)⟩
  · have g := hI.pick
    unfold I_pick isN at g ⊢
    simp (disch := omega) only [a0, b0]
    exact g
  · intro d hd
    simp (disch := omega) only [b0] at hd
    have g := hI.drv d hd
    unfold isN at g ⊢
    simp (disch := omega) only [a0, b0]
    exact g
  · intro d e hd he
    simp (disch := omega) only [b0] at hd he
    simp (disch := omega) only [a0]
    exact hI.drd d e hd he
  · intro q hq
    simp (disch := omega) only [b0] at hq
    have g := hI.plt q hq
    unfold isN at g ⊢
    simp (disch := omega) only [a0, b0]
    exact g
  · intro x y hx hy hxy
    simp (disch := omega) only [b0] at hx hy
    simp (disch := omega) only [a0] at hxy
    exact hI.hom x y hx hy hxy
  · intro k hk
    simp (disch := omega) only [b0] at hk
    have g := hI.bad k hk
    unfold isN at g ⊢
    simp (disch := omega) only [a0, b0]
    exact g
  · intro k l hk hl h3 h4
    simp (disch := omega) only [b0] at hk hl
    simp (disch := omega) only [a0] at h3 h4
    exact hI.bdd k l hk hl h3 h4
  · intro g hg
    have w := hI.cur g hg
    unfold isN at w ⊢
    simp (disch := omega) only [a0, b0]
    exact w
  · intro v hv
    simp (disch := omega) only [b0] at hv
    have g := hI.ver v hv
    unfold isN at g ⊢
    simp (disch := omega) only [a0, b0]
    exact g
  · intro q hq
    simp (disch := omega) only [b0] at hq
    have w := hI.req q hq
    unfold isN at w ⊢
    simp (disch := omega) only [a0, b0]
    exact w
  · have g := hR.sc
    unfold R_sc at g ⊢
    simp (disch := omega) only [a0, w0]
    exact g
  · exact ⟨w1.trans a1.symm, w2.trans a2.symm, w3.trans a3.symm, w4.trans a4.symm, w5.trans a5.symm⟩
  · intro d hd
    simp (disch := omega) only [b0] at hd
    simp (disch := omega) only [a0, w0]
    exact hR.dr d hd
  · refine us_same hR.us (Nat.le_refl _) (b0 6 (by omega)) (w0 _ _ _ (by omega)) (fun e => w0 _ _ _ (by omega)) (a0 _ (by omega)) (fun e he => a0 _ (by omega))
  · intro q hq
    simp (disch := omega) only [b0] at hq
    have g := hR.pl q hq
    simp (disch := omega) only [a0, w0]
    exact g
  · intro q t hq ht
    simp (disch := omega) only [b0] at hq
    simp (disch := omega) only [b0] at ht
    have g := hR.se q t hq ht
    simp (disch := omega) only [a0, w0]
    exact g
  · intro q u hq hu
    simp (disch := omega) only [b0] at hq
    have g := hR.bd q u hq hu
    unfold bdc bdm at g ⊢
    simp (disch := omega) only [a0, b0, w0]
    exact g
  · intro g hg
    have e := hR.cu g hg
    simp (disch := omega) only [a0, w0]
    exact e
  · intro v hv
    simp (disch := omega) only [b0] at hv
    have e := hR.ve v hv
    simp (disch := omega) only [a0, w0]
    exact e
  · intro q hq
    simp (disch := omega) only [b0] at hq
    have e := hR.rq q hq
    simp (disch := omega) only [a0, w0]
    exact e
theorem req_step (hI : InvF F r) (hR : RelF F b sd r) {Q : Nat} (hQ : Q ≤ 16) (a0 : ∀ i, i ≠ 16 → ¬ (589 ≤ i ∧ i < 605) → r' i = r i) (a16 : r' 16 = nI Q) (aq : ∀ k, k < Q → isN r' (589 + k) 19 ∧ nv r' (589 + k) < F) (w0 : ∀ k j t, ¬ (k = 15 ∧ j = 0) → ¬ (k = 4 ∧ j = 0 ∧ t = 13) → sd' k j t = sd k j t) (w13 : sd' 4 0 13 = nI Q) (wq : ∀ k, k < Q → sd' 15 0 k = r' (589 + k)) : InvF F r' ∧ RelF F b sd' r' := by
  have l6 := hI.l6
  have l7 := hI.l7
  have l8 := hI.l8
  have l9 := hI.lF
  have l10 := hI.l10
  have b0 : ∀ i, i ≠ 16 → ¬ (589 ≤ i ∧ i < 605) → nv r' i = nv r i := fun i k1 k2 => nv_eq (a0 i k1 k2)
  have v16 := nv_of a16 (by omega)
  refine ⟨⟨?_, ?_, ?_, ?_, ?_, ?_, ?_, ?_, ?_, ?_, ?_, ?_, hI.lF⟩, ?_, ?_, ?_, ?_, ?_, ?_, ?_, ?_, ?_, ?_⟩
  · have g := hI.1
    have i16 : isN r' 16 16 := isN_nI a16 hQ (by omega)
    unfold I_cnt at g ⊢
    unfold isN at g ⊢
    unfold isN at i16
    simp (disch := omega) only [a0, b0]
    exact ⟨g.1, g.2.1, g.2.2.1, g.2.2.2.1, g.2.2.2.2.1, g.2.2.2.2.2.1, g.2.2.2.2.2.2.1, i16⟩
  · have g := hI.tim
    unfold I_tim isN at g ⊢
    simp (disch := omega) only [a0, b0]
    exact g
  · have g := hI.pick
    unfold I_pick isN at g ⊢
    simp (disch := omega) only [a0, b0]
    exact g
  · intro d hd
    simp (disch := omega) only [b0] at hd
    have g := hI.drv d hd
    unfold isN at g ⊢
    simp (disch := omega) only [a0, b0]
    exact g
  · intro d e hd he
    simp (disch := omega) only [b0] at hd he
    simp (disch := omega) only [a0]
    exact hI.drd d e hd he
  · intro q hq
    simp (disch := omega) only [b0] at hq
    have g := hI.plt q hq
    unfold isN at g ⊢
    simp (disch := omega) only [a0, b0]
    exact g
  · intro x y hx hy hxy
    simp (disch := omega) only [b0] at hx hy
    simp (disch := omega) only [a0] at hxy
    exact hI.hom x y hx hy hxy
  · intro k hk
    simp (disch := omega) only [b0] at hk
    have g := hI.bad k hk
    have g9 := g.1.1.l
    unfold isN at g ⊢
    simp (disch := omega) only [a0, b0]
    exact g
  · intro k l hk hl h3 h4
    simp (disch := omega) only [b0] at hk hl
    simp (disch := omega) only [a0] at h3 h4
    exact hI.bdd k l hk hl h3 h4
  · intro g hg
    have w := hI.cur g hg
    unfold isN at w ⊢
    simp (disch := omega) only [a0, b0]
    exact w
  · intro v hv
    simp (disch := omega) only [b0] at hv
    have g := hI.ver v hv
    have g3l := g.2.1.1.l
    unfold isN at g ⊢
    simp (disch := omega) only [a0, b0]
    exact g
  · intro q hq
    rw [v16] at hq
    exact aq q hq
  · have g := hR.sc
    unfold R_sc at g ⊢
    rw [w13, a16]
    simp (disch := omega) only [a0, w0]
    exact ⟨g.1, g.2.1, g.2.2.1, g.2.2.2.1, g.2.2.2.2.1, g.2.2.2.2.2.1, trivial, g.2.2.2.2.2.2.2⟩
  · have g := hR.tm
    unfold R_tm at g ⊢
    simp (disch := omega) only [a0, w0]
    exact g
  · intro d hd
    simp (disch := omega) only [b0] at hd
    simp (disch := omega) only [a0, w0]
    exact hR.dr d hd
  · refine us_same hR.us (Nat.le_refl _) (b0 6 (by omega) (by omega)) (w0 _ _ _ (by omega) (by omega)) (fun e => w0 _ _ _ (by omega) (by omega)) (a0 _ (by omega) (by omega)) (fun e he => a0 _ (by omega) (by omega))
  · intro q hq
    simp (disch := omega) only [b0] at hq
    have g := hR.pl q hq
    simp (disch := omega) only [a0, w0]
    exact g
  · intro q t hq ht
    simp (disch := omega) only [b0] at hq
    simp (disch := omega) only [b0] at ht
    have ln2 := (hI.plt q hq).2.2.2.2.1.l
    have g := hR.se q t hq ht
    simp (disch := omega) only [a0, w0]
    exact g
  · intro q u hq hu
    simp (disch := omega) only [b0] at hq
    have g := hR.bd q u hq hu
    unfold bdc bdm at g ⊢
    rw [b0 8 (by omega) (by omega), w0 _ _ _ (by omega) (by omega), g]
    constructor
    · rintro ⟨k, k1, k2, k3⟩
      refine ⟨k, k1, ?_, ?_⟩
      · simp (disch := omega) only [a0]; exact k2
      · simp (disch := omega) only [a0]; exact k3
    · rintro ⟨k, k1, k2, k3⟩
      simp (disch := omega) only [a0] at k2 k3
      exact ⟨k, k1, k2, k3⟩
  · intro g hg
    have e := hR.cu g hg
    simp (disch := omega) only [a0, w0]
    exact e
  · intro v hv
    simp (disch := omega) only [b0] at hv
    have e := hR.ve v hv
    simp (disch := omega) only [a0, w0]
    exact e
  · intro q hq
    rw [v16] at hq
    exact wq q hq
end SMA
end
section
/-! Layer 2: the states before the edits -/
section CON
variable {F : Nat} {b : Nat} {sd : SD} {r r' : RW}
theorem InvF.congr (hI : InvF F r) (a0 : ∀ i, i < 605 → r' i = r i) : InvF F r' := by
  have l6 := hI.l6
  have l7 := hI.l7
  have l8 := hI.l8
  have l9 := hI.lF
  have l10 := hI.l10
  have l16 := hI.l16
  have b0 : ∀ i, i < 605 → nv r' i = nv r i := fun i k1 => nv_eq (a0 i k1)
  refine ⟨?_, ?_, ?_, ?_, ?_, ?_, ?_, ?_, ?_, ?_, ?_, ?_, hI.lF⟩
  · have g := hI.1
    unfold I_cnt isN at g ⊢
    simp (disch := omega) only [a0, b0]
    exact g
  · have g := hI.tim
    unfold I_tim isN at g ⊢
    simp (disch := omega) only [a0, b0]
    exact g
  · have g := hI.pick
    unfold I_pick isN at g ⊢
    simp (disch := omega) only [a0, b0]
    exact g
  · intro d hd
    simp (disch := omega) only [b0] at hd
    have g := hI.drv d hd
    unfold isN at g ⊢
    simp (disch := omega) only [a0, b0]
    exact g
  · intro d e hd he
    simp (disch := omega) only [b0] at hd he
    simp (disch := omega) only [a0]
    exact hI.drd d e hd he
  · intro q hq
    simp (disch := omega) only [b0] at hq
    have g := hI.plt q hq
    unfold isN at g ⊢
    simp (disch := omega) only [a0, b0]
    exact g
  · intro x y hx hy hxy
    simp (disch := omega) only [b0] at hx hy
    simp (disch := omega) only [a0] at hxy
    exact hI.hom x y hx hy hxy
  · intro k hk
    simp (disch := omega) only [b0] at hk
    have g := hI.bad k hk
    have g9 := g.1.1.l
    unfold isN at g ⊢
    simp (disch := omega) only [a0, b0]
    exact g
  · intro k l hk hl h3 h4
    simp (disch := omega) only [b0] at hk hl
    simp (disch := omega) only [a0] at h3 h4
    exact hI.bdd k l hk hl h3 h4
  · intro g hg
    have w := hI.cur g hg
    unfold isN at w ⊢
    simp (disch := omega) only [a0, b0]
    exact w
  · intro v hv
    simp (disch := omega) only [b0] at hv
    have g := hI.ver v hv
    have g3l := g.2.1.1.l
    unfold isN at g ⊢
    simp (disch := omega) only [a0, b0]
    exact g
  · intro q hq
    simp (disch := omega) only [b0] at hq
    have w := hI.req q hq
    unfold isN at w ⊢
    simp (disch := omega) only [a0, b0]
    exact w
theorem RelF.congr (hI : InvF F r) (hR : RelF F b sd r) (a0 : ∀ i, i < 605 → r' i = r i) : RelF F b sd r' := by
  have l6 := hI.l6
  have l7 := hI.l7
  have l8 := hI.l8
  have l9 := hI.lF
  have l10 := hI.l10
  have l16 := hI.l16
  have b0 : ∀ i, i < 605 → nv r' i = nv r i := fun i k1 => nv_eq (a0 i k1)
  refine ⟨?_, ?_, ?_, ?_, ?_, ?_, ?_, ?_, ?_, ?_⟩
  · have g := hR.sc
    unfold R_sc at g ⊢
    simp (disch := omega) only [a0]
    exact g
  · have g := hR.tm
    unfold R_tm at g ⊢
    simp (disch := omega) only [a0]
    exact g
  · intro d hd
    simp (disch := omega) only [b0] at hd
    simp (disch := omega) only [a0]
    exact hR.dr d hd
  · exact us_same hR.us (Nat.le_refl _) (b0 6 (by omega)) rfl (fun _ => rfl) (a0 _ (by omega)) (fun e he => a0 _ (by omega))
  · intro q hq
    simp (disch := omega) only [b0] at hq
    have g := hR.pl q hq
    simp (disch := omega) only [a0]
    exact g
  · intro q t hq ht
    simp (disch := omega) only [b0] at hq
    simp (disch := omega) only [b0] at ht
    have ln2 := (hI.plt q hq).2.2.2.2.1.l
    have g := hR.se q t hq ht
    simp (disch := omega) only [a0]
    exact g
  · intro q u hq hu
    simp (disch := omega) only [b0] at hq
    have g := hR.bd q u hq hu
    unfold bdm at g ⊢
    rw [b0 8 (by omega), g]
    constructor
    · rintro ⟨k, k1, k2, k3⟩
      refine ⟨k, k1, ?_, ?_⟩
      · simp (disch := omega) only [a0]; exact k2
      · simp (disch := omega) only [a0]; exact k3
    · rintro ⟨k, k1, k2, k3⟩
      simp (disch := omega) only [a0] at k2 k3
      exact ⟨k, k1, k2, k3⟩
  · intro g hg
    have e := hR.cu g hg
    simp (disch := omega) only [a0]
    exact e
  · intro v hv
    simp (disch := omega) only [b0] at hv
    have e := hR.ve v hv
    simp (disch := omega) only [a0]
    exact e
  · intro q hq
    simp (disch := omega) only [b0] at hq
    have e := hR.rq q hq
    simp (disch := omega) only [a0]
    exact e
theorem RelF.more {b' : Nat} (hR : RelF F b sd r) (h : b ≤ b') : RelF F b' sd r := ⟨hR.1, hR.2.1, hR.2.2.1, us_same hR.us h rfl rfl (fun _ => rfl) rfl (fun _ _ => rfl), hR.2.2.2.2⟩
theorem Inv.congr (hI : Inv r) (a0 : ∀ i, i < 605 → r' i = r i) : Inv r' := by
  have h := InvF.congr hI a0
  have e : nv r' 9 = nv r 9 := nv_eq (a0 9 (by omega))
  rw [← e] at h
  exact h
theorem Rel.congr (hI : Inv r) (hR : Rel b sd r) (a0 : ∀ i, i < 605 → r' i = r i) : Rel b sd r' := by
  have h := RelF.congr hI hR a0
  have e : nv r' 9 = nv r 9 := nv_eq (a0 9 (by omega))
  rw [← e] at h
  exact h
end CON
/-- a row of the past -/
def prow (m : SD) (k : Nat) : RW := fun i => m 33 0 (605 * k + i)
theorem m_rem52 {m : SD} {e : Nat} (he : e < 16) (h5 : m 8 0 5 = nI e) : ∃ m', f_X8_remembers_L52 fuel 0 m = some m' ∧ f_X8_remembers_L52b fuel 0 m = some m' ∧ m' 8 0 5 = nI (e + 1) ∧ (∀ k j t, k ≠ 33 → ¬ (k = 8 ∧ j = 0 ∧ t = 5) → m' k j t = m k j t) ∧ (∀ t, ¬ (605 * e ≤ t ∧ t < 605 * e + 605) → m' 33 0 t = m 33 0 t) ∧ ∀ i, i < 605 → m' 33 0 (605 * e + i) = m 30 0 i := by
  have hI : ∀ d (s : SD), (∀ k j t, s k j t = if k = 33 ∧ j = 0 ∧ 605 * e ≤ t ∧ t < 605 * e + d then m 30 0 (t - 605 * e) else m k j t) → s 8 0 5 = nI e := fun d s h => by rw [h, if_neg (by omega)]; exact h5
  have hstep : ∀ d (s : SD), d < 605 → (∀ k j t, s k j t = if k = 33 ∧ j = 0 ∧ 605 * e ≤ t ∧ t < 605 * e + d then m 30 0 (t - 605 * e) else m k j t) → ∀ k j t, upS s 33 0 (605 * e + d) (s 30 0 d) k j t = if k = 33 ∧ j = 0 ∧ 605 * e ≤ t ∧ t < 605 * e + (d + 1) then m 30 0 (t - 605 * e) else m k j t := by
    intro d s hd h k j t
    unfold upS
    by_cases z : k = 33 ∧ j = 0 ∧ t = 605 * e + d
    · obtain ⟨rfl, rfl, rfl⟩ := z
      rw [if_pos ⟨rfl, rfl, rfl⟩, if_pos ⟨rfl, rfl, by omega, by omega⟩, h, if_neg (by omega), Nat.add_sub_cancel_left]
    · rw [if_neg z, h]
      by_cases y : k = 33 ∧ j = 0 ∧ 605 * e ≤ t ∧ t < 605 * e + d
      · rw [if_pos y, if_pos ⟨y.1, y.2.1, y.2.2.1, by omega⟩]
      · rw [if_neg y, if_neg (by omega)]
  obtain ⟨h1, h2⟩ := loop0 (L := fun n v s => f_X8_remembers_L52 n v s) (N := 605) (fun d s => upS s 33 0 (605 * e + d) (s 30 0 d)) (fun d s => ∀ k j t, s k j t = if k = 33 ∧ j = 0 ∧ 605 * e ≤ t ∧ t < 605 * e + d then m 30 0 (t - 605 * e) else m k j t) (fun s => some (upS s 8 0 5 (s 8 0 5 + 1))) (by decide) (fun n s _ => by
      show f_X8_remembers_L52 (n + 1) (nI 605) s = _
      rw [f_X8_remembers_L52, if_pos (by decide)]
      rfl) (fun n d s hd hs => by
      refine ⟨?_, hstep d s hd hs⟩
      show f_X8_remembers_L52 (n + 1) (nI d) s = f_X8_remembers_L52 n (nI (d + 1)) _
      rw [f_X8_remembers_L52, hI d s hs]
      simp (disch := omega) only [xl, xg, vinT, nI_clamp, lm, ra, nI_add, lle, if_neg]) m (fun k j t => by rw [if_neg (by omega)])
  obtain ⟨g1, g2⟩ := loop0 (L := fun n v s => f_X8_remembers_L52b n v s) (N := 605) (fun d s => upS s 33 0 (605 * e + d) (s 30 0 d)) (fun d s => ∀ k j t, s k j t = if k = 33 ∧ j = 0 ∧ 605 * e ≤ t ∧ t < 605 * e + d then m 30 0 (t - 605 * e) else m k j t) (fun s => some (upS s 8 0 5 (s 8 0 5 + 1))) (by decide) (fun n s _ => by
      show f_X8_remembers_L52b (n + 1) (nI 605) s = _
      rw [f_X8_remembers_L52b, if_pos (by decide)]
      rfl) (fun n d s hd hs => by
      refine ⟨?_, hstep d s hd hs⟩
      show f_X8_remembers_L52b (n + 1) (nI d) s = f_X8_remembers_L52b n (nI (d + 1)) _
      rw [f_X8_remembers_L52b, hI d s hs]
      simp (disch := omega) only [xl, xg, vinT, nI_clamp, lm, ra, nI_add, lle, if_neg]) m (fun k j t => by rw [if_neg (by omega)])
  have h8 := hI _ _ h2
  refine ⟨_, h1, g1, ?_, fun k j t hk hn => ?_, fun t ht => ?_, fun i hi => ?_⟩
  · rw [upS_hit, h8, nI_1]
  · simp only [upS]
    rw [if_neg hn, h2, if_neg (by omega)]
  · rw [upS_k (by omega), h2, if_neg (by omega)]
  · rw [upS_k (by omega), h2, if_pos ⟨rfl, rfl, by omega, by omega⟩, Nat.add_sub_cancel_left]
theorem m_remembers {m : SD} {c : Nat} (hc : c ≤ 16) (h5 : m 8 0 5 = nI c) : ∃ m', f_X8_remembers m = some m' ∧ m' 8 0 5 = nI (if c = 16 then 16 else c + 1) ∧ (∀ k j t, k ≠ 33 → ¬ (k = 8 ∧ j = 0 ∧ t = 5) → m' k j t = m k j t) ∧ (c < 16 → (∀ k i, k < c → i < 605 → prow m' k i = prow m k i) ∧ ∀ i, i < 605 → prow m' c i = m 30 0 i) ∧ (c = 16 → (∀ k i, k < 15 → i < 605 → prow m' k i = prow m (k + 1) i) ∧ ∀ i, i < 605 → prow m' 15 i = m 30 0 i) := by
  unfold f_X8_remembers
  by_cases z : c = 16
  · subst z
    rw [h5, if_pos (by decide)]
    obtain ⟨h1, h2⟩ := loop0 (L := fun n v s => f_X8_remembers_L11 n v s) (N := 9075) (fun d s => upS s 33 0 d (s 33 0 (d + 605))) (fun d s => ∀ k j t, s k j t = if k = 33 ∧ j = 0 ∧ t < d then m 33 0 (t + 605) else m k j t) (fun s => f_X8_remembers_L52b fuel 0 (upS s 8 0 5 (s 8 0 5 - 1))) (by decide) (fun n s _ => by
        show f_X8_remembers_L11 (n + 1) (nI 9075) s = _
        rw [f_X8_remembers_L11, if_pos (by decide)]
        rfl) (fun n d s hd hs => by
        refine ⟨?_, fun k j t => ?_⟩
        · show f_X8_remembers_L11 (n + 1) (nI d) s = f_X8_remembers_L11 n (nI (d + 1)) _
          rw [f_X8_remembers_L11]
          simp (disch := omega) only [xl, xg, vinT, nI_clamp, ra, nI_add, lle, if_neg]
        · show upS s 33 0 d (s 33 0 (d + 605)) k j t = _
          unfold upS
          by_cases z : k = 33 ∧ j = 0 ∧ t = d
          · obtain ⟨rfl, rfl, rfl⟩ := z
            rw [if_pos ⟨rfl, rfl, rfl⟩, if_pos ⟨rfl, rfl, by omega⟩, hs, if_neg (by omega)]
          · rw [if_neg z, hs]
            by_cases y : k = 33 ∧ j = 0 ∧ t < d
            · rw [if_pos y, if_pos ⟨y.1, y.2.1, by omega⟩]
            · rw [if_neg y, if_neg (by omega)]) m (fun k j t => by rw [if_neg (by omega)])
    obtain ⟨sF, hsF⟩ : ∃ sF, sF = itr (fun d s => upS s 33 0 d (s 33 0 (d + 605))) 9075 0 m := ⟨_, rfl⟩
    rw [← hsF] at h1 h2
    have h8 : upS sF 8 0 5 (sF 8 0 5 - 1) 8 0 5 = nI 15 := by rw [upS_hit, h2, if_neg (by omega), h5]; rfl
    obtain ⟨m', -, e2, e3, e4, e5, e6⟩ := m_rem52 (e := 15) (by omega) h8
    refine ⟨m', h1.trans e2, by rw [e3, if_pos rfl], fun k j t hk hn => ?_, fun h => by omega, fun _ => ⟨fun k i hk hi => ?_, fun i hi => ?_⟩⟩
    · rw [e4 k j t hk hn]
      simp only [upS]
      rw [if_neg hn, h2, if_neg (by omega)]
    · unfold prow
      rw [e5 _ (by omega), upS_k (by omega), h2, if_pos ⟨rfl, rfl, by omega⟩]
      congr 1
      omega
    · unfold prow
      rw [e6 i hi, upS_k (by omega), h2, if_neg (by omega)]
  · have hlt : c < 16 := by omega
    have hne : ¬ (nI c = 16) := by
      rw [req (k := 16) (by decide) (by omega)]
      exact z
    rw [h5, if_neg hne]
    obtain ⟨m', e1, -, e3, e4, e5, e6⟩ := m_rem52 hlt h5
    refine ⟨m', e1, by rw [e3, if_neg z], e4, fun _ => ⟨fun k i hk hi => ?_, fun i hi => ?_⟩, fun h => absurd h z⟩
    · unfold prow
      exact e5 _ (by omega)
    · unfold prow
      exact e6 i hi
end
section
/-! Layer 2: the class's history -/
def HSx (b : Nat) (cs : CT) (m : SD) (f0 c : Nat) : Prop := f0 < 16 ∧ c ≤ 16 ∧ k_hd cs 1 0 1 = nI f0 ∧ k_hd cs 1 0 2 = nI c ∧ m 8 0 5 = nI c ∧ ∀ k, k < c → ∃ q, k_hz cs ((f0 + k) % 16) = some q ∧ Inv (prow m k) ∧ Rel b (k_xs cs q) (prow m k)
/-- the States are apart -/
def DS (cs : CT) : Prop := k_st cs ≠ k_sp cs ∧ (∀ t q, k_hz cs t = some q → q ≠ k_st cs ∧ q ≠ k_sp cs) ∧ (∀ t u q, k_hz cs t = some q → k_hz cs u = some q → t = u) ∧ k_st cs < k_sz cs ∧ k_sp cs < k_sz cs ∧ ∀ t q, k_hz cs t = some q → q < k_sz cs
theorem va_hit {α : Type} (f : Nat → α) (i : Nat) (x : α) : va_up f i x i = x := by simp [va_up]
theorem va_off {α : Type} (f : Nat → α) {i j : Nat} (x : α) (h : j ≠ i) : va_up f i x j = f j := by simp [va_up, h]
/-- what stays over an edit's remembering -/
def KS (cs cs' : CT) : Prop := k_st cs' = k_st cs ∧ k_sp cs' = k_sp cs ∧ k_xs cs' (k_st cs) = k_xs cs (k_st cs) ∧ k_rd cs' = k_rd cs ∧ k_rn cs' = k_rn cs ∧ k_jd cs' = k_jd cs
section KEP
variable {b : Nat} {cs : CT} {m : SD} {r : RW}
theorem rem16 {x : Nat} (h : x < 2 ^ 30) : nI x - nI x / (16 : Int32) * (16 : Int32) = nI (x % 16) := pk_rem (a := x) (d := 16) (by omega) (by decide) (by decide)
theorem keepc_both {f0 c q : Nat} (hr : m 30 0 = r) (hI : Inv r) (hR : Rel b (k_xs cs (k_st cs)) r) (hH : HSx b cs m f0 c) (hD : DS cs) (hq : k_hz cs ((f0 + c) % 16) = some q) : ∃ cs' m' f1 c1, f_X1_keep_c cs q = some cs' ∧ f_X8_remembers m = some m' ∧ HSx b cs' m' f1 c1 ∧ DS cs' ∧ KS cs cs' ∧ k_pl cs' = k_pl cs ∧ k_pd cs' = k_pd cs ∧ (∀ k j t, k ≠ 33 → ¬ (k = 8 ∧ j = 0 ∧ t = 5) → m' k j t = m k j t) := by
  obtain ⟨hf, hc, h1, h2, h3, h4⟩ := hH
  obtain ⟨d1, d2, d3, d4, d5, d6⟩ := hD
  have hne : k_st cs ≠ q := fun z => (d2 _ _ hq).1 z.symm
  obtain ⟨s, e1, hs⟩ := c_copyFrom hI hR (k_xs cs q)
  obtain ⟨m', e2, e3, e4, e5, e6⟩ := m_remembers hc h3
  have hx : ∀ q', q' ≠ q → k_xs (kS cs q s) q' = k_xs cs q' := fun q' h => va_off _ _ h
  have hxq : k_xs (kS cs q s) q = s := va_hit _ _ _
  by_cases z : c = 16
  · subst z
    have ev : f_X1_keep_c cs q = some (kH (kS cs q s) (upS (k_hd cs) 1 0 1 (nI ((f0 + 1) % 16))) (k_hz cs)) := by
      unfold f_X1_keep_c
      rw [e1]
      simp only [eq_true hne, xg, xb, xl, ne_eq, not_false_eq_true]
      show (if (16 : Int32) ≤ k_hd cs 1 0 2 then _ else _) = _
      rw [h2, if_pos (by decide), h1, nI_1, rem16 (by omega)]
    refine ⟨_, m', (f0 + 1) % 16, 16, ev, e2, ⟨Nat.mod_lt _ (by decide), Nat.le_refl _, ?_, ?_, ?_, fun k hk => ?_⟩, ⟨d1, d2, d3, d4, d5, d6⟩, ⟨rfl, rfl, hx _ hne, rfl, rfl, rfl⟩, rfl, rfl, e4⟩
    · show upS (k_hd cs) 1 0 1 (nI ((f0 + 1) % 16)) 1 0 1 = _
      rw [upS_hit]
    · show upS (k_hd cs) 1 0 1 (nI ((f0 + 1) % 16)) 1 0 2 = _
      rw [upS_t (by omega)]; exact h2
    · rw [e3, if_pos rfl]
    · obtain ⟨p1, p2⟩ := e6 rfl
      show ∃ q', k_hz cs (((f0 + 1) % 16 + k) % 16) = some q' ∧ _
      by_cases y : k = 15
      · subst y
        refine ⟨q, ?_, ?_, ?_⟩
        · rw [← hq]; congr 1; omega
        · exact Inv.congr hI (fun i hi => by rw [p2 i hi, hr])
        · show Rel b (k_xs (kS cs q s) q) _
          rw [hxq]
          exact Rel.congr hI hs (fun i hi => by rw [p2 i hi, hr])
      · obtain ⟨q', g1, g2, g3⟩ := h4 (k + 1) (by omega)
        have hne2 : q' ≠ q := fun w => by
          subst w
          have := d3 _ _ _ g1 hq
          omega
        refine ⟨q', ?_, ?_, ?_⟩
        · rw [← g1]; congr 1; omega
        · exact Inv.congr g2 (fun i hi => p1 k i (by omega) hi)
        · show Rel b (k_xs (kS cs q s) q') _
          rw [hx _ hne2]
          exact Rel.congr g2 g3 (fun i hi => p1 k i (by omega) hi)
  · have hlt : c < 16 := by omega
    have ev : f_X1_keep_c cs q = some (kH (kS cs q s) (upS (k_hd cs) 1 0 2 (nI (c + 1))) (k_hz cs)) := by
      unfold f_X1_keep_c
      rw [e1]
      simp only [eq_true hne, xg, xb, xl, ne_eq, not_false_eq_true]
      show (if (16 : Int32) ≤ k_hd cs 1 0 2 then _ else _) = _
      rw [h2, if_neg (by rw [lle (by decide) (by omega)]; omega), nI_1]
    refine ⟨_, m', f0, c + 1, ev, e2, ⟨hf, by omega, ?_, ?_, ?_, fun k hk => ?_⟩, ⟨d1, d2, d3, d4, d5, d6⟩, ⟨rfl, rfl, hx _ hne, rfl, rfl, rfl⟩, rfl, rfl, e4⟩
    · show upS (k_hd cs) 1 0 2 (nI (c + 1)) 1 0 1 = _
      rw [upS_t (by omega)]; exact h1
    · show upS (k_hd cs) 1 0 2 (nI (c + 1)) 1 0 2 = _
      rw [upS_hit]
    · rw [e3, if_neg z]
    · obtain ⟨p1, p2⟩ := e5 hlt
      show ∃ q', k_hz cs ((f0 + k) % 16) = some q' ∧ _
      by_cases y : k = c
      · subst y
        refine ⟨q, hq, ?_, ?_⟩
        · exact Inv.congr hI (fun i hi => by rw [p2 i hi, hr])
        · show Rel b (k_xs (kS cs q s) q) _
          rw [hxq]
          exact Rel.congr hI hs (fun i hi => by rw [p2 i hi, hr])
      · obtain ⟨q', g1, g2, g3⟩ := h4 k (by omega)
        have hne2 : q' ≠ q := fun w => by
          subst w
          have := d3 _ _ _ g1 hq
          omega
        refine ⟨q', g1, ?_, ?_⟩
        · exact Inv.congr g2 (fun i hi => p1 k i (by omega) hi)
        · show Rel b (k_xs (kS cs q s) q') _
          rw [hx _ hne2]
          exact Rel.congr g2 g3 (fun i hi => p1 k i (by omega) hi)
theorem c_beginEmpty (s : SD) : ∃ s', f_X4_beginEmpty s = some s' := ⟨_, rfl⟩
theorem keep_both {f0 c : Nat} (hr : m 30 0 = r) (hI : Inv r) (hR : Rel b (k_xs cs (k_st cs)) r) (hH : HSx b cs m f0 c) (hD : DS cs) : ∃ cs' m' f1 c1, f_X1_keep cs = some cs' ∧ f_X8_remembers m = some m' ∧ HSx b cs' m' f1 c1 ∧ DS cs' ∧ KS cs cs' ∧ k_pl cs' = k_pl cs ∧ k_pd cs' = k_pd cs ∧ (∀ k j t, k ≠ 33 → ¬ (k = 8 ∧ j = 0 ∧ t = 5) → m' k j t = m k j t) := by
  have hH2 := hH
  obtain ⟨hf, hc, h1, h2, h3, h4⟩ := hH
  have hD2 := hD
  obtain ⟨d1, d2, d3, d4, d5, d6⟩ := hD
  unfold f_X1_keep
  rw [h1, h2, nI_add, rem16 (by omega), xl]
  simp (disch := omega) only [xg, vinT, nI_clamp]
  cases hz : k_hz cs ((f0 + c) % 16) with
  | some q =>
    simp only
    exact keepc_both hr hI hR hH2 hD2 hz
  | none =>
    simp only
    obtain ⟨sd0, hs0⟩ := c_beginEmpty (fun _ _ _ => 0)
    have en : f_newState cs = some (kA (kS cs (k_sz cs) sd0) (k_S cs ++ [k_sz cs], k_sz cs + 91)) := by
      unfold f_newState
      rw [hs0, xb]
    rw [en, xb, xl]
    have hlt : c < 16 := by
      by_cases z : c = 16
      · subst z
        obtain ⟨q, g1, -⟩ := h4 0 (by omega)
        have : (f0 + 0) % 16 = (f0 + 16) % 16 := by omega
        rw [this, hz] at g1
        cases g1
      · omega
    obtain ⟨c2, hc2⟩ : ∃ c2 : CT, c2 = kH (kA (kS cs (k_sz cs) sd0) (k_S cs ++ [k_sz cs], k_sz cs + 91)) (k_hd cs) (va_up (k_hz cs) ((f0 + c) % 16) (some (k_sz cs))) := ⟨_, rfl⟩
    have est : k_st c2 = k_st cs := by rw [hc2]
    have esp : k_sp c2 = k_sp cs := by rw [hc2]
    have ehd : k_hd c2 = k_hd cs := by rw [hc2]
    have ehz : k_hz c2 = va_up (k_hz cs) ((f0 + c) % 16) (some (k_sz cs)) := by rw [hc2]
    have esz : k_sz c2 = k_sz cs + 91 := by rw [hc2]
    have ex : ∀ q, q ≠ k_sz cs → k_xs c2 q = k_xs cs q := fun q h => by rw [hc2]; exact va_off _ _ h
    have hz2 : ∀ t q, k_hz c2 t = some q → (t = (f0 + c) % 16 ∧ q = k_sz cs) ∨ (t ≠ (f0 + c) % 16 ∧ k_hz cs t = some q) := fun t q h => by
      rw [ehz] at h
      by_cases y : t = (f0 + c) % 16
      · subst y
        rw [va_hit] at h
        exact Or.inl ⟨rfl, (Option.some.inj h).symm⟩
      · rw [va_off _ _ y] at h
        exact Or.inr ⟨y, h⟩
    have hD3 : DS c2 := by
      refine ⟨by rw [est, esp]; exact d1, fun t q h => ?_, fun t u q h h' => ?_, by rw [est, esz]; omega, by rw [esp, esz]; omega, fun t q h => ?_⟩
      · rw [est, esp]
        rcases hz2 t q h with ⟨-, rfl⟩ | ⟨-, g⟩
        · omega
        · exact d2 t q g
      · rcases hz2 t q h with ⟨g1, g2⟩ | ⟨g1, g2⟩
        · rcases hz2 u q h' with ⟨g3, g4⟩ | ⟨g3, g4⟩
          · omega
          · have := d6 _ _ g4; omega
        · rcases hz2 u q h' with ⟨g3, g4⟩ | ⟨g3, g4⟩
          · have := d6 _ _ g2; omega
          · exact d3 t u q g2 g4
      · rw [esz]
        rcases hz2 t q h with ⟨-, rfl⟩ | ⟨-, g⟩
        · omega
        · have := d6 t q g; omega
    have hH3 : HSx b c2 m f0 c := by
      refine ⟨hf, hc, by rw [ehd]; exact h1, by rw [ehd]; exact h2, h3, fun k hk => ?_⟩
      obtain ⟨q, g1, g2, g3⟩ := h4 k hk
      refine ⟨q, ?_, g2, ?_⟩
      · rw [ehz, va_off _ _ (by omega)]; exact g1
      · rw [ex q (by have := d6 _ _ g1; omega)]; exact g3
    obtain ⟨cs', m', f1, c1, r1, r2, r3, r4, r5, r6, r7, r8⟩ := keepc_both (cs := c2) hr hI (by rw [est, ex _ (by omega)]; exact hR) hH3 hD3 (q := k_sz cs) (by rw [ehz, va_hit])
    refine ⟨cs', m', f1, c1, ?_, r2, r3, r4, ?_, ?_, ?_, r8⟩
    · rw [← r1, hc2]
    · obtain ⟨k1, k2, k3, k4, k5, k6⟩ := r5
      rw [est, ex _ (by omega)] at k3
      exact ⟨k1.trans est, k2.trans esp, k3, by rw [k4, hc2], by rw [k5, hc2], by rw [k6, hc2]⟩
    · rw [r6, hc2]
    · rw [r7, hc2]
/-- the planner's table is forgotten -/
def FG (cs cs' : CT) : Prop := k_pl cs' = k_pl cs ∧ (k_pl cs ≠ none → k_pd cs' = upS (k_pd cs) 2 0 5 (-1))
theorem forget_both (cs : CT) : ∃ cs', f_X7_forgetPlan cs = some cs' ∧ FG cs cs' ∧ k_xs cs' = k_xs cs ∧ k_st cs' = k_st cs ∧ k_sp cs' = k_sp cs ∧ k_hd cs' = k_hd cs ∧ k_hz cs' = k_hz cs ∧ k_rd cs' = k_rd cs ∧ k_rn cs' = k_rn cs ∧ k_jd cs' = k_jd cs ∧ k_sz cs' = k_sz cs ∧ k_S cs' = k_S cs := by
  unfold f_X7_forgetPlan
  cases h : k_pl cs with
  | none => exact ⟨cs, rfl, ⟨rfl, fun z => absurd h z⟩, rfl, rfl, rfl, rfl, rfl, rfl, rfl, rfl, rfl, rfl⟩
  | some q => exact ⟨_, rfl, ⟨rfl, fun _ => rfl⟩, rfl, rfl, rfl, rfl, rfl, rfl, rfl, rfl, rfl, rfl⟩
theorem rem_both {f0 c : Nat} (hr : m 30 0 = r) (hI : Inv r) (hR : Rel b (k_xs cs (k_st cs)) r) (hH : HSx b cs m f0 c) (hD : DS cs) : ∃ cs' m' f1 c1, f_X7_remember cs = some cs' ∧ f_X8_remembers m = some m' ∧ HSx b cs' m' f1 c1 ∧ DS cs' ∧ KS cs cs' ∧ FG cs cs' ∧ (∀ k j t, k ≠ 33 → ¬ (k = 8 ∧ j = 0 ∧ t = 5) → m' k j t = m k j t) := by
  obtain ⟨c1, m', f1, n1, e1, e2, e3, e4, e5, e6, e7, e8⟩ := keep_both hr hI hR hH hD
  obtain ⟨c2, g1, g2, g3, g4, g5, g6, g7, g8, g9, g10, g11, g12⟩ := forget_both c1
  refine ⟨c2, m', f1, n1, ?_, e2, ?_, ?_, ?_, ?_, e8⟩
  · unfold f_X7_remember
    rw [e1, xb, g1]
  · unfold HSx at e3 ⊢
    rw [g6, g7, g3]
    exact e3
  · unfold DS at e4 ⊢
    rw [g4, g5, g7, g11]
    exact e4
  · unfold KS at e5 ⊢
    rw [g4, g5, g3, g8, g9, g10]
    exact e5
  · unfold FG at g2 ⊢
    rw [← e6, ← e7]
    exact g2
end KEP
end
section
/-! Layer 2: the whole relation -/
/-- the least of the values over a set of at most ten -/
def mnS (s : Nat) (f : Nat → Nat) : Nat → Nat → Nat → Nat
  | 0, _, acc => acc
  | n + 1, q, acc => mnS s f n (q + 1) (if s.testBit q = true then (if f q < acc then f q else acc) else acc)
/-- the least sum over the orders of a set, by steps w, from p on -/
def opt (w : Nat → Nat → Nat) : Nat → Nat → Nat → Nat
  | 0, _, _ => 0
  | k + 1, s, p => if s = 0 then 0 else mnS s (fun q => w p q + opt w k (s ^^^ 2 ^ q) q) 10 0 2147483647
/-- the way and the time of an exchange of one platter for another in a drive -/
def bwN (r : RW) (d p q : Nat) : Nat := dst (nv r (17 + d)) (nv r (29 + p)) + dst (nv r (29 + p)) (nv r (29 + q)) + dst (nv r (29 + q)) (nv r (17 + d))
def swN (r : RW) (d p q : Nat) : Nat := bwN r d p q * nv r 1 + (4 * nv r 2 + nv r 3)
/-- the table up to a set -/
def Tb (w : Nat → Nat → Nat) (pd : SD) (S s : Nat) : Prop := ∀ s' p', s' < s → (∀ i, s'.testBit i = true → S.testBit i = true) → S.testBit p' = true → s'.testBit p' = false → pd 23 0 (s' * 10 + p') = nI (opt w s' s' p')
/-- the planner's table is right for a drive and a set -/
def PTok (pd : SD) (r : RW) : Prop := ∃ d S, d < nv r 6 ∧ S < 1024 ∧ (∀ p, S.testBit p = true → p < nv r 7) ∧ pd 2 0 5 = nI d ∧ pd 2 0 6 = nI S ∧ Tb (swN r d) pd S S ∧ ∀ p q, p < nv r 7 → q < nv r 7 → pd 24 0 (p * 10 + q) = nI (swN r d p q)
def PT (cs : CT) (r : RW) : Prop := k_pl cs = none ∨ k_pd cs 2 0 5 = -1 ∨ PTok (k_pd cs) r
/-- the text that was fed, and the last error -/
def TX (cs : CT) (m : SD) : Prop := (∃ n, n ≤ 900 ∧ k_rd cs 5 0 1 = nI n ∧ m 8 0 15 = nI n ∧ ∀ t, t < n → k_rd cs 20 0 t = m 38 0 t) ∧ k_jd cs 7 0 1 = m 8 0 16 ∧ m 8 0 17 = if k_jd cs 7 0 1 = 0 then -1000005 else k_jd cs 7 0 2
/-- the catalogue that was written -/
def OU (cs : CT) (m : SD) : Prop := ∃ n, n ≤ 280 ∧ k_jd cs 7 0 8 = nI n ∧ m 8 0 12 = nI n ∧ ∀ t, t < n → k_jd cs 26 0 t = m 37 0 t
def JJ (b : Nat) (cs : CT) (m : SD) : Prop := Inv (m 30 0) ∧ Rel b (k_xs cs (k_st cs)) (m 30 0) ∧ (∃ f0 c, HSx b cs m f0 c) ∧ DS cs ∧ TX cs m ∧ OU cs m ∧ PT cs (m 30 0)
theorem scr_no {k t : Nat} (h : ¬ (k = 8 ∧ (t = 0 ∨ t = 6 ∨ t = 10)) ∧ k ≠ 32 ∧ k ≠ 34 ∧ k ≠ 35 ∧ k ≠ 36) : ¬ scr k t := by
  unfold scr
  omega
section JJS
variable {b b' : Nat} {cs cs' : CT} {m m' : SD}
theorem HSx.same {f0 c : Nat} (h : HSx b cs m f0 c) (h5 : m' 8 0 5 = m 8 0 5) (h33 : ∀ t, m' 33 0 t = m 33 0 t) : HSx b cs m' f0 c := by
  obtain ⟨a1, a2, a3, a4, a5, a6⟩ := h
  have e : ∀ k, prow m' k = prow m k := fun k => by
    funext i
    exact h33 _
  refine ⟨a1, a2, a3, a4, h5.trans a5, fun k hk => ?_⟩
  rw [e]
  exact a6 k hk
/-- the reference's own scratch cells don't matter -/
theorem JJ.same (h : JJ b cs m) (hs : MSame m m') : JJ b cs m' := by
  obtain ⟨h1, h2, ⟨f0, c, h3⟩, h4, h5, h6, h7⟩ := h
  have hr := hs.row
  have e : ∀ k j t, ¬ (k = 8 ∧ (t = 0 ∨ t = 6 ∨ t = 10)) ∧ k ≠ 32 ∧ k ≠ 34 ∧ k ≠ 35 ∧ k ≠ 36 → m' k j t = m k j t := fun k j t h => hs k j t (scr_no h)
  refine ⟨by rw [hr]; exact h1, by rw [hr]; exact h2, ⟨f0, c, h3.same (e _ _ _ (by omega)) (fun t => e _ _ _ (by omega))⟩, h4, ?_, ?_, by rw [hr]; exact h7⟩
  · obtain ⟨⟨n, t1, t2, t3, t4⟩, t5, t6⟩ := h5
    refine ⟨⟨n, t1, t2, ?_, fun t ht => ?_⟩, ?_, ?_⟩
    · rw [e _ _ _ (by omega)]; exact t3
    · rw [e _ _ _ (by omega)]; exact t4 t ht
    · rw [e _ _ _ (by omega)]; exact t5
    · rw [e _ _ _ (by omega)]; exact t6
  · obtain ⟨n, t1, t2, t3, t4⟩ := h6
    refine ⟨n, t1, t2, ?_, fun t ht => ?_⟩
    · rw [e _ _ _ (by omega)]; exact t3
    · rw [e _ _ _ (by omega)]; exact t4 t ht
/-- an edit: remembering, then the same change on both sides -/
theorem JJ.edit {m1 m2 : SD} {cs1 : CT} {f1 c1 : Nat} {sd' : SD} (h : JJ b cs m) (hs : MSame m m') (hb : b ≤ b') (e3 : HSx b cs1 m1 f1 c1) (e4 : DS cs1) (e5 : KS cs cs1) (e6 : FG cs cs1) (e7 : ∀ k j t, k ≠ 33 → ¬ (k = 8 ∧ j = 0 ∧ t = 5) → m1 k j t = m' k j t) (hX : MX m1 m2) (hI2 : Inv (m2 30 0)) (hR2 : Rel b' sd' (m2 30 0)) : JJ b' (kS cs1 (k_st cs1) sd') m2 := by
  obtain ⟨-, -, -, -, h5, h6, h7⟩ := h
  obtain ⟨k1, k2, k3, k4, k5, k6⟩ := e5
  obtain ⟨d1, d2, d3, d4, d5, d6⟩ := e4
  have e : ∀ k j t, ¬ (k = 8 ∧ (t = 0 ∨ t = 5 ∨ t = 6 ∨ t = 10)) ∧ k ≠ 30 ∧ k ≠ 32 ∧ k ≠ 33 ∧ k ≠ 34 ∧ k ≠ 35 ∧ k ≠ 36 → m2 k j t = m k j t := fun k j t h => by
    rw [hX k j t (by omega) (by omega), e7 k j t (by omega) (by omega), hs k j t (scr_no (by omega))]
  have x1 : k_xs (kS cs1 (k_st cs1) sd') (k_st cs1) = sd' := va_hit _ _ _
  refine ⟨hI2, ?_, ⟨f1, c1, ?_⟩, ⟨d1, d2, d3, d4, d5, d6⟩, ?_, ?_, ?_⟩
  · show Rel b' (k_xs (kS cs1 (k_st cs1) sd') (k_st cs1)) _
    rw [x1]; exact hR2
  · obtain ⟨a1, a2, a3, a4, a5, a6⟩ := e3
    have ep : ∀ k, prow m2 k = prow m1 k := fun k => by
      funext i
      exact hX 33 0 _ (by omega) (by omega)
    refine ⟨a1, a2, a3, a4, ?_, fun k hk => ?_⟩
    · rw [hX 8 0 5 (by omega) (by omega)]; exact a5
    · obtain ⟨q, q1, q2, q3⟩ := a6 k hk
      refine ⟨q, q1, by rw [ep]; exact q2, ?_⟩
      rw [ep]
      have : k_xs (kS cs1 (k_st cs1) sd') q = k_xs cs1 q := va_off _ _ (d2 _ _ q1).1
      rw [this]
      exact q3.more hb
  · obtain ⟨⟨n, t1, t2, t3, t4⟩, t5, t6⟩ := h5
    refine ⟨⟨n, t1, ?_, ?_, fun t ht => ?_⟩, ?_, ?_⟩
    · show k_rd cs1 5 0 1 = _
      rw [k4]; exact t2
    · rw [e _ _ _ (by omega)]; exact t3
    · show k_rd cs1 20 0 t = _
      rw [k4, e _ _ _ (by omega)]; exact t4 t ht
    · show k_jd cs1 7 0 1 = _
      rw [k6, e _ _ _ (by omega)]; exact t5
    · show _ = if k_jd cs1 7 0 1 = 0 then _ else k_jd cs1 7 0 2
      rw [k6, e _ _ _ (by omega)]; exact t6
  · obtain ⟨n, t1, t2, t3, t4⟩ := h6
    refine ⟨n, t1, ?_, ?_, fun t ht => ?_⟩
    · show k_jd cs1 7 0 8 = _
      rw [k6]; exact t2
    · rw [e _ _ _ (by omega)]; exact t3
    · show k_jd cs1 26 0 t = _
      rw [k6, e _ _ _ (by omega)]; exact t4 t ht
  · show k_pl cs1 = none ∨ k_pd cs1 2 0 5 = -1 ∨ _
    obtain ⟨g1, g2⟩ := e6
    by_cases z : k_pl cs = none
    · exact Or.inl (g1.trans z)
    · refine Or.inr (Or.inl ?_)
      rw [g2 z, upS_hit]
end JJS
end
section
/-! Layer 2: the edits -/
def ST (b : Nat) (x : Option (Int32 × CT)) (y : Option (Int32 × SD)) : Prop := ∃ v cs' m', x = some (v, cs') ∧ y = some (v, m') ∧ JJ b cs' m'
theorem i1 : ¬ ((1 : Int32) = 0) := by decide
section EDI
variable {b b' : Nat} {cs : CT} {m : SD}
theorem JJ.more (h : JJ b cs m) (hb : b ≤ b') : JJ b' cs m := by
  obtain ⟨h1, h2, ⟨f0, c, a1, a2, a3, a4, a5, a6⟩, h4, h5, h6, h7⟩ := h
  refine ⟨h1, h2.more hb, ⟨f0, c, a1, a2, a3, a4, a5, fun k hk => ?_⟩, h4, h5, h6, h7⟩
  obtain ⟨q, q1, q2, q3⟩ := a6 k hk
  exact ⟨q, q1, q2, q3.more hb⟩
theorem inv_of {F : Nat} {r : RW} (h : InvF F r) (e : nv r 9 = F) : Inv r := by rw [← e] at h; exact h
theorem rel_of {F : Nat} {sd : SD} {r : RW} (h : RelF F b sd r) (e : nv r 9 = F) : Rel b sd r := by rw [← e] at h; exact h
/-- what an edit finds behind its remembering -/
theorem edit_go {m1 : SD} (hJ : JJ b cs m) (s1 : MSame m m1) : ∃ cs1 m2 f1 c1, f_X7_remember cs = some cs1 ∧ f_X8_remembers m1 = some m2 ∧ m2 30 0 = m1 30 0 ∧ Inv (m1 30 0) ∧ Rel b (k_xs cs (k_st cs)) (m1 30 0) ∧ Rel b (k_xs cs1 (k_st cs1)) (m1 30 0) ∧ k_xs cs1 (k_st cs1) = k_xs cs (k_st cs) ∧ HSx b cs1 m2 f1 c1 ∧ DS cs1 ∧ KS cs cs1 ∧ FG cs cs1 ∧ (∀ k j t, k ≠ 33 → ¬ (k = 8 ∧ j = 0 ∧ t = 5) → m2 k j t = m1 k j t) := by
  obtain ⟨hI, hR, ⟨f0, c, hH⟩, hD, -⟩ := hJ.same s1
  obtain ⟨cs1, m2, f1, c1, q1, q2, q3, q4, q5, q6, q7⟩ := rem_both (m := m1) rfl hI hR hH hD
  have hx : k_xs cs1 (k_st cs1) = k_xs cs (k_st cs) := by rw [q5.1]; exact q5.2.2.1
  exact ⟨cs1, m2, f1, c1, q1, q2, funext fun t => q7 30 0 t (by decide) (by omega), hI, hR, by rw [hx]; exact hR, hx, q3, q4, q5, q6, q7⟩
theorem z6 {r : RW} (hI : Inv r) : (r 6 = 0) ↔ nv r 6 = 0 := by
  have l6 := hI.l6
  rw [hI.c6, req (k := 0) (by decide) (by omega)]
theorem st_mount (hJ : JJ b cs m) (hb : b < 2 ^ 27) (a : Int32) : ST (b + 64) (f_X7_mount cs a) (f_X8_mount m a) := by
  obtain ⟨m1, e1, r1, s1⟩ := thr m
  obtain ⟨cs1, m2, f1, c1, q1, q2, hrow, hI, hR0, hR, hx, q3, q4, q5, q6, q7⟩ := edit_go hJ s1
  have l7 := hI.l7
  unfold f_X7_mount f_X8_mount f_X7_mountProblem
  rw [c_hasPlatter hI hR0, xb, xl, e1, m_isPlatter rfl hI, xb]
  rcases hasV_cases a (n := nv (m1 30 0) 7) (by omega) with h | ⟨h, p, hp, rfl⟩
  · rw [h, if_pos rfl, if_pos rfl, xb, if_neg (by decide)]
    exact ⟨_, _, _, rfl, rfl, (hJ.same s1).more (by omega)⟩
  · rw [h, if_neg i1, if_neg i1, hR0.s3]
    by_cases z : (m1 30 0) 6 = 0
    · rw [if_pos z, if_pos z, xb, if_neg (by decide)]
      exact ⟨_, _, _, rfl, rfl, (hJ.same s1).more (by omega)⟩
    · rw [if_neg z, if_neg z, xb, if_pos rfl, q1, xb, q2, xb, xl, xl]
      have h0 : 0 < nv (m1 30 0) 6 := Nat.pos_of_ne_zero (fun y => z ((z6 hI).mpr y))
      obtain ⟨sd', m3, d, hd, hq, g1, g2, hX, hI3, hR3, hfr, -⟩ := mount_both hrow hI hR (by omega) h0 hp
      have n9 : nv (m3 30 0) 9 = nv (m1 30 0) 9 := nv_eq (hfr 9 (by unfold mec; omega))
      rw [g1, xb, g2, xb]
      refine ⟨_, _, m3, rfl, ?_, hJ.edit s1 (by omega) q3 q4 q5 q6 q7 hX (inv_of hI3 n9) ((rel_of hR3 n9).more (by omega))⟩
      unfold f_X8_took
      rw [xb, hR3.s15, hR.s15, hrow]
theorem st_eject (hJ : JJ b cs m) (hb : b < 2 ^ 27) (a : Int32) : ST (b + 64) (f_X7_eject cs a) (f_X8_eject m a) := by
  obtain ⟨m1, e1, r1, s1⟩ := thr m
  obtain ⟨cs1, m2, f1, c1, q1, q2, hrow, hI, hR0, hR, hx, q3, q4, q5, q6, q7⟩ := edit_go hJ s1
  have l6 := hI.l6
  unfold f_X7_eject f_X8_eject
  rw [c_hasDrive hI hR0, xb, xl, e1, m_isDrive rfl hI, xb]
  rcases hasV_cases a (n := nv (m1 30 0) 6) (by omega) with h | ⟨h, d, hd, rfl⟩
  · rw [h, if_pos rfl, if_pos rfl]
    exact ⟨_, _, _, rfl, rfl, (hJ.same s1).more (by omega)⟩
  · rw [h, if_neg i1, if_neg i1]
    simp (disch := omega) only [xg, vinT, la, nI_clamp, (hR0.dr d hd).2]
    by_cases z : (m1 30 0) (21 + d) = -1
    · rw [if_pos z, if_pos z]
      exact ⟨_, _, _, rfl, rfl, (hJ.same s1).more (by omega)⟩
    · rw [if_neg z, if_neg z, q1, xb, q2, xb, xl, xl]
      obtain ⟨sd', m3, g1, g2, hX, hI3, hR3⟩ := empty_both hrow hI hR hd z
      have n9 : nv (m3 30 0) 9 = nv (m1 30 0) 9 := by
        obtain ⟨m4, k1, -, k3, -⟩ := m_empties hrow hI hd (q := nv (m1 30 0) (21 + d)) (by
          rcases (hI.drv d hd).2 with w | ⟨w, -⟩
          · exact absurd w z
          · exact w.e) (by
          rcases (hI.drv d hd).2 with w | ⟨-, w⟩
          · exact absurd w z
          · exact w)
        have : m4 = m3 := Option.some.inj (k1.symm.trans g2)
        subst this
        exact nv_eq (k3 9 (by omega) (by omega) (by omega) (by omega))
      rw [g1, xb, g2, xb]
      refine ⟨_, _, m3, rfl, ?_, hJ.edit s1 (by omega) q3 q4 q5 q6 q7 hX (inv_of hI3 n9) ((rel_of hR3 n9).more (by omega))⟩
      unfold f_X8_took
      rw [xb, hR3.s15, hR.s15, hrow]
theorem c_readProblem {sd : SD} {r : RW} (hI : Inv r) (hR : Rel b sd r) {f : Nat} (hf : f < nv r 9) : f_X7_readProblem sd (nI f) = some (if r 6 = 0 then -1000007 else if gdV r (nv r (289 + f)) = 0 then -1000008 else 0) := by
  have l9 := hI.l9
  unfold f_X7_readProblem
  rw [c_hasFile hI hR, xb, hasV_in hf (by omega), if_neg (by decide), hR.s3, c_isReadable hI hR hf, xb]
  split
  · rfl
  · split <;> rfl
theorem m_whyNotRead {md : SD} {r : RW} (hr : md 30 0 = r) (hI : Inv r) {f : Nat} (hf : f < nv r 9) : f_X8_whyNotRead md (nI f) = some (if r 6 = 0 then -1000007 else if gdV r (nv r (289 + f)) = 0 then -1000008 else 0) := by
  have l9 := hI.l9
  unfold f_X8_whyNotRead
  rw [m_isFile hr hI, xb, hasV_in hf (by omega), if_neg (by decide), m_isReadable hr hI hf, xb, hr]
  split
  · rfl
  · split <;> rfl
theorem st_read (hJ : JJ b cs m) (hb : b < 2 ^ 27) (a : Int32) : ST (b + 64) (f_X7_read cs a) (f_X8_read m a) := by
  obtain ⟨m1, e1, r1, s1⟩ := thr m
  obtain ⟨cs1, m2, f1, c1, q1, q2, hrow, hI, hR0, hR, hx, q3, q4, q5, q6, q7⟩ := edit_go hJ s1
  have l9 := hI.l9
  unfold f_X7_read f_X8_read
  rw [xl, e1]
  rcases hasV_cases a (n := nv (m1 30 0) 9) (by omega) with h | ⟨h, f, hf, rfl⟩
  · have g1 : f_X7_readProblem (k_xs cs (k_st cs)) a = some (-1000001) := by
      unfold f_X7_readProblem
      rw [c_hasFile hI hR0, xb, h, if_pos rfl]
    have g2 : f_X8_whyNotRead m1 a = some (-1000001) := by
      unfold f_X8_whyNotRead
      rw [m_isFile rfl hI, xb, h, if_pos rfl]
    rw [g1, xb, g2, xb, if_neg (by decide), if_neg (by decide)]
    exact ⟨_, _, _, rfl, rfl, (hJ.same s1).more (by omega)⟩
  · rw [c_readProblem hI hR0 hf, xb, m_whyNotRead rfl hI hf, xb]
    by_cases z : (m1 30 0) 6 = 0
    · rw [if_pos z, if_neg (by decide), if_neg (by decide)]
      exact ⟨_, _, _, rfl, rfl, (hJ.same s1).more (by omega)⟩
    · rw [if_neg z]
      by_cases y : gdV (m1 30 0) (nv (m1 30 0) (289 + f)) = 0
      · rw [if_pos y, if_neg (by decide), if_neg (by decide)]
        exact ⟨_, _, _, rfl, rfl, (hJ.same s1).more (by omega)⟩
      · rw [if_neg y, if_pos rfl, if_pos rfl, q1, xb, q2, xb, xl, xl]
        have h0 : 0 < nv (m1 30 0) 6 := Nat.pos_of_ne_zero (fun y => z ((z6 hI).mpr y))
        obtain ⟨sd', m3, d, hd, hq, g1, g2, hX, hI3, hR3, hfr, -⟩ := read_both hrow hI hR (by omega) h0 hf
        have n9 : nv (m3 30 0) 9 = nv (m1 30 0) 9 := nv_eq (hfr 9 (by unfold mec; omega))
        rw [g1, xb, g2, xb]
        refine ⟨_, _, m3, rfl, ?_, hJ.edit s1 (by omega) q3 q4 q5 q6 q7 hX (inv_of hI3 n9) ((rel_of hR3 n9).more (by omega))⟩
        unfold f_X8_took
        rw [xb, hR3.s15, hR.s15, hrow]
end EDI
end
section
/-! Layer 2: writing edits -/
section ED2
variable {F F' : Nat} {b b' : Nat} {cs : CT} {m md : SD} {sd : SD} {r r' : RW}
theorem ent_congr {p e n : Nat} (h8 : nv r' 8 = nv r 8) (h : ∀ k, k < nv r 8 → r' (249 + k) = r (249 + k) ∧ nv r' (269 + k) = nv r (269 + k)) : ent r' p e n = ent r p e n := by
  unfold ent
  rw [h8]
  refine cnt_congr (fun k hk => ?_)
  rw [(h k hk).1, (h k hk).2]
theorem ctV_1 {p n : Nat} (h : ctV r p n ≠ 0) : (nv r (79 + p) = 0 → nv r (69 + p) ≠ 8) ∧ n ≤ nv r (39 + p) - nv r (59 + p) ∧ ent r p (nv r (59 + p)) n ≤ nv r (49 + p) := by
  unfold ctV at h
  by_cases z : nv r (79 + p) = 0 ∧ nv r (69 + p) = 8
  · rw [if_pos z] at h; exact absurd rfl h
  · rw [if_neg z] at h
    by_cases y : nv r (39 + p) - nv r (59 + p) < n
    · rw [if_pos y] at h; exact absurd rfl h
    · rw [if_neg y] at h
      by_cases x : nv r (49 + p) < ent r p (nv r (59 + p)) n
      · rw [if_pos x] at h; exact absurd rfl h
      · exact ⟨fun w1 w2 => z ⟨w1, w2⟩, by omega, by omega⟩
theorem write_both {f p n : Nat} (hr : md 30 0 = r) (hI : InvF F r) (hR : RelF F b sd r) (hb : b < 2 ^ 28) (h0 : 0 < nv r 6) (hp : p < nv r 7) (hn : n ≤ 300) (hV : nv r 10 < 40) (hct : ctV r p n ≠ 0) (hf9 : f < nv r 9) (hf : f < F') (hFF : F ≤ F') (hF2 : ∀ g, g < F' → g ≠ f → g < F) (hF3 : F' ≤ 20) : ∃ sd' m', f_X4_writeVersion sd (nI f) (nI n) (nI p) = some sd' ∧ f_X8_writesOn md (nI f) (nI n) (nI p) = some m' ∧ MX md m' ∧ InvF F' (m' 30 0) ∧ RelF F' (b + 2) sd' (m' 30 0) ∧ nv (m' 30 0) 9 = nv r 9 := by
  obtain ⟨sd1, m1, d, hd, hq, e1, e2, hX, hI1, hR1, hfr, hck⟩ := mount_both hr hI hR hb h0 hp
  obtain ⟨hI2, hR2⟩ := clock_step hI1 hR1 ((m1 30 0) 12 + (m1 30 0) 5 * nI n)
  have l7 := hI.l7
  have l8 := hI.l8
  have hs : ∀ i, ¬ mec i → rup (m1 30 0) 12 ((m1 30 0) 12 + (m1 30 0) 5 * nI n) i = r i := fun i h => by
    rw [rup_ne (by unfold mec at h; omega)]; exact hfr i h
  obtain ⟨r2, hr2⟩ : ∃ r2, r2 = rup (m1 30 0) 12 ((m1 30 0) 12 + (m1 30 0) 5 * nI n) := ⟨_, rfl⟩
  rw [← hr2] at hI2 hR2 hs
  have hn2 : ∀ i, ¬ mec i → nv r2 i = nv r i := fun i h => nv_eq (hs i h)
  have n7 := hn2 7 (by unfold mec; omega)
  have n8 := hn2 8 (by unfold mec; omega)
  have n9 := hn2 9 (by unfold mec; omega)
  have n10 := hn2 10 (by unfold mec; omega)
  have n39 := hn2 (39 + p) (by unfold mec; omega)
  have n49 := hn2 (49 + p) (by unfold mec; omega)
  have n59 := hn2 (59 + p) (by unfold mec; omega)
  have n69 := hn2 (69 + p) (by unfold mec; omega)
  have n79 := hn2 (79 + p) (by unfold mec; omega)
  have hent : ∀ e k, ent r2 p e k = ent r p e k := fun e k => ent_congr n8 (fun k hk => ⟨hs _ (by unfold mec; omega), hn2 _ (by unfold mec; omega)⟩)
  obtain ⟨c1, c2, c3⟩ := ctV_1 hct
  have pl := hI.plt p hp
  have lc := pl.2.1.1.l
  have ln := pl.2.2.2.2.1.l
  have le := pl.2.2.2.1.2
  have hS : nv r2 (79 + p) = 0 → nv r2 (69 + p) < 8 := fun h => by rw [n79] at h; rw [n69]; have := c1 h; omega
  have hle : ent r2 p (nv r2 (59 + p)) n ≤ nv r2 (49 + p) := by rw [hent, n59, n49]; exact c3
  have hc : nv r2 (59 + p) + n ≤ nv r2 (39 + p) := by rw [n59, n39]; omega
  have hrow2 : (upS m1 30 0 12 ((m1 30 0) 12 + (m1 30 0) 5 * nI n)) 30 0 = r2 := by rw [row_up, hr2]
  obtain ⟨m3, g1, g2, g3⟩ := m_writesVersion (k0 := 30) (f := f) hrow2 hI2 (by omega) (by rw [n7]; exact hp) hn (by rw [n10]; exact hV) hS hle
  obtain ⟨sd3, k1, k2⟩ := c_addVersion (f := f) (n := n) hI2 hR2 (by rw [n9]; exact hf9) (by rw [n7]; exact hp) (by omega) (by rw [n10]; exact hV) hS hle
  have hI3 := WV_inv hI2 g3 (by rw [n7]; exact hp) hn (by rw [n10]; exact hV) hS hle hc hf hFF hF2 hF3
  have hR3 := WV_rel hI2 hR2 g3 k2 (by rw [n7]; exact hp) (by rw [n10]; exact hV) hS hf hF2 hF3
  refine ⟨sd3, m3, ?_, ?_, (hX.up (by omega)).tr g2.mx, hI3, hR3, ?_⟩
  · unfold f_X4_writeVersion
    rw [e1, xb, xl, hR1.s15, hR1.tm.2.2.2.2, k1, xb]
  · unfold f_X8_writesOn
    rw [e2, xb]
    simp only [xl]
    rw [g1, xb]
  · rw [← n9]
    have ln2 : nSe r2 p ≤ 9 := by unfold nSe; split <;> omega
    exact nv_eq (g3.1 9 (by omega) (by omega) (by omega) (by omega) (by omega) (by omega) (by omega) (by omega) (by omega) (by omega) (by omega) (by omega) (by omega) (by omega) (by omega))
theorem c_isSize (x : Int32) : f_X7_isSize x = some (szV x) := by
  unfold f_X7_isSize szV
  split
  · rfl
  · split <;> rfl
theorem c_writeProblem (hI : Inv r) (hR : Rel b sd r) {p n : Nat} (hp : p < nv r 7) (hn : n ≤ 300) : f_X7_writeProblem sd (nI n) (nI p) = some (if nv r 10 < 40 then (if r 6 = 0 then -1000007 else if ctV r p n = 0 then -1000008 else 0) else -1000003) := by
  have l7 := hI.l7
  have l10 := hI.l10
  unfold f_X7_writeProblem
  rw [hR.s9, hI.c10, hR.s3]
  simp (disch := omega) only [rlt, xg, vinT, nI_clamp, c_canTake hI hR hp hn, xb]
  split
  · split
    · rfl
    · split <;> rfl
  · rfl
theorem m_whyNotWritten (hr : md 30 0 = r) (hI : Inv r) {p n : Nat} (hp : p < nv r 7) (h1 : 0 < n) (hn : n ≤ 300) (x : Int32) : f_X8_whyNotWritten md (nI n) (nI p) x = some (if x = 0 then (if r 6 = 0 then -1000007 else if ctV r p n = 0 then -1000008 else 0) else -1000003) := by
  have l7 := hI.l7
  unfold f_X8_whyNotWritten
  rw [m_isPlatter hr hI, xb, hasV_in hp (by omega), if_neg (by decide), isInS, xb, szV_in h1 hn, if_neg (by decide), m_canWrite hr hI hp hn, xb, hr]
  split
  · split
    · rfl
    · split <;> rfl
  · rfl
theorem m_wnw0 (hr : md 30 0 = r) (hI : Inv r) (a c x : Int32) (h : hasV c (nv r 7) = 0) : f_X8_whyNotWritten md a c x = some (-1000001) := by
  unfold f_X8_whyNotWritten
  rw [m_isPlatter hr hI, xb, h, if_pos rfl]
theorem m_wnw1 (hr : md 30 0 = r) (hI : Inv r) (a c x : Int32) (h : hasV c (nv r 7) = 1) (hz : szV a = 0) : f_X8_whyNotWritten md a c x = some (-1000002) := by
  unfold f_X8_whyNotWritten
  rw [m_isPlatter hr hI, xb, h, if_neg (by decide), isInS, xb, hz, if_pos rfl]
theorem st_write (hJ : JJ b cs m) (hb : b < 2 ^ 27) (a c x : Int32) : ST (b + 64) (f_X7_write cs a c x) (f_X8_write m a c x) := by
  obtain ⟨m1, e1, r1, s1⟩ := thr m
  obtain ⟨cs1, m2, f1, c1, q1, q2, hrow, hI, hR0, hR, hx, q3, q4, q5, q6, q7⟩ := edit_go hJ s1
  have l7 := hI.l7
  have l9 := hI.l9
  have l10 := hI.l10
  unfold f_X7_write f_X8_write
  rw [c_hasFile hI hR0, xb, xl, e1, m_isFile rfl hI, xb]
  rcases hasV_cases a (n := nv (m1 30 0) 9) (by omega) with h | ⟨h, f, hf, rfl⟩
  · rw [h, if_pos rfl, if_pos rfl]
    exact ⟨_, _, _, rfl, rfl, (hJ.same s1).more (by omega)⟩
  · rw [h, if_neg i1, if_neg i1, c_hasPlatter hI hR0, xb]
    simp only [xl]
    rcases hasV_cases x (n := nv (m1 30 0) 7) (by omega) with g | ⟨g, p, hp, rfl⟩
    · simp only [g, if_true, m_wnw0 rfl hI _ _ _ g, xb]
      refine ⟨_, _, m1, rfl, ?_, (hJ.same s1).more (by omega)⟩
      split <;> rfl
    · simp only [g, i10, if_false, c_isSize, xb]
      rcases szV_cases c with y | ⟨y, n, n0, n3, rfl⟩
      · simp only [y, if_true, m_wnw1 rfl hI _ _ _ g y, xb]
        refine ⟨_, _, m1, rfl, ?_, (hJ.same s1).more (by omega)⟩
        split <;> rfl
      · simp only [y, i10, if_false]
        rw [c_writeProblem hI hR0 hp n3, m_whyNotWritten rfl hI hp n0 n3, m_whyNotWritten rfl hI hp n0 n3, hI.c10]
        simp only [xb]
        by_cases z : nv (m1 30 0) 10 < 40
        · have z1 : ¬ nI (nv (m1 30 0) 10) = 40 := by rw [req (k := 40) (by decide) (by omega)]; show ¬ nv (m1 30 0) 10 = 40; omega
          rw [if_pos z, if_neg z1]
          first | rw [if_pos rfl] | rw [if_pos trivial]
          by_cases w : (m1 30 0) 6 = 0
          · rw [if_pos w, if_neg (by decide), if_neg (by decide)]
            exact ⟨_, _, _, rfl, rfl, (hJ.same s1).more (by omega)⟩
          · rw [if_neg w]
            by_cases v : ctV (m1 30 0) p n = 0
            · rw [if_pos v, if_neg (by decide), if_neg (by decide)]
              exact ⟨_, _, _, rfl, rfl, (hJ.same s1).more (by omega)⟩
            · rw [if_neg v, if_pos rfl, if_pos rfl, q1, xb, q2, xb]
              have h0 : 0 < nv (m1 30 0) 6 := Nat.pos_of_ne_zero (fun y => w ((z6 hI).mpr y))
              obtain ⟨sd', m3, g1, g2, hX, hI3, hR3, n9⟩ := write_both (f := f) (F' := nv (m1 30 0) 9) hrow hI hR (by omega) h0 hp n3 z v hf hf (Nat.le_refl _) (fun _ h _ => h) l9
              rw [g1, xb, g2, xb]
              refine ⟨_, _, m3, rfl, ?_, hJ.edit s1 (by omega) q3 q4 q5 q6 q7 hX (inv_of hI3 n9) ((rel_of hR3 n9).more (by omega))⟩
              unfold f_X8_took
              rw [xb, hR3.s15, hR.s15, hrow]
        · have z1 : nI (nv (m1 30 0) 10) = 40 := by rw [req (k := 40) (by decide) (by omega)]; show nv (m1 30 0) 10 = 40; omega
          rw [if_neg z, if_pos z1, if_neg i1, if_neg (by decide), if_neg (by decide)]
          exact ⟨_, _, _, rfl, rfl, (hJ.same s1).more (by omega)⟩
theorem files_step (hI : Inv r) (hR : Rel b sd r) (hF : nv r 9 < 20) : InvF (nv r 9) (rup r 9 (nI (nv r 9 + 1))) ∧ RelF (nv r 9) b (upS sd 4 0 11 (nI (nv r 9 + 1))) (rup r 9 (nI (nv r 9 + 1))) := by
  have l6 := hI.l6
  have l7 := hI.l7
  have l8 := hI.l8
  have l10 := hI.l10
  have l16 := hI.l16
  have a0 : ∀ i, i ≠ 9 → rup r 9 (nI (nv r 9 + 1)) i = r i := fun i h => rup_ne h
  have a9 : rup r 9 (nI (nv r 9 + 1)) 9 = nI (nv r 9 + 1) := rup_hit _ _ _
  have w0 : ∀ k j t, ¬ (k = 4 ∧ j = 0 ∧ t = 11) → upS sd 4 0 11 (nI (nv r 9 + 1)) k j t = sd k j t := fun k j t h => by simp only [upS]; rw [if_neg h]
  have w11 : upS sd 4 0 11 (nI (nv r 9 + 1)) 4 0 11 = nI (nv r 9 + 1) := upS_hit _ _ _ _ _
  have hI : InvF (nv r 9) r := hI
  have hR : RelF (nv r 9) b sd r := hR
  generalize hF9 : nv r 9 = F at *
  generalize rup r 9 (nI (F + 1)) = r' at a0 a9 ⊢
  generalize upS sd 4 0 11 (nI (F + 1)) = sd' at w0 w11 ⊢
  have b0 : ∀ i, i ≠ 9 → nv r' i = nv r i := fun i k1 => nv_eq (a0 i k1)
  refine ⟨⟨?_, ?_, ?_, ?_, ?_, ?_, ?_, ?_, ?_, ?_, ?_, ?_, hI.lF⟩, ?_, ?_, ?_, ?_, ?_, ?_, ?_, ?_, ?_, ?_⟩
  · have g := hI.1
    have i9 : isN r' 9 20 := isN_nI a9 (by omega) (by omega)
    unfold I_cnt at g ⊢
    unfold isN at g ⊢
    unfold isN at i9
    simp (disch := omega) only [a0, b0]
    exact ⟨g.1, g.2.1, g.2.2.1, g.2.2.2.1, g.2.2.2.2.1, i9, g.2.2.2.2.2.2⟩
  · have g := hI.tim
    unfold I_tim isN at g ⊢
    simp (disch := omega) only [a0, b0]
    exact g
  · have g := hI.pick
    unfold I_pick isN at g ⊢
    simp (disch := omega) only [a0, b0]
    exact g
  · intro d hd
    simp (disch := omega) only [b0] at hd
    have g := hI.drv d hd
    unfold isN at g ⊢
    simp (disch := omega) only [a0, b0]
    exact g
  · intro d e hd he
    simp (disch := omega) only [b0] at hd he
    simp (disch := omega) only [a0]
    exact hI.drd d e hd he
  · intro q hq
    simp (disch := omega) only [b0] at hq
    have g := hI.plt q hq
    unfold isN at g ⊢
    simp (disch := omega) only [a0, b0]
    exact g
  · intro x y hx hy hxy
    simp (disch := omega) only [b0] at hx hy
    simp (disch := omega) only [a0] at hxy
    exact hI.hom x y hx hy hxy
  · intro k hk
    simp (disch := omega) only [b0] at hk
    have g := hI.bad k hk
    unfold isN at g ⊢
    simp (disch := omega) only [a0, b0]
    exact g
  · intro k l hk hl h3 h4
    simp (disch := omega) only [b0] at hk hl
    simp (disch := omega) only [a0] at h3 h4
    exact hI.bdd k l hk hl h3 h4
  · intro g hg
    have w := hI.cur g hg
    unfold isN at w ⊢
    simp (disch := omega) only [a0, b0]
    exact w
  · intro v hv
    simp (disch := omega) only [b0] at hv
    have g := hI.ver v hv
    unfold isN at g ⊢
    simp (disch := omega) only [a0, b0]
    exact g
  · intro q hq
    simp (disch := omega) only [b0] at hq
    have w := hI.req q hq
    unfold isN at w ⊢
    simp (disch := omega) only [a0, b0]
    exact w
  · have g := hR.sc
    unfold R_sc at g ⊢
    rw [w11, a9]
    simp (disch := omega) only [a0, w0]
    exact ⟨g.1, g.2.1, g.2.2.1, g.2.2.2.1, g.2.2.2.2.1, trivial, g.2.2.2.2.2.2⟩
  · have g := hR.tm
    unfold R_tm at g ⊢
    simp (disch := omega) only [a0, w0]
    exact g
  · intro d hd
    simp (disch := omega) only [b0] at hd
    simp (disch := omega) only [a0, w0]
    exact hR.dr d hd
  · refine us_same hR.us (Nat.le_refl _) (b0 6 (by omega)) (w0 _ _ _ (by omega)) (fun e => w0 _ _ _ (by omega)) (a0 _ (by omega)) (fun e he => a0 _ (by omega))
  · intro q hq
    simp (disch := omega) only [b0] at hq
    have g := hR.pl q hq
    simp (disch := omega) only [a0, w0]
    exact g
  · intro q t hq ht
    simp (disch := omega) only [b0] at hq
    simp (disch := omega) only [b0] at ht
    have g := hR.se q t hq ht
    simp (disch := omega) only [a0, w0]
    exact g
  · intro q u hq hu
    simp (disch := omega) only [b0] at hq
    have g := hR.bd q u hq hu
    unfold bdc bdm at g ⊢
    simp (disch := omega) only [a0, b0, w0]
    exact g
  · intro g hg
    have e := hR.cu g hg
    simp (disch := omega) only [a0, w0]
    exact e
  · intro v hv
    simp (disch := omega) only [b0] at hv
    have e := hR.ve v hv
    simp (disch := omega) only [a0, w0]
    exact e
  · intro q hq
    simp (disch := omega) only [b0] at hq
    have e := hR.rq q hq
    simp (disch := omega) only [a0, w0]
    exact e
end ED2
end
section
/-! Layer 2: the other edits -/
section ED3
variable {F : Nat} {b b' : Nat} {cs : CT} {m md : SD} {sd sd' : SD} {r r' : RW}
theorem st_create (hJ : JJ b cs m) (hb : b < 2 ^ 27) (c x : Int32) : ST (b + 64) (f_X7_create cs c x) (f_X8_create m c x) := by
  obtain ⟨m1, e1, r1, s1⟩ := thr m
  obtain ⟨cs1, m2, f1, c1, q1, q2, hrow, hI, hR0, hR, hx, q3, q4, q5, q6, q7⟩ := edit_go hJ s1
  have l7 := hI.l7
  have l9 := hI.l9
  have l10 := hI.l10
  unfold f_X7_create f_X8_create
  rw [c_hasPlatter hI hR0, xb, xl, e1]
  simp only [xl]
  rcases hasV_cases x (n := nv (m1 30 0) 7) (by omega) with g | ⟨g, p, hp, rfl⟩
  · simp only [g, if_true, m_wnw0 rfl hI _ _ _ g, xb]
    refine ⟨_, _, m1, rfl, ?_, (hJ.same s1).more (by omega)⟩
    split
    · rfl
    · split <;> rfl
  · simp only [g, i10, if_false, c_isSize, xb]
    rcases szV_cases c with y | ⟨y, n, n0, n3, rfl⟩
    · simp only [y, if_true, m_wnw1 rfl hI _ _ _ g y, xb]
      refine ⟨_, _, m1, rfl, ?_, (hJ.same s1).more (by omega)⟩
      split
      · rfl
      · split <;> rfl
    · simp only [y, i10, if_false]
      rw [c_writeProblem hI hR0 hp n3, m_whyNotWritten rfl hI hp n0 n3, m_whyNotWritten rfl hI hp n0 n3, hI.c10, hI.c9, hR0.s11, hI.c9]
      simp only [xb]
      by_cases z9 : nv (m1 30 0) 9 < 20
      · have y9 : ¬ nI (nv (m1 30 0) 9) = 20 := by rw [req (k := 20) (by decide) (by omega)]; show ¬ nv (m1 30 0) 9 = 20; omega
        have x9 : nI (nv (m1 30 0) 9) < 20 := by rw [rlt (k := 20) (by decide) (by omega)]; exact z9
        rw [if_pos x9, if_neg y9]
        by_cases z : nv (m1 30 0) 10 < 40
        · have z1 : ¬ nI (nv (m1 30 0) 10) = 40 := by rw [req (k := 40) (by decide) (by omega)]; show ¬ nv (m1 30 0) 10 = 40; omega
          rw [if_pos z, if_neg z1]
          first | rw [if_pos rfl] | rw [if_pos trivial]
          by_cases w : (m1 30 0) 6 = 0
          · rw [if_pos w, if_neg (by decide), if_neg (by decide)]
            exact ⟨_, _, _, rfl, rfl, (hJ.same s1).more (by omega)⟩
          · rw [if_neg w]
            by_cases v : ctV (m1 30 0) p n = 0
            · rw [if_pos v, if_neg (by decide), if_neg (by decide)]
              exact ⟨_, _, _, rfl, rfl, (hJ.same s1).more (by omega)⟩
            · rw [if_neg v, if_pos rfl, if_pos rfl, q1, xb, q2, xb]
              try simp only [xl]
              have h0 : 0 < nv (m1 30 0) 6 := Nat.pos_of_ne_zero (fun y => w ((z6 hI).mpr y))
              obtain ⟨hIf, hRf⟩ := files_step hI hR z9
              have hrow2 : (upS m2 30 0 9 (nI (nv (m1 30 0) 9 + 1))) 30 0 = rup (m1 30 0) 9 (nI (nv (m1 30 0) 9 + 1)) := by rw [row_up, hrow]
              have hn : ∀ i, i ≠ 9 → nv (rup (m1 30 0) 9 (nI (nv (m1 30 0) 9 + 1))) i = nv (m1 30 0) i := fun i h => nv_eq (rup_ne h)
              have hn9 : nv (rup (m1 30 0) 9 (nI (nv (m1 30 0) 9 + 1))) 9 = nv (m1 30 0) 9 + 1 := nv_of (rup_hit _ _ _) (by omega)
              have hct : ctV (rup (m1 30 0) 9 (nI (nv (m1 30 0) 9 + 1))) p n = ctV (m1 30 0) p n := by
                unfold ctV
                rw [hn (79 + p) (by omega), hn (69 + p) (by omega), hn (39 + p) (by omega), hn (59 + p) (by omega), hn (49 + p) (by omega), ent_congr (hn 8 (by omega)) (fun k hk => ⟨rup_ne (by omega), hn _ (by omega)⟩)]
              obtain ⟨sd', m3, g1, g2, hX, hI3, hR3, n9⟩ := write_both (f := nv (m1 30 0) 9) (F' := nv (m1 30 0) 9 + 1) (n := n) (p := p) hrow2 hIf hRf (by omega) (by rw [hn 6 (by omega)]; exact h0) (by rw [hn 7 (by omega)]; exact hp) n3 (by rw [hn 10 (by omega)]; exact z) (by rw [hct]; exact v) (by rw [hn9]; omega) (by omega) (by omega) (fun g h1 h2 => by omega) (by omega)
              rw [hR.s11, hI.c9, nI_1, hrow, hI.c9, nI_1, g1, xb, g2, xb]
              rw [hn9] at n9
              exact ⟨_, _, m3, rfl, rfl, hJ.edit s1 (by omega) q3 q4 q5 q6 q7 (((MX.rf m2).up (by omega)).tr hX) (inv_of hI3 n9) ((rel_of hR3 n9).more (by omega))⟩
        · have z1 : nI (nv (m1 30 0) 10) = 40 := by rw [req (k := 40) (by decide) (by omega)]; show nv (m1 30 0) 10 = 40; omega
          rw [if_neg z, if_pos z1, if_neg i1, if_neg (by decide), if_neg (by decide)]
          exact ⟨_, _, _, rfl, rfl, (hJ.same s1).more (by omega)⟩
      · have y9 : nI (nv (m1 30 0) 9) = 20 := by rw [req (k := 20) (by decide) (by omega)]; show nv (m1 30 0) 9 = 20; omega
        have x9 : ¬ nI (nv (m1 30 0) 9) < 20 := by rw [rlt (k := 20) (by decide) (by omega)]; exact z9
        rw [if_neg x9, if_pos y9, if_neg i1, if_neg (by decide)]
        exact ⟨_, _, _, rfl, rfl, (hJ.same s1).more (by omega)⟩
theorem st_closeSession (hJ : JJ b cs m) (hb : b < 2 ^ 27) (a : Int32) : ST (b + 64) (f_X7_closeSession cs a) (f_X8_closeSession m a) := by
  obtain ⟨m1, e1, r1, s1⟩ := thr m
  obtain ⟨cs1, m2, f1, c1, q1, q2, hrow, hI, hR0, hR, hx, q3, q4, q5, q6, q7⟩ := edit_go hJ s1
  have l7 := hI.l7
  unfold f_X7_closeSession f_X8_closeSession
  rw [c_hasPlatter hI hR0, xb, xl, e1, m_isPlatter rfl hI, xb]
  rcases hasV_cases a (n := nv (m1 30 0) 7) (by omega) with h | ⟨h, p, hp, rfl⟩
  · rw [h, if_pos rfl, if_pos rfl]
    exact ⟨_, _, _, rfl, rfl, (hJ.same s1).more (by omega)⟩
  · rw [h, if_neg i1, if_neg i1, hR0.s3]
    simp (disch := omega) only [xg, vinT, la, nI_clamp, (hR0.pl p hp).2.2.2.2.2]
    by_cases y : (m1 30 0) (79 + p) = 0
    · rw [if_pos y, if_pos y]
      exact ⟨_, _, _, rfl, rfl, (hJ.same s1).more (by omega)⟩
    · rw [if_neg y, if_neg y]
      by_cases z : (m1 30 0) 6 = 0
      · rw [if_pos z, if_pos z]
        exact ⟨_, _, _, rfl, rfl, (hJ.same s1).more (by omega)⟩
      · rw [if_neg z, if_neg z, q1, xb, q2, xb]
        have h0 : 0 < nv (m1 30 0) 6 := Nat.pos_of_ne_zero (fun y => z ((z6 hI).mpr y))
        have o1 := (hI.plt p hp).2.2.2.2.2.1
        have ol := o1.l
        have ho : nv (m1 30 0) (79 + p) = 1 := by
          rcases nI_01 ol with w | w
          · exact absurd (o1.e.trans w) y
          · exact nv_of (o1.e.trans w) (n := 1) (by omega)
        obtain ⟨sd1, m3, d, hd, hq, g1, g2, hX, hI3, hR3, hfr, -⟩ := mount_both hrow hI hR (by omega) h0 hp
        have hn : ∀ i, ¬ mec i → nv (m3 30 0) i = nv (m1 30 0) i := fun i h => nv_eq (hfr i h)
        have n7 := hn 7 (by unfold mec; omega)
        have n9 := hn 9 (by unfold mec; omega)
        have n79 := hn (79 + p) (by unfold mec; omega)
        have hp3 : p < nv (m3 30 0) 7 := by rw [n7]; exact hp
        have ho3 : nv (m3 30 0) (79 + p) = 1 := by rw [n79]; exact ho
        have hld := m_leadOut (md := m3) (k0 := 30) (p := p) (fun i _ => rfl) hI3 hp3
        obtain ⟨sd2, k1, k2⟩ := c_addLeadOut hI3 hR3 hp3 ho3
        -- the clock moves ahead of the closing on the reference's side, behind it on the class's
        obtain ⟨hI4, hR4⟩ := clock_step hI3 hR3 ((m3 30 0) 12 + (m3 30 0) 5 * nI (ldN (m3 30 0) p))
        obtain ⟨r4, hr4⟩ : ∃ r4, r4 = rup (m3 30 0) 12 ((m3 30 0) 12 + (m3 30 0) 5 * nI (ldN (m3 30 0) p)) := ⟨_, rfl⟩
        rw [← hr4] at hI4 hR4
        have hn4 : ∀ i, i ≠ 12 → nv r4 i = nv (m3 30 0) i := fun i h => by rw [hr4]; exact nv_eq (rup_ne h)
        have hs4 : ∀ i, i ≠ 12 → r4 i = (m3 30 0) i := fun i h => by rw [hr4]; exact rup_ne h
        have hrow4 : (upS m3 30 0 12 ((m3 30 0) 12 + (m3 30 0) 5 * nI (ldN (m3 30 0) p))) 30 0 = r4 := by rw [row_up, hr4]
        have hp4 : p < nv r4 7 := by rw [hn4 7 (by omega)]; exact hp3
        have ho4 : nv r4 (79 + p) = 1 := by rw [hn4 _ (by omega)]; exact ho3
        have hld4 : ldN r4 p = ldN (m3 30 0) p := by unfold ldN; rw [hn4 (39 + p) (by omega), hn4 (59 + p) (by omega)]
        obtain ⟨m5, g5, g6, g7⟩ := m_closes hrow4 hI4 hp4 ho4
        have hI5 := CV_inv hI4 g7 hp4 ho4
        have hC : CC (upS sd1 4 0 15 ((m3 30 0) 12 + (m3 30 0) 5 * nI (ldN (m3 30 0) p))) (upS sd2 4 0 15 ((m3 30 0) 12 + (m3 30 0) 5 * nI (ldN (m3 30 0) p))) r4 p := by
          obtain ⟨k20, k23, k25, k217⟩ := k2
          unfold CC
          rw [hn4 (69 + p) (by omega), hn4 (59 + p) (by omega), hld4]
          refine ⟨fun k j t h1 h2 h3 => ?_, ?_, ?_, ?_⟩
          · simp only [upS]
            by_cases w : k = 4 ∧ j = 0 ∧ t = 15
            · rw [if_pos w, if_pos w]
            · rw [if_neg w, if_neg w]
              exact k20 k j t h1 h2 h3
          · rw [upS_k (by omega)]; exact k23
          · rw [upS_k (by omega)]; exact k25
          · rw [upS_k (by omega), upS_k (by omega)]; exact k217
        have hR5 := CV_rel hI4 hR4 g7 hC hp4 ho4
        have n95 : nv (m5 30 0) 9 = nv (m1 30 0) 9 := by
          have ln4 := (hI4.plt p hp4).2.2.2.2.1.l
          rw [nv_eq (g7.1 9 (by omega) (by omega) (by omega)), hn4 9 (by omega), n9]
        have hcl : f_X4_closeInDrive (k_xs cs1 (k_st cs1)) (nI p) = some (nI (ldN (m3 30 0) p), upS sd2 4 0 15 ((m3 30 0) 12 + (m3 30 0) 5 * nI (ldN (m3 30 0) p))) := by
          obtain ⟨k20, -⟩ := k2
          unfold f_X4_closeInDrive
          rw [g1, xb]
          simp (disch := omega) only [xg, vinT, nI_clamp, k1, xb, xl]
          rw [k20 4 0 15 (by omega) (by omega) (by omega), k20 10 0 4 (by omega) (by omega) (by omega), hR3.s15, hR3.tm.2.2.2.2]
        rw [hcl, xb, g2, xb]
        show ST _ _ (x_bind (f_X8_leadOut m3 30 (nI p)) _)
        rw [hld, xb]
        simp only [xl]
        rw [g5, xb]
        exact ⟨_, _, m5, rfl, rfl, hJ.edit s1 (by omega) q3 q4 q5 q6 q7 ((hX.up (by omega)).tr g6.mx) (inv_of hI5 n95) ((rel_of hR5 n95).more (by omega))⟩
theorem st_markBad (hJ : JJ b cs m) (hb : b < 2 ^ 27) (a c : Int32) : ST (b + 64) (f_X7_markBad cs a c) (f_X8_markBad m a c) := by
  obtain ⟨m1, e1, r1, s1⟩ := thr m
  obtain ⟨cs1, m2, f1, c1, q1, q2, hrow, hI, hR0, hR, hx, q3, q4, q5, q6, q7⟩ := edit_go hJ s1
  have l7 := hI.l7
  have l8 := hI.l8
  have l10 := hI.l10
  unfold f_X7_markBad f_X8_markBad
  rw [xl, e1]
  rcases hasV_cases a (n := nv (m1 30 0) 7) (by omega) with h | ⟨h, p, hp, rfl⟩
  · have e2 : f_X4_hasSector (k_xs cs (k_st cs)) a c = some 0 := by
      unfold f_X4_hasSector
      rw [c_hasPlatter hI hR0, xb, h, if_pos rfl]
    have e3 : f_X8_isSector m1 a c = some 0 := by
      unfold f_X8_isSector
      rw [m_isPlatter rfl hI, xb, h, if_pos rfl]
    rw [e2, xb, e3, xb, if_pos rfl, if_pos rfl]
    exact ⟨_, _, _, rfl, rfl, (hJ.same s1).more (by omega)⟩
  · have w := (hI.plt p hp).2.1.1.l
    rw [c_hasSector hI hR0 hp, xb, m_isSector rfl hI hp, xb]
    rcases hasV_cases c (n := nv (m1 30 0) (39 + p)) (by omega) with g | ⟨g, s, hs, rfl⟩
    · rw [g, if_pos rfl, if_pos rfl]
      exact ⟨_, _, _, rfl, rfl, (hJ.same s1).more (by omega)⟩
    · rw [g, if_neg i1, if_neg i1]
      simp (disch := omega) only [xg, vinT, nI_clamp]
      rw [c_isBad _ p (show s < 300 by omega), xb, m_isBad2 (sd := k_xs cs (k_st cs)) rfl hI hR0.bd hp (show s < 300 by omega), xb]
      by_cases z : bdc (k_xs cs (k_st cs)) p s = true
      · have : ¬ (b01 (bdc (k_xs cs (k_st cs)) p s) = 0) := by rw [b01_0, z]; decide
        rw [if_neg this, if_neg this]
        exact ⟨_, _, _, rfl, rfl, (hJ.same s1).more (by omega)⟩
      · have z1 : b01 (bdc (k_xs cs (k_st cs)) p s) = 0 := by rw [b01_0]; simpa using z
        rw [if_pos z1, if_pos z1, hR0.s7, hI.c8]
        by_cases y : nv (m1 30 0) 8 < 20
        · have y1 : nI (nv (m1 30 0) 8) < 20 := by rw [rlt (k := 20) (by decide) (by omega)]; exact y
          have y2 : ¬ nI (nv (m1 30 0) 8) = 20 := by rw [req (k := 20) (by decide) (by omega)]; show ¬ nv (m1 30 0) 8 = 20; omega
          rw [if_pos y1, if_neg y2, q1, xb, q2, xb]
          obtain ⟨m3, g1, g2, g3⟩ := m_marks (k0 := 30) (p := p) (s := s) hrow hI y (by omega)
          obtain ⟨sd3, k1, k2⟩ := c_spoil (p := p) (s := s) hI hR hp y (by omega)
          have hnew : ¬ bdm (m1 30 0) p s := fun w => z ((hR0.bd p s hp (by omega)).mpr w)
          have hI3 := SV_inv hI g3 hp y hs hnew
          have hR3 := SV_rel hI hR g3 k2 hp y (by omega)
          have n9 : nv (m3 30 0) 9 = nv (m1 30 0) 9 := nv_eq (g3.1 9 (by omega) (by omega) (by omega) (by omega))
          rw [k1, xb, g1, xb]
          -- both count the damaged versions
          have key : ∀ (k d n : Nat) (acc : Int32), d + k = nv (m3 30 0) 10 → k < n → ∃ q, f_X4_countDamaged_L4 sd3 n acc (nI d) = some q ∧ f_X8_markBad_L66 m3 n acc (nI d) = some (q, m3) := by
            have l10' := hI3.l10
            intro k
            induction k with
            | zero =>
              intro d n acc h1 h2
              obtain ⟨n, rfl⟩ : ∃ q, n = q + 1 := ⟨n - 1, by omega⟩
              rw [f_X4_countDamaged_L4, f_X8_markBad_L66, hR3.s9, hI3.c10]
              simp (disch := omega) only [nI_leI, if_pos]
              exact ⟨_, rfl, rfl⟩
            | succ k ih =>
              intro d n acc h1 h2
              obtain ⟨n, rfl⟩ : ∃ q, n = q + 1 := ⟨n - 1, by omega⟩
              have hd : d < nv (m3 30 0) 10 := by omega
              have d1 := (hI3.ver d hd).2.2.2.2.2.2.2
              have d2 := d1.l
              rw [f_X4_countDamaged_L4, f_X8_markBad_L66, hR3.s9, hI3.c10]
              simp (disch := omega) only [xl, xg, vinT, nI_clamp, la, ra, nI_leI, if_neg, (hR3.ve d hd).2.2.2.2.2.2]
              rcases nI_01 d2 with w | w
              · rw [d1.e.trans w, if_pos rfl]
                have e0 : acc + 0 = acc := by grind
                rw [e0]
                exact ih (d + 1) n _ (by omega) (by omega)
              · rw [d1.e.trans w, if_neg (by decide)]
                exact ih (d + 1) n _ (by omega) (by omega)
          obtain ⟨q, k3, k4⟩ := key (nv (m3 30 0) 10) 0 fuel 0 (by omega) (by have := hI3.l10; unfold fuel; omega)
          rw [nI_0] at k3 k4
          unfold f_X4_countDamaged
          rw [k3, xb, k4]
          exact ⟨_, _, m3, rfl, rfl, hJ.edit s1 (by omega) q3 q4 q5 q6 q7 g2.mx (inv_of hI3 n9) ((rel_of hR3 n9).more (by omega))⟩
        · have y1 : ¬ nI (nv (m1 30 0) 8) < 20 := by rw [rlt (k := 20) (by decide) (by omega)]; exact y
          have y2 : nI (nv (m1 30 0) 8) = 20 := by rw [req (k := 20) (by decide) (by omega)]; show nv (m1 30 0) 8 = 20; omega
          rw [if_neg y1, if_pos y2]
          exact ⟨_, _, _, rfl, rfl, (hJ.same s1).more (by omega)⟩
end ED3
end
section
/-! Layer 2: homes, times, requests, undo -/
section ED4
variable {F : Nat} {b b' : Nat} {cs : CT} {m md : SD} {sd sd' : SD} {r r' : RW}
theorem st_moveHome (hJ : JJ b cs m) (hb : b < 2 ^ 27) (a c : Int32) : ST (b + 64) (f_X7_moveHome cs a c) (f_X8_moveHome m a c) := by
  obtain ⟨m1, e1, r1, s1⟩ := thr m
  obtain ⟨cs1, m2, f1, c1, q1, q2, hrow, hI, hR0, hR, hx, q3, q4, q5, q6, q7⟩ := edit_go hJ s1
  have l7 := hI.l7
  have l0 := hI.l0
  unfold f_X7_moveHome f_X8_moveHome
  rw [c_hasPlatter hI hR0, xb]
  simp only [xl]
  rw [e1, m_isPlatter rfl hI, xb]
  rcases hasV_cases a (n := nv (m1 30 0) 7) (by omega) with h | ⟨h, p, hp, rfl⟩
  · rw [h, if_pos rfl, if_pos rfl]
    exact ⟨_, _, _, rfl, rfl, (hJ.same s1).more (by omega)⟩
  · rw [h, if_neg i1, if_neg i1, c_hasSlot hI hR0, xb, m_isSlot rfl hI, xb]
    rcases hasV_cases c (n := nv (m1 30 0) 0) (by omega) with g | ⟨g, sl, hsl, rfl⟩
    · rw [g, if_pos rfl, if_pos rfl]
      exact ⟨_, _, _, rfl, rfl, (hJ.same s1).more (by omega)⟩
    · rw [g, if_neg i1, if_neg i1]
      simp (disch := omega) only [xl, xg, vinT, la, nI_clamp, (hR0.pl p hp).1]
      by_cases y : (m1 30 0) (29 + p) = nI sl
      · rw [if_pos y, if_pos y]
        exact ⟨_, _, _, rfl, rfl, (hJ.same s1).more (by omega)⟩
      · rw [if_neg y, if_neg y, c_driveHolding hI hR0, xb, m_inDrive rfl hI, xb]
        by_cases z : holdQ (m1 30 0) (nI p) = -1
        · rw [if_pos z, if_pos z, c_platterWithHome hI hR0, xb, m_homeAt rfl hI, xb]
          by_cases w : homeQ (m1 30 0) (nI sl) = -1
          · rw [if_pos w, if_pos w, q1, xb, q2, xb]
            have hn : ∀ q, q < nv (m1 30 0) 7 → (m1 30 0) (29 + q) ≠ nI sl := by
              rcases fst_cases0 (P := fun p => decide ((m1 30 0) (29 + p) = nI sl)) (n := nv (m1 30 0) 7) with ⟨-, h2⟩ | ⟨e, h1, h2, h3, -⟩
              · exact fun q hq => of_decide_eq_false (h2 q hq)
              · have : nI e = -1 := h2.symm.trans w
                exact absurd this (by rw [nm1 (by omega)]; exact id)
            obtain ⟨hI3, hR3⟩ := home_step hI hR hp hsl hn
            have n9 : nv (rup (m1 30 0) (29 + p) (nI sl)) 9 = nv (m1 30 0) 9 := nv_eq (rup_ne (by omega))
            have hrow3 : (upS m2 30 0 (29 + p) (nI sl)) 30 0 = rup (m1 30 0) (29 + p) (nI sl) := by rw [row_up, hrow]
            refine ⟨_, _, _, rfl, ?_, hJ.edit s1 (by omega) q3 q4 q5 q6 q7 ((MX.rf m2).up (t := 29 + p) (v := nI sl) (by omega)) (by rw [hrow3]; exact inv_of hI3 n9) (by rw [hrow3]; exact (rel_of hR3 n9).more (by omega))⟩
            rw [hrow]
          · rw [if_neg w, if_neg w]
            exact ⟨_, _, _, rfl, rfl, (hJ.same s1).more (by omega)⟩
        · rw [if_neg z, if_neg z]
          exact ⟨_, _, _, rfl, rfl, (hJ.same s1).more (by omega)⟩
theorem c_isTime (x : Int32) : f_X7_isTime x = some (hasV x 100) := by
  unfold f_X7_isTime hasV
  have e : ((99 : Int32) < x) ↔ (nI 100 ≤ x) := nI_m1 (n := 100) (by decide) x
  simp only [e]
  split
  · rfl
  · split <;> rfl
theorem st_setTimes (hJ : JJ b cs m) (hb : b < 2 ^ 27) (x1 x2 x3 x4 x5 : Int32) : ST (b + 64) (f_X7_setTimes cs x1 x2 x3 x4 x5) (f_X8_setTimes m x1 x2 x3 x4 x5) := by
  obtain ⟨m1, e1, r1, s1⟩ := thr m
  obtain ⟨cs1, m2, f1, c1, q1, q2, hrow, hI, hR0, hR, hx, q3, q4, q5, q6, q7⟩ := edit_go hJ s1
  unfold f_X7_setTimes f_X8_setTimes
  rw [xl, e1]
  simp only [c_isTime, isInT, xb, xl]
  rcases hasV_cases x1 (n := 100) (by omega) with h | ⟨h, t1, h1, rfl⟩
  · rw [h, if_pos rfl, if_pos rfl]; exact ⟨_, _, _, rfl, rfl, (hJ.same s1).more (by omega)⟩
  rw [h, if_neg i1, if_neg i1]
  rcases hasV_cases x2 (n := 100) (by omega) with h | ⟨h, t2, h2, rfl⟩
  · rw [h, if_pos rfl, if_pos rfl]; exact ⟨_, _, _, rfl, rfl, (hJ.same s1).more (by omega)⟩
  rw [h, if_neg i1, if_neg i1]
  rcases hasV_cases x3 (n := 100) (by omega) with h | ⟨h, t3, h3, rfl⟩
  · rw [h, if_pos rfl, if_pos rfl]; exact ⟨_, _, _, rfl, rfl, (hJ.same s1).more (by omega)⟩
  rw [h, if_neg i1, if_neg i1]
  rcases hasV_cases x4 (n := 100) (by omega) with h | ⟨h, t4, h4, rfl⟩
  · rw [h, if_pos rfl, if_pos rfl]; exact ⟨_, _, _, rfl, rfl, (hJ.same s1).more (by omega)⟩
  rw [h, if_neg i1, if_neg i1]
  rcases hasV_cases x5 (n := 100) (by omega) with h | ⟨h, t5, h5, rfl⟩
  · rw [h, if_pos rfl, if_pos rfl]; exact ⟨_, _, _, rfl, rfl, (hJ.same s1).more (by omega)⟩
  rw [h, if_neg i1, if_neg i1, hR0.tm.1, hR0.tm.2.1, hR0.tm.2.2.1, hR0.tm.2.2.2.1, hR0.tm.2.2.2.2]
  have go : ST (b + 64) (x_bind (f_X7_remember cs) fun (q7 : CT) => x_bind (f_X4_putTimes ((k_xs q7 (k_st q7))) (nI t1) (nI t2) (nI t3) (nI t4) (nI t5)) fun (q9 : SD) => some (((((((k_xs q7 (k_st q7)) 10 0 0) + ((k_xs q7 (k_st q7)) 10 0 1)) + ((k_xs q7 (k_st q7)) 10 0 2)) + ((k_xs q7 (k_st q7)) 10 0 3)) + ((k_xs q7 (k_st q7)) 10 0 4)), (kS q7 (k_st q7) q9))) (x_bind (f_X8_remembers m1) fun (q8 : SD) => some ((((((q8 30 0 1) + (q8 30 0 2)) + (q8 30 0 3)) + (q8 30 0 4)) + (q8 30 0 5)), upS (upS (upS (upS (upS q8 30 0 1 (nI t1)) 30 0 2 (nI t2)) 30 0 3 (nI t3)) 30 0 4 (nI t4)) 30 0 5 (nI t5))) := by
    rw [q1, xb, q2, xb]
    obtain ⟨sd3, hsd3⟩ : ∃ s, s = upS (upS (upS (upS (upS (k_xs cs1 (k_st cs1)) 10 0 0 (nI t1)) 10 0 1 (nI t2)) 10 0 2 (nI t3)) 10 0 3 (nI t4)) 10 0 4 (nI t5) := ⟨_, rfl⟩
    obtain ⟨m3, hm3⟩ : ∃ s, s = upS (upS (upS (upS (upS m2 30 0 1 (nI t1)) 30 0 2 (nI t2)) 30 0 3 (nI t3)) 30 0 4 (nI t4)) 30 0 5 (nI t5) := ⟨_, rfl⟩
    have hi2 : ∀ i, m2 30 0 i = (m1 30 0) i := fun i => by rw [hrow]
    obtain ⟨hI3, hR3⟩ := time_step (r' := m3 30 0) (sd' := sd3) hI hR h1 h2 h3 h4 h5 (fun i h => by rw [hm3]; simp (disch := omega) only [upS_t, hi2]) (by rw [hm3]; simp (disch := omega) only [upS_t, upS_hit]) (by rw [hm3]; simp (disch := omega) only [upS_t, upS_hit]) (by rw [hm3]; simp (disch := omega) only [upS_t, upS_hit]) (by rw [hm3]; simp (disch := omega) only [upS_t, upS_hit]) (by rw [hm3]; simp (disch := omega) only [upS_hit]) (fun k j t h => by rw [hsd3]; simp only [upS]; rw [if_neg (by omega), if_neg (by omega), if_neg (by omega), if_neg (by omega), if_neg (by omega)]) (by rw [hsd3]; simp (disch := omega) only [upS_t, upS_hit]) (by rw [hsd3]; simp (disch := omega) only [upS_t, upS_hit]) (by rw [hsd3]; simp (disch := omega) only [upS_t, upS_hit]) (by rw [hsd3]; simp (disch := omega) only [upS_t, upS_hit]) (by rw [hsd3]; simp (disch := omega) only [upS_hit])
    have n9 : nv (m3 30 0) 9 = nv (m1 30 0) 9 := nv_eq (by rw [hm3]; simp (disch := omega) only [upS_t, hi2])
    have hX : MX m2 m3 := by rw [hm3]; exact (((((MX.rf m2).up (by omega)).up (by omega)).up (by omega)).up (by omega)).up (by omega)
    have ev : f_X4_putTimes (k_xs cs1 (k_st cs1)) (nI t1) (nI t2) (nI t3) (nI t4) (nI t5) = some sd3 := by rw [hsd3]; rfl
    rw [ev, xb, hR.tm.1, hR.tm.2.1, hR.tm.2.2.1, hR.tm.2.2.2.1, hR.tm.2.2.2.2, ← hm3]
    simp only [hi2]
    exact ⟨_, _, m3, rfl, rfl, hJ.edit s1 (by omega) q3 q4 q5 q6 q7 hX (inv_of hI3 n9) ((rel_of hR3 n9).more (by omega))⟩
  by_cases z1 : (m1 30 0) 1 = nI t1
  · rw [if_pos z1, if_pos z1]
    by_cases z2 : (m1 30 0) 2 = nI t2
    · rw [if_pos z2, if_pos z2]
      by_cases z3 : (m1 30 0) 3 = nI t3
      · rw [if_pos z3, if_pos z3]
        by_cases z4 : (m1 30 0) 4 = nI t4
        · rw [if_pos z4, if_pos z4]
          by_cases z5 : (m1 30 0) 5 = nI t5
          · rw [if_pos z5, if_pos z5]
            exact ⟨_, _, _, rfl, rfl, (hJ.same s1).more (by omega)⟩
          · rw [if_neg z5, if_neg z5]; exact go
        · rw [if_neg z4, if_neg z4]; exact go
      · rw [if_neg z3, if_neg z3]; exact go
    · rw [if_neg z2, if_neg z2]; exact go
  · rw [if_neg z1, if_neg z1]; exact go
theorem st_request (hJ : JJ b cs m) (hb : b < 2 ^ 27) (a : Int32) : ST (b + 64) (f_X7_request cs a) (f_X8_request m a) := by
  obtain ⟨m1, e1, r1, s1⟩ := thr m
  obtain ⟨cs1, m2, f1, c1, q1, q2, hrow, hI, hR0, hR, hx, q3, q4, q5, q6, q7⟩ := edit_go hJ s1
  have l9 := hI.l9
  have l16 := hI.l16
  unfold f_X7_request f_X8_request
  rw [c_hasFile hI hR0, xb, xl, e1, m_isFile rfl hI, xb]
  rcases hasV_cases a (n := nv (m1 30 0) 9) (by omega) with h | ⟨h, f, hf, rfl⟩
  · rw [h, if_pos rfl, if_pos rfl]; exact ⟨_, _, _, rfl, rfl, (hJ.same s1).more (by omega)⟩
  · rw [h, if_neg i1, if_neg i1, c_isReadable hI hR0 hf, xb, m_isReadable rfl hI hf, xb]
    by_cases z : gdV (m1 30 0) (nv (m1 30 0) (289 + f)) = 0
    · rw [if_pos z, if_pos z]; exact ⟨_, _, _, rfl, rfl, (hJ.same s1).more (by omega)⟩
    · rw [if_neg z, if_neg z, hR0.s13, hI.c16]
      by_cases y : nv (m1 30 0) 16 < 16
      · have y1 : nI (nv (m1 30 0) 16) < 16 := by rw [rlt (k := 16) (by decide) (by omega)]; exact y
        have y2 : ¬ nI (nv (m1 30 0) 16) = 16 := by rw [req (k := 16) (by decide) (by omega)]; show ¬ nv (m1 30 0) 16 = 16; omega
        rw [if_pos y1, if_neg y2, q1, xb, q2, xb]
        have hi2 : ∀ i, m2 30 0 i = (m1 30 0) i := fun i => by rw [hrow]
        simp (disch := omega) only [xl, xg, vinT, hi2, hR.s13, hI.c16, la, ra, nI_clamp, upS_k, upS_t, upS_hit]
        obtain ⟨sd3, hsd3⟩ : ∃ s, s = upS (upS (k_xs cs1 (k_st cs1)) 15 0 (nv (m1 30 0) 16) (nI f)) 4 0 13 (nI (nv (m1 30 0) 16 + 1)) := ⟨_, rfl⟩
        obtain ⟨m3, hm3⟩ : ∃ s, s = upS (upS m2 30 0 (589 + nv (m1 30 0) 16) (nI f)) 30 0 16 (nI (nv (m1 30 0) 16 + 1)) := ⟨_, rfl⟩
        rw [← hsd3, ← hm3]
        obtain ⟨hI3, hR3⟩ := req_step (r' := m3 30 0) (sd' := sd3) (Q := nv (m1 30 0) 16 + 1) hI hR (by omega) (fun i h1 h2 => by rw [hm3]; simp (disch := omega) only [upS_t, hi2]) (by rw [hm3, upS_hit]) (fun k hk => by
            by_cases w : k = nv (m1 30 0) 16
            · subst w
              have e : m3 30 0 (589 + nv (m1 30 0) 16) = nI f := by rw [hm3]; simp (disch := omega) only [upS_t, upS_hit]
              exact ⟨isN_nI e (by omega) (by omega), by rw [nv_of e (by omega)]; exact hf⟩
            · have e : m3 30 0 (589 + k) = (m1 30 0) (589 + k) := by rw [hm3]; simp (disch := omega) only [upS_t, hi2]
              have g := hI.req k (by omega)
              exact ⟨isN_eq e g.1, by rw [nv_eq e]; exact g.2⟩) (fun k j t h1 h2 => by rw [hsd3]; simp only [upS]; rw [if_neg h2, if_neg (by omega)]) (by rw [hsd3, upS_hit]) (fun k hk => by
            by_cases w : k = nv (m1 30 0) 16
            · subst w
              rw [hsd3, hm3]; simp (disch := omega) only [upS_t, upS_k, upS_hit]
            · have g := hR.rq k (by omega)
              rw [hsd3, hm3]; simp (disch := omega) only [upS_t, upS_k, hi2, g])
        have n9 : nv (m3 30 0) 9 = nv (m1 30 0) 9 := nv_eq (by rw [hm3]; simp (disch := omega) only [upS_t, hi2])
        have hX : MX m2 m3 := by rw [hm3]; exact ((MX.rf m2).up (by omega)).up (by omega)
        exact ⟨_, _, m3, rfl, rfl, hJ.edit s1 (by omega) q3 q4 q5 q6 q7 hX (inv_of hI3 n9) ((rel_of hR3 n9).more (by omega))⟩
      · have y1 : ¬ nI (nv (m1 30 0) 16) < 16 := by rw [rlt (k := 16) (by decide) (by omega)]; exact y
        have y2 : nI (nv (m1 30 0) 16) = 16 := by rw [req (k := 16) (by decide) (by omega)]; show nv (m1 30 0) 16 = 16; omega
        rw [if_neg y1, if_pos y2]
        exact ⟨_, _, _, rfl, rfl, (hJ.same s1).more (by omega)⟩
/-- a request goes: the row -/
def DV (r r' : RW) (q : Nat) : Prop := (∀ i, i ≠ 16 → ¬ (589 ≤ i ∧ i < 605) → r' i = r i) ∧ r' 16 = nI (nv r 16 - 1) ∧ ∀ k, k < nv r 16 - 1 → r' (589 + k) = if k < q then r (589 + k) else r (589 + k + 1)
theorem m_drops (hr : md 30 0 = r) (hI : InvF F r) {q : Nat} (hq : q < nv r 16) : ∃ m', f_X8_drops md (nI q) = some m' ∧ MX md m' ∧ DV r (m' 30 0) q := by
  have l16 := hI.l16
  have hi : ∀ i, md 30 0 i = r i := fun i => by rw [hr]
  unfold f_X8_drops
  rw [xl, hi 16, hI.c16, rsu (by show 1 ≤ nv r 16; omega)]
  have key : ∀ (k d n : Nat) (s : SD), d + k = nv r 16 - 1 → k < n → q ≤ d → MX md s → (∀ i, i ≠ 16 → ¬ (589 ≤ i ∧ i < 605) → s 30 0 i = r i) → s 30 0 16 = nI (nv r 16 - 1) → (∀ k, k < nv r 16 → s 30 0 (589 + k) = if k < q then r (589 + k) else if k < d then r (589 + k + 1) else r (589 + k)) → ∃ m', f_X8_drops_L13 n (nI d) s = some m' ∧ MX md m' ∧ DV r (m' 30 0) q := by
    intro k
    induction k with
    | zero =>
      intro d n s h1 h2 h3 hX h4 h5 h6
      obtain ⟨n, rfl⟩ : ∃ x, n = x + 1 := ⟨n - 1, by omega⟩
      rw [f_X8_drops_L13, h5]
      simp (disch := omega) only [nI_leI, if_pos]
      refine ⟨s, rfl, hX, h4, h5, fun k hk => ?_⟩
      rw [h6 k (by omega)]
      by_cases z : k < q
      · rw [if_pos z, if_pos z]
      · rw [if_neg z, if_neg z, if_pos (by omega)]
    | succ k ih =>
      intro d n s h1 h2 h3 hX h4 h5 h6
      obtain ⟨n, rfl⟩ : ∃ x, n = x + 1 := ⟨n - 1, by omega⟩
      rw [f_X8_drops_L13, h5]
      simp (disch := omega) only [xl, xg, vinT, la, ra, nI_clamp, nI_leI, if_neg]
      refine ih (d + 1) n _ (by omega) (by omega) (by omega) (hX.up (by omega)) (fun i k1 k2 => ?_) ?_ (fun k hk => ?_)
      · rw [upS_t (by omega)]; exact h4 i k1 k2
      · rw [upS_t (by omega)]; exact h5
      · by_cases w : k = d
        · subst w
          have e : 589 + k + 1 = 589 + (k + 1) := by omega
          rw [upS_hit, e, h6 (k + 1) (by omega), if_neg (by omega), if_neg (by omega), if_neg (by omega), if_pos (by omega)]
        · rw [upS_t (by omega), h6 k hk]
          by_cases z : k < q
          · rw [if_pos z, if_pos z]
          · rw [if_neg z, if_neg z]
            by_cases y : k < d
            · rw [if_pos y, if_pos (by omega)]
            · rw [if_neg y, if_neg (by omega)]
  refine key (nv r 16 - 1 - q) q fuel _ (by omega) (by unfold fuel; omega) (Nat.le_refl _) ((MX.rf md).up (by omega)) (fun i k1 k2 => ?_) ?_ (fun k hk => ?_)
  · rw [upS_t (by omega)]; exact hi i
  · rw [upS_hit]
  · rw [upS_t (by omega), hi]
    by_cases z : k < q
    · rw [if_pos z]
    · rw [if_neg z, if_neg (by omega)]
theorem c_removeRequest (hI : InvF F r) (hR : RelF F b sd r) {q : Nat} (hq : q < nv r 16) : ∃ sd', f_X4_removeRequest sd (nI q) = some (r (589 + q), sd') ∧ (∀ k j t, ¬ (k = 15 ∧ j = 0) → ¬ (k = 4 ∧ j = 0 ∧ t = 13) → sd' k j t = sd k j t) ∧ sd' 4 0 13 = nI (nv r 16 - 1) ∧ ∀ k, k < nv r 16 - 1 → sd' 15 0 k = if k < q then r (589 + k) else r (589 + k + 1) := by
  have l16 := hI.l16
  unfold f_X4_removeRequest
  rw [hR.s13, hI.c16, rsu (by show 1 ≤ nv r 16; omega)]
  simp (disch := omega) only [xg, vinT, xl, nI_clamp, hR.rq q hq]
  have key : ∀ (k d n : Nat) (s : SD), d + k = nv r 16 - 1 → k < n → q ≤ d → (∀ k j t, ¬ (k = 15 ∧ j = 0) → ¬ (k = 4 ∧ j = 0 ∧ t = 13) → s k j t = sd k j t) → s 4 0 13 = nI (nv r 16 - 1) → (∀ k, k < nv r 16 → s 15 0 k = if k < q then r (589 + k) else if k < d then r (589 + k + 1) else r (589 + k)) → ∃ sd', f_X4_removeRequest_L19 (r (589 + q)) n (nI d) s = some (r (589 + q), sd') ∧ (∀ k j t, ¬ (k = 15 ∧ j = 0) → ¬ (k = 4 ∧ j = 0 ∧ t = 13) → sd' k j t = sd k j t) ∧ sd' 4 0 13 = nI (nv r 16 - 1) ∧ ∀ k, k < nv r 16 - 1 → sd' 15 0 k = if k < q then r (589 + k) else r (589 + k + 1) := by
    intro k
    induction k with
    | zero =>
      intro d n s h1 h2 h3 h4 h5 h6
      obtain ⟨n, rfl⟩ : ∃ x, n = x + 1 := ⟨n - 1, by omega⟩
      rw [f_X4_removeRequest_L19, h5]
      simp (disch := omega) only [nI_leI, if_pos]
      refine ⟨s, rfl, h4, h5, fun k hk => ?_⟩
      rw [h6 k (by omega)]
      by_cases z : k < q
      · rw [if_pos z, if_pos z]
      · rw [if_neg z, if_neg z, if_pos (by omega)]
    | succ k ih =>
      intro d n s h1 h2 h3 h4 h5 h6
      obtain ⟨n, rfl⟩ : ∃ x, n = x + 1 := ⟨n - 1, by omega⟩
      rw [f_X4_removeRequest_L19, h5]
      simp (disch := omega) only [xl, xg, vinT, ra, nI_clamp, nI_leI, if_neg]
      refine ih (d + 1) n _ (by omega) (by omega) (by omega) (fun k j t k1 k2 => ?_) ?_ (fun k hk => ?_)
      · simp only [upS]
        rw [if_neg (by omega)]
        exact h4 k j t k1 k2
      · rw [upS_k (by omega)]; exact h5
      · by_cases w : k = d
        · subst w
          have e : 589 + k + 1 = 589 + (k + 1) := by omega
          rw [upS_hit, h6 (k + 1) (by omega), if_neg (by omega), if_neg (by omega), if_neg (by omega), if_pos (by omega), e]
        · rw [upS_t (by omega), h6 k hk]
          by_cases z : k < q
          · rw [if_pos z, if_pos z]
          · rw [if_neg z, if_neg z]
            by_cases y : k < d
            · rw [if_pos y, if_pos (by omega)]
            · rw [if_neg y, if_neg (by omega)]
  refine key (nv r 16 - 1 - q) q fuel _ (by omega) (by unfold fuel; omega) (Nat.le_refl _) (fun k j t k1 k2 => ?_) ?_ (fun k hk => ?_)
  · simp only [upS]
    rw [if_neg k2]
  · rw [upS_hit]
  · rw [upS_k (by omega), hR.rq k hk]
    by_cases z : k < q
    · rw [if_pos z]
    · rw [if_neg z, if_neg (by omega)]
theorem st_dropRequest (hJ : JJ b cs m) (hb : b < 2 ^ 27) (a : Int32) : ST (b + 64) (f_X7_dropRequest cs a) (f_X8_dropRequest m a) := by
  obtain ⟨m1, e1, r1, s1⟩ := thr m
  obtain ⟨cs1, m2, f1, c1, q1, q2, hrow, hI, hR0, hR, hx, q3, q4, q5, q6, q7⟩ := edit_go hJ s1
  have l16 := hI.l16
  unfold f_X7_dropRequest f_X8_dropRequest
  rw [c_hasRequest hI hR0, xb, xl, e1, m_isRequest rfl hI, xb]
  rcases hasV_cases a (n := nv (m1 30 0) 16) (by omega) with h | ⟨h, q, hq, rfl⟩
  · rw [h, if_pos rfl, if_pos rfl]; exact ⟨_, _, _, rfl, rfl, (hJ.same s1).more (by omega)⟩
  · rw [h, if_neg i1, if_neg i1, q1, xb, q2, xb]
    obtain ⟨m3, g1, hX, g3⟩ := m_drops hrow hI hq
    obtain ⟨sd3, k1, k2, k3, k4⟩ := c_removeRequest hI hR hq
    have hi2 : ∀ i, m2 30 0 i = (m1 30 0) i := fun i => by rw [hrow]
    rw [k1, xb]
    simp (disch := omega) only [xl, xg, vinT, la, nI_clamp, hi2]
    rw [g1, xb]
    obtain ⟨d0, d16, dq⟩ := g3
    have sh : ∀ k, k < nv (m1 30 0) 16 - 1 → isN (m3 30 0) (589 + k) 19 ∧ nv (m3 30 0) (589 + k) < nv (m1 30 0) 9 := fun k hk => by
      have e := dq k hk
      by_cases z : k < q
      · rw [if_pos z] at e
        have g := hI.req k (by omega)
        exact ⟨isN_eq e g.1, by rw [nv_eq e]; exact g.2⟩
      · rw [if_neg z] at e
        have g := hI.req (k + 1) (by omega)
        have e2 : 589 + k + 1 = 589 + (k + 1) := by omega
        rw [e2] at e
        have e3 := nv_eq e
        exact ⟨⟨by rw [e3, e]; exact g.1.1, by rw [e3]; exact g.1.2⟩, by rw [e3]; exact g.2⟩
    obtain ⟨hI3, hR3⟩ := req_step (r' := m3 30 0) (sd' := sd3) (Q := nv (m1 30 0) 16 - 1) hI hR (by omega) d0 d16 sh k2 k3 (fun k hk => by rw [k4 k hk, dq k hk])
    have n9 : nv (m3 30 0) 9 = nv (m1 30 0) 9 := nv_eq (d0 9 (by omega) (by omega))
    exact ⟨_, _, m3, rfl, rfl, hJ.edit s1 (by omega) q3 q4 q5 q6 q7 hX (inv_of hI3 n9) ((rel_of hR3 n9).more (by omega))⟩
end ED4
end
section
/-! Layer 2: the questions of time -/
section TIM
variable {b : Nat} {sd md : SD} {r : RW}
theorem i32_back (x y : Int32) : x + y - x = y := by grind
theorem i32_back3 (x y z : Int32) : x + y + z - x = y + z := by grind
theorem m_bringTime (hr : md 30 0 = r) (hI : Inv r) {p d : Nat} (hp : p < nv r 7) (hd : d < nv r 6) : ∃ m3, f_X8_bringTime md (nI p) (nI d) = some (nI (btm r p d), m3) ∧ MSame md m3 := by
  have l6 := hI.l6
  obtain ⟨m2, e2, x2, r2⟩ := m_brings (md := trM md) ((trM_row md).trans hr) hI hp hd
  obtain ⟨m3, e3, s3⟩ := m_back x2
  refine ⟨m3, ?_, s3⟩
  unfold f_X8_bringTime
  rw [m_tries, xb, e2, xb, e3, xb, r2, hr, (use_rows d (by omega) (br0 r p d)).1 12 (by omega) (by omega)]
  have : br0 r p d 12 = r 12 + nI (btm r p d) := by
    unfold br0
    simp (disch := omega) only [rup_ne, rup_hit]
  rw [this, i32_back]
/-- how long it takes to bring a platter into its drive -/
def tmQ (r : RW) (p : Nat) : Int32 := if holdQ r (nI p) = -1 then nI (btm r p (chQ r p).toNatClampNeg) else 0
theorem c_chosenBringTime (hI : Inv r) (hR : Rel b sd r) (hb : b < 2 ^ 29) (h0 : 0 < nv r 6) {p : Nat} (hp : p < nv r 7) : f_X4_chosenBringTime sd (nI p) = some (tmQ r p) := by
  have l6 := hI.l6
  obtain ⟨d, hd, hq, hc⟩ := chQ_cases h0 p
  unfold f_X4_chosenBringTime tmQ
  rw [c_driveToChoose hI hR hb h0, hq, xb, if_neg (by rw [nm1 (by omega)]; exact id), c_bringTime hI hR hp hd, xb, nI_clamp (by omega)]
  rcases hc with ⟨h, hn⟩ | ⟨h, -, hn⟩
  · rw [if_neg (hn d hd), if_pos h]
  · rw [if_pos hn, if_neg h]
theorem m_timeFor (hr : md 30 0 = r) (hI : Inv r) (hR : Rel b sd r) (hb : b < 2 ^ 29) (h0 : 0 < nv r 6) {p : Nat} (hp : p < nv r 7) : ∃ m3, f_X8_timeFor md (nI p) = some (tmQ r p, m3) ∧ MSame md m3 := by
  have l6 := hI.l6
  obtain ⟨d, hd, hq, hc⟩ := chQ_cases h0 p
  have hU := hR.useN (by omega)
  unfold f_X8_timeFor tmQ
  rw [m_inDrive hr hI, xb, hq, nI_clamp (by omega)]
  by_cases h : holdQ r (nI p) = -1
  · rw [if_pos h, if_pos h, m_freeDrive hr hI hU h0, xb]
    have : freQ r (fun d => nv r (25 + d)) = nI d := by
      rw [← hq]
      unfold chQ
      rw [if_pos h]
    obtain ⟨m3, e3, s3⟩ := m_bringTime hr hI hp hd
    rw [this, e3, xb]
    exact ⟨m3, rfl, s3⟩
  · rw [if_neg h, if_neg h]
    exact ⟨md, rfl, MSame.rf md⟩
theorem c_mountProblem (hI : Inv r) (hR : Rel b sd r) (a : Int32) : f_X7_mountProblem sd a = some (if hasV a (nv r 7) = 0 then -1000001 else if r 6 = 0 then -1000007 else 0) := by
  unfold f_X7_mountProblem
  rw [c_hasPlatter hI hR, xb, hR.s3]
  split
  · rfl
  · split <;> rfl
theorem q_chosenDrive (hr : md 30 0 = r) (hI : Inv r) (hR : Rel b sd r) (hb : b < 2 ^ 29) (a : Int32) : Ans md (f_X7_chosenDrive sd a) (f_X8_chosenDrive md a) := by
  obtain ⟨m1, e1, r1, s1⟩ := thr md
  have hr1 : m1 30 0 = r := r1.trans hr
  have l7 := hI.l7
  unfold f_X7_chosenDrive f_X8_chosenDrive
  rw [c_mountProblem hI hR, xb, xl, e1, m_isPlatter hr1 hI, xb, hr1]
  rcases hasV_cases a (n := nv r 7) (by omega) with h | ⟨h, p, hp, rfl⟩
  · rw [h, if_pos rfl, if_neg (by decide), if_pos rfl]; exact ⟨_, _, rfl, rfl, s1⟩
  · rw [h, if_neg i1, if_neg i1]
    by_cases z : r 6 = 0
    · rw [if_pos z, if_neg (by decide), if_pos z]; exact ⟨_, _, rfl, rfl, s1⟩
    · have h0 : 0 < nv r 6 := Nat.pos_of_ne_zero (fun y => z ((z6 hI).mpr y))
      rw [if_neg z, if_pos rfl, if_neg z, c_driveToChoose hI hR hb h0, xb, m_chosen hr1 hI (hR.useN (by omega)) h0, xb]
      exact ⟨_, _, rfl, rfl, s1⟩
theorem q_mountTime (hr : md 30 0 = r) (hI : Inv r) (hR : Rel b sd r) (hb : b < 2 ^ 29) (a : Int32) : Ans md (f_X7_mountTime sd a) (f_X8_mountTime md a) := by
  obtain ⟨m1, e1, r1, s1⟩ := thr md
  have hr1 : m1 30 0 = r := r1.trans hr
  have l7 := hI.l7
  unfold f_X7_mountTime f_X8_mountTime
  rw [c_mountProblem hI hR, xb, xl, e1, m_isPlatter hr1 hI, xb, hr1]
  rcases hasV_cases a (n := nv r 7) (by omega) with h | ⟨h, p, hp, rfl⟩
  · rw [h, if_pos rfl, if_neg (by decide), if_pos rfl]; exact ⟨_, _, rfl, rfl, s1⟩
  · rw [h, if_neg i1, if_neg i1]
    by_cases z : r 6 = 0
    · rw [if_pos z, if_neg (by decide), if_pos z]; exact ⟨_, _, rfl, rfl, s1⟩
    · have h0 : 0 < nv r 6 := Nat.pos_of_ne_zero (fun y => z ((z6 hI).mpr y))
      obtain ⟨m3, e3, s3⟩ := m_timeFor hr1 hI hR hb h0 hp
      rw [if_neg z, if_pos rfl, if_neg z, c_chosenBringTime hI hR hb h0 hp, xb, e3, xb]
      exact ⟨_, _, rfl, rfl, s1.tr s3⟩
theorem q_mountTimeIn (hr : md 30 0 = r) (hI : Inv r) (hR : Rel b sd r) (a c : Int32) : Ans md (f_X7_mountTimeIn sd a c) (f_X8_mountTimeIn md a c) := by
  obtain ⟨m1, e1, r1, s1⟩ := thr md
  have hr1 : m1 30 0 = r := r1.trans hr
  have l7 := hI.l7
  have l6 := hI.l6
  unfold f_X7_mountTimeIn f_X8_mountTimeIn
  rw [c_hasPlatter hI hR, xb, xl, e1, m_isPlatter hr1 hI, xb]
  rcases hasV_cases a (n := nv r 7) (by omega) with h | ⟨h, p, hp, rfl⟩
  · rw [h, if_pos rfl, if_pos rfl]; exact ⟨_, _, rfl, rfl, s1⟩
  · rw [h, if_neg i1, if_neg i1, c_hasDrive hI hR, xb, m_isDrive hr1 hI, xb]
    rcases hasV_cases c (n := nv r 6) (by omega) with g | ⟨g, d, hd, rfl⟩
    · rw [g, if_pos rfl, if_pos rfl]; exact ⟨_, _, rfl, rfl, s1⟩
    · rw [g, if_neg i1, if_neg i1, c_driveHolding hI hR, xb, m_inDrive hr1 hI, xb, xl, c_bringTime hI hR hp hd, xb]
      rcases holdQ_cases r (nI p) with ⟨w, hn⟩ | ⟨e, he, w, hn⟩
      · rw [w, if_pos rfl, if_neg (hn d hd), if_neg (show ¬ ((-1 : Int32) = nI d) by rw [m1n (by omega)]; exact id), if_pos rfl]
        obtain ⟨m3, e3, s3⟩ := m_bringTime hr1 hI hp hd
        rw [e3, xb]
        exact ⟨_, _, rfl, rfl, s1.tr s3⟩
      · rw [w, if_neg (by rw [nm1 (by omega)]; exact id)]
        by_cases z : e = d
        · subst z
          rw [if_pos rfl, if_pos rfl, if_pos hn]
          exact ⟨_, _, rfl, rfl, s1⟩
        · have z2 : ¬ (nI e = nI d) := by rw [nI_eq (by omega) (by omega)]; exact z
          rw [if_neg z2, if_neg z2, if_neg (by rw [nm1 (by omega)]; exact id)]
          exact ⟨_, _, rfl, rfl, s1⟩
theorem q_readTime (hr : md 30 0 = r) (hI : Inv r) (hR : Rel b sd r) (hb : b < 2 ^ 28) (a : Int32) : Ans md (f_X7_readTime sd a) (f_X8_readTime md a) := by
  obtain ⟨m1, e1, r1, s1⟩ := thr md
  have hr1 : m1 30 0 = r := r1.trans hr
  have l9 := hI.l9
  have l6 := hI.l6
  unfold f_X7_readTime f_X8_readTime
  rw [xl, e1]
  rcases hasV_cases a (n := nv r 9) (by omega) with h | ⟨h, f, hf, rfl⟩
  · have g1 : f_X7_readProblem sd a = some (-1000001) := by
      unfold f_X7_readProblem
      rw [c_hasFile hI hR, xb, h, if_pos rfl]
    have g2 : f_X8_whyNotRead m1 a = some (-1000001) := by
      unfold f_X8_whyNotRead
      rw [m_isFile hr1 hI, xb, h, if_pos rfl]
    rw [g1, xb, g2, xb, if_neg (by decide), if_neg (by decide)]
    exact ⟨_, _, rfl, rfl, s1⟩
  · rw [c_readProblem hI hR hf, xb, m_whyNotRead hr1 hI hf, xb]
    by_cases z : r 6 = 0
    · rw [if_pos z, if_neg (by decide), if_neg (by decide)]
      exact ⟨_, _, rfl, rfl, s1⟩
    · rw [if_neg z]
      by_cases y : gdV r (nv r (289 + f)) = 0
      · rw [if_pos y, if_neg (by decide), if_neg (by decide)]
        exact ⟨_, _, rfl, rfl, s1⟩
      · rw [if_neg y, if_pos rfl, if_pos rfl]
        have h0 : 0 < nv r 6 := Nat.pos_of_ne_zero (fun y => z ((z6 hI).mpr y))
        obtain ⟨x1, x2⟩ := hI.cur f hf
        obtain ⟨y1, y2⟩ := (hI.ver _ x2).2.1
        obtain ⟨sd', m3, d, hd, hq, -, g2, hX, -, -, -, hck⟩ := read_both (md := trM m1) ((trM_row m1).trans hr1) hI hR hb h0 hf
        obtain ⟨m4, e4, s4⟩ := m_back hX
        rw [c_currentVersion hI hR hf, xb, (hR.ve _ x2).2.1, y1.e, c_chosenBringTime hI hR (by omega) h0 y2, xb, c_sectors hI hR x2, xb, m_tries, xb, g2, xb, e4, xb, hck, hr1]
        have : (if holdQ r (nI (nv r (349 + nv r (289 + f)))) = -1 then nI (btm r (nv r (349 + nv r (289 + f))) d) else 0) = tmQ r (nv r (349 + nv r (289 + f))) := by
          unfold tmQ
          rw [hq, nI_clamp (by omega)]
        rw [this, i32_back3]
        exact ⟨_, _, rfl, rfl, s1.tr s4⟩
theorem m_free (hr : md 30 0 = r) (hI : Inv r) {p : Nat} (hp : p < nv r 7) : f_X8_free md (nI p) = some (r (39 + p) - r (59 + p)) := by
  have l7 := hI.l7
  unfold f_X8_free
  rw [hr]
  simp (disch := omega) only [xg, vinT, la, nI_clamp]
/-- the class's best platter and the reference's, step by step -/
theorem best_go (hI : Inv r) (hR : Rel b sd r) (hb : b < 2 ^ 29) (h0 : 0 < nv r 6) {z : Nat} (hz : z ≤ 300) : ∀ (k d n n' : Nat) (m : SD) (x y : Int32) (o : Nat) (w : Int32), d + k = nv r 7 → k < n → k < n' → m 30 0 = r → ((x = -1 ∧ y = -1000005) ∨ (o < nv r 7 ∧ x = nI o ∧ y = nI o)) → ∀ (t : Int32), Ans m (f_X7_bestPlatter_L33 sd (nI z) n x t (if x = -1 then w else r (39 + o) - r (59 + o)) (nI d)) (f_X8_bestPlatter_L41 (nI z) n' y t (nI d) m) := by
  have l7 := hI.l7
  intro k
  induction k with
  | zero =>
    intro d n n' m x y o w hd hn hn' hm ho t
    obtain ⟨n, rfl⟩ : ∃ q, n = q + 1 := ⟨n - 1, by omega⟩
    obtain ⟨n', rfl⟩ : ∃ q, n' = q + 1 := ⟨n' - 1, by omega⟩
    have : d = nv r 7 := by omega
    subst this
    rw [f_X7_bestPlatter_L33, f_X8_bestPlatter_L41, hR.s6, hm, hI.c7, if_pos (nI_le (Nat.le_refl _) (by omega)), if_pos (nI_le (Nat.le_refl _) (by omega))]
    unfold f_X7_foundOrNot
    rcases ho with ⟨h1, h2⟩ | ⟨h1, h2, h3⟩
    · rw [if_pos h1, xb, h2]
      exact ⟨_, _, rfl, rfl, MSame.rf m⟩
    · rw [if_neg (by rw [h2, nm1 (by omega)]; exact id), xb, h2, h3]
      exact ⟨_, _, rfl, rfl, MSame.rf m⟩
  | succ k ih =>
    intro d n n' m x y o w hd hn hn' hm ho t
    obtain ⟨n, rfl⟩ : ∃ q, n = q + 1 := ⟨n - 1, by omega⟩
    obtain ⟨n', rfl⟩ : ∃ q, n' = q + 1 := ⟨n' - 1, by omega⟩
    have hd7 : d < nv r 7 := by omega
    have c7 : ¬ (nI (nv r 7) ≤ nI d) := by rw [nI_leI (by omega) (by omega)]; omega
    rw [f_X7_bestPlatter_L33, f_X8_bestPlatter_L41, hR.s6, hm, hI.c7, if_neg c7, if_neg c7]
    simp (disch := omega) only [xl, xg, vinT, nI_clamp, ra]
    rw [c_canTake hI hR hd7 hz, xb, m_canWrite hm hI hd7 hz, xb]
    by_cases c : ctV r d z = 0
    · rw [if_pos c, if_pos c]
      exact ih (d + 1) n n' m x y o w (by omega) (by omega) (by omega) hm ho t
    · obtain ⟨m3, e3, s3⟩ := m_timeFor hm hI hR hb h0 hd7
      have hm3 : m3 30 0 = r := s3.row.trans hm
      rw [if_neg c, if_neg c, c_chosenBringTime hI hR hb h0 hd7, xb, e3, xb]
      unfold f_X3_unused
      rw [xb, (hR.pl d hd7).2.1, (hR.pl d hd7).2.2.2.1]
      have tk : ∀ (q : Int32), q = r (39 + d) - r (59 + d) → Ans m (f_X7_bestPlatter_L33 sd (nI z) n (nI d) (tmQ r d) q (nI (d + 1))) (f_X8_bestPlatter_L41 (nI z) n' (nI d) (tmQ r d) (nI (d + 1)) m3) := fun q hq => by
        have h := ih (d + 1) n n' m3 (nI d) (nI d) d w (by omega) (by omega) (by omega) hm3 (Or.inr ⟨hd7, rfl, rfl⟩) (tmQ r d)
        rw [if_neg (by rw [nm1 (by omega)]; exact id), ← hq] at h
        obtain ⟨v, m', a1, a2, a3⟩ := h
        exact ⟨v, m', a1, a2, s3.tr a3⟩
      have lv : Ans m (f_X7_bestPlatter_L33 sd (nI z) n x t (if x = -1 then w else r (39 + o) - r (59 + o)) (nI (d + 1))) (f_X8_bestPlatter_L41 (nI z) n' y t (nI (d + 1)) m3) := by
        obtain ⟨v, m', a1, a2, a3⟩ := ih (d + 1) n n' m3 x y o w (by omega) (by omega) (by omega) hm3 ho t
        exact ⟨v, m', a1, a2, s3.tr a3⟩
      rcases ho with ⟨h1, h2⟩ | ⟨h1, h2, h3⟩
      · subst h1 h2
        rw [if_pos rfl, if_pos (by decide), if_neg (by decide)]
        exact tk _ rfl
      · subst h2 h3
        have no : ¬ (nI o = -1) := by rw [nm1 (by omega)]; exact id
        have np : ¬ (nI o < 0) := by rw [nneg (by omega)]; exact id
        rw [if_neg no, if_neg np, m_free hm3 hI hd7, xb, m_free hm3 hI h1, xb]
        rw [if_neg no] at lv ⊢
        by_cases g1 : tmQ r d < t
        · rw [if_pos g1, if_pos g1, if_neg (by decide)]
          exact tk _ rfl
        · rw [if_neg g1, if_neg g1]
          by_cases g2 : tmQ r d = t
          · rw [if_pos g2, if_pos g2]
            by_cases g3 : r (39 + o) - r (59 + o) ≤ r (39 + d) - r (59 + d)
            · rw [if_pos g3, if_pos g3, if_pos trivial]
              exact lv
            · rw [if_neg g3, if_neg g3, if_neg (by decide)]
              exact tk _ rfl
          · rw [if_neg g2, if_neg g2, if_pos trivial]
            exact lv
theorem q_bestPlatter (hr : md 30 0 = r) (hI : Inv r) (hR : Rel b sd r) (hb : b < 2 ^ 29) (a : Int32) : Ans md (f_X7_bestPlatter sd a) (f_X8_bestPlatter md a) := by
  obtain ⟨m1, e1, r1, s1⟩ := thr md
  have hr1 : m1 30 0 = r := r1.trans hr
  have l7 := hI.l7
  unfold f_X7_bestPlatter f_X8_bestPlatter
  rw [c_isSize, xb, xl, e1, isInS, xb, hR.s3, hr1]
  rcases szV_cases a with h | ⟨h, z, hz0, hz, rfl⟩
  · rw [h, if_pos rfl, if_pos rfl]; exact ⟨_, _, rfl, rfl, s1⟩
  · rw [h, if_neg i1, if_neg i1]
    by_cases y : r 6 = 0
    · rw [if_pos y, if_pos y]; exact ⟨_, _, rfl, rfl, s1⟩
    · have h0 : 0 < nv r 6 := Nat.pos_of_ne_zero (fun w => y ((z6 hI).mpr w))
      rw [if_neg y, if_neg y]
      have h := best_go hI hR hb h0 hz (nv r 7) 0 fuel fuel m1 (-1) (-1000005) 0 0 (by omega) (by unfold fuel; omega) (by unfold fuel; omega) hr1 (Or.inl ⟨rfl, rfl⟩) 0
      rw [if_pos rfl, nI_0] at h
      obtain ⟨v, m', a1, a2, a3⟩ := h
      exact ⟨v, m', a1, a2, s1.tr a3⟩
/-- the longest clean run -/
theorem cr_go (hr : md 30 0 = r) (hI : Inv r) (hR : Rel b sd r) {p : Nat} (hp : p < nv r 7) : ∀ (k d n n' : Nat) (x y : Int32), d + k = nv r (39 + p) → k < n → k < n' → ∃ v, f_X3_longestCleanRun_L9 sd p n x y (nI d) = some v ∧ f_X8_cleanRun_L31 (nI p) md n' x y (nI d) = some (v, md) := by
  have l7 := hI.l7
  obtain ⟨w1, w2⟩ := (hI.plt p hp).2.1
  have w3 := w1.l
  intro k
  induction k with
  | zero =>
    intro d n n' x y hd hn hn'
    obtain ⟨n, rfl⟩ : ∃ q, n = q + 1 := ⟨n - 1, by omega⟩
    obtain ⟨n', rfl⟩ : ∃ q, n' = q + 1 := ⟨n' - 1, by omega⟩
    have : d = nv r (39 + p) := by omega
    subst this
    rw [f_X3_longestCleanRun_L9, f_X8_cleanRun_L31, hr, (hR.pl p hp).2.1]
    simp (disch := omega) only [xg, vinT, nI_clamp, la, w1.e]
    rw [if_pos (nI_le (Nat.le_refl _) (by omega)), if_pos (nI_le (Nat.le_refl _) (by omega))]
    exact ⟨_, rfl, rfl⟩
  | succ k ih =>
    intro d n n' x y hd hn hn'
    obtain ⟨n, rfl⟩ : ∃ q, n = q + 1 := ⟨n - 1, by omega⟩
    obtain ⟨n', rfl⟩ : ∃ q, n' = q + 1 := ⟨n' - 1, by omega⟩
    have c7 : ¬ (nI (nv r (39 + p)) ≤ nI d) := by rw [nI_leI (by omega) (by omega)]; omega
    rw [f_X3_longestCleanRun_L9, f_X8_cleanRun_L31, hr, (hR.pl p hp).2.1]
    simp (disch := omega) only [xl, xg, vinT, nI_clamp, la, ra, w1.e]
    rw [if_neg c7, if_neg c7, c_isBad sd p (show d < 300 by omega), xb, m_isBad2 hr hI hR.bd hp (show d < 300 by omega), xb]
    have go : ∀ q : Int32, ∃ v, f_X3_longestCleanRun_L9 sd p n (if x < q then q else x) q (nI (d + 1)) = some v ∧ (if q ≤ x then f_X8_cleanRun_L31 (nI p) md n' x q (nI (d + 1)) else f_X8_cleanRun_L31 (nI p) md n' q q (nI (d + 1))) = some (v, md) := fun q => by
      by_cases h : x < q
      · rw [if_pos h, if_neg (i32_le_lt.mpr h)]
        exact ih (d + 1) n n' _ _ (by omega) (by omega) (by omega)
      · rw [if_neg h, if_pos (i32_lt_le.mp h)]
        exact ih (d + 1) n n' _ _ (by omega) (by omega) (by omega)
    by_cases c : b01 (bdc sd p d) = 0
    · rw [if_pos c, if_pos c]
      exact go _
    · rw [if_neg c, if_neg c]
      exact go _
theorem q_cleanRun (hr : md 30 0 = r) (hI : Inv r) (hR : Rel b sd r) (a : Int32) : Ans md (f_X7_cleanRun sd a) (f_X8_cleanRun md a) := by
  obtain ⟨m1, e1, r1, s1⟩ := thr md
  have hr1 : m1 30 0 = r := r1.trans hr
  have l7 := hI.l7
  unfold f_X7_cleanRun f_X8_cleanRun
  rw [c_hasPlatter hI hR, xb, xl, e1, m_isPlatter hr1 hI, xb, hr1]
  rcases hasV_cases a (n := nv r 7) (by omega) with h | ⟨h, p, hp, rfl⟩
  · rw [h, if_pos rfl, if_pos rfl]; exact ⟨_, _, rfl, rfl, s1⟩
  · have w1 := (hI.plt p hp).2.1.1.l
    obtain ⟨w2, w3⟩ := (hI.plt p hp).2.2.2.1
    rw [h, if_neg i1, if_neg i1]
    unfold f_X3_longestCleanRun
    simp (disch := omega) only [xl, xg, vinT, nI_clamp, la]
    rw [(hR.pl p hp).2.2.2.1, w2.e]
    obtain ⟨v, g1, g2⟩ := cr_go hr1 hI hR hp (nv r (39 + p) - nv r (59 + p)) (nv r (59 + p)) fuel fuel 0 0 (by omega) (by unfold fuel; omega) (by unfold fuel; omega)
    rw [g1, g2, xb]
    exact ⟨_, _, rfl, rfl, s1⟩
end TIM
end
section
/-! Layer 2: undoing; the kind of a sector; the nearest home -/
section UND
variable {b : Nat} {cs : CT} {m : SD}
theorem m_undo27 {m0 : SD} {c : Nat} (hc : c < 16) (h5 : m0 8 0 5 = nI c) : ∃ m', f_X8_undo_L27 fuel 0 m0 = some (nI c, m') ∧ (∀ k j t, ¬ (k = 30 ∧ j = 0 ∧ t < 605) → m' k j t = m0 k j t) ∧ ∀ t, t < 605 → m' 30 0 t = prow m0 c t := by
  have h8 : ∀ d (s : SD), (∀ k j t, s k j t = if k = 30 ∧ j = 0 ∧ t < d then prow m0 c t else m0 k j t) → s 8 0 5 = nI c := fun d s h => by rw [h, if_neg (by omega)]; exact h5
  obtain ⟨h1, h2⟩ := loop0 (L := fun n v s => f_X8_undo_L27 n v s) (N := 605) (fun d s => upS s 30 0 d (s 33 0 (605 * c + d))) (fun d s => ∀ k j t, s k j t = if k = 30 ∧ j = 0 ∧ t < d then prow m0 c t else m0 k j t) (fun s => some (s 8 0 5, s)) (by decide) (fun n s _ => by
      show f_X8_undo_L27 (n + 1) (nI 605) s = _
      rw [f_X8_undo_L27]
      exact if_pos (by decide)) (fun n d s hd hs => by
      refine ⟨?_, fun k j t => ?_⟩
      · show f_X8_undo_L27 (n + 1) (nI d) s = f_X8_undo_L27 n (nI (d + 1)) _
        rw [f_X8_undo_L27, h8 d s hs]
        simp (disch := omega) only [xl, xg, vinT, nI_clamp, lm, ra, nI_add, lle, if_neg]
      · show upS s 30 0 d (s 33 0 (605 * c + d)) k j t = _
        unfold upS
        by_cases z : k = 30 ∧ j = 0 ∧ t = d
        · obtain ⟨rfl, rfl, rfl⟩ := z
          rw [if_pos ⟨rfl, rfl, rfl⟩, if_pos ⟨rfl, rfl, by omega⟩, hs, if_neg (by omega)]
          rfl
        · rw [if_neg z, hs]
          by_cases y : k = 30 ∧ j = 0 ∧ t < d
          · rw [if_pos y, if_pos ⟨y.1, y.2.1, by omega⟩]
          · rw [if_neg y, if_neg (by omega)]) m0 (fun k j t => by rw [if_neg (by omega)])
  rw [h8 _ _ h2] at h1
  exact ⟨_, h1, fun k j t h => by rw [h2, if_neg h], fun t ht => by rw [h2, if_pos ⟨rfl, rfl, ht⟩]⟩
theorem st_undo (hJ : JJ b cs m) : ST b (f_X7_undo cs) (f_X8_undo m) := by
  obtain ⟨m1, e1, r1, s1⟩ := thr m
  have hJ1 := hJ.same s1
  obtain ⟨hI, hR, ⟨f0, c, hf, hc, h1, h2, h3, h4⟩, ⟨d1, d2, d3, d4, d5, d6⟩, ⟨⟨n1, t1, t2, t3, t4⟩, t5, t6⟩, ⟨n2, o1, o2, o3, o4⟩, hP⟩ := hJ.same s1
  unfold f_X7_undo f_X8_undo
  rw [xl, e1, h2, h3]
  by_cases z : c = 0
  · subst z
    rw [nI_0, if_pos rfl, if_pos rfl]
    exact ⟨_, _, _, rfl, rfl, hJ1⟩
  · have z' : ¬ (nI c = 0) := by
      rw [req (k := 0) (by decide) (by omega)]
      exact z
    have zm : nI c - 1 = nI (c - 1) := rsu (k := 1) (by show 1 ≤ c; omega)
    obtain ⟨q, g1, g2, g3⟩ := h4 (c - 1) (by omega)
    obtain ⟨c1, hc1⟩ : ∃ c1 : CT, c1 = kH (kH cs (upS (k_hd cs) 1 0 2 (nI (c - 1))) (k_hz cs)) (upS (k_hd cs) 1 0 2 (nI (c - 1))) (va_up (k_hz cs) ((f0 + (c - 1)) % 16) (some (k_st cs))) := ⟨_, rfl⟩
    have ev : f_X1_goBack cs = some (q, c1) := by
      have a1 : k_hd (kH cs (upS (k_hd cs) 1 0 2 (nI (c - 1))) (k_hz cs)) 1 0 1 = nI f0 := by
        show upS (k_hd cs) 1 0 2 (nI (c - 1)) 1 0 1 = _
        rw [upS_t (by omega)]; exact h1
      have a2 : k_hd (kH cs (upS (k_hd cs) 1 0 2 (nI (c - 1))) (k_hz cs)) 1 0 2 = nI (c - 1) := by
        show upS (k_hd cs) 1 0 2 (nI (c - 1)) 1 0 2 = _
        rw [upS_hit]
      have a3 : k_hz (kH cs (upS (k_hd cs) 1 0 2 (nI (c - 1))) (k_hz cs)) ((f0 + (c - 1)) % 16) = some q := g1
      unfold f_X1_goBack
      rw [h2, if_neg z', zm, xl, a1, a2, nI_add, rem16 (by omega), xl]
      simp (disch := omega) only [xg, vinT, nI_clamp, xl, a3]
      rw [hc1]
    rw [if_neg z', if_neg z', ev, xb, xl, xl, zm]
    obtain ⟨c2, k1, k2, k3, k4, k5, k6, k7, k8, k9, k10, k11, k12⟩ := forget_both (kZ c1 (q, k_sp c1, k_pl c1))
    rw [k1, xb]
    have est : k_st c2 = q := k4
    have esp : k_sp c2 = k_sp cs := by rw [k5, hc1]
    have exs : k_xs c2 = k_xs cs := by rw [k3, hc1]
    have ehd : k_hd c2 = upS (k_hd cs) 1 0 2 (nI (c - 1)) := by rw [k6, hc1]
    have ehz : k_hz c2 = va_up (k_hz cs) ((f0 + (c - 1)) % 16) (some (k_st cs)) := by rw [k7, hc1]
    have erd : k_rd c2 = k_rd cs := by rw [k8, hc1]
    have ejd : k_jd c2 = k_jd cs := by rw [k10, hc1]
    have esz : k_sz c2 = k_sz cs := by rw [k11, hc1]
    have hz2 : ∀ t u, k_hz c2 t = some u → (t = (f0 + (c - 1)) % 16 ∧ u = k_st cs) ∨ (t ≠ (f0 + (c - 1)) % 16 ∧ k_hz cs t = some u) := fun t u h => by
      rw [ehz] at h
      by_cases y : t = (f0 + (c - 1)) % 16
      · subst y
        rw [va_hit] at h
        exact Or.inl ⟨rfl, (Option.some.inj h).symm⟩
      · rw [va_off _ _ y] at h
        exact Or.inr ⟨y, h⟩
    obtain ⟨m', u1, u2, u3⟩ := m_undo27 (m0 := upS m1 8 0 5 (nI (c - 1))) (c := c - 1) (by omega) (by rw [upS_hit])
    rw [u1]
    have ue : ∀ k j t, ¬ (k = 30 ∧ j = 0 ∧ t < 605) → ¬ (k = 8 ∧ j = 0 ∧ t = 5) → m' k j t = m1 k j t := fun k j t a1 a2 => by
      rw [u2 k j t a1]
      simp only [upS]
      rw [if_neg a2]
    have up : ∀ k, prow m' k = prow m1 k := fun k => by
      funext i
      exact ue 33 0 _ (by omega) (by omega)
    have ur : ∀ i, i < 605 → m' 30 0 i = prow m1 (c - 1) i := fun i hi => by
      rw [u3 i hi]
      unfold prow
      rw [upS_k (by omega)]
    have hv : k_hd c2 1 0 2 = nI (c - 1) := by rw [ehd, upS_hit]
    refine ⟨nI (c - 1), c2, m', by rw [hv], rfl, Inv.congr g2 ur, ?_, ⟨f0, c - 1, hf, by omega, ?_, hv, ?_, fun k hk => ?_⟩, ⟨?_, fun t u h => ?_, fun t u w h h' => ?_, ?_, ?_, fun t u h => ?_⟩, ⟨⟨n1, t1, ?_, ?_, fun t ht => ?_⟩, ?_, ?_⟩, ⟨n2, o1, ?_, ?_, fun t ht => ?_⟩, ?_⟩
    · rw [est, exs]
      exact Rel.congr g2 g3 ur
    · rw [ehd, upS_t (by omega)]; exact h1
    · rw [u2 8 0 5 (by omega), upS_hit]
    · obtain ⟨q', w1, w2, w3⟩ := h4 k (by omega)
      refine ⟨q', ?_, by rw [up]; exact w2, by rw [up, exs]; exact w3⟩
      rw [ehz, va_off _ _ (by omega)]; exact w1
    · rw [est, esp]; exact (d2 _ _ g1).2
    · rw [est, esp]
      rcases hz2 t u h with ⟨-, rfl⟩ | ⟨w1, w2⟩
      · exact ⟨fun w => (d2 _ _ g1).1 w.symm, d1⟩
      · exact ⟨fun w => by subst w; exact w1 (d3 _ _ _ w2 g1), (d2 _ _ w2).2⟩
    · rcases hz2 t w h with ⟨w1, w2⟩ | ⟨w1, w2⟩
      · rcases hz2 u w h' with ⟨w3, w4⟩ | ⟨w3, w4⟩
        · omega
        · exact absurd w2 (d2 _ _ w4).1
      · rcases hz2 u w h' with ⟨w3, w4⟩ | ⟨w3, w4⟩
        · exact absurd w4 (d2 _ _ w2).1
        · exact d3 t u w w2 w4
    · rw [est, esz]; exact d6 _ _ g1
    · rw [esp, esz]; exact d5
    · rw [esz]
      rcases hz2 t u h with ⟨-, rfl⟩ | ⟨w1, w2⟩
      · exact d4
      · exact d6 t u w2
    · rw [erd]; exact t2
    · rw [ue _ _ _ (by omega) (by omega)]; exact t3
    · rw [erd, ue _ _ _ (by omega) (by omega)]; exact t4 t ht
    · rw [ejd, ue _ _ _ (by omega) (by omega)]; exact t5
    · rw [ejd, ue _ _ _ (by omega) (by omega)]; exact t6
    · rw [ejd]; exact o2
    · rw [ue _ _ _ (by omega) (by omega)]; exact o3
    · rw [ejd, ue _ _ _ (by omega) (by omega)]; exact o4 t ht
    · obtain ⟨w1, w2⟩ := k2
      by_cases y : k_pl c2 = none
      · exact Or.inl y
      · refine Or.inr (Or.inl ?_)
        rw [w2 (by rw [← w1]; exact y), upS_hit]
end UND
section SEK
variable {b : Nat} {sd md : SD} {r : RW}
theorem q_sectorKind (hr : md 30 0 = r) (hI : Inv r) (hR : Rel b sd r) (a c : Int32) : Ans md (f_X7_sectorKind sd a c) (f_X8_sectorKind md a c) := by
  obtain ⟨m1, e1, r1, s1⟩ := thr md
  have hr1 : m1 30 0 = r := r1.trans hr
  have l7 := hI.l7
  have l10 := hI.l10
  unfold f_X7_sectorKind f_X8_sectorKind
  rcases hasV_cases a (n := nv r 7) (by omega) with h | ⟨h, p, hp, rfl⟩
  · have e2 : f_X4_hasSector sd a c = some 0 := by
      unfold f_X4_hasSector
      rw [c_hasPlatter hI hR, xb, h, if_pos rfl]
    have e3 : f_X8_isSector m1 a c = some 0 := by
      unfold f_X8_isSector
      rw [m_isPlatter hr1 hI, xb, h, if_pos rfl]
    rw [e2, xb, xl, e1, e3, xb, if_pos rfl, if_pos rfl]; exact ⟨_, _, rfl, rfl, s1⟩
  · have w := (hI.plt p hp).2.1.1.l
    obtain ⟨w2, w3⟩ := (hI.plt p hp).2.2.2.1
    rw [c_hasSector hI hR hp, xb, xl, e1, m_isSector hr1 hI hp, xb]
    rcases hasV_cases c (n := nv r (39 + p)) (by omega) with g | ⟨g, s, hs, rfl⟩
    · rw [g, if_pos rfl, if_pos rfl]; exact ⟨_, _, rfl, rfl, s1⟩
    · have hs3 : s < 300 := by omega
      rw [g, if_neg i1, if_neg i1, m_versionAt hr1 hI hs3, xb]
      unfold f_X4_kindOfSector
      rw [c_versionAt hI hR hs3]
      simp (disch := omega) only [xl, xg, vinT, nI_clamp, la, c_isBad sd p hs3, m_isBad2 hr1 hI hR.bd hp hs3, xb]
      rw [hr1, (hR.pl p hp).2.2.2.1, w2.e]
      have fin : ∀ y : Int32, Ans md (x_bind (if b01 (bdc sd p s) = 0 then some y else some (y + 10)) fun q => some q) (if b01 (bdc sd p s) = 0 then some (y + 0, m1) else some (y + 10, m1)) := fun y => by
        by_cases k : b01 (bdc sd p s) = 0
        · rw [if_pos k, if_pos k, xb]
          have : y + 0 = y := by grind
          rw [this]
          exact ⟨_, _, rfl, rfl, s1⟩
        · rw [if_neg k, if_neg k, xb]
          exact ⟨_, _, rfl, rfl, s1⟩
      by_cases k : s < nv r (59 + p)
      · have k1 : ¬ (nI (nv r (59 + p)) ≤ nI s) := by rw [nI_leI (by omega) (by omega)]; omega
        have k2 : nI s < nI (nv r (59 + p)) := by rw [nI_ltI (by omega) (by omega)]; exact k
        rw [if_neg k1, if_pos k2]
        rcases verQ_cases r p s with ⟨h1, h2⟩ | ⟨v, h1, h2, h3⟩
        · rw [if_pos h1, if_pos h1]
          exact fin 3
        · have nz : ¬ (verQ r p s = -1) := by rw [h2, nm1 (by omega)]; exact id
          rw [if_neg nz, if_neg nz, h2, c_isCurrent hI hR h1, xb, m_isCurrent hr1 hI h1, xb]
          by_cases y : cuV r v = 0
          · rw [if_pos y, if_pos y]
            exact fin 2
          · rw [if_neg y, if_neg y]
            exact fin 1
      · have k1 : nI (nv r (59 + p)) ≤ nI s := by rw [nI_leI (by omega) (by omega)]; omega
        have k2 : ¬ (nI s < nI (nv r (59 + p))) := by rw [nI_ltI (by omega) (by omega)]; exact k
        rw [if_pos k1, if_neg k2]
        exact fin 0
/-- the least way from a slot to a drive -/
def wyS (r : RW) (s : Nat) : Nat → Nat → Nat → Nat
  | 0, _, x => x
  | n + 1, d, x => wyS r s n (d + 1) (if dst s (nv r (17 + d)) < x then dst s (nv r (17 + d)) else x)
theorem wyS_cap (r : RW) (s : Nat) : ∀ (n d x y : Nat), x ≤ y → (∀ e, d ≤ e → e < d + n → dst s (nv r (17 + e)) < x) → 0 < n → wyS r s n d x = wyS r s n d y := by
  intro n
  cases n with
  | zero => intro d x y _ _ h; omega
  | succ n =>
    intro d x y hxy h _
    unfold wyS
    have h1 := h d (Nat.le_refl _) (by omega)
    rw [if_pos h1, if_pos (by omega)]
theorem c_dist5 (hI : Inv r) (hR : Rel b sd r) {s : Nat} (hs : s < 24) : ∀ (k d n x : Nat), d + k = nv r 6 → k < n → x < 2 ^ 31 → f_X4_distanceToDrive_L5 sd (nI s) n (nI x) (nI d) = some (nI (wyS r s k d x)) := by
  have l6 := hI.l6
  intro k
  induction k with
  | zero =>
    intro d n x hd hn hx
    obtain ⟨n, rfl⟩ : ∃ q, n = q + 1 := ⟨n - 1, by omega⟩
    have : d = nv r 6 := by omega
    subst this
    rw [f_X4_distanceToDrive_L5, hR.s3, hI.c6, if_pos (nI_le (Nat.le_refl _) (by omega)), wyS]
  | succ k ih =>
    intro d n x hd hn hx
    obtain ⟨n, rfl⟩ : ∃ q, n = q + 1 := ⟨n - 1, by omega⟩
    have hd6 : d < nv r 6 := by omega
    obtain ⟨⟨y1, y2⟩, -⟩ := hI.drv d hd6
    have y3 := y1.l
    have dl : dst s (nv r (17 + d)) ≤ 23 := dst_le (by omega) (by omega)
    rw [f_X4_distanceToDrive_L5, hR.s3, hI.c6, if_neg (by rw [nI_leI (by omega) (by omega)]; omega)]
    simp (disch := omega) only [xl, xg, vinT, nI_clamp, (hR.dr d hd6).1, y1.e, c_abs, nI_ltI, ra]
    rw [wyS, ← ih (d + 1) n (if dst s (nv r (17 + d)) < x then dst s (nv r (17 + d)) else x) (by omega) (by omega) (by split <;> omega)]
    split <;> rfl
theorem m_near5 (hr : md 30 0 = r) (hI : Inv r) {s : Nat} (hs : s < 24) : ∀ (k d n x : Nat), d + k = nv r 6 → k < n → x < 2 ^ 31 → f_X8_nearest_L5 md (nI s) n (nI x) (nI d) = some (nI (wyS r s k d x)) := by
  have l6 := hI.l6
  intro k
  induction k with
  | zero =>
    intro d n x hd hn hx
    obtain ⟨n, rfl⟩ : ∃ q, n = q + 1 := ⟨n - 1, by omega⟩
    have : d = nv r 6 := by omega
    subst this
    rw [f_X8_nearest_L5, hr, hI.c6, if_pos (nI_le (Nat.le_refl _) (by omega)), wyS]
  | succ k ih =>
    intro d n x hd hn hx
    obtain ⟨n, rfl⟩ : ∃ q, n = q + 1 := ⟨n - 1, by omega⟩
    have hd6 : d < nv r 6 := by omega
    obtain ⟨⟨y1, y2⟩, -⟩ := hI.drv d hd6
    have y3 := y1.l
    have dl : dst s (nv r (17 + d)) ≤ 23 := dst_le (by omega) (by omega)
    rw [f_X8_nearest_L5, hr, hI.c6, if_neg (by rw [nI_leI (by omega) (by omega)]; omega)]
    simp (disch := omega) only [xl, xg, xb, vinT, nI_clamp, la, y1.e, m_far, nI_ltI, ra]
    rw [wyS, ← ih (d + 1) n (if dst s (nv r (17 + d)) < x then dst s (nv r (17 + d)) else x) (by omega) (by omega) (by split <;> omega)]
    split <;> rfl
theorem wyS_le (r : RW) (s : Nat) : ∀ (n d x : Nat), wyS r s n d x ≤ x := by
  intro n
  induction n with
  | zero => intro d x; exact Nat.le_refl _
  | succ n ih =>
    intro d x
    unfold wyS
    refine Nat.le_trans (ih _ _) ?_
    split <;> omega
/-- the way from a slot to its nearest drive -/
def wyQ (r : RW) (s : Nat) : Nat := wyS r s (nv r 6) 0 24
theorem c_distanceToDrive (hI : Inv r) (hR : Rel b sd r) {s : Nat} (hs : s < 24) : f_X4_distanceToDrive sd (nI s) = some (nI (wyQ r s)) := by
  have l6 := hI.l6
  unfold f_X4_distanceToDrive
  have h := c_dist5 hI hR hs (nv r 6) 0 fuel 24 (by omega) (by unfold fuel; omega) (by decide)
  rw [nI_0] at h
  exact h
theorem m_nearest (hr : md 30 0 = r) (hI : Inv r) (h0 : 0 < nv r 6) {s : Nat} (hs : s < 24) : f_X8_nearest md (nI s) = some (nI (wyQ r s)) := by
  have l6 := hI.l6
  unfold f_X8_nearest wyQ
  have h := m_near5 hr hI hs (nv r 6) 0 fuel 1000000000 (by omega) (by unfold fuel; omega) (by decide)
  rw [nI_0] at h
  rw [wyS_cap r s (nv r 6) 0 24 1000000000 (by decide) (fun e _ he => by
    obtain ⟨⟨y1, y2⟩, -⟩ := hI.drv e (by omega)
    have y3 := y1.l
    have : dst s (nv r (17 + e)) ≤ 23 := dst_le (by omega) (by omega)
    omega) h0]
  exact h
theorem near_go (hr : md 30 0 = r) (hI : Inv r) (hR : Rel b sd r) (h0 : 0 < nv r 6) (p : Nat) (hp : p < nv r 7) : ∀ (k d n n' : Nat) (x : Int32) (o : Nat) (w : Int32), d + k = nv r 0 → k < n → k < n' → (x = -1 ∨ (o < nv r 0 ∧ x = nI o ∧ w = nI (wyQ r o))) → ∃ v, f_X7_nearestHome_L20 sd (nI p) n x w (nI d) = some (if v = -1 then -1000005 else v) ∧ f_X8_nearestHome_L33 md (nI p) n' x (nI d) = some (v, md) ∧ (v = -1 → x = -1 ∧ ∀ e, d ≤ e → e < nv r 0 → homeQ r (nI e) ≠ -1 ∧ homeQ r (nI e) ≠ nI p) := by
  have l0 := hI.l0
  intro k
  induction k with
  | zero =>
    intro d n n' x o w hd hn hn' ho
    obtain ⟨n, rfl⟩ : ∃ q, n = q + 1 := ⟨n - 1, by omega⟩
    obtain ⟨n', rfl⟩ : ∃ q, n' = q + 1 := ⟨n' - 1, by omega⟩
    have : d = nv r 0 := by omega
    subst this
    rw [f_X7_nearestHome_L20, f_X8_nearestHome_L33, hR.s0, hr, hI.c0, if_pos (nI_le (Nat.le_refl _) (by omega)), if_pos (nI_le (Nat.le_refl _) (by omega))]
    unfold f_X7_foundOrNot
    refine ⟨x, ?_, rfl, fun h => ⟨h, fun e h1 h2 => by omega⟩⟩
    split <;> rfl
  | succ k ih =>
    intro d n n' x o w hd hn hn' ho
    obtain ⟨n, rfl⟩ : ∃ q, n = q + 1 := ⟨n - 1, by omega⟩
    obtain ⟨n', rfl⟩ : ∃ q, n' = q + 1 := ⟨n' - 1, by omega⟩
    have c7 : ¬ (nI (nv r 0) ≤ nI d) := by rw [nI_leI (by omega) (by omega)]; omega
    rw [f_X7_nearestHome_L20, f_X8_nearestHome_L33, hR.s0, hr, hI.c0, if_neg c7, if_neg c7, c_platterWithHome hI hR, xb, m_homeAt (k0 := 30) hr hI, xb, c_distanceToDrive hI hR (by omega), xb]
    simp only [xl, ra]
    have ld : wyQ r d ≤ 24 := wyS_le _ _ _ _ _
    by_cases a : homeQ r (nI d) = -1 ∨ homeQ r (nI d) = nI p
    · have e1 : ∀ {α : Type} (A B : α), (if homeQ r (nI d) = -1 then A else if homeQ r (nI d) = nI p then A else B) = A := fun A B => by
        rcases a with a | a
        · rw [if_pos a]
        · rw [if_pos a]; split <;> rfl
      rw [e1, e1]
      have tk : ∃ v, f_X7_nearestHome_L20 sd (nI p) n (nI d) (nI (wyQ r d)) (nI (d + 1)) = some (if v = -1 then -1000005 else v) ∧ f_X8_nearestHome_L33 md (nI p) n' (nI d) (nI (d + 1)) = some (v, md) ∧ (v = -1 → x = -1 ∧ ∀ e, d ≤ e → e < nv r 0 → homeQ r (nI e) ≠ -1 ∧ homeQ r (nI e) ≠ nI p) := by
        obtain ⟨v, g1, g2, g3⟩ := ih (d + 1) n n' (nI d) d (nI (wyQ r d)) (by omega) (by omega) (by omega) (Or.inr ⟨by omega, rfl, rfl⟩)
        refine ⟨v, g1, g2, fun h => ?_⟩
        have := (g3 h).1
        rw [nm1 (by omega)] at this
        exact this.elim
      by_cases y : x = -1
      · rw [if_pos y, if_pos y]
        exact tk
      · rw [if_neg y, if_neg y]
        rcases ho with ho | ⟨ho, rfl, rfl⟩
        · exact absurd ho y
        · have lo : wyQ r o ≤ 24 := wyS_le _ _ _ _ _
          rw [m_nearest hr hI h0 (by omega), xb, m_nearest hr hI h0 (by omega), xb]
          by_cases u : nI (wyQ r o) ≤ nI (wyQ r d)
          · rw [if_pos u, if_pos u]
            obtain ⟨v, g1, g2, g3⟩ := ih (d + 1) n n' (nI o) o (nI (wyQ r o)) (by omega) (by omega) (by omega) (Or.inr ⟨ho, rfl, rfl⟩)
            refine ⟨v, g1, g2, fun h => ?_⟩
            exact absurd (g3 h).1 y
          · rw [if_neg u, if_neg u]
            exact tk
    · have n1 : ¬ (homeQ r (nI d) = -1) := fun z => a (Or.inl z)
      have n2 : ¬ (homeQ r (nI d) = nI p) := fun z => a (Or.inr z)
      rw [if_neg n1, if_neg n2, if_neg n1, if_neg n2]
      obtain ⟨v, g1, g2, g3⟩ := ih (d + 1) n n' x o w (by omega) (by omega) (by omega) ho
      refine ⟨v, g1, g2, fun h => ⟨(g3 h).1, fun e h1 h2 => ?_⟩⟩
      by_cases u : e = d
      · subst u
        exact ⟨n1, n2⟩
      · exact (g3 h).2 e (by omega) h2
theorem q_nearestHome (hr : md 30 0 = r) (hI : Inv r) (hR : Rel b sd r) (a : Int32) : Ans md (f_X7_nearestHome sd a) (f_X8_nearestHome md a) := by
  obtain ⟨m1, e1, r1, s1⟩ := thr md
  have hr1 : m1 30 0 = r := r1.trans hr
  have l7 := hI.l7
  have l0 := hI.l0
  unfold f_X7_nearestHome f_X8_nearestHome
  rw [c_mountProblem hI hR, xb, xl, e1, m_isPlatter hr1 hI, xb, hr1]
  rcases hasV_cases a (n := nv r 7) (by omega) with h | ⟨h, p, hp, rfl⟩
  · rw [h, if_pos rfl, if_neg (by decide), if_pos rfl]; exact ⟨_, _, rfl, rfl, s1⟩
  · rw [h, if_neg i1, if_neg i1]
    by_cases z : r 6 = 0
    · rw [if_pos z, if_neg (by decide), if_pos z]; exact ⟨_, _, rfl, rfl, s1⟩
    · have h0 : 0 < nv r 6 := Nat.pos_of_ne_zero (fun y => z ((z6 hI).mpr y))
      rw [if_neg z, if_pos rfl, if_neg z]
      obtain ⟨v, g1, g2, g3⟩ := near_go hr1 hI hR h0 p hp (nv r 0) 0 fuel fuel (-1) 0 0 (by omega) (by unfold fuel; omega) (by unfold fuel; omega) (Or.inl rfl)
      rw [nI_0] at g1 g2
      have hv : ¬ (v = -1) := fun y => by
        obtain ⟨w1, w2⟩ := (hI.plt p hp).1
        have w3 := (g3 y).2 (nv r (29 + p)) (by omega) w2
        rcases homeQ_cases r (nI (nv r (29 + p))) with ⟨-, q2⟩ | ⟨e, q1, q2, q3⟩
        · exact q2 p hp w1.e
        · have : e = p := hI.hom e p q1 hp (q3.trans w1.e.symm)
          subst this
          exact w3.2 q2
      rw [g1, g2, if_neg hv]
      exact ⟨_, _, rfl, rfl, s1⟩
end SEK
end
section
/-! Layer 2: the text that is fed, the last error, the catalogue's bytes -/
section TXT
variable {b : Nat} {cs : CT} {m : SD}
theorem q_errorKind (hJ : JJ b cs m) : Ans m (f_X7_errorKind (k_jd cs)) (f_X8_errorKind m) := by
  obtain ⟨m1, e1, r1, s1⟩ := thr m
  obtain ⟨-, -, -, -, ⟨-, t5, t6⟩, -⟩ := hJ.same s1
  unfold f_X7_errorKind f_X8_errorKind
  rw [xl, e1, t5]
  exact ⟨_, _, rfl, rfl, s1⟩
theorem q_errorPosition (hJ : JJ b cs m) : Ans m (f_X7_errorPosition (k_jd cs)) (f_X8_errorPosition m) := by
  obtain ⟨m1, e1, r1, s1⟩ := thr m
  obtain ⟨-, -, -, -, ⟨-, t5, t6⟩, -⟩ := hJ.same s1
  unfold f_X7_errorPosition f_X8_errorPosition
  rw [xl, e1, t6]
  by_cases z : k_jd cs 7 0 1 = 0
  · rw [if_pos z, if_pos z]
    exact ⟨_, _, rfl, rfl, s1⟩
  · rw [if_neg z, if_neg z]
    exact ⟨_, _, rfl, rfl, s1⟩
theorem q_outputByte (hJ : JJ b cs m) (a : Int32) : Ans m (f_X7_outputByte (k_jd cs) a) (f_X8_outputByte m a) := by
  obtain ⟨m1, e1, r1, s1⟩ := thr m
  obtain ⟨-, -, -, -, -, ⟨n, o1, o2, o3, o4⟩, -⟩ := hJ.same s1
  unfold f_X7_outputByte f_X8_outputByte
  rw [xl, e1, o2, o3, isIn0 a (by omega), xb]
  rcases pk_ix a (n := n) (by omega) with h | h | ⟨j, hj, rfl⟩
  · have : hasV a n = 0 := by unfold hasV; rw [if_pos h]
    rw [if_pos h, this, if_pos rfl]
    exact ⟨_, _, rfl, rfl, s1⟩
  · have hv : hasV a n = 0 := by
      unfold hasV
      by_cases y : a < 0
      · rw [if_pos y]
      · rw [if_neg y, if_pos h]
    have hn : ¬ (a < nI n) := i32_lt_le.mpr h
    rw [hv, if_pos rfl, if_neg hn]
    refine ⟨-1000001, m1, ?_, rfl, s1⟩
    split <;> rfl
  · have h1 : ¬ (nI j < 0) := by rw [nneg (by omega)]; exact id
    have h2 : nI j < nI n := by rw [nI_ltI (by omega) (by omega)]; exact hj
    rw [if_neg h1, if_pos h2, hasV_in hj (by omega), if_neg i1]
    simp (disch := omega) only [xg, vinT, nI_clamp]
    rw [o4 j hj]
    exact ⟨_, _, rfl, rfl, s1⟩
/-- the text on both sides -/
def T2 (rd m : SD) (n : Nat) : Prop := n ≤ 900 ∧ rd 5 0 1 = nI n ∧ m 8 0 15 = nI n ∧ ∀ t, t < n → rd 20 0 t = m 38 0 t
def apR (rd : SD) (n : Nat) (x : Int32) : SD := upS (upS rd 20 0 n x) 5 0 1 (nI (n + 1))
def apM (m : SD) (n : Nat) (x : Int32) : SD := upS (upS m 38 0 n x) 8 0 15 (nI (n + 1))
theorem T2.ap {rd m : SD} {n : Nat} (h : T2 rd m n) (hn : n < 900) (x : Int32) : T2 (apR rd n x) (apM m n x) (n + 1) := by
  obtain ⟨h1, h2, h3, h4⟩ := h
  refine ⟨hn, ?_, ?_, fun t ht => ?_⟩
  · unfold apR
    rw [upS_hit]
  · unfold apM
    rw [upS_hit]
  · unfold apR apM
    rw [upS_k (show (20 : Nat) ≠ 5 by decide), upS_k (show (38 : Nat) ≠ 8 by decide)]
    by_cases z : t = n
    · subst z
      rw [upS_hit, upS_hit]
    · rw [upS_t z, upS_t z]
      exact h4 t (by omega)
def btV (a v : Int32) : Int32 := (((a >>> (v &&& 31))).toInt8.toInt32).toInt8.toInt32
theorem c_ap {rd m : SD} {n : Nat} (h : T2 rd m n) (hn : n < 900) (a v : Int32) (hv : ¬ v < 0) (k : Nat) : f_X5_appendFourBytes_L3 a (k + 1) v rd = f_X5_appendFourBytes_L3 a k (v + -8) (apR rd n (btV a v)) := by
  have h900 : ¬ ((900 : Int32) ≤ nI n) := by rw [lle (k := 900) (by decide) (by omega)]; show ¬ 900 ≤ n; omega
  rw [f_X5_appendFourBytes_L3, if_neg hv, h.2.1, if_neg h900]
  simp (disch := omega) only [xl, xg, vinT, nI_clamp]
  rw [upS_k (show (5 : Nat) ≠ 20 by decide), h.2.1, nI_1]
  rfl
theorem m_ap {rd m : SD} {n : Nat} (h : T2 rd m n) (hn : n < 900) (a v : Int32) (hv : ¬ v < 0) (k : Nat) : f_X8_feeds_L3 a (k + 1) v m = f_X8_feeds_L3 a k (v + -8) (apM m n (btV a v)) := by
  rw [f_X8_feeds_L3, if_neg hv, h.2.2.1]
  simp (disch := omega) only [xl, xg, vinT, nI_clamp]
  rw [upS_k (show (8 : Nat) ≠ 38 by decide), h.2.2.1, nI_1]
  rfl
theorem apM_off {m : SD} {n : Nat} {x : Int32} {k j t : Nat} (h1 : k ≠ 38) (h2 : ¬ (k = 8 ∧ j = 0 ∧ t = 15)) : apM m n x k j t = m k j t := by
  unfold apM
  have : upS (upS m 38 0 n x) 8 0 15 (nI (n + 1)) k j t = upS m 38 0 n x k j t := by
    simp only [upS]
    rw [if_neg h2]
  rw [this, upS_k h1]
theorem four {rd m : SD} {n : Nat} (h : T2 rd m n) (hn : n + 4 ≤ 900) (a : Int32) : ∃ rd' m', f_X5_appendFourBytes rd a = some rd' ∧ f_X8_feeds m a = some m' ∧ T2 rd' m' (n + 4) ∧ ∀ k j t, k ≠ 38 → ¬ (k = 8 ∧ j = 0 ∧ t = 15) → m' k j t = m k j t := by
  have h1 := h.ap (by omega) (btV a 24)
  have h2 := h1.ap (by omega) (btV a 16)
  have h3 := h2.ap (by omega) (btV a 8)
  have h4 := h3.ap (by omega) (btV a 0)
  refine ⟨_, _, ?_, ?_, h4, fun k j t k1 k2 => ?_⟩
  · show f_X5_appendFourBytes_L3 a (19995 + 1 + 1 + 1 + 1 + 1) 24 rd = _
    rw [c_ap h (by omega) a 24 (by decide) _, show (24 : Int32) + -8 = 16 by decide, c_ap h1 (by omega) a 16 (by decide) _, show (16 : Int32) + -8 = 8 by decide, c_ap h2 (by omega) a 8 (by decide) _, show (8 : Int32) + -8 = 0 by decide, c_ap h3 (by omega) a 0 (by decide) _, f_X5_appendFourBytes_L3, if_pos (by decide)]
  · show f_X8_feeds_L3 a (19995 + 1 + 1 + 1 + 1 + 1) 24 m = _
    rw [m_ap h (by omega) a 24 (by decide) _, show (24 : Int32) + -8 = 16 by decide, m_ap h1 (by omega) a 16 (by decide) _, show (16 : Int32) + -8 = 8 by decide, m_ap h2 (by omega) a 8 (by decide) _, show (8 : Int32) + -8 = 0 by decide, m_ap h3 (by omega) a 0 (by decide) _, f_X8_feeds_L3, if_pos (by decide)]
  · rw [apM_off k1 k2, apM_off k1 k2, apM_off k1 k2, apM_off k1 k2]
/-- only the text changes -/
theorem JJ.text {m' : SD} {rd' : SD} {n : Nat} (h : JJ b cs m) (hT : T2 rd' m' n) (he : ∀ k j t, k ≠ 38 → ¬ (k = 8 ∧ j = 0 ∧ t = 15) → m' k j t = m k j t) : JJ b (kR cs rd' (k_rn cs)) m' := by
  obtain ⟨h1, h2, ⟨f0, c, h3⟩, h4, ⟨-, t5, t6⟩, ⟨n2, o1, o2, o3, o4⟩, h7⟩ := h
  have hr : m' 30 0 = m 30 0 := funext fun t => he 30 0 t (by decide) (by omega)
  refine ⟨by rw [hr]; exact h1, by rw [hr]; exact h2, ⟨f0, c, HSx.same h3 (he _ _ _ (by decide) (by omega)) (fun t => he _ _ _ (by decide) (by omega))⟩, h4, ⟨⟨n, hT⟩, ?_, ?_⟩, ⟨n2, o1, o2, ?_, fun t ht => ?_⟩, by rw [hr]; exact h7⟩
  · rw [he _ _ _ (by decide) (by omega)]; exact t5
  · rw [he _ _ _ (by decide) (by omega)]; exact t6
  · rw [he _ _ _ (by decide) (by omega)]; exact o3
  · rw [he _ _ _ (by decide) (by omega)]; exact o4 t ht
theorem st_feed (hJ : JJ b cs m) (a1 a2 a3 a4 a5 : Int32) : ∃ v rd' m', f_X7_feed (k_rd cs) a1 a2 a3 a4 a5 = some (v, rd') ∧ f_X8_feed m a1 a2 a3 a4 a5 = some (v, m') ∧ JJ b (kR cs rd' (k_rn cs)) m' := by
  obtain ⟨m1, e1, r1, s1⟩ := thr m
  have hJ1 := hJ.same s1
  obtain ⟨-, -, -, -, ⟨⟨n, hT⟩, -⟩, -⟩ := hJ.same s1
  have hT : T2 (k_rd cs) m1 n := hT
  have n9 := hT.1
  unfold f_X7_feed f_X8_feed
  rw [xl, e1, hT.2.1, hT.2.2.1]
  by_cases z : n + 20 ≤ 900
  · have z1 : nI n + 20 ≤ (900 : Int32) := by
      rw [ra]
      exact (rle (k := 900) (by decide) (by show n + 20 < 2 ^ 31; omega)).mpr z
    rw [if_pos z1, if_pos z1]
    obtain ⟨r1, p1, x1, y1, u1, w1⟩ := four hT (by omega) a1
    obtain ⟨r2, p2, x2, y2, u2, w2⟩ := four u1 (by omega) a2
    obtain ⟨r3, p3, x3, y3, u3, w3⟩ := four u2 (by omega) a3
    obtain ⟨r4, p4, x4, y4, u4, w4⟩ := four u3 (by omega) a4
    obtain ⟨r5, p5, x5, y5, u5, w5⟩ := four u4 (by omega) a5
    rw [x1, xb, x2, xb, x3, xb, x4, xb, x5, xb, y1, xb, y2, xb, y3, xb, y4, xb, y5, xb, u5.2.1, u5.2.2.1]
    refine ⟨_, _, _, rfl, rfl, hJ1.text u5 (fun k j t k1 k2 => ?_)⟩
    rw [w5 k j t k1 k2, w4 k j t k1 k2, w3 k j t k1 k2, w2 k j t k1 k2, w1 k j t k1 k2]
  · have z1 : ¬ (nI n + 20 ≤ (900 : Int32)) := by
      rw [ra]
      exact fun y => z ((rle (k := 900) (by decide) (by show n + 20 < 2 ^ 31; omega)).mp y)
    rw [if_neg z1, if_neg z1]
    exact ⟨_, _, _, rfl, rfl, hJ1⟩
end TXT
end
section
/-! Layer 2: the empty jukebox -/
def dfR : RW := fun t => if t = 0 then 12 else if t = 1 then 1 else if t = 2 then 2 else if t = 3 then 5 else if t = 4 then 1 else if t = 5 then 3 else if 21 ≤ t ∧ t < 25 then -1 else 0
theorem m_def21 (k0 : Nat) (s0 : SD) : ∃ m', f_X8_defaults_L21 k0 fuel 0 s0 = some m' ∧ (∀ k j t, ¬ (k = k0 ∧ j = 0 ∧ t < 605) → m' k j t = s0 k j t) ∧ ∀ t, t < 605 → m' k0 0 t = if t < 6 ∨ (21 ≤ t ∧ t < 25) then dfR t else s0 k0 0 t := by
  obtain ⟨h1, h2⟩ := loop0 (L := fun n v s => f_X8_defaults_L21 k0 n v s) (N := 4) (fun d s => upS s k0 0 (21 + d) (-1)) (fun d s => ∀ k j t, s k j t = if k = k0 ∧ j = 0 ∧ 21 ≤ t ∧ t < 21 + d then -1 else s0 k j t) (fun s => some (upS (upS (upS (upS (upS (upS s k0 0 0 12) k0 0 1 1) k0 0 2 2) k0 0 3 5) k0 0 4 1) k0 0 5 3)) (by decide) (fun n s _ => by
      show f_X8_defaults_L21 k0 (n + 1) (nI 4) s = _
      rw [f_X8_defaults_L21, if_pos (by decide)]
      rfl) (fun n d s hd hs => by
      refine ⟨?_, fun k j t => ?_⟩
      · show f_X8_defaults_L21 k0 (n + 1) (nI d) s = f_X8_defaults_L21 k0 n (nI (d + 1)) _
        rw [f_X8_defaults_L21]
        simp (disch := omega) only [xl, xg, vinT, nI_clamp, la, ra, lle, if_neg]
      · show upS s k0 0 (21 + d) (-1) k j t = _
        unfold upS
        by_cases z : k = k0 ∧ j = 0 ∧ t = 21 + d
        · rw [if_pos z, if_pos ⟨z.1, z.2.1, by omega, by omega⟩]
        · rw [if_neg z, hs]
          by_cases y : k = k0 ∧ j = 0 ∧ 21 ≤ t ∧ t < 21 + d
          · rw [if_pos y, if_pos ⟨y.1, y.2.1, y.2.2.1, by omega⟩]
          · rw [if_neg y, if_neg (by omega)]) s0 (fun k j t => by rw [if_neg (by omega)])
  obtain ⟨sF, hsF⟩ : ∃ sF, sF = itr (fun d s => upS s k0 0 (21 + d) (-1)) 4 0 s0 := ⟨_, rfl⟩
  rw [← hsF] at h1 h2
  refine ⟨_, h1, fun k j t h => ?_, fun t ht => ?_⟩
  · simp only [upS]
    rw [if_neg (by omega), if_neg (by omega), if_neg (by omega), if_neg (by omega), if_neg (by omega), if_neg (by omega), h2, if_neg (by omega)]
  · simp only [upS, true_and]
    unfold dfR
    by_cases c5 : t = 5
    · subst c5; simp
    by_cases c4 : t = 4
    · subst c4; simp
    by_cases c3 : t = 3
    · subst c3; simp
    by_cases c2 : t = 2
    · subst c2; simp
    by_cases c1 : t = 1
    · subst c1; simp
    by_cases c0 : t = 0
    · subst c0; simp
    rw [if_neg c5, if_neg c4, if_neg c3, if_neg c2, if_neg c1, if_neg c0, if_neg c0, if_neg c1, if_neg c2, if_neg c3, if_neg c4, if_neg c5, h2]
    by_cases y : 21 ≤ t ∧ t < 25
    · rw [if_pos ⟨rfl, rfl, y.1, by omega⟩, if_pos (Or.inr y), if_pos y]
    · rw [if_neg (by omega), if_neg (by omega)]
theorem m_defaults (k0 : Nat) (md : SD) : ∃ m', f_X8_defaults md k0 = some m' ∧ (∀ k j t, ¬ (k = k0 ∧ j = 0 ∧ t < 605) → m' k j t = md k j t) ∧ ∀ t, t < 605 → m' k0 0 t = dfR t := by
  unfold f_X8_defaults
  obtain ⟨h1, h2⟩ := loop0 (L := fun n v s => f_X8_defaults_L2 k0 n v s) (N := 605) (fun d s => upS s k0 0 d 0) (fun d s => ∀ k j t, s k j t = if k = k0 ∧ j = 0 ∧ t < d then 0 else md k j t) (fun s => f_X8_defaults_L21 k0 fuel 0 s) (by decide) (fun n s _ => by
      show f_X8_defaults_L2 k0 (n + 1) (nI 605) s = _
      rw [f_X8_defaults_L2, if_pos (by decide)]) (fun n d s hd hs => by
      refine ⟨?_, fun k j t => ?_⟩
      · show f_X8_defaults_L2 k0 (n + 1) (nI d) s = f_X8_defaults_L2 k0 n (nI (d + 1)) _
        rw [f_X8_defaults_L2]
        simp (disch := omega) only [xl, xg, vinT, nI_clamp, la, ra, lle, if_neg]
      · show upS s k0 0 d 0 k j t = _
        unfold upS
        by_cases z : k = k0 ∧ j = 0 ∧ t = d
        · rw [if_pos z, if_pos ⟨z.1, z.2.1, by omega⟩]
        · rw [if_neg z, hs]
          by_cases y : k = k0 ∧ j = 0 ∧ t < d
          · rw [if_pos y, if_pos ⟨y.1, y.2.1, by omega⟩]
          · rw [if_neg y, if_neg (by omega)]) md (fun k j t => by rw [if_neg (by omega)])
  obtain ⟨sF, hsF⟩ : ∃ sF, sF = itr (fun d s => upS s k0 0 d 0) 605 0 md := ⟨_, rfl⟩
  rw [← hsF] at h1 h2
  obtain ⟨m', e1, e2, e3⟩ := m_def21 k0 sF
  refine ⟨m', h1.trans e1, fun k j t h => ?_, fun t ht => ?_⟩
  · rw [e2 k j t h, h2, if_neg h]
  · have h3 : sF k0 0 t = 0 := by rw [h2, if_pos ⟨rfl, rfl, ht⟩]
    rw [e3 t ht, h3]
    by_cases y : t < 6 ∨ (21 ≤ t ∧ t < 25)
    · rw [if_pos y]
    · rw [if_neg y]
      unfold dfR
      rw [if_neg (by omega), if_neg (by omega), if_neg (by omega), if_neg (by omega), if_neg (by omega), if_neg (by omega), if_neg (by omega)]
theorem dfR_n (i n : Nat) (h : dfR i = nI n) (hn : n < 2 ^ 31) : nv dfR i = n := nv_of h hn
theorem dfR_inv : Inv dfR := by
  have n0 : nv dfR 0 = 12 := dfR_n 0 12 rfl (by decide)
  have n6 : nv dfR 6 = 0 := dfR_n 6 0 rfl (by decide)
  have n7 : nv dfR 7 = 0 := dfR_n 7 0 rfl (by decide)
  have n8 : nv dfR 8 = 0 := dfR_n 8 0 rfl (by decide)
  have n9 : nv dfR 9 = 0 := dfR_n 9 0 rfl (by decide)
  have n10 : nv dfR 10 = 0 := dfR_n 10 0 rfl (by decide)
  have n16 : nv dfR 16 = 0 := dfR_n 16 0 rfl (by decide)
  have n11 : nv dfR 11 = 0 := dfR_n 11 0 rfl (by decide)
  show InvF (nv dfR 9) dfR
  refine ⟨⟨isN_nI (n := 12) rfl (by decide) (by decide), by omega, isN_nI (n := 0) rfl (by decide) (by decide), isN_nI (n := 0) rfl (by decide) (by decide), isN_nI (n := 0) rfl (by decide) (by decide), isN_nI (n := 0) rfl (by decide) (by decide), isN_nI (n := 0) rfl (by decide) (by decide), isN_nI (n := 0) rfl (by decide) (by decide)⟩, ⟨isN_nI (n := 1) rfl (by decide) (by decide), isN_nI (n := 2) rfl (by decide) (by decide), isN_nI (n := 5) rfl (by decide) (by decide), isN_nI (n := 1) rfl (by decide) (by decide), isN_nI (n := 3) rfl (by decide) (by decide)⟩, ⟨isN_nI (n := 0) rfl (by decide) (by decide), by omega⟩, fun d h => by omega, fun d e h => by omega, fun p h => by omega, fun p q h => by omega, fun k h => by omega, fun k l h => by omega, fun f h => by omega, fun v h => by omega, fun q h => by omega, by omega⟩
theorem dfR_rel (s : SD) : ∃ s', f_X4_beginEmpty s = some s' ∧ Rel 0 s' dfR := by
  have n6 : nv dfR 6 = 0 := dfR_n 6 0 rfl (by decide)
  have n7 : nv dfR 7 = 0 := dfR_n 7 0 rfl (by decide)
  have n9 : nv dfR 9 = 0 := dfR_n 9 0 rfl (by decide)
  have n10 : nv dfR 10 = 0 := dfR_n 10 0 rfl (by decide)
  have n16 : nv dfR 16 = 0 := dfR_n 16 0 rfl (by decide)
  refine ⟨_, rfl, ⟨rfl, rfl, rfl, rfl, rfl, rfl, rfl, rfl, rfl, rfl, rfl⟩, ⟨rfl, rfl, rfl, rfl, rfl⟩, fun d h => by omega, ⟨⟨rfl, Nat.le_refl _⟩, isN_nI (n := 0) rfl (by decide) (by decide), fun d h => by omega, fun d e h => by omega⟩, fun p h => by omega, fun p t h => by omega, fun p t h => by omega, fun f h => by omega, fun v h => by omega, fun q h => by omega⟩
/-- the relation holds at the start -/
theorem JJ_start {cs : CT} {md m : SD} (hm : f_X8_defaults md 30 = some m) (hx : f_X4_beginEmpty (fun _ _ _ => 0) = some (k_xs cs (k_st cs))) (hz : ∀ t, k_hz cs t = none) (h1 : k_hd cs 1 0 1 = 0) (h2 : k_hd cs 1 0 2 = 0) (h5 : md 8 0 5 = 0) (hr : k_rd cs 5 0 1 = 0) (h15 : md 8 0 15 = 0) (hj1 : k_jd cs 7 0 1 = 0) (h16 : md 8 0 16 = 0) (h17 : md 8 0 17 = -1000005) (hj8 : k_jd cs 7 0 8 = 0) (h12 : md 8 0 12 = 0) (hp : k_pl cs = none) (d1 : k_st cs ≠ k_sp cs) (d2 : k_st cs < k_sz cs) (d3 : k_sp cs < k_sz cs) : JJ 0 cs m := by
  obtain ⟨m', e1, e2, e3⟩ := m_defaults 30 md
  have hmm : m' = m := Option.some.inj (e1.symm.trans hm)
  subst hmm
  obtain ⟨s', g1, g2⟩ := dfR_rel (fun _ _ _ => 0)
  have hss : s' = k_xs cs (k_st cs) := Option.some.inj (g1.symm.trans hx)
  subst hss
  have e8 : ∀ t, m' 8 0 t = md 8 0 t := fun t => e2 8 0 t (by omega)
  refine ⟨Inv.congr dfR_inv e3, Rel.congr dfR_inv g2 e3, ⟨0, 0, by omega, by omega, h1, h2, (e8 5).trans h5, fun k hk => by omega⟩, ⟨d1, fun t q h => ?_, fun t u q h => ?_, d2, d3, fun t q h => ?_⟩, ⟨⟨0, by omega, hr, (e8 15).trans h15, fun t ht => by omega⟩, ?_, ?_⟩, ⟨0, by omega, hj8, (e8 12).trans h12, fun t ht => by omega⟩, Or.inl hp⟩
  · rw [hz] at h; cases h
  · rw [hz] at h; cases h
  · rw [hz] at h; cases h
  · rw [hj1, e8 16, h16]
  · rw [hj1, if_pos rfl, e8 17, h17]
end
section
/-! Layer 2: may the batch be served; one by one -/
section BAT
variable {b : Nat} {sd md : SD} {r : RW}
/-- every requested file is readable -/
def rdA (r : RW) : Nat → Nat → Bool
  | 0, _ => true
  | n + 1, q => if gdV r (nv r (289 + nv r (589 + q))) = 0 then false else rdA r n (q + 1)
theorem c_bp29 (hI : Inv r) (hR : Rel b sd r) : ∀ (k d n : Nat), d + k = nv r 16 → k < n → f_X7_batchProblem_L29 sd n (nI d) = some (if rdA r k d = true then 0 else -1000008) := by
  have l16 := hI.l16
  intro k
  induction k with
  | zero =>
    intro d n hd hn
    obtain ⟨n, rfl⟩ : ∃ q, n = q + 1 := ⟨n - 1, by omega⟩
    have : d = nv r 16 := by omega
    subst this
    rw [f_X7_batchProblem_L29, hR.s13, hI.c16, if_pos (nI_le (Nat.le_refl _) (by omega))]
    rfl
  | succ k ih =>
    intro d n hd hn
    obtain ⟨n, rfl⟩ : ∃ q, n = q + 1 := ⟨n - 1, by omega⟩
    have hq : d < nv r 16 := by omega
    obtain ⟨y1, y2⟩ := hI.req d hq
    rw [f_X7_batchProblem_L29, hR.s13, hI.c16, if_neg (by rw [nI_leI (by omega) (by omega)]; omega)]
    simp (disch := omega) only [xl, xg, vinT, nI_clamp, ra, hR.rq d hq, y1.e]
    rw [c_isReadable hI hR y2, xb, rdA]
    by_cases z : gdV r (nv r (289 + nv r (589 + d))) = 0
    · rw [if_pos z, if_pos z]
      rfl
    · rw [if_neg z, if_neg z]
      exact ih (d + 1) n (by omega) (by omega)
theorem m_are (hr : md 30 0 = r) (hI : Inv r) : ∀ (k d n : Nat) (x : Bool), d + k = nv r 16 → k < n → f_X8_areReadable_L4 md n (b01 x) (nI d) = some (b01 (x && rdA r k d)) := by
  have l16 := hI.l16
  intro k
  induction k with
  | zero =>
    intro d n x hd hn
    obtain ⟨n, rfl⟩ : ∃ q, n = q + 1 := ⟨n - 1, by omega⟩
    have : d = nv r 16 := by omega
    subst this
    have g : (b01 x = 0 ∨ b01 x = 1) = True := by cases x <;> simp [b01]
    rw [f_X8_areReadable_L4, hr, hI.c16, if_pos (nI_le (Nat.le_refl _) (by omega))]
    simp only [g, xg]
    cases x <;> rfl
  | succ k ih =>
    intro d n x hd hn
    obtain ⟨n, rfl⟩ : ∃ q, n = q + 1 := ⟨n - 1, by omega⟩
    have hq : d < nv r 16 := by omega
    obtain ⟨y1, y2⟩ := hI.req d hq
    rw [f_X8_areReadable_L4, hr, hI.c16, if_neg (by rw [nI_leI (by omega) (by omega)]; omega)]
    simp (disch := omega) only [xl, xg, vinT, nI_clamp, la, ra, y1.e, m_isReadable hr hI y2, xb]
    cases x with
    | false =>
      rw [if_pos (show b01 false = 0 from rfl)]
      exact ih (d + 1) n false (by omega) (by omega)
    | true =>
      rw [if_neg (show ¬ b01 true = 0 by decide), rdA]
      by_cases z : gdV r (nv r (289 + nv r (589 + d))) = 0
      · rw [if_pos z, if_pos z]
        exact ih (d + 1) n false (by omega) (by omega)
      · rw [if_neg z, if_neg z]
        exact ih (d + 1) n true (by omega) (by omega)
/-- why the batch may not be served -/
def bpV (r : RW) (a : Int32) : Int32 := if a ≤ r 16 then (if r 6 = 0 then -1000007 else if rdA r (nv r 16) 0 = true then 0 else -1000008) else -1000005
theorem c_batchProblem (hI : Inv r) (hR : Rel b sd r) (a : Int32) : f_X7_batchProblem sd a = some (bpV r a) := by
  have l16 := hI.l16
  unfold f_X7_batchProblem bpV
  have h := c_bp29 hI hR (nv r 16) 0 fuel (by omega) (by unfold fuel; omega)
  rw [nI_0] at h
  rw [hR.s13, hR.s3, h]
  split
  · split <;> rfl
  · rfl
theorem m_whyNotServed (hr : md 30 0 = r) (hI : Inv r) (a : Int32) : f_X8_whyNotServed md a = some (bpV r a) := by
  have l16 := hI.l16
  unfold f_X8_whyNotServed f_X8_areReadable bpV
  have h : f_X8_areReadable_L4 md fuel 1 0 = some (b01 (true && rdA r (nv r 16) 0)) := m_are hr hI (nv r 16) 0 fuel true (by omega) (by unfold fuel; omega)
  rw [hr, h, xb]
  by_cases z : a ≤ r 16
  · rw [if_pos z, if_pos z]
    by_cases y : r 6 = 0
    · rw [if_pos y, if_pos y]
    · rw [if_neg y, if_neg y]
      cases rdA r (nv r 16) 0 <;> rfl
  · rw [if_neg z, if_neg z]
theorem bpV_0 (hI : Inv r) {a : Int32} (h : bpV r a = 0) : a ≤ r 16 ∧ 0 < nv r 6 := by
  unfold bpV at h
  by_cases z : a ≤ r 16
  · rw [if_pos z] at h
    refine ⟨z, Nat.pos_of_ne_zero (fun y => ?_)⟩
    rw [if_pos ((z6 hI).mpr y)] at h
    exact absurd h (by decide)
  · rw [if_neg z] at h
    exact absurd h (by decide)
/-- files are read one after another on both sides -/
theorem obo_go {sd0 : SD} {m0 : SD} (hI0 : Inv r) (hR0 : Rel b sd0 r) (h06 : 0 < nv r 6) : ∀ (k d n n' : Nat) (s m : SD), d + k = nv r 16 → k < n → k < n' → b + 2 * d < 2 ^ 28 → MX m0 m → (∀ i, ¬ mec i → m 30 0 i = r i) → Inv (m 30 0) → Rel (b + 2 * d) s (m 30 0) → b + 2 * nv r 16 < 2 ^ 28 → ∃ s' m', f_X7_oneByOneTime_L sd0 n s (nI d) = some s' ∧ f_X8_oneByOneTime_L23 n' (nI d) m = (x_bind (f_X8_takesBack m') fun q => some (q.1, q.2)) ∧ MX m0 m' ∧ s' 4 0 15 = m' 30 0 12 := by
  have l16 := hI0.l16
  intro k
  induction k with
  | zero =>
    intro d n n' s m hd hn hn' hb hX hf hI hR hb2
    obtain ⟨n, rfl⟩ : ∃ q, n = q + 1 := ⟨n - 1, by omega⟩
    obtain ⟨n', rfl⟩ : ∃ q, n' = q + 1 := ⟨n' - 1, by omega⟩
    have : d = nv r 16 := by omega
    subst this
    rw [f_X7_oneByOneTime_L, f_X8_oneByOneTime_L23, hR0.s13, hf 16 (by unfold mec; omega), hI0.c16, if_pos (nI_le (Nat.le_refl _) (by omega)), if_pos (nI_le (Nat.le_refl _) (by omega))]
    exact ⟨s, m, rfl, rfl, hX, hR.s15⟩
  | succ k ih =>
    intro d n n' s m hd hn hn' hb hX hf hI hR hb2
    obtain ⟨n, rfl⟩ : ∃ q, n = q + 1 := ⟨n - 1, by omega⟩
    obtain ⟨n', rfl⟩ : ∃ q, n' = q + 1 := ⟨n' - 1, by omega⟩
    have hq : d < nv r 16 := by omega
    obtain ⟨y1, y2⟩ := hI0.req d hq
    have n6 : nv (m 30 0) 6 = nv r 6 := nv_eq (hf 6 (by unfold mec; omega))
    have n9 : nv (m 30 0) 9 = nv r 9 := nv_eq (hf 9 (by unfold mec; omega))
    have c7 : ¬ (nI (nv r 16) ≤ nI d) := by rw [nI_leI (by omega) (by omega)]; omega
    rw [f_X7_oneByOneTime_L, f_X8_oneByOneTime_L23, hR0.s13, hf 16 (by unfold mec; omega), hI0.c16, if_neg c7, if_neg c7]
    simp (disch := omega) only [xl, xg, vinT, nI_clamp, la, ra, hR0.rq d hq]
    rw [hf (589 + d) (by unfold mec; omega), y1.e]
    obtain ⟨s1, m1, e, he, hch, g1, g2, hX1, hI1, hR1, hfr, -⟩ := read_both (md := m) rfl hI hR hb (by omega) (f := nv r (589 + d)) (by omega)
    have n91 : nv (m1 30 0) 9 = nv (m 30 0) 9 := nv_eq (hfr 9 (by unfold mec; omega))
    rw [g1, xb, g2, xb]
    refine ih (d + 1) n n' s1 m1 (by omega) (by omega) (by omega) (by omega) (hX.tr hX1) (fun i hi => (hfr i hi).trans (hf i hi)) (inv_of hI1 n91) ?_ hb2
    have := rel_of hR1 n91
    rw [show b + 2 * (d + 1) = b + 2 * d + 2 by omega]
    exact this
end BAT
section BAU
variable {b : Nat} {cs : CT} {m : SD}
/-- the spare State may hold anything -/
theorem JJ.spare (h : JJ b cs m) (s : SD) : JJ b (kS cs (k_sp cs) s) m := by
  obtain ⟨h1, h2, ⟨f0, c, a1, a2, a3, a4, a5, a6⟩, ⟨d1, d2, d3, d4, d5, d6⟩, h5, h6, h7⟩ := h
  refine ⟨h1, ?_, ⟨f0, c, a1, a2, a3, a4, a5, fun k hk => ?_⟩, ⟨d1, d2, d3, d4, d5, d6⟩, h5, h6, h7⟩
  · show Rel b (k_xs (kS cs (k_sp cs) s) (k_st cs)) _
    have : k_xs (kS cs (k_sp cs) s) (k_st cs) = k_xs cs (k_st cs) := va_off _ _ d1
    rw [this]
    exact h2
  · obtain ⟨q, q1, q2, q3⟩ := a6 k hk
    refine ⟨q, q1, q2, ?_⟩
    have : k_xs (kS cs (k_sp cs) s) q = k_xs cs q := va_off _ _ (d2 _ _ q1).2
    rw [this]
    exact q3
theorem st_oneByOneTime (hJ : JJ b cs m) (hb : b < 2 ^ 27) : ST b (f_X7_oneByOneTime cs) (f_X8_oneByOneTime m) := by
  obtain ⟨m1, e1, r1, s1⟩ := thr m
  have hJ1 := hJ.same s1
  obtain ⟨hI, hR, -, ⟨d1, -⟩, -⟩ := hJ.same s1
  have l16 := hI.l16
  unfold f_X7_oneByOneTime f_X8_oneByOneTime
  rw [c_batchProblem hI hR, xb, xl, e1, m_whyNotServed rfl hI, xb]
  by_cases z : bpV (m1 30 0) 1 = 0
  · obtain ⟨-, h06⟩ := bpV_0 hI z
    obtain ⟨s2, g1, g2⟩ := c_copyFrom hI hR (k_xs cs (k_sp cs))
    have hrow := trM_row m1
    obtain ⟨s3, m3, k1, k2, k3, k4⟩ := obo_go (m0 := trM m1) hI hR h06 (nv (m1 30 0) 16) 0 fuel fuel s2 (trM m1) (by omega) (by unfold fuel; omega) (by unfold fuel; omega) (by omega) (MX.rf _) (fun i _ => by rw [hrow]) (by rw [hrow]; exact hI) (by rw [hrow]; exact g2) (by omega)
    obtain ⟨m4, e4, s4⟩ := m_back k3
    rw [nI_0] at k1 k2
    rw [if_pos z, if_pos z, g1, m_tries]
    simp only [eq_true d1, xg, xb, k1, k2, e4]
    refine ⟨_, _, m4, rfl, ?_, (hJ1.same s4).spare s3⟩
    rw [k4, hR.s15]
  · rw [if_neg z, if_neg z]
    exact ⟨_, _, _, rfl, rfl, hJ1⟩
end BAU
end
section
/-! Layer 2: sets of platters as numbers; the least sums -/
theorem nI_xor (a b : Nat) : nI a ^^^ nI b = nI (a ^^^ b) := by
  apply Int32.toBitVec_inj.mp
  show (nI a).toBitVec ^^^ (nI b).toBitVec = (nI (a ^^^ b)).toBitVec
  unfold nI
  simp [BitVec.ofNat_xor]
theorem sh1n : ∀ t, t < 10 → (1 : Int32) <<< (nI t &&& 31) = nI (2 ^ t) := by decide
theorem bit_tt {s q : Nat} (hs : s < 1024) (hq : q < 10) : (((nI s >>> (nI q &&& 31)) &&& (1 : Int32)) = 0) ↔ s.testBit q = false := by
  rw [bit_t (by omega) (by omega), Nat.testBit_eq_decide_div_mod_eq]
  have h2 : s / 2 ^ q % 2 < 2 := Nat.mod_lt _ (by decide)
  rw [req (k := 0) (by decide) (by omega)]
  show s / 2 ^ q % 2 = 0 ↔ _
  simp only [decide_eq_false_iff_not]
  omega
theorem tb_x {s q i : Nat} : (s ^^^ 2 ^ q).testBit i = (s.testBit i ^^ decide (q = i)) := by
  rw [Nat.testBit_xor, Nat.testBit_two_pow]
theorem xo_lt {s q : Nat} (h : s.testBit q = true) : s ^^^ 2 ^ q < s := by
  induction q generalizing s with
  | zero =>
    have h1 : s % 2 = 1 := by simpa [Nat.testBit_zero] using h
    have h2 : (s ^^^ 2 ^ 0) / 2 = s / 2 := by rw [Nat.xor_div_two]; simp
    have h3 : ¬ ((s ^^^ 2 ^ 0) % 2 = 1) := by rw [Nat.xor_mod_two_eq_one]; simp [h1]
    generalize s ^^^ 2 ^ 0 = y at h2 h3 ⊢
    omega
  | succ q ih =>
    have h1 : (s / 2).testBit q = true := by rw [Nat.testBit_succ] at h; exact h
    have h2 := ih h1
    have e : 2 ^ (q + 1) / 2 = 2 ^ q := by rw [Nat.pow_succ]; exact Nat.mul_div_cancel _ (by decide)
    have h3 : (s ^^^ 2 ^ (q + 1)) / 2 = s / 2 ^^^ 2 ^ q := by rw [Nat.xor_div_two, e]
    rw [← h3] at h2
    generalize s ^^^ 2 ^ (q + 1) = y at h2 ⊢
    omega
theorem xo_sub {s S q : Nat} (hs : ∀ i, s.testBit i = true → S.testBit i = true) (h : s.testBit q = true) : ∀ i, (s ^^^ 2 ^ q).testBit i = true → S.testBit i = true := fun i hi => by
  rw [tb_x] at hi
  by_cases z : q = i
  · subst z; rw [h] at hi; simp at hi
  · simp [z] at hi; exact hs i hi
theorem xo_off {s q : Nat} (h : s.testBit q = true) : (s ^^^ 2 ^ q).testBit q = false := by rw [tb_x, h]; simp
theorem tb_lt {s q : Nat} (hs : s < 1024) (h : s.testBit q = true) : q < 10 := by
  refine Nat.lt_of_not_le (fun z => ?_)
  have h10 : 2 ^ 10 ≤ 2 ^ q := Nat.pow_le_pow_right (show 0 < 2 by decide) z
  have : s < 2 ^ q := Nat.lt_of_lt_of_le hs h10
  rw [Nat.testBit_lt_two_pow this] at h
  cases h
theorem mnS_congr {s : Nat} {f g : Nat → Nat} : ∀ (n q acc : Nat), (∀ i, q ≤ i → i < q + n → s.testBit i = true → f i = g i) → mnS s f n q acc = mnS s g n q acc
  | 0, _, _, _ => rfl
  | n + 1, q, acc, h => by
    unfold mnS
    by_cases z : s.testBit q = true
    · rw [if_pos z, if_pos z, h q (Nat.le_refl _) (by omega) z]
      exact mnS_congr n (q + 1) _ (fun i h1 h2 => h i (by omega) (by omega))
    · rw [if_neg z, if_neg z]
      exact mnS_congr n (q + 1) _ (fun i h1 h2 => h i (by omega) (by omega))
theorem mnS_le {s : Nat} {f : Nat → Nat} : ∀ (n q acc : Nat), mnS s f n q acc ≤ acc
  | 0, _, _ => Nat.le_refl _
  | n + 1, q, acc => by
    unfold mnS
    refine Nat.le_trans (mnS_le n (q + 1) _) ?_
    split
    · split <;> omega
    · exact Nat.le_refl _
theorem mnS_le2 {s : Nat} {f : Nat → Nat} : ∀ (n q acc i : Nat), q ≤ i → i < q + n → s.testBit i = true → mnS s f n q acc ≤ f i
  | 0, q, _, i, h1, h2, _ => by omega
  | n + 1, q, acc, i, h1, h2, h3 => by
    unfold mnS
    by_cases z : i = q
    · subst z
      rw [if_pos h3]
      refine Nat.le_trans (mnS_le n (i + 1) _) ?_
      split <;> omega
    · exact mnS_le2 n (q + 1) _ i (by omega) (by omega) h3
theorem opt_fuel {w : Nat → Nat → Nat} : ∀ (k k' s p : Nat), s ≤ k → s ≤ k' → opt w k s p = opt w k' s p
  | 0, 0, _, _, _, _ => rfl
  | 0, k' + 1, s, p, h, _ => by
    have : s = 0 := by omega
    subst this
    simp [opt]
  | k + 1, 0, s, p, _, h => by
    have : s = 0 := by omega
    subst this
    simp [opt]
  | k + 1, k' + 1, s, p, h, h' => by
    unfold opt
    by_cases z : s = 0
    · rw [if_pos z, if_pos z]
    · rw [if_neg z, if_neg z]
      refine mnS_congr 10 0 _ (fun i _ _ hi => ?_)
      have := xo_lt hi
      rw [opt_fuel k k' (s ^^^ 2 ^ i) i (by omega) (by omega)]
theorem ex_bit {s : Nat} (h0 : s ≠ 0) (hs : s < 1024) : ∃ q, q < 10 ∧ s.testBit q = true := by
  obtain ⟨q, hq⟩ := Nat.exists_testBit_of_ne_zero h0
  exact ⟨q, tb_lt hs hq, hq⟩
theorem opt_le {w : Nat → Nat → Nat} {B : Nat} : ∀ (k s p : Nat), s < 1024 → (∀ a c, (a = p ∨ s.testBit a = true) → s.testBit c = true → w a c ≤ B) → opt w k s p ≤ B * s
  | 0, _, _, _, _ => Nat.zero_le _
  | k + 1, s, p, hs, hw => by
    unfold opt
    by_cases z : s = 0
    · rw [if_pos z]; exact Nat.zero_le _
    · rw [if_neg z]
      obtain ⟨q, hq, hb⟩ := ex_bit z hs
      refine Nat.le_trans (mnS_le2 10 0 _ q (by omega) (by omega) hb) ?_
      have h1 := hw p q (Or.inl rfl) hb
      have h2 := xo_lt hb
      have h3 := opt_le (w := w) (B := B) k (s ^^^ 2 ^ q) q (by omega) (fun a c ha hc => hw a c (by
        rcases ha with rfl | ha
        · exact Or.inr hb
        · exact Or.inr (xo_sub (fun i h => h) hb a ha)) (xo_sub (fun i h => h) hb c hc))
      have h4 : B * (s ^^^ 2 ^ q) + B ≤ B * s := by
        have : B * ((s ^^^ 2 ^ q) + 1) ≤ B * s := Nat.mul_le_mul_left B h2
        rw [Nat.mul_add, Nat.mul_one] at this
        exact this
      omega
/-- the class's least rest -/
theorem c_restAfter {pd : SD} {w : Nat → Nat → Nat} {s p : Nat} (hs : s < 1024) (hp : p < 10) (hw : ∀ q, s.testBit q = true → pd 24 0 (p * 10 + q) = nI (w p q)) (ht : ∀ q, s.testBit q = true → pd 23 0 ((s ^^^ 2 ^ q) * 10 + q) = nI (opt w (s ^^^ 2 ^ q) (s ^^^ 2 ^ q) q)) (hB : ∀ q, s.testBit q = true → w p q + opt w (s ^^^ 2 ^ q) (s ^^^ 2 ^ q) q < 2 ^ 31) : f_X2_restAfter pd (nI p) (nI s) = some (nI (opt w s s p)) := by
  have key : ∀ (n q f acc : Nat), q + n = 10 → n < f → acc < 2 ^ 31 → f_X2_restAfter_L12 (nI s) pd (nI p) f (nI acc) (nI q) = some (nI (mnS s (fun i => w p i + opt w (s ^^^ 2 ^ i) (s ^^^ 2 ^ i) i) n q acc)) := by
    intro n
    induction n with
    | zero =>
      intro q f acc h1 h2 h3
      obtain ⟨f, rfl⟩ : ∃ x, f = x + 1 := ⟨f - 1, by omega⟩
      have : q = 10 := by omega
      subst this
      rw [f_X2_restAfter_L12, if_pos (by decide)]
      rfl
    | succ n ih =>
      intro q f acc h1 h2 h3
      obtain ⟨f, rfl⟩ : ∃ x, f = x + 1 := ⟨f - 1, by omega⟩
      have hq : q < 10 := by omega
      have c10 : ¬ ((10 : Int32) ≤ nI q) := by rw [lle (k := 10) (by decide) (by omega)]; show ¬ 10 ≤ q; omega
      rw [f_X2_restAfter_L12, if_neg c10, mnS]
      by_cases z : s.testBit q = true
      · have z1 : ¬ (((nI s >>> (nI q &&& 31)) &&& (1 : Int32)) = 0) := by rw [bit_tt hs hq, z]; decide
        have hx := xo_lt z
        rw [if_neg z1, if_pos z, sh1n q hq, nI_xor]
        have e1 : nI (s ^^^ 2 ^ q) * (10 : Int32) + nI q = nI ((s ^^^ 2 ^ q) * 10 + q) := by rw [rmu, nI_add]
        have e2 : nI p * (10 : Int32) + nI q = nI (p * 10 + q) := by rw [rmu, nI_add]
        rw [e1, e2]
        simp (disch := omega) only [xl, xg, vinT, nI_clamp, ra]
        rw [hw q z, ht q z, nI_add]
        have hb := hB q z
        by_cases y : w p q + opt w (s ^^^ 2 ^ q) (s ^^^ 2 ^ q) q < acc
        · rw [if_pos y, if_pos (by rw [nI_ltI (by omega) (by omega)]; exact y)]
          exact ih (q + 1) f _ (by omega) (by omega) (by omega)
        · rw [if_neg y, if_neg (by rw [nI_ltI (by omega) (by omega)]; exact y)]
          exact ih (q + 1) f _ (by omega) (by omega) (by omega)
      · have z0 : s.testBit q = false := by simpa using z
        rw [if_pos ((bit_tt hs hq).mpr z0), if_neg z]
        simp only [xl, ra]
        exact ih (q + 1) f acc (by omega) (by omega) h3
  unfold f_X2_restAfter
  by_cases z : s = 0
  · subst z
    rw [nI_0, if_pos rfl]
    rfl
  · rw [if_neg (by rw [req (k := 0) (by decide) (by omega)]; exact z)]
    have h := key 10 0 fuel 2147483647 (by omega) (by unfold fuel; omega) (by decide)
    rw [nI_0] at h
    refine h.trans ?_
    obtain ⟨s', rfl⟩ : ∃ x, s = x + 1 := ⟨s - 1, by omega⟩
    congr 2
    rw [opt, if_neg z]
    refine mnS_congr 10 0 _ (fun i _ _ hi => ?_)
    have := xo_lt hi
    rw [opt_fuel s' ((s' + 1) ^^^ 2 ^ i) _ i (by omega) (Nat.le_refl _)]
end
section
/-! Layer 2: the class's table of least times -/
theorem sub_iff {s S : Nat} (hs : s < 1024) (hS : S < 1024) : ((nI s &&& (nI S ^^^ (-1 : Int32))) = 0) ↔ ∀ i, s.testBit i = true → S.testBit i = true := by
  have key : ∀ i, i < 32 → (nI s &&& (nI S ^^^ (-1 : Int32))).toBitVec.getLsbD i = (s.testBit i && !S.testBit i) := by
    intro i hi
    show ((nI s).toBitVec &&& ((nI S).toBitVec ^^^ (-1 : Int32).toBitVec)).getLsbD i = _
    have e1 : (-1 : Int32).toBitVec = BitVec.allOnes 32 := by decide
    have f : ∀ n, (nI n).toBitVec.getLsbD i = n.testBit i := fun n => by
      show (BitVec.ofNat 32 n).getLsbD i = _
      rw [BitVec.getLsbD_ofNat]
      simp only [hi, decide_true, Bool.true_and]
    rw [e1, BitVec.getLsbD_and, BitVec.getLsbD_xor, BitVec.getLsbD_allOnes, f s, f S]
    simp [hi]
  constructor
  · intro h i hi
    have h10 := tb_lt hs hi
    have := key i (by omega)
    rw [h, hi] at this
    simp at this
    exact this
  · intro h
    apply Int32.toBitVec_inj.mp
    apply BitVec.eq_of_getLsbD_eq
    intro i hi
    rw [key i hi]
    cases z : s.testBit i with
    | false => simp
    | true => simp [h i z]
section PLN
variable {b : Nat} {sd : SD} {r : RW}
theorem swN_le (hI : Inv r) {d p q : Nat} (hd : d < nv r 6) (hp : p < nv r 7) (hq : q < nv r 7) : bwN r d p q ≤ 69 ∧ swN r d p q ≤ 7326 := by
  obtain ⟨⟨x1, -⟩, -⟩ := hI.drv d hd
  have x2 := x1.l
  have y2 := (hI.plt p hp).1.1.l
  have z2 := (hI.plt q hq).1.1.l
  obtain ⟨t1, t2, t3, -⟩ := hI.tim
  have t1 := t1.l
  have t2 := t2.l
  have t3 := t3.l
  have h1 : dst (nv r (17 + d)) (nv r (29 + p)) ≤ 23 := dst_le (by omega) (by omega)
  have h2 : dst (nv r (29 + p)) (nv r (29 + q)) ≤ 23 := dst_le (by omega) (by omega)
  have h3 : dst (nv r (29 + q)) (nv r (17 + d)) ≤ 23 := dst_le (by omega) (by omega)
  have hb : bwN r d p q ≤ 69 := by unfold bwN; omega
  refine ⟨hb, ?_⟩
  unfold swN
  have : bwN r d p q * nv r 1 ≤ 69 * 99 := Nat.mul_le_mul hb t1
  omega
theorem c_swap54 (hI : Inv r) (hR : Rel b sd r) {d p : Nat} (hd : d < nv r 6) (hp : p < nv r 7) : ∀ (k q f : Nat) (pd : SD), q + k = nv r 7 → k < f → ∃ pd', f_X2_fillSwap_L54 sd (nI (nv r (17 + d))) (nI (nv r (29 + p))) (nI p) (nI (4 * nv r 2 + nv r 3)) f (nI q) pd = some (nI (nv r 7), pd') ∧ (∀ k j t, ¬ (k = 24 ∧ j = 0 ∧ p * 10 + q ≤ t ∧ t < p * 10 + 10) → pd' k j t = pd k j t) ∧ ∀ i, q ≤ i → i < nv r 7 → pd' 24 0 (p * 10 + i) = nI (swN r d p i) := by
  have l7 := hI.l7
  intro k
  induction k with
  | zero =>
    intro q f pd h1 h2
    obtain ⟨f, rfl⟩ : ∃ x, f = x + 1 := ⟨f - 1, by omega⟩
    have : q = nv r 7 := by omega
    subst this
    rw [f_X2_fillSwap_L54, hR.s6, hI.c7, if_pos (nI_le (Nat.le_refl _) (by omega))]
    exact ⟨pd, rfl, fun _ _ _ _ => rfl, fun i h3 h4 => by omega⟩
  | succ k ih =>
    intro q f pd h1 h2
    obtain ⟨f, rfl⟩ : ∃ x, f = x + 1 := ⟨f - 1, by omega⟩
    have hq : q < nv r 7 := by omega
    obtain ⟨⟨x1, -⟩, -⟩ := hI.drv d hd
    have x2 := x1.l
    have y2 := (hI.plt p hp).1.1.l
    have z1 := (hI.plt q hq).1.1
    have z2 := z1.l
    rw [f_X2_fillSwap_L54, hR.s6, hI.c7, if_neg (by rw [nI_leI (by omega) (by omega)]; omega)]
    simp (disch := omega) only [xl, xg, vinT, nI_clamp, (hR.pl q hq).1, z1.e, c_abs, nI_add, rmu, ra]
    rw [hR.tm.1, hI.tim.1.e, pk_mul, nI_add]
    obtain ⟨pd', g1, g2, g3⟩ := ih (q + 1) f (upS pd 24 0 (p * 10 + q) (nI (swN r d p q))) (by omega) (by omega)
    refine ⟨pd', g1, fun k j t h => ?_, fun i h3 h4 => ?_⟩
    · rw [g2 k j t (by omega)]
      simp only [upS]
      rw [if_neg (by omega)]
    · by_cases z : i = q
      · subst z
        rw [g2 24 0 _ (by omega), upS_hit]
      · exact g3 i (by omega) h4
theorem c_fillSwap (hI : Inv r) (hR : Rel b sd r) (pd : SD) {d : Nat} (hd : d < nv r 6) : ∃ pd', f_X2_fillSwap sd pd (nI d) = some pd' ∧ (∀ k j t, k ≠ 24 → pd' k j t = pd k j t) ∧ ∀ p q, p < nv r 7 → q < nv r 7 → pd' 24 0 (p * 10 + q) = nI (swN r d p q) := by
  have l7 := hI.l7
  have l6 := hI.l6
  have key : ∀ (k p f : Nat) (pd : SD), p + k = nv r 7 → k < f → ∃ pd', f_X2_fillSwap_L30 sd (nI (nv r (17 + d))) (nI (4 * nv r 2 + nv r 3)) f (nI p) pd = some pd' ∧ (∀ k j t, ¬ (k = 24 ∧ j = 0 ∧ p * 10 ≤ t) → pd' k j t = pd k j t) ∧ ∀ i q, p ≤ i → i < nv r 7 → q < nv r 7 → pd' 24 0 (i * 10 + q) = nI (swN r d i q) := by
    intro k
    induction k with
    | zero =>
      intro p f pd h1 h2
      obtain ⟨f, rfl⟩ : ∃ x, f = x + 1 := ⟨f - 1, by omega⟩
      have : p = nv r 7 := by omega
      subst this
      rw [f_X2_fillSwap_L30, hR.s6, hI.c7, if_pos (nI_le (Nat.le_refl _) (by omega))]
      exact ⟨pd, rfl, fun _ _ _ _ => rfl, fun i q h3 h4 => by omega⟩
    | succ k ih =>
      intro p f pd h1 h2
      obtain ⟨f, rfl⟩ : ∃ x, f = x + 1 := ⟨f - 1, by omega⟩
      have hp : p < nv r 7 := by omega
      have y1 := (hI.plt p hp).1.1
      have y2 := y1.l
      rw [f_X2_fillSwap_L30, hR.s6, hI.c7, if_neg (by rw [nI_leI (by omega) (by omega)]; omega)]
      simp (disch := omega) only [xl, xg, vinT, nI_clamp, (hR.pl p hp).1, y1.e, ra]
      obtain ⟨pd1, g1, g2, g3⟩ := c_swap54 hI hR hd hp (nv r 7) 0 fuel pd (by omega) (by unfold fuel; omega)
      rw [nI_0] at g1
      rw [g1, xb]
      obtain ⟨pd', e1, e2, e3⟩ := ih (p + 1) f pd1 (by omega) (by omega)
      refine ⟨pd', e1, fun k j t h => ?_, fun i q h3 h4 h5 => ?_⟩
      · rw [e2 k j t (by omega), g2 k j t (by omega)]
      · by_cases z : i = p
        · subst z
          rw [e2 24 0 _ (by omega)]
          exact g3 q (by omega) h5
        · exact e3 i q (by omega) h4 h5
  obtain ⟨⟨x1, -⟩, -⟩ := hI.drv d hd
  obtain ⟨t1, t2, t3, -⟩ := hI.tim
  have t2l := t2.l
  have t3l := t3.l
  obtain ⟨pd', g1, g2, g3⟩ := key (nv r 7) 0 fuel pd (by omega) (by unfold fuel; omega)
  refine ⟨pd', ?_, fun k j t h => g2 k j t (by omega), fun p q hp hq => g3 p q (by omega) hp hq⟩
  unfold f_X2_fillSwap
  simp (disch := omega) only [xl, xg, vinT, nI_clamp, (hR.dr d hd).1, x1.e, hR.tm.2.1, hR.tm.2.2.1, t2.e, t3.e, lm, nI_add]
  rw [nI_0] at g1
  exact g1
theorem c_rest17 {w : Nat → Nat → Nat} {B S s : Nat} (hS : S < 1024) (hs : s < 1024) (hsub : ∀ i, s.testBit i = true → S.testBit i = true) (hB : B ≤ 10000) (hwB : ∀ a c, S.testBit a = true → S.testBit c = true → w a c ≤ B) : ∀ (k p f : Nat) (pd : SD), p + k = 10 → k < f → (∀ a c, S.testBit a = true → S.testBit c = true → pd 24 0 (a * 10 + c) = nI (w a c)) → Tb w pd S s → ∃ pd', f_X2_fillRest_L17 (nI S) (nI s) f (nI p) pd = some (nI 10, pd') ∧ (∀ k j t, ¬ (k = 23 ∧ j = 0 ∧ s * 10 + p ≤ t ∧ t < s * 10 + 10) → pd' k j t = pd k j t) ∧ ∀ i, p ≤ i → S.testBit i = true → s.testBit i = false → pd' 23 0 (s * 10 + i) = nI (opt w s s i) := by
  intro k
  induction k with
  | zero =>
    intro p f pd h1 h2 hw ht
    obtain ⟨f, rfl⟩ : ∃ x, f = x + 1 := ⟨f - 1, by omega⟩
    have : p = 10 := by omega
    subst this
    rw [f_X2_fillRest_L17, if_pos (by decide)]
    exact ⟨pd, rfl, fun _ _ _ _ => rfl, fun i h3 h4 _ => by have := tb_lt hS h4; omega⟩
  | succ k ih =>
    intro p f pd h1 h2 hw ht
    obtain ⟨f, rfl⟩ : ∃ x, f = x + 1 := ⟨f - 1, by omega⟩
    have hp : p < 10 := by omega
    have c10 : ¬ ((10 : Int32) ≤ nI p) := by rw [lle (k := 10) (by decide) (by omega)]; show ¬ 10 ≤ p; omega
    rw [f_X2_fillRest_L17, if_neg c10]
    simp only [xl, ra]
    have skip : ¬ (S.testBit p = true ∧ s.testBit p = false) → ∃ pd', f_X2_fillRest_L17 (nI S) (nI s) f (nI (p + 1)) pd = some (nI 10, pd') ∧ (∀ k j t, ¬ (k = 23 ∧ j = 0 ∧ s * 10 + p ≤ t ∧ t < s * 10 + 10) → pd' k j t = pd k j t) ∧ ∀ i, p ≤ i → S.testBit i = true → s.testBit i = false → pd' 23 0 (s * 10 + i) = nI (opt w s s i) := fun hn => by
      obtain ⟨pd', g1, g2, g3⟩ := ih (p + 1) f pd (by omega) (by omega) hw ht
      refine ⟨pd', g1, fun k j t h => g2 k j t (by omega), fun i h3 h4 h5 => ?_⟩
      by_cases z : i = p
      · subst z
        exact absurd ⟨h4, h5⟩ hn
      · exact g3 i (by omega) h4 h5
    by_cases z : S.testBit p = true
    · have z1 : ¬ (((nI S >>> (nI p &&& 31)) &&& (1 : Int32)) = 0) := by rw [bit_tt hS hp, z]; decide
      rw [if_neg z1]
      by_cases y : s.testBit p = true
      · have y1 : ¬ (((nI s >>> (nI p &&& 31)) &&& (1 : Int32)) = 0) := by rw [bit_tt hs hp, y]; decide
        rw [if_neg y1]
        exact skip (fun h => by rw [y] at h; exact absurd h.2 (by decide))
      · have y0 : s.testBit p = false := by simpa using y
        rw [if_pos ((bit_tt hs hp).mpr y0)]
        have ho : ∀ q, s.testBit q = true → opt w (s ^^^ 2 ^ q) (s ^^^ 2 ^ q) q ≤ B * 1024 := fun q hq => by
          have hl := xo_lt hq
          have hsb := xo_sub hsub hq
          refine Nat.le_trans (opt_le (B := B) _ _ _ (by omega) (fun a c ha hc => hwB a c ?_ (hsb c hc))) (Nat.mul_le_mul_left B (by omega))
          rcases ha with rfl | ha
          · exact hsub _ hq
          · exact hsb a ha
        have hra := c_restAfter (pd := pd) (w := w) (s := s) (p := p) hs hp (fun q hq => hw p q z (hsub q hq)) (fun q hq => ht (s ^^^ 2 ^ q) q (xo_lt hq) (xo_sub hsub hq) (hsub q hq) (xo_off hq)) (fun q hq => by
          have h3 := ho q hq
          have h4 := hwB p q z (hsub q hq)
          have h5 : B * 1024 ≤ 10000 * 1024 := Nat.mul_le_mul_right 1024 hB
          omega)
        rw [hra, xb]
        have e1 : nI s * (10 : Int32) + nI p = nI (s * 10 + p) := by rw [rmu, nI_add]
        rw [e1]
        simp (disch := omega) only [xg, vinT, nI_clamp]
        obtain ⟨pd', g1, g2, g3⟩ := ih (p + 1) f (upS pd 23 0 (s * 10 + p) (nI (opt w s s p))) (by omega) (by omega) (fun a c ha hc => by rw [upS_k (by decide)]; exact hw a c ha hc) (fun s' p' h3 h4 h5 h6 => by
          have := tb_lt hS h5
          rw [upS_t (by omega)]; exact ht s' p' h3 h4 h5 h6)
        refine ⟨pd', g1, fun k j t h => ?_, fun i h3 h4 h5 => ?_⟩
        · rw [g2 k j t (by omega)]
          simp only [upS]
          rw [if_neg (by omega)]
        · by_cases v : i = p
          · subst v
            rw [g2 23 0 _ (by omega), upS_hit]
          · exact g3 i (by omega) h4 h5
    · have z0 : S.testBit p = false := by simpa using z
      rw [if_pos ((bit_tt hS hp).mpr z0)]
      exact skip (fun h => z h.1)
theorem c_fillRest {w : Nat → Nat → Nat} {B S : Nat} (hS : S < 1024) (hB : B ≤ 10000) (hwB : ∀ a c, S.testBit a = true → S.testBit c = true → w a c ≤ B) {pd : SD} (hw : ∀ a c, S.testBit a = true → S.testBit c = true → pd 24 0 (a * 10 + c) = nI (w a c)) : ∃ pd', f_X2_fillRest pd (nI S) = some pd' ∧ (∀ k j t, k ≠ 23 → pd' k j t = pd k j t) ∧ Tb w pd' S S := by
  have key : ∀ (k s f : Nat) (pd : SD), s + k = S → k < f → (∀ a c, S.testBit a = true → S.testBit c = true → pd 24 0 (a * 10 + c) = nI (w a c)) → Tb w pd S s → ∃ pd', f_X2_fillRest_L2 (nI S) f (nI s) pd = some pd' ∧ (∀ k j t, k ≠ 23 → pd' k j t = pd k j t) ∧ Tb w pd' S S := by
    intro k
    induction k with
    | zero =>
      intro s f pd h1 h2 hw ht
      obtain ⟨f, rfl⟩ : ∃ x, f = x + 1 := ⟨f - 1, by omega⟩
      have : s = S := by omega
      subst this
      rw [f_X2_fillRest_L2, if_pos (nI_le (Nat.le_refl _) (by omega))]
      exact ⟨pd, rfl, fun _ _ _ _ => rfl, ht⟩
    | succ k ih =>
      intro s f pd h1 h2 hw ht
      obtain ⟨f, rfl⟩ : ∃ x, f = x + 1 := ⟨f - 1, by omega⟩
      have c7 : ¬ (nI S ≤ nI s) := by rw [nI_leI (by omega) (by omega)]; omega
      rw [f_X2_fillRest_L2, if_neg c7]
      simp only [xl, ra]
      by_cases z : ∀ i, s.testBit i = true → S.testBit i = true
      · rw [if_pos ((sub_iff (by omega) hS).mpr z)]
        obtain ⟨pd1, g1, g2, g3⟩ := c_rest17 hS (show s < 1024 by omega) z hB hwB 10 0 fuel pd (by omega) (by unfold fuel; omega) hw ht
        rw [nI_0] at g1
        rw [g1, xb]
        obtain ⟨pd', e1, e2, e3⟩ := ih (s + 1) f pd1 (by omega) (by omega) (fun a c ha hc => by rw [g2 24 0 _ (by omega)]; exact hw a c ha hc) (fun s' p' h3 h4 h5 h6 => by
          have hp' := tb_lt hS h5
          by_cases y : s' = s
          · subst y
            exact g3 p' (by omega) h5 h6
          · rw [g2 23 0 _ (by omega)]
            exact ht s' p' (by omega) h4 h5 h6)
        exact ⟨pd', e1, fun k j t h => by rw [e2 k j t h, g2 k j t (by omega)], e3⟩
      · rw [if_neg (fun y => z ((sub_iff (by omega) hS).mp y))]
        exact ih (s + 1) f pd (by omega) (by omega) hw (fun s' p' h3 h4 h5 h6 => by
          by_cases y : s' = s
          · subst y
            exact absurd h4 z
          · exact ht s' p' (by omega) h4 h5 h6)
  unfold f_X2_fillRest
  have h := key S 0 fuel pd (by omega) (by unfold fuel; omega) hw (fun s' p' h3 => by omega)
  rw [nI_0] at h
  exact h
end PLN
end
section
/-! Layer 2: the class's least time -/
theorem sub_lt {s S p : Nat} (h : ∀ i, s.testBit i = true → S.testBit i = true) (h1 : S.testBit p = true) (h2 : s.testBit p = false) : s < S := by
  have e : s &&& S = s := Nat.eq_of_testBit_eq (fun i => by
    rw [Nat.testBit_and]
    cases z : s.testBit i with
    | false => simp
    | true => simp [h i z])
  have h3 : s ≤ S := by
    rw [← e]
    exact Nat.and_le_right
  have h4 : s ≠ S := fun z => by
    subst z
    rw [h1] at h2
    cases h2
  omega
section LST
variable {b : Nat} {sd : SD} {r : RW}
theorem btm_le (hI : Inv r) {p d : Nat} (hp : p < nv r 7) (hd : d < nv r 6) : btm r p d ≤ 9603 := by
  obtain ⟨⟨x1, -⟩, x3⟩ := hI.drv d hd
  have x2 := x1.l
  have y2 := (hI.plt p hp).1.1.l
  have k2 := hI.pick.1.l
  obtain ⟨t1, t2, t3, -⟩ := hI.tim
  have t1 := t1.l
  have t2 := t2.l
  have t3 := t3.l
  have hm : mvs r p d ≤ 92 := by
    unfold mvs
    by_cases z : r (21 + d) = -1
    · rw [if_pos z]
      have h1 : dst (nv r 11) (nv r (29 + p)) ≤ 23 := dst_le (by omega) (by omega)
      have h2 : dst (nv r (29 + p)) (nv r (17 + d)) ≤ 23 := dst_le (by omega) (by omega)
      omega
    · rw [if_neg z]
      rcases x3 with h | ⟨z1, z2⟩
      · exact absurd h z
      · have w2 := (hI.plt _ z2).1.1.l
        have h1 : dst (nv r 11) (nv r (17 + d)) ≤ 23 := dst_le (by omega) (by omega)
        have h2 : dst (nv r (17 + d)) (nv r (29 + nv r (21 + d))) ≤ 23 := dst_le (by omega) (by omega)
        have h3 : dst (nv r (29 + nv r (21 + d))) (nv r (29 + p)) ≤ 23 := dst_le (by omega) (by omega)
        have h4 : dst (nv r (29 + p)) (nv r (17 + d)) ≤ 23 := dst_le (by omega) (by omega)
        omega
  unfold btm
  have h1 : mvs r p d * nv r 1 ≤ 92 * 99 := Nat.mul_le_mul hm t1
  split <;> omega
/-- the least time to bring a set into a drive -/
def lst (r : RW) (d S : Nat) : Nat := mnS S (fun q => btm r q d + opt (swN r d) (S ^^^ 2 ^ q) (S ^^^ 2 ^ q) q) 10 0 2147483647
theorem opt_b (hI : Inv r) {d S q : Nat} (hd : d < nv r 6) (hS : S < 1024) (hb : ∀ p, S.testBit p = true → p < nv r 7) (hq : S.testBit q = true) : opt (swN r d) (S ^^^ 2 ^ q) (S ^^^ 2 ^ q) q ≤ 7326 * 1024 := by
  have hl := xo_lt hq
  have hs := xo_sub (fun i h => h) hq (S := S)
  refine Nat.le_trans (opt_le (B := 7326) _ _ _ (by omega) (fun a c ha hc => (swN_le hI hd ?_ (hb c (hs c hc))).2)) (Nat.mul_le_mul_left _ (by omega))
  rcases ha with rfl | ha
  · exact hb _ hq
  · exact hb a (hs a ha)
theorem c_least61 (hI : Inv r) (hR : Rel b sd r) {pd : SD} {d S : Nat} (hd : d < nv r 6) (hS : S < 1024) (hb : ∀ p, S.testBit p = true → p < nv r 7) (ha : ∀ q, S.testBit q = true → r (21 + d) ≠ nI q) (ht : ∀ q, S.testBit q = true → pd 23 0 ((S ^^^ 2 ^ q) * 10 + q) = nI (opt (swN r d) (S ^^^ 2 ^ q) (S ^^^ 2 ^ q) q)) : f_X2_leastTime_L61 pd (nI S) sd (nI d) fuel 2147483647 0 = some (nI (lst r d S), pd) := by
  have key : ∀ (n q f acc : Nat), q + n = 10 → n < f → acc < 2 ^ 31 → f_X2_leastTime_L61 pd (nI S) sd (nI d) f (nI acc) (nI q) = some (nI (mnS S (fun q => btm r q d + opt (swN r d) (S ^^^ 2 ^ q) (S ^^^ 2 ^ q) q) n q acc), pd) := by
    intro n
    induction n with
    | zero =>
      intro q f acc h1 h2 h3
      obtain ⟨f, rfl⟩ : ∃ x, f = x + 1 := ⟨f - 1, by omega⟩
      have : q = 10 := by omega
      subst this
      rw [f_X2_leastTime_L61, if_pos (by decide)]
      rfl
    | succ n ih =>
      intro q f acc h1 h2 h3
      obtain ⟨f, rfl⟩ : ∃ x, f = x + 1 := ⟨f - 1, by omega⟩
      have hq : q < 10 := by omega
      have c10 : ¬ ((10 : Int32) ≤ nI q) := by rw [lle (k := 10) (by decide) (by omega)]; show ¬ 10 ≤ q; omega
      rw [f_X2_leastTime_L61, if_neg c10, mnS]
      by_cases z : S.testBit q = true
      · have z1 : ¬ (((nI S >>> (nI q &&& 31)) &&& (1 : Int32)) = 0) := by rw [bit_tt hS hq, z]; decide
        have hx := xo_lt z
        rw [if_neg z1, if_pos z, sh1n q hq, nI_xor]
        have e1 : nI (S ^^^ 2 ^ q) * (10 : Int32) + nI q = nI ((S ^^^ 2 ^ q) * 10 + q) := by rw [rmu, nI_add]
        rw [e1]
        simp (disch := omega) only [xl, xg, vinT, nI_clamp, ra]
        rw [ht q z, c_bringTime hI hR (hb q z) hd, xb, if_neg (ha q z), nI_add]
        have hb1 := opt_b hI hd hS hb z
        have hb2 := btm_le hI (hb q z) hd
        by_cases y : btm r q d + opt (swN r d) (S ^^^ 2 ^ q) (S ^^^ 2 ^ q) q < acc
        · rw [if_pos y, if_pos (by rw [nI_ltI (by omega) (by omega)]; exact y)]
          exact ih (q + 1) f _ (by omega) (by omega) (by omega)
        · rw [if_neg y, if_neg (by rw [nI_ltI (by omega) (by omega)]; exact y)]
          exact ih (q + 1) f _ (by omega) (by omega) (by omega)
      · have z0 : S.testBit q = false := by simpa using z
        rw [if_pos ((bit_tt hS hq).mpr z0), if_neg z]
        simp only [xl, ra]
        exact ih (q + 1) f acc (by omega) (by omega) h3
  have h := key 10 0 fuel 2147483647 (by omega) (by unfold fuel; omega) (by decide)
  rw [nI_0] at h
  exact h
/-- the table serves a drive and a set -/
def TbS (r : RW) (pd : SD) (d S : Nat) : Prop := ∀ s p, (∀ i, s.testBit i = true → S.testBit i = true) → S.testBit p = true → s.testBit p = false → pd 23 0 (s * 10 + p) = nI (opt (swN r d) s s p)
theorem c_leastTime (hI : Inv r) (hR : Rel b sd r) {pd : SD} {d S : Nat} (hd : d < nv r 6) (h0 : S ≠ 0) (hS : S < 1024) (hb : ∀ p, S.testBit p = true → p < nv r 7) (ha : ∀ q, S.testBit q = true → r (21 + d) ≠ nI q) (hP : pd 2 0 5 = -1 ∨ PTok pd r) : ∃ pd', f_X2_leastTime sd pd (nI d) (nI S) = some (nI (lst r d S), pd') ∧ (pd' 2 0 5 = -1 ∨ PTok pd' r) ∧ TbS r pd' d S ∧ (∀ p q, p < nv r 7 → q < nv r 7 → pd' 24 0 (p * 10 + q) = nI (swN r d p q)) ∧ ∀ k j t, k ≠ 23 → k ≠ 24 → ¬ (k = 2 ∧ j = 0 ∧ (t = 5 ∨ t = 6)) → pd' k j t = pd k j t := by
  have l6 := hI.l6
  unfold f_X2_leastTime
  rw [if_neg (by rw [req (k := 0) (by decide) (by omega)]; exact h0), c_hasDrive hI hR, xb, hasV_in hd (by omega), if_neg i1]
  simp only [xl]
  have fresh : ∃ pd', (x_bind (f_X2_fillSwap sd pd (nI d)) fun q11 => x_bind (f_X2_fillRest q11 (nI S)) fun q12 => f_X2_leastTime_L61 (upS (upS q12 2 0 5 (nI d)) 2 0 6 (nI S)) (nI S) sd (nI d) fuel 2147483647 0) = some (nI (lst r d S), pd') ∧ (pd' 2 0 5 = -1 ∨ PTok pd' r) ∧ TbS r pd' d S ∧ (∀ p q, p < nv r 7 → q < nv r 7 → pd' 24 0 (p * 10 + q) = nI (swN r d p q)) ∧ ∀ k j t, k ≠ 23 → k ≠ 24 → ¬ (k = 2 ∧ j = 0 ∧ (t = 5 ∨ t = 6)) → pd' k j t = pd k j t := by
    obtain ⟨p1, g1, g2, g3⟩ := c_fillSwap hI hR pd hd
    obtain ⟨p2, e1, e2, e3⟩ := c_fillRest (w := swN r d) (B := 7326) hS (by decide) (fun a c h1 h2 => (swN_le hI hd (hb a h1) (hb c h2)).2) (pd := p1) (fun a c h1 h2 => g3 a c (hb a h1) (hb c h2))
    have hT : TbS r (upS (upS p2 2 0 5 (nI d)) 2 0 6 (nI S)) d S := fun s p h1 h2 h3 => by
      rw [upS_k (by decide), upS_k (by decide)]
      exact e3 s p (sub_lt h1 h2 h3) h1 h2 h3
    have hW : ∀ p q, p < nv r 7 → q < nv r 7 → upS (upS p2 2 0 5 (nI d)) 2 0 6 (nI S) 24 0 (p * 10 + q) = nI (swN r d p q) := fun p q h1 h2 => by
      rw [upS_k (by decide), upS_k (by decide), e2 24 0 _ (by decide)]
      exact g3 p q h1 h2
    refine ⟨upS (upS p2 2 0 5 (nI d)) 2 0 6 (nI S), ?_, Or.inr ⟨d, S, hd, hS, hb, ?_, ?_, fun s p _ h1 h2 h3 => hT s p h1 h2 h3, hW⟩, hT, hW, fun k j t k1 k2 k3 => ?_⟩
    · rw [g1, xb, e1, xb]
      exact c_least61 hI hR hd hS hb ha (fun q hq => hT _ q (xo_sub (fun i h => h) hq) hq (xo_off hq))
    · rw [upS_t (by decide), upS_hit]
    · rw [upS_hit]
    · have : upS (upS p2 2 0 5 (nI d)) 2 0 6 (nI S) k j t = p2 k j t := by
        simp only [upS]
        rw [if_neg (by omega), if_neg (by omega)]
      rw [this, e2 k j t k1, g2 k j t k2]
  by_cases z : pd 2 0 5 = nI d
  · rcases hP with h | ⟨d', S', h1, h2, h3, h4, h5, h6, h7⟩
    · rw [h, m1n (by omega)] at z
      exact z.elim
    · have hdd : d' = d := (nI_eq (by omega) (by omega)).mp (h4.symm.trans z)
      subst hdd
      rw [if_pos z, h5]
      by_cases y : ∀ i, S.testBit i = true → S'.testBit i = true
      · rw [if_pos ((sub_iff hS h2).mpr y)]
        have hT : TbS r pd d' S := fun s p k1 k2 k3 => h6 s p (sub_lt (fun i hi => y i (k1 i hi)) (y p k2) k3) (fun i hi => y i (k1 i hi)) (y p k2) k3
        exact ⟨pd, c_least61 hI hR hd hS hb ha (fun q hq => hT _ q (xo_sub (fun i h => h) hq) hq (xo_off hq)), Or.inr ⟨d', S', h1, h2, h3, h4, h5, h6, h7⟩, hT, h7, fun _ _ _ _ _ _ => rfl⟩
      · rw [if_neg (fun v => y ((sub_iff hS h2).mp v))]
        exact fresh
  · rw [if_neg z]
    exact fresh
end LST
end
section
/-! Layer 2: which platters a batch wants, which drives it reads first -/
theorem nI_or (a b : Nat) : nI a ||| nI b = nI (a ||| b) := by
  apply Int32.toBitVec_inj.mp
  show (nI a).toBitVec ||| (nI b).toBitVec = (nI (a ||| b)).toBitVec
  unfold nI
  simp [BitVec.ofNat_or]
section AWY
variable {b : Nat} {sd : SD} {r : RW}
/-- the platter of a request -/
def pq (r : RW) (q : Nat) : Nat := nv r (349 + nv r (289 + nv r (589 + q)))
/-- the platters that are wanted and in no drive -/
def awF (r : RW) (a : Int32) : Nat → Nat → Nat → Nat
  | 0, _, s => s
  | n + 1, q, s => awF r a n (q + 1) (if nI q = a then s else if holdQ r (nI (pq r q)) = -1 then s ||| 2 ^ pq r q else s)
theorem pq_lt (hI : Inv r) {q : Nat} (hq : q < nv r 16) : pq r q < nv r 7 := by
  obtain ⟨-, y2⟩ := hI.req q hq
  obtain ⟨-, x2⟩ := hI.cur _ y2
  exact (hI.ver _ x2).2.1.2
theorem pow_lt10 {p : Nat} (h : p < 10) : 2 ^ p < 1024 := Nat.pow_lt_pow_right (show 1 < 2 by decide) h
theorem awF_lt (hI : Inv r) (a : Int32) : ∀ (n q s : Nat), q + n ≤ nv r 16 → s < 1024 → awF r a n q s < 1024
  | 0, _, _, _, h => h
  | n + 1, q, s, h1, h2 => by
    have l7 := hI.l7
    have hp := pq_lt hI (q := q) (by omega)
    unfold awF
    refine awF_lt hI a n (q + 1) _ (by omega) ?_
    split
    · exact h2
    · split
      · exact Nat.or_lt_two_pow (n := 10) h2 (pow_lt10 (by omega))
      · exact h2
theorem awF_bit (r : RW) (a : Int32) : ∀ (n q s p : Nat), (awF r a n q s).testBit p = true ↔ s.testBit p = true ∨ ∃ i, q ≤ i ∧ i < q + n ∧ nI i ≠ a ∧ pq r i = p ∧ holdQ r (nI p) = -1
  | 0, q, s, p => by
    unfold awF
    constructor
    · exact Or.inl
    · rintro (h | ⟨i, h1, h2, -⟩)
      · exact h
      · omega
  | n + 1, q, s, p => by
    unfold awF
    rw [awF_bit r a n (q + 1) _ p]
    constructor
    · rintro (h | ⟨i, h1, h2, h3⟩)
      · by_cases z : nI q = a
        · rw [if_pos z] at h; exact Or.inl h
        · rw [if_neg z] at h
          by_cases y : holdQ r (nI (pq r q)) = -1
          · rw [if_pos y, Nat.testBit_or, Nat.testBit_two_pow, Bool.or_eq_true, decide_eq_true_eq] at h
            rcases h with h | h
            · exact Or.inl h
            · exact Or.inr ⟨q, Nat.le_refl _, by omega, z, h, by rw [← h]; exact y⟩
          · rw [if_neg y] at h; exact Or.inl h
      · exact Or.inr ⟨i, by omega, by omega, h3⟩
    · rintro (h | ⟨i, h1, h2, h3, h4, h5⟩)
      · left
        split
        · exact h
        · split
          · rw [Nat.testBit_or, h, Bool.true_or]
          · exact h
      · by_cases z : i = q
        · subst z
          left
          rw [if_neg h3, h4, if_pos h5, Nat.testBit_or, Nat.testBit_two_pow]
          simp
        · exact Or.inr ⟨i, by omega, by omega, h3, h4, h5⟩
theorem c_away4 (hI : Inv r) (hR : Rel b sd r) (a : Int32) : ∀ (k q f s : Nat), q + k = nv r 16 → k < f → s < 1024 → f_X4_awayPlatters_L4 sd a f (nI s) (nI q) = some (nI (awF r a k q s)) := by
  have l16 := hI.l16
  have l7 := hI.l7
  intro k
  induction k with
  | zero =>
    intro q f s h1 h2 h3
    obtain ⟨f, rfl⟩ : ∃ x, f = x + 1 := ⟨f - 1, by omega⟩
    have : q = nv r 16 := by omega
    subst this
    rw [f_X4_awayPlatters_L4, hR.s13, hI.c16, if_pos (nI_le (Nat.le_refl _) (by omega))]
    rfl
  | succ k ih =>
    intro q f s h1 h2 h3
    obtain ⟨f, rfl⟩ : ∃ x, f = x + 1 := ⟨f - 1, by omega⟩
    have hq : q < nv r 16 := by omega
    obtain ⟨y1, y2⟩ := hI.req q hq
    obtain ⟨x1, x2⟩ := hI.cur _ y2
    obtain ⟨w1, w2⟩ := (hI.ver _ x2).2.1
    have hpq : r (349 + nv r (289 + nv r (589 + q))) = nI (pq r q) := w1.e
    have hpl : pq r q < nv r 7 := w2
    rw [f_X4_awayPlatters_L4, hR.s13, hI.c16, if_neg (by rw [nI_leI (by omega) (by omega)]; omega)]
    simp (disch := omega) only [xl, xg, vinT, nI_clamp, ra, hR.rq q hq, y1.e]
    rw [c_currentVersion hI hR y2, xb, (hR.ve _ x2).2.1, hpq, awF, c_driveHolding hI hR, xb]
    by_cases z : nI q = a
    · rw [if_pos z, if_pos z]
      exact ih (q + 1) f s (by omega) (by omega) h3
    · rw [if_neg z, if_neg z]
      by_cases y : holdQ r (nI (pq r q)) = -1
      · rw [if_pos y, if_pos y, sh1n _ (by omega), nI_or]
        exact ih (q + 1) f _ (by omega) (by omega) (Nat.or_lt_two_pow (n := 10) h3 (pow_lt10 (by omega)))
      · rw [if_neg y, if_neg y]
        exact ih (q + 1) f s (by omega) (by omega) h3
/-- the set of the wanted platters that are away -/
def awS (r : RW) (a : Int32) : Nat := awF r a (nv r 16) 0 0
theorem c_awayPlatters (hI : Inv r) (hR : Rel b sd r) (a : Int32) : f_X4_awayPlatters sd a = some (nI (awS r a)) := by
  have l16 := hI.l16
  unfold f_X4_awayPlatters
  have h := c_away4 hI hR a (nv r 16) 0 fuel 0 (by omega) (by unfold fuel; omega) (by decide)
  rw [nI_0] at h
  exact h
theorem awS_lt (hI : Inv r) (a : Int32) : awS r a < 1024 := awF_lt hI a _ _ _ (by omega) (by decide)
theorem awS_bit (r : RW) (a : Int32) (p : Nat) : (awS r a).testBit p = true ↔ ∃ i, i < nv r 16 ∧ nI i ≠ a ∧ pq r i = p ∧ holdQ r (nI p) = -1 := by
  unfold awS
  rw [awF_bit]
  constructor
  · rintro (h | ⟨i, -, h2, h3⟩)
    · simp at h
    · exact ⟨i, by omega, h3⟩
  · rintro ⟨i, h1, h2⟩
    exact Or.inr ⟨i, by omega, by omega, h2⟩
/-- the drives that hold a wanted platter -/
def mkF (r : RW) (a : Int32) : Nat → Nat → Nat → Nat
  | 0, _, s => s
  | n + 1, q, s => mkF r a n (q + 1) (if nI q = a then s else if holdQ r (nI (pq r q)) = -1 then s else s ||| 2 ^ (holdQ r (nI (pq r q))).toNatClampNeg)
theorem mkF_lt (hI : Inv r) (a : Int32) : ∀ (n q s : Nat), s < 16 → mkF r a n q s < 16
  | 0, _, _, h => h
  | n + 1, q, s, h2 => by
    have l6 := hI.l6
    unfold mkF
    refine mkF_lt hI a n (q + 1) _ ?_
    split
    · exact h2
    · split
      · exact h2
      · rename_i z y
        rcases holdQ_cases r (nI (pq r q)) with ⟨w, -⟩ | ⟨d, hd, w, -⟩
        · exact absurd w y
        · rw [w, nI_clamp (by omega)]
          exact Nat.or_lt_two_pow (n := 4) h2 (Nat.pow_lt_pow_right (show 1 < 2 by decide) (by omega))
theorem c_dar4 (hI : Inv r) (hR : Rel b sd r) (hb : b < 2 ^ 29) (h0 : 0 < nv r 6) (a : Int32) : ∀ (k q f s : Nat), q + k = nv r 16 → k < f → s < 16 → f_X4_driveAfterReading_L4 sd a f (nI s) (nI q) = some (freQ r (useC sd (mkF r a k q s))) := by
  have l16 := hI.l16
  have l6 := hI.l6
  intro k
  induction k with
  | zero =>
    intro q f s h1 h2 h3
    obtain ⟨f, rfl⟩ : ∃ x, f = x + 1 := ⟨f - 1, by omega⟩
    have : q = nv r 16 := by omega
    subst this
    rw [f_X4_driveAfterReading_L4, hR.s13, hI.c16, if_pos (nI_le (Nat.le_refl _) (by omega)), c_driveForAway hI hR hb (by omega) h0, xb]
    rfl
  | succ k ih =>
    intro q f s h1 h2 h3
    obtain ⟨f, rfl⟩ : ∃ x, f = x + 1 := ⟨f - 1, by omega⟩
    have hq : q < nv r 16 := by omega
    obtain ⟨y1, y2⟩ := hI.req q hq
    obtain ⟨x1, x2⟩ := hI.cur _ y2
    obtain ⟨w1, w2⟩ := (hI.ver _ x2).2.1
    have hpq : r (349 + nv r (289 + nv r (589 + q))) = nI (pq r q) := w1.e
    rw [f_X4_driveAfterReading_L4, hR.s13, hI.c16, if_neg (by rw [nI_leI (by omega) (by omega)]; omega)]
    simp (disch := omega) only [xl, xg, vinT, nI_clamp, ra, hR.rq q hq, y1.e]
    rw [c_currentVersion hI hR y2, xb, (hR.ve _ x2).2.1, hpq, mkF, c_driveHolding hI hR, xb]
    by_cases z : nI q = a
    · rw [if_pos z, if_pos z]
      exact ih (q + 1) f s (by omega) (by omega) h3
    · rw [if_neg z, if_neg z]
      rcases holdQ_cases r (nI (pq r q)) with ⟨w, -⟩ | ⟨d, hd, w, -⟩
      · rw [if_pos w, if_pos w]
        exact ih (q + 1) f s (by omega) (by omega) h3
      · have y : ¬ (holdQ r (nI (pq r q)) = -1) := by rw [w, nm1 (by omega)]; exact id
        rw [if_neg y, if_neg y, w, nI_clamp (by omega), sh1n _ (by omega), nI_or]
        exact ih (q + 1) f _ (by omega) (by omega) (Nat.or_lt_two_pow (n := 4) h3 (Nat.pow_lt_pow_right (show 1 < 2 by decide) (by omega)))
theorem c_driveAfterReading (hI : Inv r) (hR : Rel b sd r) (hb : b < 2 ^ 29) (h0 : 0 < nv r 6) (a : Int32) : f_X4_driveAfterReading sd a = some (freQ r (useC sd (mkF r a (nv r 16) 0 0))) := by
  have l16 := hI.l16
  unfold f_X4_driveAfterReading
  have h := c_dar4 hI hR hb h0 a (nv r 16) 0 fuel 0 (by omega) (by unfold fuel; omega) (by decide)
  rw [nI_0] at h
  exact h
/-- how long the wanted files take to read -/
def rtF (r : RW) (a : Int32) : Nat → Nat → Int32 → Int32
  | 0, _, s => s
  | n + 1, q, s => rtF r a n (q + 1) (if nI q = a then s else s + rdT r (nv r (289 + nv r (589 + q))))
theorem c_rrt4 (hI : Inv r) (hR : Rel b sd r) (a : Int32) : ∀ (k q f : Nat) (s : Int32), q + k = nv r 16 → k < f → f_X4_requestsReadTime_L4 sd a f s (nI q) = some (rtF r a k q s) := by
  have l16 := hI.l16
  intro k
  induction k with
  | zero =>
    intro q f s h1 h2
    obtain ⟨f, rfl⟩ : ∃ x, f = x + 1 := ⟨f - 1, by omega⟩
    have : q = nv r 16 := by omega
    subst this
    rw [f_X4_requestsReadTime_L4, hR.s13, hI.c16, if_pos (nI_le (Nat.le_refl _) (by omega))]
    rfl
  | succ k ih =>
    intro q f s h1 h2
    obtain ⟨f, rfl⟩ : ∃ x, f = x + 1 := ⟨f - 1, by omega⟩
    have hq : q < nv r 16 := by omega
    obtain ⟨y1, y2⟩ := hI.req q hq
    obtain ⟨x1, x2⟩ := hI.cur _ y2
    rw [f_X4_requestsReadTime_L4, hR.s13, hI.c16, if_neg (by rw [nI_leI (by omega) (by omega)]; omega), rtF]
    simp (disch := omega) only [xl, xg, vinT, nI_clamp, ra, hR.rq q hq, y1.e]
    by_cases z : nI q = a
    · rw [if_pos z, if_pos z]
      exact ih (q + 1) f s (by omega) (by omega)
    · rw [if_neg z, if_neg z, c_currentVersion hI hR y2, xb, c_sectors hI hR x2, xb]
      exact ih (q + 1) f _ (by omega) (by omega)
theorem c_requestsReadTime (hI : Inv r) (hR : Rel b sd r) (a : Int32) : f_X4_requestsReadTime sd a = some (rtF r a (nv r 16) 0 0) := by
  have l16 := hI.l16
  unfold f_X4_requestsReadTime
  have h := c_rrt4 hI hR a (nv r 16) 0 fuel 0 (by omega) (by unfold fuel; omega)
  rw [nI_0] at h
  exact h
end AWY
end
section
/-! Layer 2: the class's time of a batch, and its order -/
section WTH
variable {b : Nat} {sd : SD} {r : RW}
theorem hold_ne {q : Nat} (hI : Inv r) (h : holdQ r (nI q) = -1) : ∀ d, d < nv r 6 → r (21 + d) ≠ nI q := fun d hd => by
  have l6 := hI.l6
  rcases holdQ_cases r (nI q) with ⟨-, h2⟩ | ⟨e, he, h1, -⟩
  · exact h2 d hd
  · rw [h, m1n (by omega)] at h1
    exact h1.elim
theorem awS_lt7 (hI : Inv r) (a : Int32) : ∀ p, (awS r a).testBit p = true → p < nv r 7 := fun p hp => by
  obtain ⟨i, h1, -, h3, -⟩ := (awS_bit r a p).mp hp
  rw [← h3]
  exact pq_lt hI h1
/-- the time of a batch without the request a -/
theorem c_timeWithout (hI : Inv r) (hR : Rel b sd r) (hb : b < 2 ^ 29) (h0 : 0 < nv r 6) {pd : SD} (hP : pd 2 0 5 = -1 ∨ PTok pd r) (a : Int32) : ∃ d pd', d < nv r 6 ∧ freQ r (useC sd (mkF r a (nv r 16) 0 0)) = nI d ∧ f_X2_timeWithout sd pd a = some (rtF r a (nv r 16) 0 0 + (if awS r a = 0 then 0 else nI (lst r d (awS r a))), pd') ∧ (pd' 2 0 5 = -1 ∨ PTok pd' r) ∧ ∀ k j t, k ≠ 23 → k ≠ 24 → ¬ (k = 2 ∧ j = 0 ∧ (t = 5 ∨ t = 6)) → pd' k j t = pd k j t := by
  obtain ⟨d, hd, hq⟩ := freQ_cases r (useC sd (mkF r a (nv r 16) 0 0)) h0
  unfold f_X2_timeWithout
  rw [c_awayPlatters hI hR, xb, c_driveAfterReading hI hR hb h0, xb, hq]
  by_cases z : awS r a = 0
  · refine ⟨d, pd, hd, rfl, ?_, hP, fun _ _ _ _ _ _ => rfl⟩
    have e : f_X2_leastTime sd pd (nI d) (nI (awS r a)) = some (0, pd) := by
      unfold f_X2_leastTime
      rw [z, nI_0, if_pos rfl]
    rw [e, xb, c_requestsReadTime hI hR, if_pos z]
    rfl
  · obtain ⟨pd', g1, g2, -, -, g4⟩ := c_leastTime hI hR (pd := pd) hd z (awS_lt hI a) (awS_lt7 hI a) (fun q hq => by
      obtain ⟨i, -, -, -, h5⟩ := (awS_bit r a q).mp hq
      exact hold_ne hI h5 d hd) hP
    refine ⟨d, pd', hd, rfl, ?_, g2, g4⟩
    rw [g1, xb, c_requestsReadTime hI hR, if_neg z]
    rfl
/-- a step of the order: to the first platter, or from one to another -/
def stp (r : RW) (d : Nat) : Option Nat → Nat → Nat
  | none, q => btm r q d
  | some p, q => swN r d p q
def pvI : Option Nat → Int32
  | none => -1
  | some p => nI p
theorem c_stepTime (hI : Inv r) (hR : Rel b sd r) {pd : SD} {d q : Nat} (hd : d < nv r 6) (h4 : pd 2 0 4 = nI d) (hw : ∀ p q, p < nv r 7 → q < nv r 7 → pd 24 0 (p * 10 + q) = nI (swN r d p q)) (o : Option Nat) (ho : ∀ p, o = some p → p < nv r 7) (hq : q < nv r 7) (ha : r (21 + d) ≠ nI q) : f_X2_stepTime sd pd (pvI o) (nI q) = some (nI (stp r d o q)) := by
  have l7 := hI.l7
  unfold f_X2_stepTime
  cases o with
  | none =>
    rw [if_pos (show pvI none = -1 from rfl), h4, c_bringTime hI hR hq hd, xb, if_neg ha]
    rfl
  | some p =>
    have hp := ho p rfl
    have e : ¬ (pvI (some p) = -1) := by
      show ¬ (nI p = -1)
      rw [nm1 (by omega)]; exact id
    rw [if_neg e]
    show x_guard (vp_in (nI p * (10 : Int32) + nI q) 100) (some (pd 24 0 (nI p * (10 : Int32) + nI q).toNatClampNeg)) = _
    have e1 : nI p * (10 : Int32) + nI q = nI (p * 10 + q) := by rw [rmu, nI_add]
    rw [e1]
    simp (disch := omega) only [xg, vinT, nI_clamp]
    rw [hw p q hp hq]
    rfl
/-- the lowest next platter of a set whose least time is x -/
def nxS (r : RW) (d : Nat) (o : Option Nat) (S x : Nat) : Nat → Nat → Option Nat
  | 0, _ => none
  | n + 1, q => if S.testBit q = true then (if stp r d o q + opt (swN r d) (S ^^^ 2 ^ q) (S ^^^ 2 ^ q) q = x then some q else nxS r d o S x n (q + 1)) else nxS r d o S x n (q + 1)
theorem c_lowestNext (hI : Inv r) (hR : Rel b sd r) {pd : SD} {d S x : Nat} (hd : d < nv r 6) (hS : S < 1024) (hb : ∀ p, S.testBit p = true → p < nv r 7) (ha : ∀ q, S.testBit q = true → r (21 + d) ≠ nI q) (h4 : pd 2 0 4 = nI d) (hw : ∀ p q, p < nv r 7 → q < nv r 7 → pd 24 0 (p * 10 + q) = nI (swN r d p q)) (ht : ∀ q, S.testBit q = true → pd 23 0 ((S ^^^ 2 ^ q) * 10 + q) = nI (opt (swN r d) (S ^^^ 2 ^ q) (S ^^^ 2 ^ q) q)) (o : Option Nat) (ho : ∀ p, o = some p → p < nv r 7) (hx : x < 2 ^ 31) : f_X2_lowestNext sd pd (pvI o) (nI S) (nI x) = some (pvI (nxS r d o S x 10 0)) := by
  have key : ∀ (n q f : Nat), q + n = 10 → n < f → f_X2_lowestNext_L3 (nI S) sd pd (pvI o) (nI x) f (nI q) = some (pvI (nxS r d o S x n q)) := by
    intro n
    induction n with
    | zero =>
      intro q f h1 h2
      obtain ⟨f, rfl⟩ : ∃ y, f = y + 1 := ⟨f - 1, by omega⟩
      have : q = 10 := by omega
      subst this
      rw [f_X2_lowestNext_L3, if_pos (by decide)]
      rfl
    | succ n ih =>
      intro q f h1 h2
      obtain ⟨f, rfl⟩ : ∃ y, f = y + 1 := ⟨f - 1, by omega⟩
      have hq : q < 10 := by omega
      have c10 : ¬ ((10 : Int32) ≤ nI q) := by rw [lle (k := 10) (by decide) (by omega)]; show ¬ 10 ≤ q; omega
      rw [f_X2_lowestNext_L3, if_neg c10, nxS]
      by_cases z : S.testBit q = true
      · have z1 : ¬ (((nI S >>> (nI q &&& 31)) &&& (1 : Int32)) = 0) := by rw [bit_tt hS hq, z]; decide
        have hl := xo_lt z
        rw [if_neg z1, if_pos z, sh1n q hq, nI_xor]
        have e1 : nI (S ^^^ 2 ^ q) * (10 : Int32) + nI q = nI ((S ^^^ 2 ^ q) * 10 + q) := by rw [rmu, nI_add]
        rw [e1, c_stepTime hI hR hd h4 hw o ho (hb q z) (ha q z), xb]
        simp (disch := omega) only [xl, xg, vinT, nI_clamp, ra]
        have b1 := opt_b hI hd hS hb z
        have b2 : stp r d o q ≤ 9603 := by
          cases o with
          | none => exact btm_le hI (hb q z) hd
          | some p => exact Nat.le_trans (swN_le hI hd (ho p rfl) (hb q z)).2 (by decide)
        rw [ht q z, nI_add]
        by_cases y : stp r d o q + opt (swN r d) (S ^^^ 2 ^ q) (S ^^^ 2 ^ q) q = x
        · rw [if_pos y, if_pos (by rw [y])]
          rfl
        · rw [if_neg y, if_neg (by rw [nI_eq (by omega) (by omega)]; exact y)]
          exact ih (q + 1) f (by omega) (by omega)
      · have z0 : S.testBit q = false := by simpa using z
        rw [if_pos ((bit_tt hS hq).mpr z0), if_neg z]
        simp only [xl, ra]
        exact ih (q + 1) f (by omega) (by omega)
  unfold f_X2_lowestNext
  have h := key 10 0 fuel (by omega) (by unfold fuel; omega)
  rw [nI_0] at h
  exact h
end WTH
end
section
/-! Layer 2: the class's order of a batch -/
section ORD
variable {b : Nat} {sd : SD} {r : RW}
/-- the order in which a set is brought -/
def ordL (r : RW) (d : Nat) : Nat → Option Nat → Nat → Nat → List Nat
  | 0, _, _, _ => []
  | n + 1, o, S, x => if S = 0 then [] else match nxS r d o S x 10 0 with
    | none => []
    | some q => q :: ordL r d n (some q) (S ^^^ 2 ^ q) (opt (swN r d) (S ^^^ 2 ^ q) (S ^^^ 2 ^ q) q)
theorem nxS_bit {r : RW} {d : Nat} {o : Option Nat} {S x : Nat} : ∀ (n q i : Nat), nxS r d o S x n q = some i → S.testBit i = true
  | 0, _, _, h => by cases h
  | n + 1, q, i, h => by
    unfold nxS at h
    by_cases z : S.testBit q = true
    · rw [if_pos z] at h
      by_cases y : stp r d o q + opt (swN r d) (S ^^^ 2 ^ q) (S ^^^ 2 ^ q) q = x
      · rw [if_pos y] at h
        cases h
        exact z
      · rw [if_neg y] at h
        exact nxS_bit n (q + 1) i h
    · rw [if_neg z] at h
      exact nxS_bit n (q + 1) i h
theorem c_plan49 (hI : Inv r) (hR : Rel b sd r) {d S0 : Nat} (hd : d < nv r 6) (hS0 : S0 < 1024) (hb : ∀ p, S0.testBit p = true → p < nv r 7) (ha : ∀ q, S0.testBit q = true → r (21 + d) ≠ nI q) : ∀ (n i f S x : Nat) (o : Option Nat) (pd : SD), i + n = 10 → n < f → S ≤ S0 → (∀ p, S.testBit p = true → S0.testBit p = true) → x < 2 ^ 31 → (∀ p, o = some p → p < nv r 7) → pd 2 0 3 = nI i → pd 2 0 4 = nI d → (∀ p q, p < nv r 7 → q < nv r 7 → pd 24 0 (p * 10 + q) = nI (swN r d p q)) → TbS r pd d S0 → ∃ pd', f_X2_planOrder_L49 sd f (nI S) (nI x) (pvI o) (nI i) pd = some pd' ∧ (∀ k j t, k ≠ 25 → ¬ (k = 2 ∧ j = 0 ∧ t = 3) → pd' k j t = pd k j t) ∧ pd' 2 0 3 = nI (i + (ordL r d n o S x).length) ∧ (∀ t, t < i → pd' 25 0 t = pd 25 0 t) ∧ ∀ t, t < (ordL r d n o S x).length → pd' 25 0 (i + t) = nI ((ordL r d n o S x).getD t 0) := by
  have l7 := hI.l7
  intro n
  induction n with
  | zero =>
    intro i f S x o pd h1 h2 h3 h4 h5 h6 h7 h8 h9 h10
    obtain ⟨f, rfl⟩ : ∃ y, f = y + 1 := ⟨f - 1, by omega⟩
    have : i = 10 := by omega
    subst this
    rw [f_X2_planOrder_L49, if_pos (by decide)]
    exact ⟨pd, rfl, fun _ _ _ _ _ => rfl, h7, fun _ _ => rfl, fun t ht => by simp [ordL] at ht⟩
  | succ n ih =>
    intro i f S x o pd h1 h2 h3 h4 h5 h6 h7 h8 h9 h10
    obtain ⟨f, rfl⟩ : ∃ y, f = y + 1 := ⟨f - 1, by omega⟩
    have c10 : ¬ ((10 : Int32) ≤ nI i) := by rw [lle (k := 10) (by decide) (by omega)]; show ¬ 10 ≤ i; omega
    rw [f_X2_planOrder_L49, if_neg c10, ordL]
    by_cases z : S = 0
    · rw [if_pos z, if_pos (by rw [z]; rfl)]
      exact ⟨pd, rfl, fun _ _ _ _ _ => rfl, h7, fun _ _ => rfl, fun t ht => by simp at ht⟩
    · have hS : S < 1024 := by omega
      rw [if_neg z, if_neg (by rw [req (k := 0) (by decide) (by omega)]; exact z)]
      have hln := c_lowestNext hI hR (pd := pd) (x := x) hd hS (fun p hp => hb p (h4 p hp)) (fun q hq => ha q (h4 q hq)) h8 h9 (fun q hq => h10 _ q (xo_sub h4 hq) (h4 q hq) (xo_off hq)) o h6 h5
      rw [hln, xb]
      cases hn : nxS r d o S x 10 0 with
      | none =>
        rw [if_pos (show pvI none = -1 from rfl)]
        exact ⟨pd, rfl, fun _ _ _ _ _ => rfl, h7, fun _ _ => rfl, fun t ht => by simp at ht⟩
      | some q =>
        have hq := nxS_bit 10 0 q hn
        have hq0 := h4 q hq
        have hql := hb q hq0
        have hxl := xo_lt hq
        have e : ¬ (pvI (some q) = -1) := by
          show ¬ (nI q = -1)
          rw [nm1 (by omega)]; exact id
        rw [if_neg e]
        show ∃ pd', (x_let (nI S ^^^ ((1 : Int32) <<< (nI q &&& 31))) fun (x9 : Int32) => x_guard (vp_in ((x9 * (10 : Int32)) + nI q) 10240) <| x_let ((pd 23 0 (((x9 * (10 : Int32)) + nI q)).toNatClampNeg)) fun (x11 : Int32) => x_guard (vp_in (nI i) 10) <| x_let (upS pd 25 0 (nI i).toNatClampNeg (nI q)) fun (pd13 : SD) => x_let (upS pd13 2 0 3 ((pd13 2 0 3) + (1 : Int32))) fun (pd14 : SD) => x_let (nI i + (1 : Int32)) fun (x15 : Int32) => f_X2_planOrder_L49 sd f (x9) (x11) (nI q) (x15) (pd14)) = some pd' ∧ _
        rw [sh1n q (by omega), nI_xor]
        simp only [xl]
        have e1 : nI (S ^^^ 2 ^ q) * (10 : Int32) + nI q = nI ((S ^^^ 2 ^ q) * 10 + q) := by rw [rmu, nI_add]
        rw [e1]
        simp (disch := omega) only [xg, vinT, nI_clamp, ra]
        rw [h10 _ q (xo_sub h4 hq) hq0 (xo_off hq), upS_k (show (2 : Nat) ≠ 25 by decide), h7, nI_1]
        have hob := opt_b hI hd hS (fun p hp => hb p (h4 p hp)) hq
        have s1 : ∀ k j t, k ≠ 25 → ¬ (k = 2 ∧ j = 0 ∧ t = 3) → upS (upS pd 25 0 i (nI q)) 2 0 3 (nI (i + 1)) k j t = pd k j t := fun k j t k1 k2 => by
          simp only [upS]
          rw [if_neg k2, if_neg (by omega)]
        obtain ⟨pd', g1, g2, g3, g4, g5⟩ := ih (i + 1) f (S ^^^ 2 ^ q) (opt (swN r d) (S ^^^ 2 ^ q) (S ^^^ 2 ^ q) q) (some q) (upS (upS pd 25 0 i (nI q)) 2 0 3 (nI (i + 1))) (by omega) (by omega) (by omega) (xo_sub h4 hq) (by omega) (fun p hp => by cases hp; exact hql) (upS_hit _ _ _ _ _) (by rw [s1 _ _ _ (by decide) (by decide)]; exact h8) (fun p q hp hq => by rw [s1 _ _ _ (by decide) (by omega)]; exact h9 p q hp hq) (fun s p k1 k2 k3 => by rw [s1 _ _ _ (by decide) (by omega)]; exact h10 s p k1 k2 k3)
        refine ⟨pd', g1, fun k j t k1 k2 => by rw [g2 k j t k1 k2, s1 k j t k1 k2], ?_, fun t ht => ?_, fun t ht => ?_⟩
        · rw [g3, List.length_cons]
          congr 1
          omega
        · rw [g4 t (by omega), upS_k (by decide), upS_t (by omega)]
        · rw [List.length_cons] at ht
          cases t with
          | zero =>
            show pd' 25 0 i = nI q
            rw [g4 i (by omega), upS_k (by decide), upS_hit]
          | succ t =>
            have := g5 t (by omega)
            rw [show i + (t + 1) = i + 1 + t by omega, this]
            rfl
end ORD
end
section
/-! Layer 2: the class plans a batch -/
section PLO
variable {b : Nat} {sd : SD} {r : RW}
theorem PTok.same {pd pd' : SD} (h : pd 2 0 5 = -1 ∨ PTok pd r) (h5 : pd' 2 0 5 = pd 2 0 5) (h6 : pd' 2 0 6 = pd 2 0 6) (h23 : ∀ t, pd' 23 0 t = pd 23 0 t) (h24 : ∀ t, pd' 24 0 t = pd 24 0 t) : pd' 2 0 5 = -1 ∨ PTok pd' r := by
  rcases h with h | ⟨d, S, a1, a2, a3, a4, a5, a6, a7⟩
  · exact Or.inl (h5.trans h)
  · refine Or.inr ⟨d, S, a1, a2, a3, h5.trans a4, h6.trans a5, fun s p k1 k2 k3 k4 => ?_, fun p q k1 k2 => ?_⟩
    · rw [h23]; exact a6 s p k1 k2 k3 k4
    · rw [h24]; exact a7 p q k1 k2
theorem c_planOrder (hI : Inv r) (hR : Rel b sd r) (hb : b < 2 ^ 29) (h0 : 0 < nv r 6) {pd : SD} (hP : pd 2 0 5 = -1 ∨ PTok pd r) : ∃ d pd', d < nv r 6 ∧ freQ r (useC sd (mkF r (-1) (nv r 16) 0 0)) = nI d ∧ f_X2_planOrder sd pd = some pd' ∧ (pd' 2 0 5 = -1 ∨ PTok pd' r) ∧ pd' 2 0 4 = nI d ∧ pd' 2 0 3 = nI (ordL r d 10 none (awS r (-1)) (lst r d (awS r (-1)))).length ∧ ∀ t, t < (ordL r d 10 none (awS r (-1)) (lst r d (awS r (-1)))).length → pd' 25 0 t = nI ((ordL r d 10 none (awS r (-1)) (lst r d (awS r (-1)))).getD t 0) := by
  have l6 := hI.l6
  obtain ⟨d, hd, hq⟩ := freQ_cases r (useC sd (mkF r (-1) (nv r 16) 0 0)) h0
  obtain ⟨p4, hp4⟩ : ∃ p4, p4 = upS (upS pd 2 0 4 (nI d)) 2 0 3 0 := ⟨_, rfl⟩
  have e4 : p4 2 0 4 = nI d := by rw [hp4, upS_t (by decide), upS_hit]
  have e3 : p4 2 0 3 = 0 := by rw [hp4, upS_hit]
  have hP4 : p4 2 0 5 = -1 ∨ PTok p4 r := PTok.same hP (by rw [hp4, upS_t (by decide), upS_t (by decide)]) (by rw [hp4, upS_t (by decide), upS_t (by decide)]) (fun t => by rw [hp4, upS_k (by decide), upS_k (by decide)]) (fun t => by rw [hp4, upS_k (by decide), upS_k (by decide)])
  unfold f_X2_planOrder
  rw [c_awayPlatters hI hR, xb, c_driveAfterReading hI hR hb h0, xb, hq]
  simp only [xl]
  rw [← hp4, e4, c_hasDrive hI hR, xb, hasV_in hd (by omega), if_neg i1]
  by_cases z : awS r (-1) = 0
  · have e : f_X2_leastTime sd p4 (nI d) (nI (awS r (-1))) = some (0, p4) := by
      unfold f_X2_leastTime
      rw [z, nI_0, if_pos rfl]
    rw [e, xb]
    refine ⟨d, p4, hd, rfl, ?_, hP4, e4, ?_, fun t ht => ?_⟩
    · rw [z, nI_0]
      show f_X2_planOrder_L49 sd (19999 + 1) 0 0 (-1) 0 p4 = _
      rw [f_X2_planOrder_L49, if_neg (by decide), if_pos rfl]
    · rw [z]
      exact e3
    · rw [z] at ht
      simp [ordL] at ht
  · have hS := awS_lt hI (-1)
    have hb7 := awS_lt7 hI (-1)
    have haw : ∀ q, (awS r (-1)).testBit q = true → r (21 + d) ≠ nI q := fun q hq => by
      obtain ⟨i, -, -, -, h5⟩ := (awS_bit r (-1) q).mp hq
      exact hold_ne hI h5 d hd
    obtain ⟨p5, g1, g2, g3, g4, g5⟩ := c_leastTime hI hR (pd := p4) hd z hS hb7 haw hP4
    rw [g1, xb]
    have hl : lst r d (awS r (-1)) < 2 ^ 31 := Nat.lt_of_le_of_lt (mnS_le _ _ _) (by decide)
    obtain ⟨p6, k1, k2, k3, -, k5⟩ := c_plan49 hI hR hd hS hb7 haw 10 0 fuel (awS r (-1)) (lst r d (awS r (-1))) none p5 (by omega) (by unfold fuel; omega) (Nat.le_refl _) (fun p h => h) hl (fun p h => by cases h) (by rw [g5 2 0 3 (by decide) (by decide) (by omega), e3]; rfl) (by rw [g5 2 0 4 (by decide) (by decide) (by omega)]; exact e4) g4 g3
    refine ⟨d, p6, hd, rfl, ?_, PTok.same g2 (k2 2 0 5 (by decide) (by omega)) (k2 2 0 6 (by decide) (by omega)) (fun t => k2 23 0 t (by decide) (by omega)) (fun t => k2 24 0 t (by decide) (by omega)), ?_, ?_, fun t ht => ?_⟩
    · rw [nI_0] at k1
      exact k1
    · rw [k2 2 0 4 (by decide) (by omega), g5 2 0 4 (by decide) (by decide) (by omega)]
      exact e4
    · rw [k3, Nat.zero_add]
    · have := k5 t ht
      rw [Nat.zero_add] at this
      exact this
end PLO
end
section
/-! Layer 2: the platters that the reference's batch brings -/
section WTD
variable {b : Nat} {sd md : SD} {r : RW}
/-- the members of a set, from p on -/
def wl (S : Nat) : Nat → Nat → List Nat
  | 0, _ => []
  | n + 1, p => if S.testBit p = true then p :: wl S n (p + 1) else wl S n (p + 1)
theorem wl_len (S : Nat) : ∀ (n p : Nat), (wl S n p).length ≤ n
  | 0, _ => Nat.le_refl _
  | n + 1, p => by
    have := wl_len S n (p + 1)
    unfold wl
    split
    · rw [List.length_cons]; omega
    · omega
theorem wl_in (S : Nat) : ∀ (n p i : Nat), i < (wl S n p).length → p ≤ (wl S n p).getD i 0 ∧ (wl S n p).getD i 0 < p + n ∧ S.testBit ((wl S n p).getD i 0) = true
  | 0, _, _, h => absurd h (Nat.not_lt_zero _)
  | n + 1, p, i, h => by
    unfold wl at h ⊢
    by_cases z : S.testBit p = true
    · rw [if_pos z] at h ⊢
      cases i with
      | zero => exact ⟨Nat.le_refl _, by show p < _; omega, z⟩
      | succ i =>
        have h2 : i < (wl S n (p + 1)).length := Nat.lt_of_succ_lt_succ h
        have := wl_in S n (p + 1) i h2
        rw [List.getD_cons_succ]
        exact ⟨by omega, by omega, this.2.2⟩
    · rw [if_neg z] at h ⊢
      have := wl_in S n (p + 1) i h
      exact ⟨by omega, by omega, this.2.2⟩
theorem wl_mono (S : Nat) : ∀ (n p i j : Nat), i < j → j < (wl S n p).length → (wl S n p).getD i 0 < (wl S n p).getD j 0
  | 0, _, _, _, _, h => absurd h (Nat.not_lt_zero _)
  | n + 1, p, i, j, hij, h => by
    unfold wl at h ⊢
    by_cases z : S.testBit p = true
    · rw [if_pos z] at h ⊢
      obtain ⟨j, rfl⟩ : ∃ q, j = q + 1 := ⟨j - 1, by omega⟩
      have h2 : j < (wl S n (p + 1)).length := Nat.lt_of_succ_lt_succ h
      rw [List.getD_cons_succ]
      cases i with
      | zero =>
        have := (wl_in S n (p + 1) j h2).1
        show p < _
        omega
      | succ i =>
        rw [List.getD_cons_succ]
        exact wl_mono S n (p + 1) i j (by omega) h2
    · rw [if_neg z] at h ⊢
      exact wl_mono S n (p + 1) i j hij h
theorem wl_all (S : Nat) : ∀ (n p x : Nat), p ≤ x → x < p + n → S.testBit x = true → ∃ i, i < (wl S n p).length ∧ (wl S n p).getD i 0 = x
  | 0, _, _, h1, h2, _ => by omega
  | n + 1, p, x, h1, h2, h3 => by
    unfold wl
    by_cases e : x = p
    · subst e
      rw [if_pos h3]
      exact ⟨0, by rw [List.length_cons]; omega, rfl⟩
    · obtain ⟨i, i1, i2⟩ := wl_all S n (p + 1) x (by omega) (by omega) h3
      by_cases z : S.testBit p = true
      · rw [if_pos z]
        exact ⟨i + 1, by rw [List.length_cons]; omega, by rw [List.getD_cons_succ]; exact i2⟩
      · rw [if_neg z]
        exact ⟨i, i1, i2⟩
/-- c members of a set in their order -/
def WO (c : Nat) (W : Nat → Nat) (S P : Nat) : Prop := c ≤ 10 ∧ (∀ i, i < c → S.testBit (W i) = true ∧ W i < P) ∧ (∀ i j, i < j → j < c → W i < W j) ∧ ∀ p, S.testBit p = true → ∃ i, i < c ∧ W i = p
theorem wl_WO {S P : Nat} (hP : P ≤ 10) (hS : ∀ p, S.testBit p = true → p < P) : WO (wl S P 0).length (fun i => (wl S P 0).getD i 0) S P := by
  refine ⟨Nat.le_trans (wl_len S P 0) hP, fun i hi => ?_, fun i j => wl_mono S P 0 i j, fun p hp => ?_⟩
  · have := wl_in S P 0 i hi
    exact ⟨this.2.2, by have := this.2.1; show (wl S P 0).getD i 0 < P; omega⟩
  · have := hS p hp
    exact wl_all S P 0 p (by omega) (by omega) hp
/-- some request is of this platter -/
def anQ (r : RW) (p : Nat) : Nat → Nat → Bool
  | 0, _ => false
  | n + 1, q => decide (pq r q = p) || anQ r p n (q + 1)
theorem anQ_iff (r : RW) (p : Nat) : ∀ (n q : Nat), anQ r p n q = true ↔ ∃ i, q ≤ i ∧ i < q + n ∧ pq r i = p
  | 0, q => by
    constructor
    · intro h; cases h
    · rintro ⟨i, h1, h2, -⟩; omega
  | n + 1, q => by
    unfold anQ
    rw [Bool.or_eq_true, decide_eq_true_eq, anQ_iff r p n (q + 1)]
    constructor
    · rintro (h | ⟨i, h1, h2, h3⟩)
      · exact ⟨q, Nat.le_refl _, by omega, h⟩
      · exact ⟨i, by omega, by omega, h3⟩
    · rintro ⟨i, h1, h2, h3⟩
      by_cases e : i = q
      · left; rw [← e]; exact h3
      · exact Or.inr ⟨i, by omega, by omega, h3⟩
theorem m_wt22 (hr : md 30 0 = r) (hI : Inv r) {p : Nat} (hp : p < nv r 7) : ∀ (k q f : Nat) (x : Bool), q + k = nv r 16 → k < f → f_X8_findsWanted_L22 md (nI p) f (b01 x) (nI q) = some (b01 (x || anQ r p k q), nI (nv r 16)) := by
  have l16 := hI.l16
  have l7 := hI.l7
  intro k
  induction k with
  | zero =>
    intro q f x hq hf
    obtain ⟨f, rfl⟩ : ∃ q, f = q + 1 := ⟨f - 1, by omega⟩
    have : q = nv r 16 := by omega
    subst this
    rw [f_X8_findsWanted_L22, hr, hI.c16, if_pos (nI_le (Nat.le_refl _) (by omega)), anQ, Bool.or_false]
  | succ k ih =>
    intro q f x hq hf
    obtain ⟨f, rfl⟩ : ∃ q, f = q + 1 := ⟨f - 1, by omega⟩
    have hq2 : q < nv r 16 := by omega
    obtain ⟨y1, y2⟩ := hI.req q hq2
    have h1 := ih (q + 1) f true (by omega) (by omega)
    rw [f_X8_findsWanted_L22, hr, hI.c16, if_neg (by rw [nI_leI (by omega) (by omega)]; omega)]
    simp (disch := omega) only [xl, xg, vinT, nI_clamp, la, ra, y1.e]
    rw [m_platterOf hr hI y2, xb]
    have e1 : b01 true = 1 := rfl
    rw [Bool.true_or, e1] at h1
    by_cases hx : x = false
    · subst hx
      rw [if_pos (show b01 false = 0 from rfl), anQ, Bool.false_or]
      have hpq := pq_lt hI hq2
      by_cases z : pq r q = p
      · rw [if_pos (by show nI (pq r q) = nI p; rw [z]), h1, decide_eq_true z, Bool.true_or]
        rfl
      · have h2 := ih (q + 1) f false (by omega) (by omega)
        rw [if_neg (by show ¬ nI (pq r q) = nI p; rw [nI_eq (by omega) (by omega)]; exact z), decide_eq_false z, Bool.false_or]
        rw [Bool.false_or] at h2
        exact h2
    · have hx : x = true := by cases x <;> simp_all
      subst hx
      rw [if_neg (show ¬ b01 true = 0 by decide), h1, Bool.true_or]
      rfl
theorem aw_iff {p : Nat} (r : RW) : (awS r (-1)).testBit p = true ↔ anQ r p (nv r 16) 0 = true ∧ holdQ r (nI p) = -1 ∧ nv r 16 < 2 ^ 31 ∨ (awS r (-1)).testBit p = true := by
  constructor
  · exact Or.inr
  · rintro (⟨h1, h2, h3⟩ | h)
    · obtain ⟨i, -, i2, i3⟩ := (anQ_iff r p _ _).mp h1
      exact (awS_bit r (-1) p).mpr ⟨i, by omega, by rw [Ne, nm1 (by omega)]; exact id, i3, h2⟩
    · exact h
theorem aw_not {p : Nat} (hI : Inv r) : (awS r (-1)).testBit p = true ↔ anQ r p (nv r 16) 0 = true ∧ holdQ r (nI p) = -1 := by
  have l16 := hI.l16
  constructor
  · intro h
    obtain ⟨i, i1, i2, i3, i4⟩ := (awS_bit r (-1) p).mp h
    exact ⟨(anQ_iff r p _ _).mpr ⟨i, by omega, by omega, i3⟩, i4⟩
  · rintro ⟨h1, h2⟩
    exact (aw_iff r).mpr (Or.inl ⟨h1, h2, by omega⟩)
theorem m_wt7 (hI : Inv r) : ∀ (k p f c0 : Nat) (md : SD), md 30 0 = r → p + k = nv r 7 → k < f → c0 ≤ p → md 8 0 10 = nI c0 → ∃ m', f_X8_findsWanted_L7 f (nI p) md = some m' ∧ (∀ k j t, ¬ (k = 34 ∧ j = 0 ∧ c0 ≤ t) → ¬ (k = 8 ∧ j = 0 ∧ t = 10) → m' k j t = md k j t) ∧ m' 8 0 10 = nI (c0 + (wl (awS r (-1)) k p).length) ∧ ∀ i, i < (wl (awS r (-1)) k p).length → m' 34 0 (c0 + i) = nI ((wl (awS r (-1)) k p).getD i 0) := by
  have l16 := hI.l16
  have l7 := hI.l7
  intro k
  induction k with
  | zero =>
    intro p f c0 md hr hp hf hc h10
    obtain ⟨f, rfl⟩ : ∃ q, f = q + 1 := ⟨f - 1, by omega⟩
    have : p = nv r 7 := by omega
    subst this
    rw [f_X8_findsWanted_L7, hr, hI.c7, if_pos (nI_le (Nat.le_refl _) (by omega))]
    exact ⟨md, rfl, fun _ _ _ _ _ => rfl, h10, fun i hi => absurd hi (Nat.not_lt_zero _)⟩
  | succ k ih =>
    intro p f c0 md hr hp hf hc h10
    obtain ⟨f, rfl⟩ : ∃ q, f = q + 1 := ⟨f - 1, by omega⟩
    have hp2 : p < nv r 7 := by omega
    have hw := m_wt22 hr hI hp2 (nv r 16) 0 fuel false (by omega) (by unfold fuel; omega)
    have e0 : b01 false = 0 := rfl
    rw [e0, nI_0, Bool.false_or] at hw
    rw [f_X8_findsWanted_L7, hr, hI.c7, if_neg (by rw [nI_leI (by omega) (by omega)]; omega), hw, xb]
    simp only [xl]
    simp (disch := omega) only [ra]
    rw [wl]
    by_cases z : anQ r p (nv r 16) 0 = true
    · rw [if_neg (by rw [b01_0, z]; decide), m_inDrive hr hI, xb]
      by_cases y : holdQ r (nI p) = -1
      · have hin : (awS r (-1)).testBit p = true := (aw_not hI).mpr ⟨z, y⟩
        rw [if_pos y, if_pos hin, h10, x_guard_pos (vp_in_nI (by omega) (by omega)), nI_clamp (by omega)]
        obtain ⟨m', q1, q2, q3, q4⟩ := ih (p + 1) f (c0 + 1) (upS (upS md 34 0 c0 (nI p)) 8 0 10 (nI (c0 + 1))) hr (by omega) (by omega) (by omega) (upS_hit _ _ _ _ _)
        refine ⟨m', ?_, fun k j t n1 n2 => ?_, ?_, fun i hi => ?_⟩
        · rw [← q1]
          have : (upS md 34 0 c0 (nI p)) 8 0 10 = nI c0 := h10
          rw [this]
          simp (disch := omega) only [ra]
        · rw [q2 k j t (by omega) n2]
          unfold upS
          rw [if_neg n2, if_neg (by omega)]
        · rw [q3, List.length_cons]
          congr 1
          omega
        · cases i with
          | zero =>
            rw [Nat.add_zero, q2 34 0 c0 (by omega) (by omega)]
            exact upS_hit _ _ _ _ _
          | succ i =>
            rw [List.getD_cons_succ, ← q4 i (by rw [List.length_cons] at hi; omega)]
            congr 1
            omega
      · have hin : ¬ (awS r (-1)).testBit p = true := fun h => y ((aw_not hI).mp h).2
        rw [if_neg y, if_neg hin]
        exact ih (p + 1) f c0 md hr (by omega) (by omega) (by omega) h10
    · have hin : ¬ (awS r (-1)).testBit p = true := fun h => z ((aw_not hI).mp h).1
      rw [if_pos (by rw [b01_0]; exact Bool.eq_false_iff.mpr z), if_neg hin]
      exact ih (p + 1) f c0 md hr (by omega) (by omega) (by omega) h10
/-- the list of the wanted platters that are away -/
def wlQ (r : RW) : List Nat := wl (awS r (-1)) (nv r 7) 0
theorem wlQ_WO (hI : Inv r) : WO (wlQ r).length (fun i => (wlQ r).getD i 0) (awS r (-1)) (nv r 7) := wl_WO hI.l7 (awS_lt7 hI (-1))
theorem m_findsWanted (hr : md 30 0 = r) (hI : Inv r) : ∃ m', f_X8_findsWanted md = some m' ∧ (∀ k j t, ¬ (k = 34 ∧ j = 0) → ¬ (k = 8 ∧ j = 0 ∧ t = 10) → m' k j t = md k j t) ∧ m' 8 0 10 = nI (wlQ r).length ∧ ∀ i, i < (wlQ r).length → m' 34 0 i = nI ((wlQ r).getD i 0) := by
  have l7 := hI.l7
  obtain ⟨m', q1, q2, q3, q4⟩ := m_wt7 hI (nv r 7) 0 fuel 0 (upS md 8 0 10 0) hr (by omega) (by unfold fuel; omega) (by omega) (upS_hit _ _ _ _ _)
  rw [nI_0] at q1
  refine ⟨m', ?_, fun k j t n1 n2 => ?_, ?_, fun i hi => ?_⟩
  · unfold f_X8_findsWanted
    rw [xl]
    exact q1
  · rw [q2 k j t (by omega) n2]
    unfold upS
    rw [if_neg n2]
  · rw [q3, Nat.zero_add]; rfl
  · rw [← Nat.zero_add i, q4 i hi]
    rw [Nat.zero_add]; rfl
end WTD
end
section
/-! Layer 2: the reference's table of least ways -/
/-- how many members a set of at most ten has -/
def crd (s : Nat) : Nat := s % 2 + s / 2 % 2 + s / 4 % 2 + s / 8 % 2 + s / 16 % 2 + s / 32 % 2 + s / 64 % 2 + s / 128 % 2 + s / 256 % 2 + s / 512 % 2
def ck (s j : Nat) : Bool := !(s.testBit j) || (Nat.beq (crd (s ^^^ 2 ^ j) + 1) (crd s) && Nat.beq (s - 2 ^ j) (s ^^^ 2 ^ j) && Nat.ble (2 ^ j) s)
theorem ck_all : (List.range 1024).all (fun s => (List.range 10).all (ck s)) = true := by decide +kernel
theorem crd_all (s : Nat) (hs : s < 1024) (j : Nat) (hj : j < 10) (hb : s.testBit j = true) : crd (s ^^^ 2 ^ j) + 1 = crd s ∧ s - 2 ^ j = s ^^^ 2 ^ j ∧ 2 ^ j ≤ s := by
  have h := List.all_eq_true.mp (List.all_eq_true.mp ck_all s (List.mem_range.mpr hs)) j (List.mem_range.mpr hj)
  unfold ck at h
  rw [hb, Bool.not_true, Bool.false_or, Bool.and_eq_true, Bool.and_eq_true] at h
  exact ⟨Nat.eq_of_beq_eq_true h.1.1, Nat.eq_of_beq_eq_true h.1.2, Nat.le_of_ble_eq_true h.2⟩
theorem ck_0 : (List.range 1024).all (fun s => Nat.ble (crd s) 10 && (!(Nat.beq (crd s) 0) || Nat.beq s 0)) = true := by decide +kernel
theorem crd_0 {s : Nat} (hs : s < 1024) (h : crd s = 0) : s = 0 := by
  have g := List.all_eq_true.mp ck_0 s (List.mem_range.mpr hs)
  rw [h, Bool.and_eq_true] at g
  exact Nat.eq_of_beq_eq_true g.2
theorem crd_le {s : Nat} (hs : s < 1024) : crd s ≤ 10 := by
  have g := List.all_eq_true.mp ck_0 s (List.mem_range.mpr hs)
  rw [Bool.and_eq_true] at g
  exact Nat.le_of_ble_eq_true g.1
theorem crd_z : crd 0 = 0 := rfl
theorem crd_full : ∀ c, c ≤ 10 → crd (2 ^ c - 1) = c := by decide
theorem mnS_none {s : Nat} {f : Nat → Nat} : ∀ (n q acc : Nat), (∀ i, q ≤ i → s.testBit i = false) → mnS s f n q acc = acc
  | 0, _, _, _ => rfl
  | n + 1, q, acc, h => by
    unfold mnS
    rw [if_neg (by rw [h q (Nat.le_refl _)]; decide)]
    exact mnS_none n (q + 1) acc (fun i hi => h i (by omega))
theorem mnS_at {s : Nat} {f : Nat → Nat} : ∀ (n q acc : Nat), mnS s f n q acc = acc ∨ ∃ i, q ≤ i ∧ i < q + n ∧ s.testBit i = true ∧ mnS s f n q acc = f i
  | 0, _, _ => Or.inl rfl
  | n + 1, q, acc => by
    unfold mnS
    rcases mnS_at (s := s) (f := f) n (q + 1) (if s.testBit q = true then (if f q < acc then f q else acc) else acc) with h | ⟨i, h1, h2, h3, h4⟩
    · by_cases z : s.testBit q = true
      · rw [if_pos z] at h ⊢
        by_cases y : f q < acc
        · rw [if_pos y] at h ⊢
          exact Or.inr ⟨q, Nat.le_refl _, by omega, z, h⟩
        · rw [if_neg y] at h ⊢
          exact Or.inl h
      · rw [if_neg z] at h ⊢
        exact Or.inl h
    · exact Or.inr ⟨i, by omega, by omega, h3, h4⟩
/-- the least over a set that is not empty -/
theorem mnS_min {s : Nat} {f : Nat → Nat} {acc i : Nat} (hi : i < 10) (hb : s.testBit i = true) (hf : f i ≤ acc) : (∀ j, j < 10 → s.testBit j = true → mnS s f 10 0 acc ≤ f j) ∧ ∃ j, j < 10 ∧ s.testBit j = true ∧ mnS s f 10 0 acc = f j := by
  refine ⟨fun j hj h => mnS_le2 10 0 acc j (by omega) (by omega) h, ?_⟩
  rcases mnS_at (s := s) (f := f) 10 0 acc with h | ⟨j, h1, h2, h3, h4⟩
  · have := mnS_le2 (s := s) (f := f) 10 0 acc i (by omega) (by omega) hb
    exact ⟨i, hi, hb, by omega⟩
  · exact ⟨j, by omega, h3, h4⟩
theorem mnS_acc {s : Nat} {f : Nat → Nat} {a a' i : Nat} (hi : i < 10) (hb : s.testBit i = true) (h1 : f i ≤ a) (h2 : f i ≤ a') : mnS s f 10 0 a = mnS s f 10 0 a' := by
  obtain ⟨x1, j, j1, j2, j3⟩ := mnS_min (f := f) hi hb h1
  obtain ⟨y1, l, l1, l2, l3⟩ := mnS_min (f := f) hi hb h2
  have := x1 l l1 l2
  have := y1 j j1 j2
  omega
section RRS
variable {b c d : Nat} {W : Nat → Nat} {S : Nat} {sd md : SD} {r : RW}
/-- the ways between the wanted ones, by their places in the list -/
def wyI (r : RW) (d : Nat) (W : Nat → Nat) (i j : Nat) : Nat := bwN r d (W i) (W j)
theorem m_homeOf (hr : md 30 0 = r) (hI : Inv r) (hW : WO c W S (nv r 7)) (h34 : ∀ i, i < c → md 34 0 i = nI (W i)) {i : Nat} (hi : i < c) : f_X8_homeOf md (nI i) = some (nI (nv r (29 + W i))) := by
  have l7 := hI.l7
  have lc := hW.1
  have hw := (hW.2.1 i hi).2
  unfold f_X8_homeOf
  rw [x_guard_pos (vp_in_nI (by omega) (by omega)), nI_clamp (by omega), h34 i hi]
  simp (disch := omega) only [xl, xg, vinT, nI_clamp, la, ra]
  rw [hr, (hI.plt _ hw).1.1.e]
theorem m_between (hr : md 30 0 = r) (hI : Inv r) (hW : WO c W S (nv r 7)) (h34 : ∀ i, i < c → md 34 0 i = nI (W i)) (hd : d < nv r 6) {i j : Nat} (hi : i < c) (hj : j < c) : f_X8_between md (nI i) (nI j) (nI (nv r (17 + d))) = some (nI (wyI r d W i j)) := by
  have l0 := hI.l0
  have e1 := (hI.drv d hd).1.2
  have e2 := (hI.plt _ (hW.2.1 i hi).2).1.2
  have e3 := (hI.plt _ (hW.2.1 j hj).2).1.2
  unfold f_X8_between
  rw [m_homeOf hr hI hW h34 hi, m_homeOf hr hI hW h34 hj]
  simp only [xb]
  rw [m_far (by omega) (by omega), m_far (by omega) (by omega), m_far (by omega) (by omega)]
  simp only [xb, nI_add]
  rfl
theorem wyI_le (hI : Inv r) (hW : WO c W S (nv r 7)) (hd : d < nv r 6) {i j : Nat} (hi : i < c) (hj : j < c) : wyI r d W i j ≤ 69 := (swN_le hI hd (hW.2.1 i hi).2 (hW.2.1 j hj).2).1
theorem two_c (hc : c ≤ 10) : 2 ^ c ≤ 1024 := Nat.pow_le_pow_right (show 0 < 2 by decide) hc
theorem bit_c {s i : Nat} (hs : s < 2 ^ c) (h : s.testBit i = true) : i < c := by
  refine Nat.lt_of_not_le (fun z => ?_)
  have : s.testBit i = false := Nat.testBit_lt_two_pow (Nat.lt_of_lt_of_le hs (Nat.pow_le_pow_right (show 0 < 2 by decide) z))
  rw [this] at h
  cases h
theorem optI_le (hI : Inv r) (hW : WO c W S (nv r 7)) (hd : d < nv r 6) {k s i : Nat} (hs : s < 2 ^ c) (hi : i < c) : opt (wyI r d W) k s i ≤ 69 * 1024 := by
  have l2 := two_c hW.1
  have := opt_le (w := wyI r d W) (B := 69) k s i (by omega) (fun a e ha he => wyI_le hI hW hd (by
    rcases ha with rfl | ha
    · exact hi
    · exact bit_c hs ha) (bit_c hs he))
  omega
theorem m_r37 (hr : md 30 0 = r) (hI : Inv r) (hW : WO c W S (nv r 7)) (h34 : ∀ i, i < c → md 34 0 i = nI (W i)) (h10 : md 8 0 10 = nI c) (hd : d < nv r 6) {s i : Nat} (hs : s < 2 ^ c) (hi : i < c) (ht : ∀ q, s.testBit q = true → md 36 0 (10 * (s ^^^ 2 ^ q) + q) = nI (opt (wyI r d W) (s ^^^ 2 ^ q) (s ^^^ 2 ^ q) q)) : ∀ (k j f acc : Nat), j + k = c → k < f → acc ≤ 1000000000 → f_X8_findsRest_L37 md (nI s) (nI i) (nI (nv r (17 + d))) f (nI acc) (nI j) = some (nI (mnS s (fun q => wyI r d W i q + opt (wyI r d W) (s ^^^ 2 ^ q) (s ^^^ 2 ^ q) q) (10 - j) j acc), nI c) := by
  have lc := hW.1
  have l2 := two_c hW.1
  intro k
  induction k with
  | zero =>
    intro j f acc hj hf ha
    obtain ⟨f, rfl⟩ : ∃ q, f = q + 1 := ⟨f - 1, by omega⟩
    have : j = c := by omega
    subst this
    rw [f_X8_findsRest_L37, h10, if_pos (nI_le (Nat.le_refl _) (by omega)), mnS_none]
    intro i hi
    exact Bool.eq_false_iff.mpr (fun z => by have := bit_c hs z; omega)
  | succ k ih =>
    intro j f acc hj hf ha
    obtain ⟨f, rfl⟩ : ∃ q, f = q + 1 := ⟨f - 1, by omega⟩
    have hj2 : j < c := by omega
    obtain ⟨n, hn⟩ : ∃ n, 10 - j = n + 1 := ⟨9 - j, by omega⟩
    have hn2 : n = 10 - (j + 1) := by omega
    rw [f_X8_findsRest_L37, h10, if_neg (by rw [nI_leI (by omega) (by omega)]; omega), hn, mnS]
    by_cases z : s.testBit j = true
    · obtain ⟨-, c2, c3⟩ := crd_all s (by omega) j (by omega) z
      have hx := xo_lt z
      have b1 := wyI_le hI hW hd hi hj2
      have b2 := optI_le (k := s ^^^ 2 ^ j) hI hW hd (s := s ^^^ 2 ^ j) (by omega) hj2
      rw [if_neg (by rw [bit_tt (by omega) (by omega), z]; decide), if_pos z, m_between hr hI hW h34 hd hi hj2, xb, sh1n j (by omega), pk_sub c3, c2]
      simp (disch := omega) only [xl, xg, vinT, nI_clamp, la, ra, lm, nI_add]
      rw [ht j z, nI_add]
      by_cases y : wyI r d W i j + opt (wyI r d W) (s ^^^ 2 ^ j) (s ^^^ 2 ^ j) j < acc
      · rw [if_neg (by rw [nI_leI (by omega) (by omega)]; omega), if_pos y, hn2]
        exact ih (j + 1) f _ (by omega) (by omega) (by omega)
      · rw [if_pos (nI_le (by omega) (by omega)), if_neg y, hn2]
        exact ih (j + 1) f _ (by omega) (by omega) (by omega)
    · rw [if_pos (by rw [bit_tt (by omega) (by omega)]; exact Bool.eq_false_iff.mpr z), if_neg z]
      simp (disch := omega) only [xl, ra]
      rw [hn2]
      exact ih (j + 1) f _ (by omega) (by omega) ha
/-- the table up to a set -/
def Ti (w : Nat → Nat → Nat) (c : Nat) (md : SD) (s : Nat) : Prop := ∀ s' i, s' < s → i < c → md 36 0 (10 * s' + i) = nI (opt w s' s' i)
theorem opt_big (hI : Inv r) (hW : WO c W S (nv r 7)) (hd : d < nv r 6) {s i : Nat} (hs : s < 2 ^ c) (h0 : s ≠ 0) (hi : i < c) : opt (wyI r d W) s s i = mnS s (fun q => wyI r d W i q + opt (wyI r d W) (s ^^^ 2 ^ q) (s ^^^ 2 ^ q) q) 10 0 1000000000 := by
  have l2 := two_c hW.1
  obtain ⟨k, rfl⟩ : ∃ k, s = k + 1 := ⟨s - 1, by omega⟩
  rw [opt, if_neg h0]
  obtain ⟨q, q1, q2⟩ := ex_bit h0 (by omega)
  have e : mnS (k + 1) (fun q => wyI r d W i q + opt (wyI r d W) k ((k + 1) ^^^ 2 ^ q) q) 10 0 2147483647 = mnS (k + 1) (fun q => wyI r d W i q + opt (wyI r d W) ((k + 1) ^^^ 2 ^ q) ((k + 1) ^^^ 2 ^ q) q) 10 0 2147483647 := by
    refine mnS_congr _ _ _ (fun j _ _ hj => ?_)
    have := xo_lt hj
    rw [opt_fuel k ((k + 1) ^^^ 2 ^ j) _ _ (by omega) (Nat.le_refl _)]
  rw [e]
  have hx := xo_lt q2
  have b1 := wyI_le hI hW hd hi (bit_c hs q2)
  have b2 := optI_le (k := (k + 1) ^^^ 2 ^ q) hI hW hd (s := (k + 1) ^^^ 2 ^ q) (by omega) (bit_c hs q2)
  exact mnS_acc q1 q2 (by omega) (by omega)
theorem m_r14 (hI : Inv r) (hW : WO c W S (nv r 7)) (hd : d < nv r 6) {s : Nat} (hs : s < 2 ^ c) : ∀ (k i f : Nat) (md : SD), md 30 0 = r → (∀ i, i < c → md 34 0 i = nI (W i)) → md 8 0 10 = nI c → Ti (wyI r d W) c md s → i + k = c → k < f → ∃ m', f_X8_findsRest_L14 (nI s) (nI (nv r (17 + d))) f (nI i) md = some (nI c, m') ∧ (∀ k j t, ¬ (k = 36 ∧ j = 0 ∧ 10 * s + i ≤ t) → m' k j t = md k j t) ∧ ∀ j, i ≤ j → j < c → m' 36 0 (10 * s + j) = nI (opt (wyI r d W) s s j) := by
  have lc := hW.1
  have l2 := two_c hW.1
  intro k
  induction k with
  | zero =>
    intro i f md hr h34 h10 hT hi hf
    obtain ⟨f, rfl⟩ : ∃ q, f = q + 1 := ⟨f - 1, by omega⟩
    have : i = c := by omega
    subst this
    rw [f_X8_findsRest_L14, h10, if_pos (nI_le (Nat.le_refl _) (by omega))]
    exact ⟨md, rfl, fun _ _ _ _ => rfl, fun j h1 h2 => by omega⟩
  | succ k ih =>
    intro i f md hr h34 h10 hT hi hf
    obtain ⟨f, rfl⟩ : ∃ q, f = q + 1 := ⟨f - 1, by omega⟩
    have hi2 : i < c := by omega
    rw [f_X8_findsRest_L14, h10, if_neg (by rw [nI_leI (by omega) (by omega)]; omega)]
    have key : ∀ acc : Nat, acc ≤ 1000000000 → mnS s (fun q => wyI r d W i q + opt (wyI r d W) (s ^^^ 2 ^ q) (s ^^^ 2 ^ q) q) 10 0 acc = opt (wyI r d W) s s i → ∃ m', (x_bind (f_X8_findsRest_L37 md (nI s) (nI i) (nI (nv r (17 + d))) fuel (nI acc) 0) fun (q4 : (Int32 × Int32)) => x_guard (vp_in (((10 : Int32) * nI s) + nI i) 10240) <| x_let (upS md 36 0 ((((10 : Int32) * nI s) + nI i)).toNatClampNeg q4.1) fun (md13 : SD) => x_let (nI i + (1 : Int32)) fun (x14 : Int32) => f_X8_findsRest_L14 (nI s) (nI (nv r (17 + d))) f (x14) (md13)) = some (nI c, m') ∧ (∀ k j t, ¬ (k = 36 ∧ j = 0 ∧ 10 * s + i ≤ t) → m' k j t = md k j t) ∧ ∀ j, i ≤ j → j < c → m' 36 0 (10 * s + j) = nI (opt (wyI r d W) s s j) := by
      intro acc ha he
      have h37 := m_r37 hr hI hW h34 h10 hd hs hi2 (fun q hq => hT _ _ (xo_lt hq) (bit_c hs hq)) c 0 fuel acc (by omega) (by unfold fuel; omega) ha
      rw [nI_0] at h37
      rw [h37, xb]
      simp (disch := omega) only [xl, xg, vinT, nI_clamp, la, ra, lm, nI_add]
      have hz : mnS s (fun q => wyI r d W i q + opt (wyI r d W) (s ^^^ 2 ^ q) (s ^^^ 2 ^ q) q) (10 - 0) 0 acc = opt (wyI r d W) s s i := he
      rw [hz]
      obtain ⟨m', q1, q2, q3⟩ := ih (i + 1) f (upS md 36 0 (10 * s + i) (nI (opt (wyI r d W) s s i))) hr h34 h10 (fun s' i' h1 h2 => by
        rw [upS_t (by omega)]
        exact hT s' i' h1 h2) (by omega) (by omega)
      refine ⟨m', q1, fun k j t n => ?_, fun j h1 h2 => ?_⟩
      · rw [q2 k j t (by omega)]
        unfold upS
        rw [if_neg (by omega)]
      · by_cases e : j = i
        · subst e
          rw [q2 36 0 _ (by omega), upS_hit]
        · exact q3 j (by omega) h2
    simp only [xl]
    by_cases z : s = 0
    · subst z
      rw [if_pos (show nI 0 = 0 from rfl)]
      have := key 0 (by omega) (by rw [mnS_none _ _ _ (fun i _ => Nat.zero_testBit i)]; rfl)
      simp only [xl] at this
      exact this
    · rw [if_neg (fun h => z (by rw [← nI_0, nI_eq (by omega) (by omega)] at h; exact h))]
      have := key 1000000000 (by omega) (opt_big hI hW hd hs z hi2).symm
      simp only [xl] at this
      exact this
theorem m_findsRest (hr : md 30 0 = r) (hI : Inv r) (hW : WO c W S (nv r 7)) (h34 : ∀ i, i < c → md 34 0 i = nI (W i)) (h10 : md 8 0 10 = nI c) (hd : d < nv r 6) : ∃ m', f_X8_findsRest md (nI (nv r (17 + d))) = some m' ∧ (∀ k j t, ¬ (k = 36 ∧ j = 0) → m' k j t = md k j t) ∧ Ti (wyI r d W) c m' (2 ^ c) := by
  have lc := hW.1
  have l2 := two_c hW.1
  have sh : ∀ t, t ≤ 10 → (1 : Int32) <<< (nI t &&& 31) = nI (2 ^ t) := by decide +kernel
  have key : ∀ (k s f : Nat) (md : SD), md 30 0 = r → (∀ i, i < c → md 34 0 i = nI (W i)) → md 8 0 10 = nI c → Ti (wyI r d W) c md s → s + k = 2 ^ c → k < f → ∃ m', f_X8_findsRest_L2 (nI (nv r (17 + d))) f (nI s) md = some m' ∧ (∀ k j t, ¬ (k = 36 ∧ j = 0) → m' k j t = md k j t) ∧ Ti (wyI r d W) c m' (2 ^ c) := by
    intro k
    induction k with
    | zero =>
      intro s f md hr h34 h10 hT hs hf
      obtain ⟨f, rfl⟩ : ∃ q, f = q + 1 := ⟨f - 1, by omega⟩
      have : s = 2 ^ c := by omega
      subst this
      rw [f_X8_findsRest_L2, h10, sh c lc, if_pos (nI_le (Nat.le_refl _) (by omega))]
      exact ⟨md, rfl, fun _ _ _ _ => rfl, hT⟩
    | succ k ih =>
      intro s f md hr h34 h10 hT hs hf
      obtain ⟨f, rfl⟩ : ∃ q, f = q + 1 := ⟨f - 1, by omega⟩
      rw [f_X8_findsRest_L2, h10, sh c lc, if_neg (by rw [nI_leI (by omega) (by omega)]; omega)]
      obtain ⟨m', q1, q2, q3⟩ := m_r14 hI hW hd (s := s) (by omega) c 0 fuel md hr h34 h10 hT (by omega) (by unfold fuel; omega)
      rw [nI_0] at q1
      rw [q1, xb]
      simp (disch := omega) only [xl, ra]
      obtain ⟨m'', p1, p2, p3⟩ := ih (s + 1) f m' (by rw [← hr]; funext t; exact q2 _ _ _ (by omega)) (fun i hi => by rw [q2 _ _ _ (by omega)]; exact h34 i hi) (by rw [q2 _ _ _ (by omega)]; exact h10) (fun s' i h1 h2 => by
        by_cases e : s' = s
        · subst e; exact q3 i (by omega) h2
        · rw [q2 _ _ _ (by omega)]; exact hT s' i (by omega) h2) (by omega) (by omega)
      exact ⟨m'', p1, fun k j t n => by rw [p2 k j t n, q2 k j t (by omega)], p3⟩
  have := key (2 ^ c) 0 fuel md hr h34 h10 (fun s' i h _ => absurd h (Nat.not_lt_zero _)) (by omega) (by unfold fuel; omega)
  rw [nI_0] at this
  exact this
end RRS
end
section
/-! Layer 2: the reference's order of a batch is the class's -/
/-- a set of places and the set of its platters -/
def Im (c : Nat) (W : Nat → Nat) (s S : Nat) : Prop := ∀ p, S.testBit p = true ↔ ∃ i, s.testBit i = true ∧ i < c ∧ W i = p
section ROR
variable {c d : Nat} {W : Nat → Nat} {S0 s S : Nat} {md : SD} {r : RW}
theorem WO.inj {P : Nat} (hW : WO c W S0 P) {i j : Nat} (hi : i < c) (hj : j < c) (h : W i = W j) : i = j := by
  rcases Nat.lt_trichotomy i j with z | z | z
  · have := hW.2.2.1 i j z hj
    omega
  · exact z
  · have := hW.2.2.1 j i z hi
    omega
theorem WO.lt {P : Nat} (hW : WO c W S0 P) {i j : Nat} (hi : i < c) (hj : j < c) (h : W i < W j) : i < j := by
  rcases Nat.lt_trichotomy i j with z | z | z
  · exact z
  · subst z; omega
  · have := hW.2.2.1 j i z hi
    omega
theorem Im.z (h : Im c W 0 S) : S = 0 := Nat.eq_of_testBit_eq (fun p => by
  rw [Nat.zero_testBit]
  refine Bool.eq_false_iff.mpr (fun z => ?_)
  obtain ⟨i, i1, -⟩ := (h p).mp z
  rw [Nat.zero_testBit] at i1
  cases i1)
theorem Im.x {P : Nat} (hW : WO c W S0 P) (h : Im c W s S) {i : Nat} (hi : i < c) (hb : s.testBit i = true) : Im c W (s ^^^ 2 ^ i) (S ^^^ 2 ^ W i) := fun p => by
  rw [tb_x]
  constructor
  · intro z
    by_cases e : W i = p
    · have : S.testBit p = true := (h p).mpr ⟨i, hb, hi, e⟩
      rw [this, decide_eq_true e] at z
      cases z
    · rw [decide_eq_false e, Bool.xor_false] at z
      obtain ⟨j, j1, j2, j3⟩ := (h p).mp z
      refine ⟨j, ?_, j2, j3⟩
      rw [tb_x, j1, decide_eq_false (fun y => e (by rw [y]; exact j3)), Bool.xor_false]
  · rintro ⟨j, j1, j2, j3⟩
    rw [tb_x] at j1
    by_cases e : i = j
    · subst e
      rw [hb, decide_eq_true rfl] at j1
      cases j1
    · rw [decide_eq_false e, Bool.xor_false] at j1
      have hs : S.testBit p = true := (h p).mpr ⟨j, j1, j2, j3⟩
      rw [hs, decide_eq_false (fun y => e (hW.inj hi j2 (y.trans j3.symm))), Bool.xor_false]
theorem Im.lt7 {P : Nat} (hW : WO c W S0 P) (h : Im c W s S) : ∀ p, S.testBit p = true → p < P := fun p hp => by
  obtain ⟨i, -, i2, i3⟩ := (h p).mp hp
  rw [← i3]
  exact (hW.2.1 i i2).2
theorem lt_bits {S : Nat} (h : ∀ p, S.testBit p = true → p < 10) : S < 1024 := Nat.lt_pow_two_of_testBit (n := 10) S (fun i hi => Bool.eq_false_iff.mpr (fun z => by have := h i z; omega))
theorem opt_un {w : Nat → Nat → Nat} {S p : Nat} (h0 : S ≠ 0) : opt w S S p = mnS S (fun q => w p q + opt w (S ^^^ 2 ^ q) (S ^^^ 2 ^ q) q) 10 0 2147483647 := by
  obtain ⟨k, rfl⟩ : ∃ k, S = k + 1 := ⟨S - 1, by omega⟩
  rw [opt, if_neg h0]
  refine mnS_congr _ _ _ (fun j _ _ hj => ?_)
  have := xo_lt hj
  rw [opt_fuel k ((k + 1) ^^^ 2 ^ j) _ _ (by omega) (Nat.le_refl _)]
theorem Im.ne {s S : Nat} (h : Im c W s S) (hs : s < 2 ^ c) (hc : c ≤ 10) (h0 : s ≠ 0) : S ≠ 0 := by
  have l2 := two_c hc
  obtain ⟨q, q1, q2⟩ := ex_bit h0 (by omega)
  intro z
  have := (h (W q)).mpr ⟨q, q2, bit_c hs q2, rfl⟩
  rw [z, Nat.zero_testBit] at this
  cases this
theorem opt_rel (hI : Inv r) (hW : WO c W S0 (nv r 7)) (hd : d < nv r 6) : ∀ (k s S i : Nat), crd s = k → s < 2 ^ c → Im c W s S → i < c → opt (swN r d) S S (W i) = nv r 1 * opt (wyI r d W) s s i + k * (4 * nv r 2 + nv r 3) := by
  have lc := hW.1
  have l2 := two_c hW.1
  have l7 := hI.l7
  intro k
  induction k with
  | zero =>
    intro s S i hk hs hm hi
    have : s = 0 := crd_0 (by omega) hk
    subst this
    have := hm.z
    subst this
    rw [opt, opt]
    omega
  | succ k ih =>
    intro s S i hk hs hm hi
    have h0 : s ≠ 0 := by
      intro z
      rw [z] at hk
      rw [crd_z] at hk; omega
    have hS0 := hm.ne hs lc h0
    have hS7 := hm.lt7 hW
    have hS : S < 1024 := lt_bits (fun p hp => by have := hS7 p hp; omega)
    have hv : ∀ j, s.testBit j = true → swN r d (W i) (W j) + opt (swN r d) (S ^^^ 2 ^ W j) (S ^^^ 2 ^ W j) (W j) = nv r 1 * (wyI r d W i j + opt (wyI r d W) (s ^^^ 2 ^ j) (s ^^^ 2 ^ j) j) + (k + 1) * (4 * nv r 2 + nv r 3) := fun j hj => by
      have hjc := bit_c hs hj
      have hx := xo_lt hj
      rw [ih (s ^^^ 2 ^ j) (S ^^^ 2 ^ W j) j (by have := (crd_all s (by omega) j (by omega) hj).1; omega) (by omega) (hm.x hW hjc hj) hjc]
      show bwN r d (W i) (W j) * nv r 1 + (4 * nv r 2 + nv r 3) + _ = nv r 1 * (bwN r d (W i) (W j) + _) + _
      generalize 4 * nv r 2 + nv r 3 = K
      generalize bwN r d (W i) (W j) = B
      generalize opt (wyI r d W) (s ^^^ 2 ^ j) (s ^^^ 2 ^ j) j = O
      rw [Nat.mul_add, Nat.succ_mul, Nat.mul_comm B]
      omega
    obtain ⟨q, q1, q2⟩ := ex_bit h0 (by omega)
    have hqc := bit_c hs q2
    have hqS : S.testBit (W q) = true := (hm _).mpr ⟨q, q2, hqc, rfl⟩
    have b1 := (swN_le hI hd (hW.2.1 i hi).2 (hW.2.1 q hqc).2).2
    have b2 := opt_b hI hd hS hS7 hqS
    have hx := xo_lt q2
    have b3 := wyI_le hI hW hd hi hqc
    have b4 := optI_le (k := s ^^^ 2 ^ q) hI hW hd (s := s ^^^ 2 ^ q) (by omega) hqc
    rw [opt_un hS0, opt_big hI hW hd hs h0 hi]
    obtain ⟨x1, y, y1, y2, y3⟩ := mnS_min (s := S) (f := fun q => swN r d (W i) q + opt (swN r d) (S ^^^ 2 ^ q) (S ^^^ 2 ^ q) q) (acc := 2147483647) (i := W q) (by have := hS7 _ hqS; omega) hqS (by show swN r d (W i) (W q) + _ ≤ _; omega)
    obtain ⟨v1, u, u1, u2, u3⟩ := mnS_min (s := s) (f := fun q => wyI r d W i q + opt (wyI r d W) (s ^^^ 2 ^ q) (s ^^^ 2 ^ q) q) (acc := 1000000000) (i := q) q1 q2 (by show wyI r d W i q + _ ≤ _; omega)
    obtain ⟨j, j1, j2, j3⟩ := (hm y).mp y2
    subst j3
    have a1 := v1 j (by omega) j1
    have huc := bit_c hs u2
    have huS : S.testBit (W u) = true := (hm _).mpr ⟨u, u2, huc, rfl⟩
    have a2 := x1 (W u) (by have := hS7 _ huS; omega) huS
    have e1 := hv j j1
    have e2 := hv u u2
    have a3 := Nat.mul_le_mul_left (nv r 1) a1
    rw [e1] at y3
    rw [e2] at a2
    rw [← u3] at a2
    omega
/-- the best of the places up to q -/
def Gb (s : Nat) (V : Nat → Nat) (q : Nat) : Option Nat → Prop
  | none => ∀ i, i < q → s.testBit i = false
  | some p => s.testBit p = true ∧ p < q ∧ ∀ i, i < q → s.testBit i = true → V p ≤ V i ∧ (i < p → V p < V i)
def vOf (V : Nat → Nat) : Option Nat → Int32
  | none => 1000000000
  | some p => nI (V p)
theorem nxS_first {o : Option Nat} {S x : Nat} : ∀ (n q i : Nat), q ≤ i → i < q + n → S.testBit i = true → stp r d o i + opt (swN r d) (S ^^^ 2 ^ i) (S ^^^ 2 ^ i) i = x → (∀ j, j < i → S.testBit j = true → stp r d o j + opt (swN r d) (S ^^^ 2 ^ j) (S ^^^ 2 ^ j) j ≠ x) → nxS r d o S x n q = some i
  | 0, q, i, h1, h2, _, _, _ => by omega
  | n + 1, q, i, h1, h2, h3, h4, h5 => by
    unfold nxS
    by_cases e : i = q
    · subst e
      rw [if_pos h3, if_pos h4]
    · have ih := nxS_first (o := o) n (q + 1) i (by omega) (by omega) h3 h4 h5
      by_cases z : S.testBit q = true
      · rw [if_pos z, if_neg (h5 q (by omega) z)]
        exact ih
      · rw [if_neg z]
        exact ih
theorem choice (hW : WO c W S0 (nv r 7)) (hI : Inv r) (hs : s < 2 ^ c) (hm : Im c W s S) {o : Option Nat} {V : Nat → Nat} {C j : Nat} (hV : ∀ i, s.testBit i = true → stp r d o (W i) + opt (swN r d) (S ^^^ 2 ^ W i) (S ^^^ 2 ^ W i) (W i) = V i + C) (hB : ∀ i, s.testBit i = true → V i + C ≤ 2147483647) (hG : Gb s V c (some j)) : mnS S (fun q => stp r d o q + opt (swN r d) (S ^^^ 2 ^ q) (S ^^^ 2 ^ q) q) 10 0 2147483647 = V j + C ∧ nxS r d o S (mnS S (fun q => stp r d o q + opt (swN r d) (S ^^^ 2 ^ q) (S ^^^ 2 ^ q) q) 10 0 2147483647) 10 0 = some (W j) := by
  have l7 := hI.l7
  obtain ⟨g1, g2, g3⟩ := hG
  have hjS : S.testBit (W j) = true := (hm _).mpr ⟨j, g1, g2, rfl⟩
  have h10 : ∀ p, S.testBit p = true → p < 10 := fun p hp => by have := hm.lt7 hW p hp; omega
  have e1 := hV j g1
  have e2 := hB j g1
  obtain ⟨x1, y, y1, y2, y3⟩ := mnS_min (s := S) (f := fun q => stp r d o q + opt (swN r d) (S ^^^ 2 ^ q) (S ^^^ 2 ^ q) q) (acc := 2147483647) (i := W j) (h10 _ hjS) hjS (by show stp r d o (W j) + _ ≤ _; omega)
  obtain ⟨u, u1, u2, u3⟩ := (hm y).mp y2
  subst u3
  have a1 := x1 (W j) (h10 _ hjS) hjS
  have a2 := (g3 u u2 u1).1
  have e3 := hV u u1
  have hx : mnS S (fun q => stp r d o q + opt (swN r d) (S ^^^ 2 ^ q) (S ^^^ 2 ^ q) q) 10 0 2147483647 = V j + C := by omega
  refine ⟨hx, ?_⟩
  rw [hx]
  refine nxS_first 10 0 (W j) (by omega) (by have := h10 _ hjS; omega) hjS e1 (fun q hq hqS => ?_)
  obtain ⟨t, t1, t2, t3⟩ := (hm q).mp hqS
  subst t3
  have := (g3 t t2 t1).2 (hW.lt t2 g2 hq)
  rw [hV t t1]
  omega
theorem mvs_le (hI : Inv r) {p : Nat} (hp : p < nv r 7) (hd : d < nv r 6) : mvs r p d ≤ 92 := by
  obtain ⟨⟨x1, -⟩, x3⟩ := hI.drv d hd
  have x2 := x1.l
  have y2 := (hI.plt p hp).1.1.l
  have k2 := hI.pick.1.l
  unfold mvs
  by_cases z : r (21 + d) = -1
  · rw [if_pos z]
    have h1 : dst (nv r 11) (nv r (29 + p)) ≤ 23 := dst_le (by omega) (by omega)
    have h2 : dst (nv r (29 + p)) (nv r (17 + d)) ≤ 23 := dst_le (by omega) (by omega)
    omega
  · rw [if_neg z]
    rcases x3 with h | ⟨z1, z2⟩
    · exact absurd h z
    · have w2 := (hI.plt _ z2).1.1.l
      have h1 : dst (nv r 11) (nv r (17 + d)) ≤ 23 := dst_le (by omega) (by omega)
      have h2 : dst (nv r (17 + d)) (nv r (29 + nv r (21 + d))) ≤ 23 := dst_le (by omega) (by omega)
      have h3 : dst (nv r (29 + nv r (21 + d))) (nv r (29 + p)) ≤ 23 := dst_le (by omega) (by omega)
      have h4 : dst (nv r (29 + p)) (nv r (17 + d)) ≤ 23 := dst_le (by omega) (by omega)
      omega
theorem m_firstWay (hr : md 30 0 = r) (hI : Inv r) (hW : WO c W S0 (nv r 7)) (h34 : ∀ i, i < c → md 34 0 i = nI (W i)) (hd : d < nv r 6) {i : Nat} (hi : i < c) : f_X8_firstWay md (nI i) (nI d) = some (nI (mvs r (W i) d)) := by
  have l0 := hI.l0
  have l6 := hI.l6
  have l7 := hI.l7
  obtain ⟨⟨x1, x2⟩, x3⟩ := hI.drv d hd
  have e2 := (hI.plt _ (hW.2.1 i hi).2).1.2
  obtain ⟨k1, k2⟩ := hI.pick
  unfold f_X8_firstWay mvs
  simp (disch := omega) only [xl, xg, vinT, nI_clamp, la, ra]
  rw [hr, m_homeOf hr hI hW h34 hi, k1.e, x1.e]
  simp only [xb]
  by_cases z : r (21 + d) = -1
  · rw [if_pos z, if_pos z, m_far (by omega) (by omega), xb, m_far (by omega) (by omega), xb]
    rw [← nI_0]
    simp only [nI_add]
    congr 2
    omega
  · rcases x3 with h | ⟨z1, z2⟩
    · exact absurd h z
    · have w := (hI.plt _ z2).1
      have w2 := w.2
      rw [if_neg z, if_neg z, z1.e]
      simp (disch := omega) only [xl, xg, vinT, nI_clamp, la, ra]
      rw [w.1.e, m_far (by omega) (by omega), xb, m_far (by omega) (by omega), xb, m_far (by omega) (by omega), xb, m_far (by omega) (by omega), xb]
      simp only [nI_add]
end ROR
end
section
/-! Layer 2: findsOrder -/
section ROR2
variable {c d : Nat} {W : Nat → Nat} {S0 s S : Nat} {md : SD} {r : RW}
/-- the way to the next place -/
def wyN (r : RW) (d : Nat) (W : Nat → Nat) : Option Nat → Nat → Nat
  | none, j => mvs r (W j) d
  | some i, j => wyI r d W i j
/-- what the reference compares -/
def vlN (r : RW) (d : Nat) (W : Nat → Nat) (s : Nat) (o : Option Nat) (j : Nat) : Nat := nv r 1 * (wyN r d W o j + opt (wyI r d W) (s ^^^ 2 ^ j) (s ^^^ 2 ^ j) j)
/-- the state of the order before place t -/
def Pv (c t : Nat) (md : SD) : Option Nat → Prop
  | none => t = 0
  | some i => 0 < t ∧ i < c ∧ md 35 0 (t - 1) = nI i
theorem wyN_le (hI : Inv r) (hW : WO c W S0 (nv r 7)) (hd : d < nv r 6) {o : Option Nat} {t : Nat} (ho : Pv c t md o) {j : Nat} (hj : j < c) : wyN r d W o j ≤ 92 := by
  cases o with
  | none => exact mvs_le hI (hW.2.1 j hj).2 hd
  | some i =>
    have := wyI_le hI hW hd ho.2.1 hj
    show wyI r d W i j ≤ 92
    omega
theorem vlN_le (hI : Inv r) (hW : WO c W S0 (nv r 7)) (hd : d < nv r 6) {o : Option Nat} {t : Nat} (ho : Pv c t md o) (hs : s < 2 ^ c) {j : Nat} (hj : s.testBit j = true) : vlN r d W s o j ≤ 10000000 ∧ wyN r d W o j + opt (wyI r d W) (s ^^^ 2 ^ j) (s ^^^ 2 ^ j) j ≤ 100000 := by
  have hjc := bit_c hs hj
  have hx := xo_lt hj
  have b1 := wyN_le hI hW hd ho hjc
  have b2 := optI_le (k := s ^^^ 2 ^ j) hI hW hd (s := s ^^^ 2 ^ j) (by omega) hjc
  have b3 := hI.tim.1.l
  have b4 : nv r 1 * (wyN r d W o j + opt (wyI r d W) (s ^^^ 2 ^ j) (s ^^^ 2 ^ j) j) ≤ 99 * 70748 := Nat.mul_le_mul b3 (by omega)
  unfold vlN
  omega
theorem m_o46 (hr : md 30 0 = r) (hI : Inv r) (hW : WO c W S0 (nv r 7)) (h34 : ∀ i, i < c → md 34 0 i = nI (W i)) (h10 : md 8 0 10 = nI c) (hd : d < nv r 6) (hs : s < 2 ^ c) (hT : Ti (wyI r d W) c md (2 ^ c)) {t : Nat} (ht : t < c) {po : Option Nat} (ho : Pv c t md po) : ∀ (k j f : Nat) (o : Option Nat), j + k = c → k < f → Gb s (vlN r d W s po) j o → ∃ o', f_X8_findsOrder_L46 md (nI s) (nI t) (nI d) (nI (nv r (17 + d))) f (pvI o) (vOf (vlN r d W s po) o) (nI j) = some (pvI o', vOf (vlN r d W s po) o', nI c) ∧ Gb s (vlN r d W s po) c o' := by
  have lc := hW.1
  have l2 := two_c hW.1
  intro k
  induction k with
  | zero =>
    intro j f o hj hf hG
    obtain ⟨f, rfl⟩ : ∃ q, f = q + 1 := ⟨f - 1, by omega⟩
    have : j = c := by omega
    subst this
    rw [f_X8_findsOrder_L46, h10, if_pos (nI_le (Nat.le_refl _) (by omega))]
    exact ⟨o, rfl, hG⟩
  | succ k ih =>
    intro j f o hj hf hG
    obtain ⟨f, rfl⟩ : ∃ q, f = q + 1 := ⟨f - 1, by omega⟩
    have hj2 : j < c := by omega
    rw [f_X8_findsOrder_L46, h10, if_neg (by rw [nI_leI (by omega) (by omega)]; omega)]
    by_cases z : s.testBit j = true
    · obtain ⟨-, c2, c3⟩ := crd_all s (by omega) j (by omega) z
      have hx := xo_lt z
      obtain ⟨b1, b2⟩ := vlN_le hI hW hd ho hs z
      have e1 : (r 1) * (nI (wyN r d W po j) + nI (opt (wyI r d W) (s ^^^ 2 ^ j) (s ^^^ 2 ^ j) j)) = nI (vlN r d W s po j) := by
        rw [hI.tim.1.e, nI_add, pk_mul]
        rfl
      rw [if_neg (by rw [bit_tt (by omega) (by omega), z]; decide), sh1n j (by omega), pk_sub c3, c2]
      simp (disch := omega) only [xl, xg, vinT, nI_clamp, la, ra, lm, nI_add]
      rw [hT _ j (by omega) hj2, hr]
      have fin : ∃ o', (if pvI o = -1 then f_X8_findsOrder_L46 md (nI s) (nI t) (nI d) (nI (nv r (17 + d))) f (nI j) (nI (vlN r d W s po j)) (nI (j + 1)) else if nI (vlN r d W s po j) < vOf (vlN r d W s po) o then f_X8_findsOrder_L46 md (nI s) (nI t) (nI d) (nI (nv r (17 + d))) f (nI j) (nI (vlN r d W s po j)) (nI (j + 1)) else f_X8_findsOrder_L46 md (nI s) (nI t) (nI d) (nI (nv r (17 + d))) f (pvI o) (vOf (vlN r d W s po) o) (nI (j + 1))) = some (pvI o', vOf (vlN r d W s po) o', nI c) ∧ Gb s (vlN r d W s po) c o' := by
        cases o with
        | none =>
          rw [if_pos (show pvI none = -1 from rfl)]
          exact ih (j + 1) f (some j) (by omega) (by omega) ⟨z, by omega, fun i h1 h2 => by
            by_cases e : i = j
            · subst e
              exact ⟨Nat.le_refl _, fun y => by omega⟩
            · have := hG i (by omega)
              rw [this] at h2
              cases h2⟩
        | some p =>
          obtain ⟨g1, g2, g3⟩ := hG
          obtain ⟨b3, -⟩ := vlN_le hI hW hd ho hs g1
          have i1 : ¬ pvI (some p) = -1 := by
            show ¬ nI p = -1
            rw [nm1 (by omega)]
            exact id
          rw [if_neg i1]
          have i2 : (nI (vlN r d W s po j) < vOf (vlN r d W s po) (some p)) ↔ vlN r d W s po j < vlN r d W s po p := nI_ltI (by omega) (by omega)
          by_cases y : vlN r d W s po j < vlN r d W s po p
          · rw [if_pos (i2.mpr y)]
            exact ih (j + 1) f (some j) (by omega) (by omega) ⟨z, by omega, fun i h1 h2 => by
              by_cases e : i = j
              · subst e
                exact ⟨Nat.le_refl _, fun y => by omega⟩
              · have := (g3 i (by omega) h2).1
                exact ⟨by omega, fun _ => by omega⟩⟩
          · rw [if_neg (fun h => y (i2.mp h))]
            exact ih (j + 1) f (some p) (by omega) (by omega) ⟨g1, by omega, fun i h1 h2 => by
              by_cases e : i = j
              · subst e
                exact ⟨by omega, fun y => by omega⟩
              · exact g3 i (by omega) h2⟩
      cases po with
      | none =>
        have ht0 : t = 0 := ho
        subst ht0
        rw [if_pos (show nI 0 = 0 from rfl), m_firstWay hr hI hW h34 hd hj2, xb]
        rw [show nI (mvs r (W j) d) = nI (wyN r d W none j) from rfl, e1]
        exact fin
      | some i =>
        obtain ⟨o1, o2, o3⟩ := ho
        rw [if_neg (fun h => by rw [← nI_0, nI_eq (by omega) (by omega)] at h; omega)]
        have e0 : nI t - 1 = nI (t - 1) := rsu (k := 1) (show 1 ≤ t by omega)
        rw [e0, x_guard_pos (vp_in_nI (show t - 1 < 10 by omega) (by omega)), nI_clamp (show t - 1 < 2 ^ 31 by omega), o3, m_between hr hI hW h34 hd o2 hj2, xb]
        rw [show nI (wyI r d W i j) = nI (wyN r d W (some i) j) from rfl, e1]
        exact fin
    · rw [if_pos (by rw [bit_tt (by omega) (by omega)]; exact Bool.eq_false_iff.mpr z)]
      simp (disch := omega) only [xl, ra]
      refine ih (j + 1) f o (by omega) (by omega) ?_
      cases o with
      | none =>
        intro i hi
        by_cases e : i = j
        · subst e; exact Bool.eq_false_iff.mpr z
        · exact hG i (by omega)
      | some p =>
        obtain ⟨g1, g2, g3⟩ := hG
        refine ⟨g1, by omega, fun i h1 h2 => ?_⟩
        by_cases e : i = j
        · subst e; exact absurd h2 z
        · exact g3 i (by omega) h2
/-- the least time of what is left -/
def lfT (r : RW) (d S : Nat) (o : Option Nat) : Nat := mnS S (fun q => stp r d o q + opt (swN r d) (S ^^^ 2 ^ q) (S ^^^ 2 ^ q) q) 10 0 2147483647
theorem vl_rel (hI : Inv r) (hW : WO c W S0 (nv r 7)) (hd : d < nv r 6) (hs : s < 2 ^ c) (hm : Im c W s S) {n t : Nat} (hn : crd s = n + 1) {po : Option Nat} (ho : Pv c t md po) : ∃ C, C ≤ 10000 ∧ ∀ i, s.testBit i = true → stp r d (po.map W) (W i) + opt (swN r d) (S ^^^ 2 ^ W i) (S ^^^ 2 ^ W i) (W i) = vlN r d W s po i + C := by
  have lc := hW.1
  have l2 := two_c hW.1
  have t2 := hI.tim.2.1.l
  have t3 := hI.tim.2.2.1.l
  have hn9 : n ≤ 9 := by have := crd_le (s := s) (by omega); omega
  have hb : n * (4 * nv r 2 + nv r 3) ≤ 9 * 495 := Nat.mul_le_mul hn9 (by omega)
  have ho2 : ∀ i, s.testBit i = true → opt (swN r d) (S ^^^ 2 ^ W i) (S ^^^ 2 ^ W i) (W i) = nv r 1 * opt (wyI r d W) (s ^^^ 2 ^ i) (s ^^^ 2 ^ i) i + n * (4 * nv r 2 + nv r 3) := fun i hi => by
    have hic := bit_c hs hi
    have hx := xo_lt hi
    exact opt_rel hI hW hd n _ _ i (by have := (crd_all s (by omega) i (by omega) hi).1; omega) (by omega) (hm.x hW hic hi) hic
  cases po with
  | none =>
    refine ⟨(if r (21 + d) = -1 then 2 else 4) * nv r 2 + nv r 3 + n * (4 * nv r 2 + nv r 3), ?_, fun i hi => ?_⟩
    · split <;> omega
    · rw [ho2 i hi]
      show mvs r (W i) d * nv r 1 + (if r (21 + d) = -1 then 2 else 4) * nv r 2 + nv r 3 + _ = nv r 1 * (mvs r (W i) d + _) + _
      generalize (if r (21 + d) = -1 then 2 else 4) * nv r 2 = G
      generalize n * (4 * nv r 2 + nv r 3) = K
      generalize mvs r (W i) d = B
      generalize opt (wyI r d W) (s ^^^ 2 ^ i) (s ^^^ 2 ^ i) i = O
      rw [Nat.mul_add, Nat.mul_comm B]
      omega
  | some p =>
    refine ⟨(4 * nv r 2 + nv r 3) + n * (4 * nv r 2 + nv r 3), by omega, fun i hi => ?_⟩
    rw [ho2 i hi]
    show bwN r d (W p) (W i) * nv r 1 + (4 * nv r 2 + nv r 3) + _ = nv r 1 * (bwN r d (W p) (W i) + _) + _
    generalize n * (4 * nv r 2 + nv r 3) = K
    generalize bwN r d (W p) (W i) = B
    generalize opt (wyI r d W) (s ^^^ 2 ^ i) (s ^^^ 2 ^ i) i = O
    rw [Nat.mul_add, Nat.mul_comm B]
    omega
theorem m_o27 (hI : Inv r) (hW : WO c W S0 (nv r 7)) (hd : d < nv r 6) : ∀ (n t f N s S : Nat) (po : Option Nat) (md : SD), md 30 0 = r → (∀ i, i < c → md 34 0 i = nI (W i)) → md 8 0 10 = nI c → Ti (wyI r d W) c md (2 ^ c) → t + n = c → N + t = 10 → n < f → crd s = n → s < 2 ^ c → Im c W s S → Pv c t md po → ∃ m', f_X8_findsOrder_L27 (nI d) (nI (nv r (17 + d))) f (nI s) (nI t) md = some m' ∧ (∀ k j u, ¬ (k = 35 ∧ j = 0 ∧ t ≤ u) → m' k j u = md k j u) ∧ (ordL r d N (po.map W) S (lfT r d S (po.map W))).length = n ∧ ∀ u, u < n → ∃ i, i < c ∧ m' 35 0 (t + u) = nI i ∧ (ordL r d N (po.map W) S (lfT r d S (po.map W))).getD u 0 = W i := by
  have lc := hW.1
  have l2 := two_c hW.1
  intro n
  induction n with
  | zero =>
    intro t f N s S po md hr h34 h10 hT ht hN hf hcr hs hm ho
    obtain ⟨f, rfl⟩ : ∃ q, f = q + 1 := ⟨f - 1, by omega⟩
    have : t = c := by omega
    subst this
    have h0 : s = 0 := crd_0 (by omega) hcr
    subst h0
    have h0 := hm.z
    subst h0
    rw [f_X8_findsOrder_L27, h10, if_pos (nI_le (Nat.le_refl _) (by omega))]
    refine ⟨md, rfl, fun _ _ _ _ => rfl, ?_, fun u hu => by omega⟩
    cases N with
    | zero => rfl
    | succ N => rw [ordL, if_pos rfl]; rfl
  | succ n ih =>
    intro t f N s S po md hr h34 h10 hT ht hN hf hcr hs hm ho
    obtain ⟨f, rfl⟩ : ∃ q, f = q + 1 := ⟨f - 1, by omega⟩
    obtain ⟨N, rfl⟩ : ∃ q, N = q + 1 := ⟨N - 1, by omega⟩
    have htc : t < c := by omega
    have hs0 : s ≠ 0 := by
      intro z
      rw [z] at hcr
      rw [crd_z] at hcr; omega
    have hS0 := hm.ne hs lc hs0
    obtain ⟨o', a1, a2⟩ := m_o46 hr hI hW h34 h10 hd hs hT htc ho c 0 fuel none (by omega) (by unfold fuel; omega) (fun i hi => absurd hi (Nat.not_lt_zero _))
    rw [nI_0] at a1
    cases o' with
    | none =>
      obtain ⟨q, -, q2⟩ := ex_bit hs0 (by omega)
      have := a2 q (bit_c hs q2)
      rw [this] at q2
      cases q2
    | some j =>
      obtain ⟨C, hC, hV⟩ := vl_rel hI hW hd hs hm hcr ho
      obtain ⟨e1, e2⟩ := choice hW hI hs hm hV (fun i hi => by have := (vlN_le hI hW hd ho hs hi).1; omega) a2
      obtain ⟨g1, g2, g3⟩ := a2
      obtain ⟨c1, c2, c3⟩ := crd_all s (by omega) j (by omega) g1
      have hx := xo_lt g1
      rw [f_X8_findsOrder_L27, h10, if_neg (by rw [nI_leI (by omega) (by omega)]; omega)]
      have a1' : f_X8_findsOrder_L46 md (nI s) (nI t) (nI d) (nI (nv r (17 + d))) fuel (-1) 1000000000 0 = some (nI j, vOf (vlN r d W s po) (some j), nI c) := a1
      rw [a1', xb]
      simp only
      rw [sh1n j (by omega), pk_sub c3, c2]
      simp (disch := omega) only [xl, xg, vinT, nI_clamp, ra]
      obtain ⟨m', q1, q2, q3, q4⟩ := ih (t + 1) f N (s ^^^ 2 ^ j) (S ^^^ 2 ^ W j) (some j) (upS md 35 0 t (nI j)) hr h34 h10 hT (by omega) (by omega) (by omega) (by omega) (by omega) (hm.x hW g2 g1) ⟨by omega, g2, by rw [Nat.add_sub_cancel]; exact upS_hit _ _ _ _ _⟩
      have hord : ordL r d (N + 1) (po.map W) S (lfT r d S (po.map W)) = W j :: ordL r d N ((some j).map W) (S ^^^ 2 ^ W j) (lfT r d (S ^^^ 2 ^ W j) ((some j).map W)) := by
        have e2' : nxS r d (po.map W) S (lfT r d S (po.map W)) 10 0 = some (W j) := e2
        rw [ordL, if_neg hS0, e2']
        simp only
        by_cases z : S ^^^ 2 ^ W j = 0
        · rw [z]
          cases N with
          | zero => rfl
          | succ N => rw [ordL, ordL, if_pos rfl, if_pos rfl]
        · rw [opt_un z]
          rfl
      refine ⟨m', q1, fun k j' u hu => ?_, ?_, fun u hu => ?_⟩
      · rw [q2 k j' u (by omega)]
        unfold upS
        rw [if_neg (by omega)]
      · rw [hord, List.length_cons, q3]
      · rw [hord]
        cases u with
        | zero =>
          refine ⟨j, g2, ?_, rfl⟩
          rw [Nat.add_zero, q2 35 0 t (by omega), upS_hit]
        | succ u =>
          obtain ⟨i, i1, i2, i3⟩ := q4 u (by omega)
          refine ⟨i, i1, ?_, by rw [List.getD_cons_succ]; exact i3⟩
          rw [← i2]
          congr 1
          omega
theorem m_findsOrder (hr : md 30 0 = r) (hI : Inv r) (hW : WO c W S0 (nv r 7)) (h34 : ∀ i, i < c → md 34 0 i = nI (W i)) (h10 : md 8 0 10 = nI c) (hd : d < nv r 6) : ∃ m', f_X8_findsOrder md (nI d) = some m' ∧ (∀ k j t, ¬ (k = 36 ∧ j = 0) → ¬ (k = 35 ∧ j = 0) → m' k j t = md k j t) ∧ (ordL r d 10 none S0 (lst r d S0)).length = c ∧ ∀ u, u < c → ∃ i, i < c ∧ m' 35 0 u = nI i ∧ (ordL r d 10 none S0 (lst r d S0)).getD u 0 = W i := by
  have lc := hW.1
  have l2 := two_c hW.1
  have l6 := hI.l6
  have sh : ∀ t, t ≤ 10 → (1 : Int32) <<< (nI t &&& 31) = nI (2 ^ t) := by decide +kernel
  obtain ⟨m1, a1, a2, a3⟩ := m_findsRest hr hI hW h34 h10 hd
  have r1 : m1 30 0 = r := by rw [← hr]; funext t; exact a2 _ _ _ (by omega)
  have hp : 0 < 2 ^ c := Nat.two_pow_pos c
  obtain ⟨m2, b1, b2, b3, b4⟩ := m_o27 hI hW hd c 0 fuel 10 (2 ^ c - 1) S0 none m1 r1 (fun i hi => by rw [a2 _ _ _ (by omega)]; exact h34 i hi) (by rw [a2 _ _ _ (by omega)]; exact h10) a3 (by omega) (by omega) (by unfold fuel; omega) (crd_full c lc) (by omega) (fun p => by
    constructor
    · intro h
      obtain ⟨i, i1, i2⟩ := hW.2.2.2 p h
      exact ⟨i, by rw [Nat.testBit_two_pow_sub_one, decide_eq_true i1], i1, i2⟩
    · rintro ⟨i, -, i1, i2⟩
      rw [← i2]
      exact (hW.2.1 i i1).1) rfl
  rw [nI_0] at b1
  refine ⟨m2, ?_, fun k j t n1 n2 => by rw [b2 k j t (by omega), a2 k j t n1], b3, fun u hu => ?_⟩
  · unfold f_X8_findsOrder
    simp (disch := omega) only [xl, xg, vinT, nI_clamp, la, ra]
    rw [hr, ((hI.drv d hd).1).1.e, a1, xb, a2 8 0 10 (by omega), h10, sh c lc, rsu (k := 1) hp]
    exact b1
  · obtain ⟨i, i1, i2, i3⟩ := b4 u hu
    rw [Nat.zero_add] at i2
    exact ⟨i, i1, i2, i3⟩
end ROR2
end
section
/-! Layer 2: the movements once more: nothing but the row changes -/
def MR (m m' : SD) : Prop := ∀ k j t, ¬ (k = 30 ∧ j = 0 ∧ t < 605) → m' k j t = m k j t
theorem MR.rf (m : SD) : MR m m := fun _ _ _ _ => rfl
theorem MR.tr {x y z : SD} (h : MR x y) (g : MR y z) : MR x z := fun k j t a => (g k j t a).trans (h k j t a)
theorem MR.up {m m' : SD} (h : MR m m') {t : Nat} {v : Int32} (ht : t < 605) : MR m (upS m' 30 0 t v) := fun k j q a => by
  unfold upS
  rw [if_neg (fun z => a ⟨z.1, z.2.1, by omega⟩)]
  exact h k j q a
theorem MR.mx {m m' : SD} (h : MR m m') : MX m m' := fun k j t a _ => h k j t a
section NMV
variable {F : Nat} {b : Nat} {sd md : SD} {r : RW} {k0 : Nat}
theorem n_goes (hr : md 30 0 = r) {k x : Nat} (hk : r 11 = nI k) (hk2 : k < 2 ^ 30) (hx : x < 2 ^ 30) : ∃ m', f_X8_goes md (nI x) = some m' ∧ MR md m' ∧ (∀ i, i ≠ 11 → i ≠ 12 → i ≠ 14 → m' 30 0 i = r i) ∧ m' 30 0 11 = nI x ∧ m' 30 0 12 = r 12 + nI (dst k x) * r 1 ∧ m' 30 0 14 = r 14 + nI (dst k x) := by
  subst hr
  unfold f_X8_goes
  rw [hk, m_far (by omega) (by omega), xb]
  simp only [xl]
  refine ⟨_, rfl, ((((MR.rf md).up (by omega)).up (by omega)).up (by omega)), fun i h1 h2 h3 => ?_, ?_, ?_, ?_⟩
  all_goals simp (disch := omega) only [upS_t, upS_hit]
theorem n_grips (hr : md 30 0 = r) : ∃ m', f_X8_grips md = some m' ∧ MR md m' ∧ (∀ i, i ≠ 12 → m' 30 0 i = r i) ∧ m' 30 0 12 = r 12 + r 2 := by
  subst hr
  refine ⟨_, rfl, (MR.rf md).up (by omega), fun i h => ?_, ?_⟩
  all_goals simp (disch := omega) only [upS_t, upS_hit]
theorem n_uses (hr : md 30 0 = r) {d : Nat} (hd : d < 4) : ∃ m', f_X8_uses md (nI d) = some m' ∧ MR md m' ∧ m' 30 0 = useR r d := by
  subst hr
  unfold f_X8_uses
  simp (disch := omega) only [xl, xg, xb, vinT, nI_clamp, la, ra, lm, rmu, rsu, nI_add, pk_mul, nm1, m1n, nneg, npos, lle, rle, llt, rlt, leq, req, nI_leI, nI_ltI, nI_eq, if_pos, if_neg, if_true, if_false, i01, i10]
  refine ⟨_, rfl, ((MR.rf md).up (by omega)).up (by omega), ?_⟩
  simp only [row_up, rup_hit]
  rfl
theorem n_empties (hr : md 30 0 = r) (hI : InvF F r) {d q : Nat} (hd : d < nv r 6) (hq : r (21 + d) = nI q) (hq2 : q < nv r 7) : ∃ m', f_X8_empties md (nI d) = some m' ∧ MR md m' ∧ (∀ i, i ≠ 11 → i ≠ 12 → i ≠ 14 → i ≠ 21 + d → m' 30 0 i = r i) ∧ m' 30 0 11 = nI (nv r (29 + q)) ∧ m' 30 0 12 = r 12 + (nI (dst (nv r 11) (nv r (17 + d)) + dst (nv r (17 + d)) (nv r (29 + q))) * r 1 + 2 * r 2) ∧ m' 30 0 14 = r 14 + nI (dst (nv r 11) (nv r (17 + d)) + dst (nv r (17 + d)) (nv r (29 + q))) ∧ m' 30 0 (21 + d) = -1 := by
  have l6 := hI.l6
  have l7 := hI.l7
  obtain ⟨⟨x1, x2⟩, -⟩ := hI.drv d hd
  obtain ⟨y1, y2⟩ := (hI.plt q hq2).1
  have b1 := x1.l
  have b2 := y1.l
  have b3 := hI.pick.1.l
  unfold f_X8_empties
  obtain ⟨m1, e1, f1, g1, g11, g12, g14⟩ := n_goes hr (x := nv r (17 + d)) hI.pick.1.e (by omega) (by omega)
  obtain ⟨m2, e2, f2, h2, h12⟩ := n_grips (md := m1) rfl
  have c1 : m2 30 0 (21 + d) = nI q := by rw [h2 _ (by omega), g1 _ (by omega) (by omega) (by omega), hq]
  have c2 : m2 30 0 (29 + q) = nI (nv r (29 + q)) := by rw [h2 _ (by omega), g1 _ (by omega) (by omega) (by omega)]; exact y1.e
  have c3 : (m2 30 0) 11 = nI (nv r (17 + d)) := by rw [h2 _ (by omega), g11]
  obtain ⟨m3, e3, f3, i1, i11, i12, i14⟩ := n_goes (md := m2) rfl (x := nv r (29 + q)) c3 (by omega) (by omega)
  obtain ⟨m4, e4, f4, j2, j12⟩ := n_grips (md := m3) rfl
  have hr1 : md 30 0 (17 + d) = nI (nv r (17 + d)) := by rw [hr]; exact x1.e
  simp (disch := omega) only [xg, vinT, la, nI_clamp]
  rw [hr1, e1, xb, e2, xb, c1]
  simp (disch := omega) only [xg, vinT, la, nI_clamp]
  rw [c2, e3, xb, e4, xb]
  simp only [xl]
  refine ⟨_, rfl, (f1.tr (f2.tr (f3.tr f4))).up (by omega), fun i k1 k2 k3 k4 => ?_, ?_, ?_, ?_, ?_⟩
  · rw [upS_t k4, j2 i k2, i1 i k1 k2 k3, h2 i k2, g1 i k1 k2 k3]
  · rw [upS_t (by omega), j2 _ (by omega), i11]
  · rw [upS_t (by omega), j12, i12, i1 2 (by omega) (by omega) (by omega), h12, h2 1 (by omega), h2 2 (by omega), g12, g1 1 (by omega) (by omega) (by omega), g1 2 (by omega) (by omega) (by omega), ← nI_add]
    grind
  · rw [upS_t (by omega), j2 _ (by omega), i14, h2 _ (by omega), g14, ← nI_add]
    grind
  · rw [upS_hit]
theorem n_brings (hr : md 30 0 = r) (hI : InvF F r) {p d : Nat} (hp : p < nv r 7) (hd : d < nv r 6) : ∃ m', f_X8_brings md (nI p) (nI d) = some m' ∧ MR md m' ∧ m' 30 0 = useR (br0 r p d) d := by
  have l6 := hI.l6
  have l7 := hI.l7
  obtain ⟨⟨x1, x2⟩, x3⟩ := hI.drv d hd
  obtain ⟨y1, y2⟩ := (hI.plt p hp).1
  obtain ⟨t1, t2, t3, t4, t5⟩ := hI.tim
  have b1 := x1.l
  have b2 := y1.l
  have b3 := hI.pick.1.l
  have go : ∀ (m0 : SD) (k : Nat) (T C : Int32), k < 24 → MR md m0 → (∀ i, i ≠ 11 → i ≠ 12 → i ≠ 14 → i ≠ 21 + d → m0 30 0 i = r i) → m0 30 0 11 = nI k → m0 30 0 12 = C → m0 30 0 14 = T → ∃ m', x_bind (f_X8_goes m0 (m0 30 0 (29 + p))) (fun q5 => x_bind (f_X8_grips q5) fun q6 => x_bind (f_X8_goes q6 (q6 30 0 (17 + d))) fun q8 => x_bind (f_X8_grips q8) fun q9 => x_bind (f_X8_uses (upS (upS (upS q9 30 0 (21 + d) (nI p)) 30 0 12 ((upS q9 30 0 (21 + d) (nI p)) 30 0 12 + (upS q9 30 0 (21 + d) (nI p)) 30 0 3)) 30 0 13 ((upS (upS q9 30 0 (21 + d) (nI p)) 30 0 12 ((upS q9 30 0 (21 + d) (nI p)) 30 0 12 + (upS q9 30 0 (21 + d) (nI p)) 30 0 3)) 30 0 13 + 1)) (nI d)) fun q14 => some q14) = some m' ∧ MR md m' ∧ (∀ i, i ≠ 11 → i ≠ 12 → i ≠ 13 → i ≠ 14 → i ≠ 15 → i ≠ 21 + d → i ≠ 25 + d → m' 30 0 i = r i) ∧ m' 30 0 11 = r (17 + d) ∧ m' 30 0 12 = C + (nI (dst k (nv r (29 + p)) + dst (nv r (29 + p)) (nv r (17 + d))) * r 1 + 2 * r 2 + r 3) ∧ m' 30 0 13 = r 13 + 1 ∧ m' 30 0 14 = T + nI (dst k (nv r (29 + p)) + dst (nv r (29 + p)) (nv r (17 + d))) ∧ m' 30 0 15 = r 15 + 1 ∧ m' 30 0 (21 + d) = nI p ∧ m' 30 0 (25 + d) = r 15 + 1 := by
    intro m0 k T C hk f0 z0 z11 z12 z14
    have a1 : m0 30 0 (29 + p) = nI (nv r (29 + p)) := by rw [z0 _ (by omega) (by omega) (by omega) (by omega)]; exact y1.e
    obtain ⟨m1, e1, f1, g1, g11, g12, g14⟩ := n_goes (md := m0) rfl (x := nv r (29 + p)) z11 (by omega) (by omega)
    obtain ⟨m2, e2, f2, h2, h12⟩ := n_grips (md := m1) rfl
    have a3 : m2 30 0 (17 + d) = nI (nv r (17 + d)) := by rw [h2 _ (by omega), g1 _ (by omega) (by omega) (by omega), z0 _ (by omega) (by omega) (by omega) (by omega)]; exact x1.e
    have a4 : (m2 30 0) 11 = nI (nv r (29 + p)) := by rw [h2 _ (by omega), g11]
    obtain ⟨m3, e3, f3, i1, i11, i12, i14⟩ := n_goes (md := m2) rfl (x := nv r (17 + d)) a4 (by omega) (by omega)
    obtain ⟨m4, e4, f4, j2, j12⟩ := n_grips (md := m3) rfl
    obtain ⟨m5, e5, f5, g5⟩ := n_uses (md := upS (upS (upS m4 30 0 (21 + d) (nI p)) 30 0 12 ((upS m4 30 0 (21 + d) (nI p)) 30 0 12 + (upS m4 30 0 (21 + d) (nI p)) 30 0 3)) 30 0 13 ((upS (upS m4 30 0 (21 + d) (nI p)) 30 0 12 ((upS m4 30 0 (21 + d) (nI p)) 30 0 12 + (upS m4 30 0 (21 + d) (nI p)) 30 0 3)) 30 0 13 + 1)) rfl (d := d) (by omega)
    refine ⟨m5, ?_, (f0.tr (f1.tr (f2.tr (f3.tr f4)))).tr ((((MR.rf m4).up (by omega)).up (by omega)).up (by omega) |>.tr f5), fun i k1 k2 k3 k4 k5 k6 k7 => ?_, ?_, ?_, ?_, ?_, ?_, ?_, ?_⟩
    · rw [a1, e1, xb, e2, xb, a3, e3, xb, e4, xb, e5, xb]
    all_goals rw [g5]
    all_goals unfold useR
    all_goals simp (disch := omega) only [rup_ne, rup_hit, upS_t, upS_hit]
    · rw [j2 i k2, i1 i k1 k2 k4, h2 i k2, g1 i k1 k2 k4, z0 i k1 k2 k4 k6]
    · rw [j2 _ (by omega), i11]; exact x1.e.symm
    · rw [j12, j2 3 (by omega), i12, i1 2 (by omega) (by omega) (by omega), i1 3 (by omega) (by omega) (by omega), h12, h2 1 (by omega), h2 2 (by omega), h2 3 (by omega), g12, g1 1 (by omega) (by omega) (by omega), g1 2 (by omega) (by omega) (by omega), g1 3 (by omega) (by omega) (by omega), z12, z0 1 (by omega) (by omega) (by omega) (by omega), z0 2 (by omega) (by omega) (by omega) (by omega), z0 3 (by omega) (by omega) (by omega) (by omega), ← nI_add]
      grind
    · rw [j2 _ (by omega), i1 _ (by omega) (by omega) (by omega), h2 _ (by omega), g1 _ (by omega) (by omega) (by omega), z0 _ (by omega) (by omega) (by omega) (by omega)]
    · rw [j2 _ (by omega), i14, h2 _ (by omega), g14, z14, ← nI_add]
      grind
    · rw [j2 _ (by omega), i1 _ (by omega) (by omega) (by omega), h2 _ (by omega), g1 _ (by omega) (by omega) (by omega), z0 _ (by omega) (by omega) (by omega) (by omega)]
    · rw [j2 _ (by omega), i1 _ (by omega) (by omega) (by omega), h2 _ (by omega), g1 _ (by omega) (by omega) (by omega), z0 _ (by omega) (by omega) (by omega) (by omega)]
  have hr1 : ∀ i, md 30 0 i = r i := fun i => by rw [hr]
  unfold f_X8_brings
  rcases x3 with h | ⟨z1, z2⟩
  · obtain ⟨m', e, f, k0, k11, k12, k13, k14, k15, k21, k25⟩ := go md (nv r 11) (r 14) (r 12) (by omega) (MR.rf md) (fun i _ _ _ _ => hr1 i) (by rw [hr1]; exact hI.pick.1.e) (hr1 12) (hr1 14)
    refine ⟨m', ?_, f, br_eq (by omega) k0 k11 ?_ k13 ?_ k15 k21 k25⟩
    · rw [← e]
      simp (disch := omega) only [xl, xg, vinT, nI_clamp, la, if_pos (show md 30 0 (21 + d) = -1 by rw [hr1]; exact h)]
    · rw [k12]
      unfold btm mvs
      rw [if_pos h, if_pos h]
      simp only [← nI_add, ← pk_mul, ← t1.e, ← t2.e, ← t3.e]
      rfl
    · rw [k14]
      unfold mvs
      rw [if_pos h]
  · have hne : ¬ (r (21 + d) = -1) := by rw [z1.e, nm1 (by have := z1.l; omega)]; exact id
    obtain ⟨m1, e1, f1, g0, g11, g12, g14, g21⟩ := n_empties hr hI hd z1.e z2
    obtain ⟨w1, w2⟩ := (hI.plt _ z2).1
    have b4 := w1.l
    obtain ⟨m', e, f, k0, k11, k12, k13, k14, k15, k21, k25⟩ := go m1 _ _ _ (by omega) f1 g0 g11 g12 g14
    refine ⟨m', ?_, f, br_eq (by omega) k0 k11 ?_ k13 ?_ k15 k21 k25⟩
    · rw [← e]
      simp (disch := omega) only [xl, xg, vinT, nI_clamp, la, if_neg (show ¬ md 30 0 (21 + d) = -1 by rw [hr1]; exact hne), e1, xb]
    · rw [k12]
      unfold btm mvs
      rw [if_neg hne, if_neg hne]
      simp only [← nI_add, ← pk_mul, ← t1.e, ← t2.e, ← t3.e]
      have e4 : nI 4 = (2 : Int32) + 2 := rfl
      rw [e4]
      grind
    · rw [k14]
      unfold mvs
      rw [if_neg hne]
      simp only [← nI_add]
      grind
end NMV
end
section
/-! Layer 2: the reading of a batch -/
section RDI
variable {b : Nat} {sd md : SD} {r r' : RW}
/-- the reading time of the requests whose platter is of a kind -/
def sQ (r : RW) (P : Nat → Bool) : Nat → Nat → Int32
  | 0, _ => 0
  | n + 1, q => (if P (pq r q) = true then rdT r (nv r (289 + nv r (589 + q))) else 0) + sQ r P n (q + 1)
theorem sQ_add {P Q R : Nat → Bool} : ∀ (n q : Nat), (∀ i, q ≤ i → i < q + n → R (pq r i) = (P (pq r i) || Q (pq r i)) ∧ ¬ (P (pq r i) = true ∧ Q (pq r i) = true)) → sQ r R n q = sQ r P n q + sQ r Q n q
  | 0, _, _ => rfl
  | n + 1, q, h => by
    unfold sQ
    rw [sQ_add n (q + 1) (fun i h1 h2 => h i (by omega) (by omega))]
    obtain ⟨h1, h2⟩ := h q (Nat.le_refl _) (by omega)
    rw [h1]
    generalize rdT r (nv r (289 + nv r (589 + q))) = v
    generalize sQ r P n (q + 1) = x
    generalize sQ r Q n (q + 1) = y
    cases hp : P (pq r q) <;> cases hq : Q (pq r q)
    · simp
    · simp; grind
    · simp; grind
    · exact absurd ⟨hp, hq⟩ h2
theorem sQ_congr {P Q : Nat → Bool} : ∀ (n q : Nat), (∀ i, q ≤ i → i < q + n → P (pq r i) = Q (pq r i)) → sQ r P n q = sQ r Q n q
  | 0, _, _ => rfl
  | n + 1, q, h => by
    unfold sQ
    rw [sQ_congr n (q + 1) (fun i h1 h2 => h i (by omega) (by omega)), h q (Nat.le_refl _) (by omega)]
theorem sQ_0 : ∀ (n q : Nat), sQ r (fun _ => false) n q = 0
  | 0, _ => rfl
  | n + 1, q => by
    unfold sQ
    rw [sQ_0 n (q + 1), if_neg (by decide)]
    rfl
theorem rtF_sQ : ∀ (n q : Nat) (s : Int32), q + n < 2 ^ 31 → rtF r (-1) n q s = s + sQ r (fun _ => true) n q
  | 0, _, s, _ => by
    show s = s + 0
    grind
  | n + 1, q, s, h => by
    unfold rtF sQ
    rw [if_neg (by rw [nm1 (by omega)]; exact id), rtF_sQ n (q + 1) _ (by omega), if_pos rfl]
    grind
/-! rows that differ in what moves -/
def Stc (r r' : RW) : Prop := ∀ i, ¬ mec i → r' i = r i
theorem Stc.tr {r'' : RW} (h : Stc r r') (g : Stc r' r'') : Stc r r'' := fun i hi => (g i hi).trans (h i hi)
theorem Stc.n (h : Stc r r') {i : Nat} (hi : ¬ mec i) : nv r' i = nv r i := nv_eq (h i hi)
theorem nmec {i : Nat} (h : i < 11 ∨ (16 ≤ i ∧ i < 21) ∨ 29 ≤ i) : ¬ mec i := by unfold mec; omega
theorem Stc.pq (h : Stc r r') (q : Nat) : pq r' q = pq r q := by
  show nv _ _ = nv _ _
  rw [h.n (nmec (i := 589 + q) (by omega)), h.n (nmec (i := 289 + nv r (589 + q)) (by omega)), h.n (nmec (by omega))]
theorem Stc.rd (h : Stc r r') (v : Nat) : rdT r' v = rdT r v := by
  unfold rdT
  rw [h 4 (nmec (by omega)), h _ (nmec (i := 429 + v) (by omega)), h _ (nmec (i := 509 + v) (by omega))]
theorem Stc.rv (h : Stc r r') (q : Nat) : nv r' (289 + nv r' (589 + q)) = nv r (289 + nv r (589 + q)) := by
  rw [h.n (nmec (i := 589 + q) (by omega)), h.n (nmec (by omega))]
theorem hold_at (hI : Inv r) {d p : Nat} (hd : d < nv r 6) (hp : p < 10) (h : r (21 + d) = nI p) : holdQ r (nI p) = nI d := by
  rcases holdQ_cases r (nI p) with ⟨-, h2⟩ | ⟨e, e1, e2, e3⟩
  · exact absurd h (h2 d hd)
  · rcases hI.drd d e hd e1 (h.trans e3.symm) with z | z
    · rw [e2, z]
    · rw [h, nm1 (by omega)] at z
      exact z.elim
theorem read_in (hr : md 30 0 = r) (hI : Inv r) (hR : Rel b sd r) (hb : b < 2 ^ 28) {d q : Nat} (hd : d < nv r 6) (hq : q < nv r 16) (hp : r (21 + d) = nI (pq r q)) : ∃ m', f_X8_reads md (nI (nv r (589 + q))) = some m' ∧ MR md m' ∧ Inv (m' 30 0) ∧ Rel (b + 1) (usC (upS sd 4 0 15 (sd 4 0 15 + rdT r (nv r (289 + nv r (589 + q))))) d) (m' 30 0) ∧ (∀ i, i ≠ 12 → i ≠ 15 → i ≠ 25 + d → m' 30 0 i = r i) ∧ m' 30 0 12 = r 12 + rdT r (nv r (289 + nv r (589 + q))) := by
  have l6 := hI.l6
  have l7 := hI.l7
  have l10 := hI.l10
  obtain ⟨y1, y2⟩ := hI.req q hq
  obtain ⟨x1, x2⟩ := hI.cur _ y2
  have hpl := pq_lt hI hq
  have hh := hold_at hI hd (by omega) hp
  have ne : ¬ (nI d = -1) := by rw [nm1 (by omega)]; exact id
  have hch : chQ r (pq r q) = nI d := by
    unfold chQ
    rw [hh, if_neg ne]
  have e2 : f_X8_chosen md (nI (pq r q)) = some (nI d) := by rw [m_chosen hr hI (hR.useN (by omega)) (by omega), hch]
  obtain ⟨m2, f2, g2, q2⟩ := n_uses hr (d := d) (by omega)
  have hmo : f_X8_mounts md (nI (pq r q)) = some (nI d, m2) := by
    unfold f_X8_mounts
    rw [e2, xb, m_inDrive hr hI, xb, hh]
    simp only [xl]
    rw [if_neg ne, f2, xb]
  obtain ⟨i2, s2⟩ := use_step hI hR (by omega) hd
  obtain ⟨a1, a2, a3⟩ := use_rows d (by omega) r
  have hv : f_X8_version m2 (nI (nv r (589 + q))) = some (nI (nv r (289 + nv r (589 + q)))) := by
    rw [m_version q2 i2 y2, nv_eq (a1 (289 + nv r (589 + q)) (by omega) (by omega))]
  generalize hV : nv r (289 + nv r (589 + q)) = v at *
  obtain ⟨ic, rc⟩ := clock_step hI hR (r 12 + rdT r v)
  obtain ⟨i3, s3⟩ := use_step ic rc (by omega) (d := d) (by rw [nv_eq (rup_ne (by omega))]; exact hd)
  have hrow : (upS m2 30 0 12 (m2 30 0 12 + (m2 30 0 4 * (m2 30 0 (429 + v) + m2 30 0 (509 + v))))) 30 0 = useR (rup r 12 (r 12 + rdT r v)) d := by
    rw [row_up, q2]
    funext i
    obtain ⟨c1, c2, c3⟩ := use_rows d (by omega) (rup r 12 (r 12 + rdT r v))
    by_cases e1 : i = 12
    · subst e1
      rw [rup_hit, c1 12 (by omega) (by omega), rup_hit, a1 12 (by omega) (by omega), a1 4 (by omega) (by omega), a1 (429 + v) (by omega) (by omega), a1 (509 + v) (by omega) (by omega)]
      rfl
    · rw [rup_ne e1]
      by_cases e2 : i = 15
      · subst e2
        rw [a2, c2, rup_ne (by omega)]
      by_cases e3 : i = 25 + d
      · subst e3
        rw [a3, c3, rup_ne (by omega)]
      rw [a1 i e2 e3, c1 i e2 e3, rup_ne e1]
  have n9 : nv (useR (rup r 12 (r 12 + rdT r v)) d) 9 = nv r 9 := by
    rw [nv_eq ((use_rows d (by omega) (rup r 12 (r 12 + rdT r v))).1 9 (by omega) (by omega)), nv_eq (rup_ne (by omega))]
  refine ⟨_, ?_, g2.up (t := 12) (by omega), by rw [hrow]; exact inv_of i3 n9, by rw [hrow, hR.s15]; exact rel_of s3 n9, fun i h1 h2 h3 => ?_, ?_⟩
  · unfold f_X8_reads
    rw [m_platterOf hr hI y2]
    show x_bind (some (nI (nv r (349 + nv r (289 + nv r (589 + q)))))) _ = _
    rw [show nI (nv r (349 + nv r (289 + nv r (589 + q)))) = nI (pq r q) from rfl, xb, hmo, xb, hv, xb]
    simp (disch := omega) only [xl, xg, vinT, nI_clamp, la]
  · rw [hrow, (use_rows d (by omega) _).1 i h2 h3, rup_ne h1]
  · rw [hrow, (use_rows d (by omega) _).1 12 (by omega) (by omega), rup_hit]
/-- how the class's numbers of uses change while requests are read in a drive -/
def US (s s' : SD) (d : Nat) (a : Bool) : Prop := (∀ e, e ≠ d → s' 0 e 2 = s 0 e 2) ∧ (a = false → s' 4 0 4 = s 4 0 4 ∧ s' 0 d 2 = s 0 d 2) ∧ (a = true → ns s 4 0 4 < ns s' 4 0 4 ∧ s' 0 d 2 = s' 4 0 4)
theorem rd_loop {r0 : RW} {d p : Nat} (hd : d < nv r0 6) (hp : p < 10) : ∀ (k q f f' b : Nat) (s m : SD), q + k = nv r0 16 → k < f → k < f' → b + k < 2 ^ 28 → Stc r0 (m 30 0) → m 30 0 (21 + d) = nI p → Inv (m 30 0) → Rel b s (m 30 0) → ∃ s' m', f_X4_readRequestsIn_L2 (nI d) f (nI q) s = some s' ∧ f_X8_readsFrom_L2 (nI p) f' (nI q) m = some m' ∧ MR m m' ∧ Inv (m' 30 0) ∧ Rel (b + k) s' (m' 30 0) ∧ (∀ i, i ≠ 12 → i ≠ 15 → i ≠ 25 + d → m' 30 0 i = m 30 0 i) ∧ m' 30 0 12 = m 30 0 12 + sQ r0 (fun y => decide (y = p)) k q ∧ US s s' d (anQ r0 p k q) := by
  intro k
  induction k with
  | zero =>
    intro q f f' b s m hq hf hf' hb hS h21 hI hR
    obtain ⟨f, rfl⟩ : ∃ q, f = q + 1 := ⟨f - 1, by omega⟩
    obtain ⟨f', rfl⟩ : ∃ q, f' = q + 1 := ⟨f' - 1, by omega⟩
    have n16 := hS.n (i := 16) (nmec (by omega))
    have l16 := hI.l16
    have : q = nv (m 30 0) 16 := by omega
    subst this
    rw [f_X4_readRequestsIn_L2, hR.s13, hI.c16, if_pos (nI_le (Nat.le_refl _) (by omega)), f_X8_readsFrom_L2, hI.c16, if_pos (nI_le (Nat.le_refl _) (by omega))]
    refine ⟨s, m, rfl, rfl, MR.rf m, hI, hR, fun _ _ _ _ => rfl, ?_, fun _ _ => rfl, fun _ => ⟨rfl, rfl⟩, fun h => by cases h⟩
    show _ = _ + (0 : Int32)
    grind
  | succ k ih =>
    intro q f f' b s m hq hf hf' hb hS h21 hI hR
    obtain ⟨f, rfl⟩ : ∃ q, f = q + 1 := ⟨f - 1, by omega⟩
    obtain ⟨f', rfl⟩ : ∃ q, f' = q + 1 := ⟨f' - 1, by omega⟩
    have n16 := hS.n (i := 16) (nmec (by omega))
    have n6 := hS.n (i := 6) (nmec (by omega))
    have l16 := hI.l16
    have l6 := hI.l6
    have l7 := hI.l7
    have l10 := hI.l10
    have hq2 : q < nv (m 30 0) 16 := by omega
    obtain ⟨y1, y2⟩ := hI.req q hq2
    obtain ⟨x1, x2⟩ := hI.cur _ y2
    obtain ⟨v1, ⟨v2, v3⟩, -⟩ := hI.ver _ x2
    have hpl := pq_lt hI hq2
    have epq := hS.pq q
    rw [f_X4_readRequestsIn_L2, hR.s13, hI.c16, if_neg (by rw [nI_leI (by omega) (by omega)]; omega), f_X8_readsFrom_L2, hI.c16, if_neg (by rw [nI_leI (by omega) (by omega)]; omega)]
    simp (disch := omega) only [xl, xg, vinT, nI_clamp, la, ra, hR.rq q hq2, y1.e]
    rw [c_currentVersion hI hR y2, m_platterOf rfl hI y2]
    simp (disch := omega) only [xb, xg, vinT]
    rw [(hR.ve _ x2).2.1, (hR.dr d (by omega)).2, h21, v2.e]
    rw [sQ, anQ, ← epq, ← hS.rv q, ← hS.rd]
    by_cases z : pq (m 30 0) q = p
    · have z1 : nI (nv (m 30 0) (349 + nv (m 30 0) (289 + nv (m 30 0) (589 + q)))) = nI p := by rw [← z]; rfl
      obtain ⟨m1, a1, a2, a3, a4, a5, a6⟩ := read_in rfl hI hR (by omega) (d := d) (q := q) (by omega) hq2 (by rw [h21, z])
      rw [if_pos z1, if_pos z1, c_sectors hI hR x2, xb, c_useDrive _ (by omega), xb, a1, xb]
      obtain ⟨s', m', b1, b2, b3, b4, b5, b6, b7, b8⟩ := ih (q + 1) f f' (b + 1) _ m1 (by omega) (by omega) (by omega) (by omega) (hS.tr (fun i hi => a5 i (by unfold mec at hi; omega) (by unfold mec at hi; omega) (by unfold mec at hi; omega))) (by rw [a5 _ (by omega) (by omega) (by omega)]; exact h21) a3 a4
      refine ⟨s', m', b1, b2, a2.tr b3, b4, ?_, fun i h1 h2 h3 => by rw [b6 i h1 h2 h3, a5 i h1 h2 h3], ?_, ?_⟩
      · rw [show b + (k + 1) = b + 1 + k by omega]; exact b5
      · rw [b7, a6, decide_eq_true z, if_pos rfl]
        generalize rdT (m 30 0) (nv (m 30 0) (289 + nv (m 30 0) (589 + q))) = v
        grind
      · obtain ⟨u1, u2, u3⟩ := b8
        obtain ⟨w1, w2, w3⟩ := usC_cells (upS s 4 0 15 (s 4 0 15 + rdT (m 30 0) (nv (m 30 0) (289 + nv (m 30 0) (589 + q))))) d
        have t4 : (upS s 4 0 15 (s 4 0 15 + rdT (m 30 0) (nv (m 30 0) (289 + nv (m 30 0) (589 + q))))) 4 0 4 = s 4 0 4 := upS_t (by omega)
        rw [t4] at w2 w3
        obtain ⟨⟨g1, g2⟩, -⟩ := hR.us
        have hN : ns (usC (upS s 4 0 15 (s 4 0 15 + rdT (m 30 0) (nv (m 30 0) (289 + nv (m 30 0) (589 + q))))) d) 4 0 4 = ns s 4 0 4 + 1 := by
          unfold ns
          rw [w2, g1, ra (k := 1), nI_clamp (by show _ + 1 < _; omega), nI_clamp (by omega)]
        refine ⟨fun e he => ?_, fun h => (by rw [decide_eq_true z] at h; cases h), fun _ => ?_⟩
        · rw [u1 e he, w1 0 e 2 (by omega) (by omega)]
          exact upS_k (by omega)
        · cases hA : anQ r0 p k (q + 1) with
          | false =>
            obtain ⟨o1, o2⟩ := u2 hA
            refine ⟨?_, by rw [o1, o2, w2, w3]⟩
            have : ns s' 4 0 4 = ns s 4 0 4 + 1 := by
              rw [← hN]
              unfold ns
              rw [o1]
            omega
          | true =>
            obtain ⟨o1, o2⟩ := u3 hA
            exact ⟨by omega, o2⟩
    · have z1 : ¬ nI (nv (m 30 0) (349 + nv (m 30 0) (289 + nv (m 30 0) (589 + q)))) = nI p := by
        show ¬ nI (pq (m 30 0) q) = nI p
        rw [nI_eq (by omega) (by omega)]
        exact z
      rw [if_neg z1, if_neg z1]
      obtain ⟨s', m', b1, b2, b3, b4, b5, b6, b7, b8⟩ := ih (q + 1) f f' b s m (by omega) (by omega) (by omega) (by omega) hS h21 hI hR
      refine ⟨s', m', b1, b2, b3, b4, b5.more (by omega), b6, ?_, ?_⟩
      · rw [b7, decide_eq_false z, if_neg (by decide)]
        grind
      · rw [decide_eq_false z, Bool.false_or]
        exact b8
/-- nothing is read in an empty drive -/
theorem rd_none (hI : Inv r) (hR : Rel b sd r) {d : Nat} (hd : d < nv r 6) (h : r (21 + d) = -1) : ∀ (k q f : Nat), q + k = nv r 16 → k < f → f_X4_readRequestsIn_L2 (nI d) f (nI q) sd = some sd := by
  have l16 := hI.l16
  have l6 := hI.l6
  have l7 := hI.l7
  have l10 := hI.l10
  intro k
  induction k with
  | zero =>
    intro q f hq hf
    obtain ⟨f, rfl⟩ : ∃ q, f = q + 1 := ⟨f - 1, by omega⟩
    have : q = nv r 16 := by omega
    subst this
    rw [f_X4_readRequestsIn_L2, hR.s13, hI.c16, if_pos (nI_le (Nat.le_refl _) (by omega))]
  | succ k ih =>
    intro q f hq hf
    obtain ⟨f, rfl⟩ : ∃ q, f = q + 1 := ⟨f - 1, by omega⟩
    have hq2 : q < nv r 16 := by omega
    obtain ⟨y1, y2⟩ := hI.req q hq2
    obtain ⟨x1, x2⟩ := hI.cur _ y2
    obtain ⟨v1, ⟨v2, v3⟩, -⟩ := hI.ver _ x2
    rw [f_X4_readRequestsIn_L2, hR.s13, hI.c16, if_neg (by rw [nI_leI (by omega) (by omega)]; omega)]
    simp (disch := omega) only [xl, xg, vinT, nI_clamp, la, ra, hR.rq q hq2, y1.e]
    rw [c_currentVersion hI hR y2]
    simp (disch := omega) only [xb, xg, vinT]
    rw [(hR.ve _ x2).2.1, (hR.dr d hd).2, h, v2.e, if_neg (by rw [nm1 (by omega)]; exact id)]
    exact ih (q + 1) f (by omega) (by omega)
end RDI
end
section
/-! Layer 2: the requests whose platter is in a drive are read first -/
section IND
variable {b : Nat} {sd md : SD} {r r' : RW}
theorem mkF_bit (hI : Inv r) (a : Int32) {e : Nat} (he : e < 4) : ∀ (n q s : Nat), (mkF r a n q s).testBit e = true ↔ s.testBit e = true ∨ ∃ i, q ≤ i ∧ i < q + n ∧ nI i ≠ a ∧ holdQ r (nI (pq r i)) = nI e
  | 0, q, s => by
    unfold mkF
    constructor
    · exact Or.inl
    · rintro (h | ⟨i, h1, h2, -⟩)
      · exact h
      · omega
  | n + 1, q, s => by
    have l6 := hI.l6
    unfold mkF
    rw [mkF_bit hI a he n (q + 1) _]
    have key : (if nI q = a then s else if holdQ r (nI (pq r q)) = -1 then s else s ||| 2 ^ (holdQ r (nI (pq r q))).toNatClampNeg).testBit e = true ↔ s.testBit e = true ∨ (nI q ≠ a ∧ holdQ r (nI (pq r q)) = nI e) := by
      by_cases z : nI q = a
      · rw [if_pos z]
        constructor
        · exact Or.inl
        · rintro (h | ⟨h, -⟩)
          · exact h
          · exact absurd z h
      · rw [if_neg z]
        rcases holdQ_cases r (nI (pq r q)) with ⟨h, -⟩ | ⟨d, d1, d2, -⟩
        · rw [if_pos h, h]
          constructor
          · exact Or.inl
          · rintro (h | ⟨-, h⟩)
            · exact h
            · rw [m1n (by omega)] at h
              exact h.elim
        · rw [if_neg (by rw [d2, nm1 (by omega)]; exact id), d2, nI_clamp (by omega), Nat.testBit_or, Nat.testBit_two_pow, Bool.or_eq_true, decide_eq_true_eq, nI_eq (by omega) (by omega)]
          constructor
          · rintro (h | h)
            · exact Or.inl h
            · exact Or.inr ⟨z, h⟩
          · rintro (h | ⟨-, h⟩)
            · exact Or.inl h
            · exact Or.inr h
    rw [key]
    constructor
    · rintro ((h | ⟨h1, h2⟩) | ⟨i, h1, h2, h3⟩)
      · exact Or.inl h
      · exact Or.inr ⟨q, Nat.le_refl _, by omega, h1, h2⟩
      · exact Or.inr ⟨i, by omega, by omega, h3⟩
    · rintro (h | ⟨i, h1, h2, h3⟩)
      · exact Or.inl (Or.inl h)
      · by_cases y : i = q
        · subst y
          exact Or.inl (Or.inr h3)
        · exact Or.inr ⟨i, by omega, by omega, h3⟩
/-- the drive holds a platter that is wanted -/
def anB (r : RW) (e : Nat) : Bool := decide (r (21 + e) ≠ -1) && anQ r (nv r (21 + e)) (nv r 16) 0
theorem anB_iff (hI : Inv r) {e : Nat} (he : e < nv r 6) : anB r e = true ↔ (mkF r (-1) (nv r 16) 0 0).testBit e = true := by
  have l6 := hI.l6
  have l7 := hI.l7
  have l16 := hI.l16
  rw [mkF_bit hI (-1) (by omega)]
  unfold anB
  rw [Bool.and_eq_true, decide_eq_true_eq, anQ_iff]
  constructor
  · rintro ⟨h1, i, i1, i2, i3⟩
    rcases (hI.drv e he).2 with h | ⟨z1, z2⟩
    · exact absurd h h1
    · exact Or.inr ⟨i, i1, i2, by rw [Ne, nm1 (by omega)]; exact id, by rw [i3]; exact hold_at hI he (by omega) z1.e⟩
  · rintro (h | ⟨i, i1, i2, -, i3⟩)
    · rw [Nat.zero_testBit] at h
      cases h
    · have hp := pq_lt hI (q := i) (by omega)
      rcases holdQ_cases r (nI (pq r i)) with ⟨h, -⟩ | ⟨d, d1, d2, d3⟩
      · rw [h, m1n (by omega)] at i3
        exact i3.elim
      · rw [d2, nI_eq (by omega) (by omega)] at i3
        subst i3
        exact ⟨by rw [d3, Ne, nm1 (by omega)]; exact id, i, i1, i2, (nv_of d3 (by omega)).symm⟩
/-- the class's numbers of uses while the drives up to d are read -/
def UQ (r : RW) (s0 s : SD) (d : Nat) : Prop := ns s0 4 0 4 ≤ ns s 4 0 4 ∧ (∀ e, e < d → anB r e = true → ns s0 4 0 4 < ns s 0 e 2 ∧ ns s 0 e 2 ≤ ns s 4 0 4) ∧ (∀ e, ¬ (e < d ∧ anB r e = true) → s 0 e 2 = s0 0 e 2) ∧ ∀ e e', e < e' → e' < d → anB r e = true → anB r e' = true → ns s 0 e 2 < ns s 0 e' 2
theorem UQ.none {s0 s : SD} {d : Nat} (h : UQ r s0 s d) (ha : anB r d = false) : UQ r s0 s (d + 1) := by
  obtain ⟨h1, h2, h3, h4⟩ := h
  have lt : ∀ e, e < d + 1 → anB r e = true → e < d := fun e he ha' => by
    refine Nat.lt_of_le_of_ne (by omega) (fun z => ?_)
    subst z
    rw [ha] at ha'
    cases ha'
  exact ⟨h1, fun e he ha' => h2 e (lt e he ha') ha', fun e he => h3 e (fun z => he ⟨by omega, z.2⟩), fun e e' h5 h6 h7 h8 => h4 e e' h5 (lt e' h6 h8) h7 h8⟩
theorem UQ.step {s0 s s' : SD} {d : Nat} (h : UQ r s0 s d) (hu : US s s' d (anB r d)) : UQ r s0 s' (d + 1) := by
  obtain ⟨u1, u2, u3⟩ := hu
  cases ha : anB r d with
  | false =>
    obtain ⟨a1, a2⟩ := u2 ha
    refine UQ.none ?_ ha
    have e0 : ∀ e, s' 0 e 2 = s 0 e 2 := fun e => by
      by_cases z : e = d
      · rw [z, a2]
      · exact u1 e z
    obtain ⟨h1, h2, h3, h4⟩ := h
    have en : ∀ e, ns s' 0 e 2 = ns s 0 e 2 := fun e => by unfold ns; rw [e0]
    have e4 : ns s' 4 0 4 = ns s 4 0 4 := by unfold ns; rw [a1]
    refine ⟨by rw [e4]; exact h1, fun e he hb => ?_, fun e he => by rw [e0]; exact h3 e he, fun e e' h5 h6 h7 h8 => ?_⟩
    · rw [en, e4]; exact h2 e he hb
    · rw [en, en]; exact h4 e e' h5 h6 h7 h8
  | true =>
    obtain ⟨a1, a2⟩ := u3 ha
    obtain ⟨h1, h2, h3, h4⟩ := h
    have en : ∀ e, e ≠ d → ns s' 0 e 2 = ns s 0 e 2 := fun e z => by unfold ns; rw [u1 e z]
    have ed : ns s' 0 d 2 = ns s' 4 0 4 := by unfold ns; rw [a2]
    refine ⟨by omega, fun e he hb => ?_, fun e he => ?_, fun e e' h5 h6 h7 h8 => ?_⟩
    · by_cases z : e = d
      · subst z
        rw [ed]
        exact ⟨by omega, Nat.le_refl _⟩
      · have := h2 e (by omega) hb
        rw [en e z]
        exact ⟨this.1, by omega⟩
    · have z : e ≠ d := fun z => he (by subst z; exact ⟨by omega, ha⟩)
      rw [u1 e z]
      exact h3 e (fun y => he ⟨by omega, y.2⟩)
    · by_cases z : e' = d
      · subst z
        have := h2 e h5 h7
        rw [en e (by omega), ed]
        omega
      · rw [en e (by omega), en e' z]
        exact h4 e e' h5 (by omega) h7 h8
/-- the free drive behind the reading -/
theorem UQ.free (hI : Inv r) {s0 s : SD} (hR0 : Rel b sd r) (hs0 : s0 = sd) (h : UQ r s0 s (nv r 6)) (h0 : 0 < nv r 6) : freQ r (fun e => ns s 0 e 2) = freQ r (useC s0 (mkF r (-1) (nv r 16) 0 0)) := by
  subst hs0
  refine freQ_congr (fun e e' he he' => ?_) h0
  obtain ⟨h1, h2, h3, h4⟩ := h
  have lo : ∀ e, e < nv r 6 → ns s0 0 e 2 ≤ ns s0 4 0 4 := fun e he => ((hR0.us.2.2.1 e he).1).2
  have tb : ∀ e, e < nv r 6 → useC s0 (mkF r (-1) (nv r 16) 0 0) e = if anB r e = true then ns s0 4 0 4 + 1 + e else ns s0 0 e 2 := fun e he => by
    unfold useC
    have hh := anB_iff hI he
    rw [Nat.testBit_eq_decide_div_mod_eq, decide_eq_true_eq] at hh
    have := Nat.mod_lt (mkF r (-1) (nv r 16) 0 0 / 2 ^ e) (show 2 > 0 by decide)
    by_cases z : anB r e = true
    · rw [if_pos z, if_neg (by rw [hh.mp z]; decide)]
    · rw [if_neg z, if_pos (by have : ¬ _ := fun y => z (hh.mpr y); omega)]
  have no : ∀ e, ¬ anB r e = true → ns s 0 e 2 = ns s0 0 e 2 := fun e z => by unfold ns; rw [h3 e (fun y => z y.2)]
  rw [tb e he, tb e' he']
  have g1 := lo e he
  have g2 := lo e' he'
  by_cases z : anB r e = true <;> by_cases y : anB r e' = true
  · rw [if_pos z, if_pos y]
    constructor
    · intro q
      rcases Nat.lt_trichotomy e e' with w | w | w
      · omega
      · subst w; omega
      · have := h4 e' e w he y z
        omega
    · intro q
      exact h4 e e' (by omega) he' z y
  · rw [if_pos z, if_neg y, no e' y]
    have := h2 e he z
    omega
  · rw [if_neg z, if_pos y, no e z]
    have := h2 e' he' y
    omega
  · rw [if_neg z, if_neg y, no e z, no e' y]
/-- what the reference does behind the reading -/
noncomputable def svT (m : SD) : Option SD := if (m 8 0 10) ≤ 0 then some (upS m 30 0 16 0) else x_bind (f_X8_freeDrive m) fun (q6 : Int32) => x_bind (f_X8_findsOrder m q6) fun (q7 : SD) => x_bind (f_X8_serves_L68 q6 fuel 0 q7) fun (q8 : Int32 × SD) => some (upS q8.2 30 0 16 0)
/-- the platter is in one of the first d drives -/
def hb (r : RW) : Nat → Nat → Bool
  | 0, _ => false
  | d + 1, p => hb r d p || decide (r (21 + d) = nI p)
theorem hb_iff (r : RW) (p : Nat) : ∀ d, hb r d p = true ↔ ∃ e, e < d ∧ r (21 + e) = nI p
  | 0 => by
    constructor
    · intro h; cases h
    · rintro ⟨e, h, -⟩; omega
  | d + 1 => by
    unfold hb
    rw [Bool.or_eq_true, decide_eq_true_eq, hb_iff r p d]
    constructor
    · rintro (⟨e, h1, h2⟩ | h)
      · exact ⟨e, by omega, h2⟩
      · exact ⟨d, by omega, h⟩
    · rintro ⟨e, h1, h2⟩
      by_cases z : e = d
      · right; rw [← z]; exact h2
      · exact Or.inl ⟨e, by omega, h2⟩
def Rdc (r r' : RW) : Prop := ∀ i, i ≠ 12 → i ≠ 15 → ¬ (25 ≤ i ∧ i < 29) → r' i = r i
theorem Rdc.stc (h : Rdc r r') : Stc r r' := fun i hi => h i (by unfold mec at hi; omega) (by unfold mec at hi; omega) (by unfold mec at hi; omega)
theorem in_loop (hI0 : Inv r) {s0 : SD} : ∀ (k d f f' b : Nat) (s m : SD), d + k = nv r 6 → k < f → k < f' → b + 16 * k < 2 ^ 28 → Rdc r (m 30 0) → Inv (m 30 0) → Rel b s (m 30 0) → UQ r s0 s d → m 30 0 12 = r 12 + sQ r (hb r d) (nv r 16) 0 → ∃ s' m', f_X4_readInDrives_L2 f (nI d) s = some s' ∧ f_X8_serves_L6 f' (nI d) m = svT m' ∧ MR m m' ∧ Rdc r (m' 30 0) ∧ Inv (m' 30 0) ∧ Rel (b + 16 * k) s' (m' 30 0) ∧ UQ r s0 s' (nv r 6) ∧ m' 30 0 12 = r 12 + sQ r (hb r (nv r 6)) (nv r 16) 0 := by
  have l6 := hI0.l6
  have l7 := hI0.l7
  have l16 := hI0.l16
  intro k
  induction k with
  | zero =>
    intro d f f' b s m hd hf hf' hbb hX hI hR hU hC
    obtain ⟨f, rfl⟩ : ∃ q, f = q + 1 := ⟨f - 1, by omega⟩
    obtain ⟨f', rfl⟩ : ∃ q, f' = q + 1 := ⟨f' - 1, by omega⟩
    have n6 := hX.stc.n (i := 6) (nmec (by omega))
    have : d = nv r 6 := by omega
    subst this
    rw [f_X4_readInDrives_L2, hR.s3, hI.c6, n6, if_pos (nI_le (Nat.le_refl _) (by omega)), f_X8_serves_L6, hI.c6, n6, if_pos (nI_le (Nat.le_refl _) (by omega))]
    exact ⟨s, m, rfl, rfl, MR.rf m, hX, hI, hR, hU, hC⟩
  | succ k ih =>
    intro d f f' b s m hd hf hf' hbb hX hI hR hU hC
    obtain ⟨f, rfl⟩ : ∃ q, f = q + 1 := ⟨f - 1, by omega⟩
    obtain ⟨f', rfl⟩ : ∃ q, f' = q + 1 := ⟨f' - 1, by omega⟩
    have n6 := hX.stc.n (i := 6) (nmec (by omega))
    have n16 := hX.stc.n (i := 16) (nmec (by omega))
    have hd2 : d < nv r 6 := by omega
    have h21 : m 30 0 (21 + d) = r (21 + d) := hX _ (by omega) (by omega) (by omega)
    rw [f_X4_readInDrives_L2, hR.s3, hI.c6, n6, if_neg (by rw [nI_leI (by omega) (by omega)]; omega), f_X8_serves_L6, hI.c6, n6, if_neg (by rw [nI_leI (by omega) (by omega)]; omega)]
    simp (disch := omega) only [xl, xg, vinT, nI_clamp, la, ra]
    rw [h21]
    rcases (hI0.drv d hd2).2 with z | ⟨z1, z2⟩
    · have hn := rd_none hI hR (d := d) (by omega) (by rw [h21]; exact z) (nv r 16) 0 fuel (by omega) (by unfold fuel; omega)
      rw [nI_0] at hn
      unfold f_X4_readRequestsIn
      rw [hn, xb, if_pos z]
      have ha : anB r d = false := by
        unfold anB
        rw [z, decide_eq_false (by simp), Bool.false_and]
      obtain ⟨s', m', b1, b2, b3, b4, b5, b6, b7, b8⟩ := ih (d + 1) f f' b s m (by omega) (by omega) (by omega) (by omega) hX hI hR (hU.none ha) (by
        rw [hC]
        congr 1
        refine sQ_congr _ _ (fun i h1 h2 => ?_)
        have := pq_lt hI0 (q := i) (by omega)
        show hb r d _ = (hb r d _ || _)
        rw [decide_eq_false (by rw [z, m1n (by omega)]; exact id), Bool.or_false])
      exact ⟨s', m', b1, b2, b3, b4, b5, b6.more (by omega), b7, b8⟩
    · have ne : ¬ r (21 + d) = -1 := by rw [z1.e, nm1 (by omega)]; exact id
      have ha : anB r d = anQ r (nv r (21 + d)) (nv r 16) 0 := by
        unfold anB
        rw [decide_eq_true ne, Bool.true_and]
      obtain ⟨s1, m1, a1, a2, a3, a4, a5, a6, a7, a8⟩ := rd_loop (r0 := r) hd2 (p := nv r (21 + d)) (by omega) (nv r 16) 0 fuel fuel b s m (by omega) (by unfold fuel; omega) (by unfold fuel; omega) (by omega) hX.stc (by rw [h21]; exact z1.e) hI hR
      rw [nI_0] at a1 a2
      unfold f_X4_readRequestsIn f_X8_readsFrom
      rw [a1, xb, if_neg ne, z1.e, a2, xb]
      obtain ⟨s', m', b1, b2, b3, b4, b5, b6, b7, b8⟩ := ih (d + 1) f f' (b + nv r 16) s1 m1 (by omega) (by omega) (by omega) (by omega) (fun i h1 h2 h3 => by rw [a6 i h1 h2 (by omega)]; exact hX i h1 h2 h3) a4 a5 (hU.step (by rw [ha]; exact a8)) (by
        rw [a7, hC, sQ_add (P := hb r d) (Q := fun y => decide (y = nv r (21 + d))) (R := hb r (d + 1)) (nv r 16) 0 (fun i h1 h2 => ?_)]
        · grind
        · have hp := pq_lt hI0 (q := i) (by omega)
          have e1 : (r (21 + d) = nI (pq r i)) ↔ pq r i = nv r (21 + d) := by
            rw [z1.e, nI_eq (by omega) (by omega)]
            exact eq_comm
          constructor
          · show (hb r d _ || _) = _
            congr 1
            exact decide_eq_decide.mpr e1
          · rintro ⟨y1, y2⟩
            obtain ⟨e, e2, e3⟩ := (hb_iff r _ d).mp y1
            have y3 := e1.mpr (of_decide_eq_true y2)
            rcases hI0.drd e d (by omega) hd2 (e3.trans y3.symm) with w | w
            · omega
            · rw [e3, nm1 (by omega)] at w
              exact w)
      exact ⟨s', m', b1, b2, a3.tr b3, b4, b5, b6.more (by omega), b7, b8⟩
end IND
end
section
/-! Layer 2: a batch is served -/
section SRV
variable {b d : Nat} {sd md : SD} {r r' : RW}
/-- how the picker and the drive stand before the next exchange -/
def Cur (r r' : RW) (d : Nat) : Option Nat → Prop
  | none => r' 11 = r 11 ∧ r' (21 + d) = r (21 + d)
  | some p => r' 11 = r (17 + d) ∧ r' (21 + d) = nI p ∧ p < 10
theorem dst_self (a : Nat) : dst a a = 0 := by unfold dst; omega
theorem btm_cur (hS : Stc r r') (hd : d < 4) {o : Option Nat} (hc : Cur r r' d o) (q : Nat) : btm r' q d = stp r d o q := by
  have e17 := hS.n (nmec (i := 17 + d) (by omega))
  have eq := hS.n (nmec (i := 29 + q) (by omega))
  have e1 := hS.n (nmec (i := 1) (by omega))
  have e2 := hS.n (nmec (i := 2) (by omega))
  have e3 := hS.n (nmec (i := 3) (by omega))
  cases o with
  | none =>
    obtain ⟨c1, c2⟩ := hc
    have eh := hS.n (nmec (i := 29 + nv r (21 + d)) (by omega))
    show btm r' q d = btm r q d
    unfold btm mvs
    rw [nv_eq c2, nv_eq c1, c2, e17, eq, e1, e2, e3, eh]
  | some p =>
    obtain ⟨c1, c2, c3⟩ := hc
    have ep := hS.n (nmec (i := 29 + p) (by omega))
    have ne : ¬ r' (21 + d) = -1 := by rw [c2, nm1 (by omega)]; exact id
    have n11 : nv r' 11 = nv r (17 + d) := nv_eq c1
    show btm r' q d = swN r d p q
    unfold btm mvs swN bwN
    rw [if_neg ne, if_neg ne, nv_of c2 (by omega), n11, e17, eq, e1, e2, e3, ep, dst_self, Nat.zero_add]
    omega
theorem nxS_val {o : Option Nat} {S x : Nat} : ∀ (n q i : Nat), nxS r d o S x n q = some i → S.testBit i = true ∧ stp r d o i + opt (swN r d) (S ^^^ 2 ^ i) (S ^^^ 2 ^ i) i = x
  | 0, _, _, h => by cases h
  | n + 1, q, i, h => by
    unfold nxS at h
    by_cases z : S.testBit q = true
    · rw [if_pos z] at h
      by_cases y : stp r d o q + opt (swN r d) (S ^^^ 2 ^ q) (S ^^^ 2 ^ q) q = x
      · rw [if_pos y] at h
        cases h
        exact ⟨z, y⟩
      · rw [if_neg y] at h
        exact nxS_val n (q + 1) i h
    · rw [if_neg z] at h
      exact nxS_val n (q + 1) i h
theorem nxS_some {o : Option Nat} {S x i : Nat} (hb : S.testBit i = true) (hv : stp r d o i + opt (swN r d) (S ^^^ 2 ^ i) (S ^^^ 2 ^ i) i = x) : ∀ (n q : Nat), q ≤ i → i < q + n → ∃ j, nxS r d o S x n q = some j
  | 0, _, h1, h2 => by omega
  | n + 1, q, h1, h2 => by
    unfold nxS
    by_cases e : i = q
    · subst e
      rw [if_pos hb, if_pos hv]
      exact ⟨i, rfl⟩
    · have ih := nxS_some hb hv n (q + 1) (by omega) (by omega)
      by_cases z : S.testBit q = true
      · rw [if_pos z]
        by_cases y : stp r d o q + opt (swN r d) (S ^^^ 2 ^ q) (S ^^^ 2 ^ q) q = x
        · rw [if_pos y]
          exact ⟨q, rfl⟩
        · rw [if_neg y]
          exact ih
      · rw [if_neg z]
        exact ih
theorem ord_cons {o : Option Nat} {S x q N : Nat} (h0 : S ≠ 0) (h : nxS r d o S x 10 0 = some q) : ordL r d (N + 1) o S x = q :: ordL r d N (some q) (S ^^^ 2 ^ q) (lfT r d (S ^^^ 2 ^ q) (some q)) := by
  rw [ordL, if_neg h0, h]
  simp only
  by_cases z : S ^^^ 2 ^ q = 0
  · rw [z]
    cases N with
    | zero => rfl
    | succ N => rw [ordL, ordL, if_pos rfl, if_pos rfl]
  · rw [opt_un z]
    rfl
theorem stp_le (hI : Inv r) (hd : d < nv r 6) {o : Option Nat} (ho : ∀ p, o = some p → p < nv r 7) {q : Nat} (hq : q < nv r 7) : stp r d o q ≤ 9603 := by
  cases o with
  | none => exact btm_le hI hq hd
  | some p =>
    have := (swN_le hI hd (ho p rfl) hq).2
    show swN r d p q ≤ _
    omega
theorem br_loop (hI0 : Inv r) (hd : d < nv r 6) {c : Nat} {ol : Nat → Nat} {pd : SD} (hc : c ≤ 10) (p3 : pd 2 0 3 = nI c) (p4 : pd 2 0 4 = nI d) (p25 : ∀ u, u < c → pd 25 0 u = nI (ol u)) : ∀ (N t f f' b S : Nat) (o : Option Nat) (s m : SD), N + t = 10 → crd S ≤ N → c - t < f → c - t < f' → S < 1024 → (∀ p, S.testBit p = true → p < nv r 7) → t ≤ c → (ordL r d N o S (lfT r d S o)).length = c - t → (∀ u, u < c - t → ol (t + u) = (ordL r d N o S (lfT r d S o)).getD u 0) → m 8 0 10 = nI c → (∀ u, u < c → ∃ i, i < 10 ∧ m 35 0 u = nI i ∧ m 34 0 i = nI (ol u)) → Stc r (m 30 0) → Cur r (m 30 0) d o → (∀ p, o = some p → p < nv r 7) → (∀ p, S.testBit p = true → ∀ e, e < nv r 6 → m 30 0 (21 + e) ≠ nI p) → Inv (m 30 0) → Rel b s (m 30 0) → b + 17 * N < 2 ^ 28 → ∃ s' m', f_X7_serveBatch_L pd f s (nI t) = some s' ∧ f_X8_serves_L68 (nI d) f' (nI t) m = some (nI c, m') ∧ MR m m' ∧ Stc r (m' 30 0) ∧ Inv (m' 30 0) ∧ Rel (b + 17 * N) s' (m' 30 0) ∧ m' 30 0 12 = m 30 0 12 + ((if S = 0 then 0 else nI (lfT r d S o)) + sQ r (fun p => S.testBit p) (nv r 16) 0) := by
  have l6 := hI0.l6
  have l7 := hI0.l7
  have l16 := hI0.l16
  have fin : ∀ (N t f f' b : Nat) (o : Option Nat) (s m : SD), c - t < f → c - t < f' → t = c → m 8 0 10 = nI c → Stc r (m 30 0) → Inv (m 30 0) → Rel b s (m 30 0) → ∃ s' m', f_X7_serveBatch_L pd f s (nI t) = some s' ∧ f_X8_serves_L68 (nI d) f' (nI t) m = some (nI c, m') ∧ MR m m' ∧ Stc r (m' 30 0) ∧ Inv (m' 30 0) ∧ Rel (b + 17 * N) s' (m' 30 0) ∧ m' 30 0 12 = m 30 0 12 + ((if (0 : Nat) = 0 then 0 else nI (lfT r d 0 o)) + sQ r (fun p => (0 : Nat).testBit p) (nv r 16) 0) := by
    intro N t f f' b o s m hf hf' ht h10 hS hI hR
    subst ht
    obtain ⟨f, rfl⟩ : ∃ q, f = q + 1 := ⟨f - 1, by omega⟩
    obtain ⟨f', rfl⟩ : ∃ q, f' = q + 1 := ⟨f' - 1, by omega⟩
    rw [f_X7_serveBatch_L, p3, if_pos (nI_le (Nat.le_refl _) (by omega)), f_X8_serves_L68, h10, if_pos (nI_le (Nat.le_refl _) (by omega))]
    refine ⟨s, m, rfl, rfl, MR.rf m, hS, hI, hR.more (by omega), ?_⟩
    rw [if_pos rfl, sQ_congr (Q := fun _ => false) _ _ (fun i _ _ => Nat.zero_testBit _), sQ_0]
    grind
  intro N
  induction N with
  | zero =>
    intro t f f' b S o s m hN hcr hf hf' hS hb7 htc hlen hol h10 hli hSt hCu hop haw hI hR hb
    have : S = 0 := crd_0 hS (by omega)
    subst this
    have hl : (ordL r d 0 o 0 (lfT r d 0 o)).length = 0 := rfl
    exact fin 0 t f f' b o s m hf hf' (by omega) h10 hSt hI hR
  | succ N ih =>
    intro t f f' b S o s m hN hcr hf hf' hS hb7 htc hlen hol h10 hli hSt hCu hop haw hI hR hb
    by_cases hS0 : S = 0
    · subst hS0
      have hl : (ordL r d (N + 1) o 0 (lfT r d 0 o)).length = 0 := by rw [ordL, if_pos rfl]; rfl
      exact fin (N + 1) t f f' b o s m hf hf' (by omega) h10 hSt hI hR
    · obtain ⟨i0, i1, i2⟩ := ex_bit hS0 hS
      have bo := opt_b hI0 hd hS hb7 i2
      have bs := stp_le hI0 hd hop (hb7 i0 i2)
      obtain ⟨x1, y, y1, y2, y3⟩ := mnS_min (s := S) (f := fun q => stp r d o q + opt (swN r d) (S ^^^ 2 ^ q) (S ^^^ 2 ^ q) q) (acc := 2147483647) (i := i0) i1 i2 (by show stp r d o i0 + _ ≤ _; omega)
      obtain ⟨q, hq⟩ := nxS_some (r := r) (d := d) (o := o) (S := S) (x := lfT r d S o) y2 y3.symm 10 0 (by omega) (by omega)
      obtain ⟨v1, v2⟩ := nxS_val 10 0 q hq
      have hq7 := hb7 q v1
      have hcons := ord_cons (N := N) hS0 hq
      rw [hcons, List.length_cons] at hlen
      have htlt : t < c := by omega
      obtain ⟨f, rfl⟩ : ∃ q, f = q + 1 := ⟨f - 1, by omega⟩
      obtain ⟨f', rfl⟩ : ∃ q, f' = q + 1 := ⟨f' - 1, by omega⟩
      have hot : ol t = q := by
        have := hol 0 (by omega)
        rw [hcons] at this
        exact this
      have n6 := hSt.n (i := 6) (nmec (by omega))
      have n7 := hSt.n (i := 7) (nmec (by omega))
      have n9 := hSt.n (i := 9) (nmec (by omega))
      have n16 := hSt.n (i := 16) (nmec (by omega))
      have hne : ∀ e, e < nv (m 30 0) 6 → m 30 0 (21 + e) ≠ nI q := fun e he => haw q v1 e (by omega)
      obtain ⟨m1, a1, a2, a3⟩ := n_brings rfl hI (p := q) (d := d) (by omega) (by omega)
      have cb := c_bringInto hI hR (p := q) (d := d) (by omega) (by omega) (hne d (by omega))
      obtain ⟨j1, j2⟩ := br_step hI hR (p := q) (d := d) (by omega) (by omega) hne
      have d6 : nv (br0 (m 30 0) q d) 6 = nv (m 30 0) 6 := nv_eq (by unfold br0; simp (disch := omega) only [rup_ne])
      obtain ⟨k1, k2⟩ := use_step j1 j2 (by omega) (d := d) (by omega)
      obtain ⟨w1, w2, w3⟩ := use_rows d (by omega) (br0 (m 30 0) q d)
      have rw1 : ∀ i, i ≠ 11 → i ≠ 12 → i ≠ 13 → i ≠ 14 → i ≠ 15 → i ≠ 21 + d → i ≠ 25 + d → m1 30 0 i = m 30 0 i := fun i z1 z2 z3 z4 z5 z6 z7 => by
        rw [a3, w1 i z5 z7]
        unfold br0
        simp (disch := assumption) only [rup_ne]
      have r11 : m1 30 0 11 = m 30 0 (17 + d) := by
        rw [a3, w1 11 (by omega) (by omega)]
        unfold br0
        simp (disch := omega) only [rup_ne, rup_hit]
      have r12 : m1 30 0 12 = m 30 0 12 + nI (btm (m 30 0) q d) := by
        rw [a3, w1 12 (by omega) (by omega)]
        unfold br0
        simp (disch := omega) only [rup_ne, rup_hit]
      have r21 : m1 30 0 (21 + d) = nI q := by
        rw [a3, w1 (21 + d) (by omega) (by omega)]
        unfold br0
        simp (disch := omega) only [rup_ne, rup_hit]
      have n9' : nv (m1 30 0) 9 = nv (m 30 0) 9 := nv_eq (rw1 9 (by omega) (by omega) (by omega) (by omega) (by omega) (by omega) (by omega))
      have hSt1 : Stc r (m1 30 0) := fun i hi => by
        unfold mec at hi
        rw [rw1 i (by omega) (by omega) (by omega) (by omega) (by omega) (by omega) (by omega)]
        exact hSt i hi
      have hI1 : Inv (m1 30 0) := by rw [a3] at n9' ⊢; exact inv_of k1 n9'
      have hR1 : Rel (b + 1) (usC (brC s q d (nI (btm (m 30 0) q d)) (nI (mvs (m 30 0) q d))) d) (m1 30 0) := by rw [a3] at n9' ⊢; exact rel_of k2 n9'
      obtain ⟨s2, m2, c1, c2, c3, c4, c5, c6, c7, -⟩ := rd_loop (r0 := r) hd (p := q) (by omega) (nv r 16) 0 fuel fuel (b + 1) _ m1 (by omega) (by unfold fuel; omega) (by unfold fuel; omega) (by omega) hSt1 r21 hI1 hR1
      rw [nI_0] at c1 c2
      have hbc := btm_cur hSt (by omega) hCu q
      have hx := xo_lt v1
      obtain ⟨cr1, -, -⟩ := crd_all S hS q (by omega) v1
      have hSt2 : Stc r (m2 30 0) := fun i hi => by
        unfold mec at hi
        rw [c6 i (by omega) (by omega) (by omega)]
        exact hSt1 i hi
      have hli1 : ∀ u, u < c → ∃ i, i < 10 ∧ m2 35 0 u = nI i ∧ m2 34 0 i = nI (ol u) := fun u hu => by
        obtain ⟨i, i1, i2, i3⟩ := hli u hu
        exact ⟨i, i1, by rw [c3 _ _ _ (by omega), a2 _ _ _ (by omega)]; exact i2, by rw [c3 _ _ _ (by omega), a2 _ _ _ (by omega)]; exact i3⟩
      obtain ⟨s3, m3, e1, e2, e3, e4, e5, e6, e7⟩ := ih (t + 1) f f' (b + 1 + nv r 16) (S ^^^ 2 ^ q) (some q) s2 m2 (by omega) (by omega) (by omega) (by omega) (by omega) (fun p hp => hb7 p (xo_sub (fun i h => h) v1 p hp)) (by omega) (by omega) (fun u hu => by
          have := hol (u + 1) (by omega)
          rw [hcons, List.getD_cons_succ] at this
          rw [← this]
          congr 1
          omega) (by rw [c3 _ _ _ (by omega), a2 _ _ _ (by omega)]; exact h10) hli1 hSt2 ⟨by
            rw [c6 11 (by omega) (by omega) (by omega), r11]
            exact hSt _ (nmec (by omega)), by
            rw [c6 (21 + d) (by omega) (by omega) (by omega)]
            exact r21, by omega⟩ (fun p hp => by cases hp; exact hq7) (fun p hp e he => by
          rw [c6 (21 + e) (by omega) (by omega) (by omega)]
          have hpS := xo_sub (fun i h => h) v1 p hp
          by_cases ed : e = d
          · subst ed
            rw [r21]
            intro z
            have hp7 := hb7 p hpS
            rw [nI_eq (by omega) (by omega)] at z
            subst z
            have := xo_off v1
            rw [this] at hp
            cases hp
          · rw [rw1 (21 + e) (by omega) (by omega) (by omega) (by omega) (by omega) (by omega) (by omega)]
            exact haw p hpS e he) c4 c5 (by omega)
      refine ⟨s3, m3, ?_, ?_, a2.tr (c3.tr e3), e4, e5, e6.more (by omega), ?_⟩
      · rw [f_X7_serveBatch_L, p3, if_neg (by rw [nI_leI (by omega) (by omega)]; omega), p4]
        simp (disch := omega) only [xl, xg, vinT, nI_clamp, ra]
        rw [p25 t htlt, hot, cb, xb]
        unfold f_X4_readRequestsIn
        rw [c1, xb]
        exact e1
      · obtain ⟨i, i1, i2, i3⟩ := hli t htlt
        have i4 : m1 35 0 t = nI i := by rw [a2 _ _ _ (by omega)]; exact i2
        have i5 : m1 34 0 i = nI (ol t) := by rw [a2 _ _ _ (by omega)]; exact i3
        rw [f_X8_serves_L68, h10, if_neg (by rw [nI_leI (by omega) (by omega)]; omega)]
        simp (disch := omega) only [xl, xg, vinT, nI_clamp, ra]
        rw [i2]
        simp (disch := omega) only [xg, vinT, nI_clamp]
        rw [i3, hot, a1, xb, i4]
        simp (disch := omega) only [xg, vinT, nI_clamp]
        rw [i5, hot]
        unfold f_X8_readsFrom
        rw [c2, xb]
        exact e2
      · rw [e7, c7, r12, hbc, if_neg hS0, ← v2, ← nI_add, sQ_add (P := fun y => decide (y = q)) (Q := fun p => (S ^^^ 2 ^ q).testBit p) (R := fun p => S.testBit p) (nv r 16) 0 (fun i h1 h2 => ?_)]
        · by_cases z : S ^^^ 2 ^ q = 0
          · rw [if_pos z, z]
            show _ = _ + (nI (stp r d o q) + 0 + _)
            grind
          · rw [if_neg z, opt_un z]
            show _ = _ + (nI (stp r d o q) + nI (lfT r d (S ^^^ 2 ^ q) (some q)) + _)
            grind
        · rw [tb_x]
          by_cases z : pq r i = q
          · rw [z, v1, decide_eq_true (rfl : q = q)]
            exact ⟨rfl, fun h => by cases h.2⟩
          · rw [decide_eq_false z, decide_eq_false (fun y => z y.symm), Bool.xor_false, Bool.false_or]
            exact ⟨rfl, fun h => by cases h.1⟩
end SRV
end
section
/-! Layer 2: serves of both -/
section SVB
variable {b d : Nat} {sd md s m : SD} {r r' : RW}
theorem stp_same (h1 : ∀ q, btm r' q d = btm r q d) (h2 : swN r' d = swN r d) : stp r' d = stp r d := by
  funext o q
  cases o with
  | none => exact h1 q
  | some p => show swN r' d p q = swN r d p q; rw [h2]
theorem nxS_same (h1 : stp r' d = stp r d) (h2 : swN r' d = swN r d) (o : Option Nat) (S x : Nat) : ∀ n q, nxS r' d o S x n q = nxS r d o S x n q
  | 0, _ => rfl
  | n + 1, q => by
    unfold nxS
    rw [h1, h2, nxS_same h1 h2 o S x n (q + 1)]
theorem ordL_same (h1 : stp r' d = stp r d) (h2 : swN r' d = swN r d) : ∀ (n : Nat) (o : Option Nat) (S x : Nat), ordL r' d n o S x = ordL r d n o S x
  | 0, _, _, _ => rfl
  | n + 1, o, S, x => by
    unfold ordL
    rw [nxS_same h1 h2, h2]
    by_cases z : S = 0
    · rw [if_pos z, if_pos z]
    · rw [if_neg z, if_neg z]
      cases nxS r d o S x 10 0 with
      | none => rfl
      | some q =>
        simp only
        rw [ordL_same h1 h2]
theorem lst_same (h1 : ∀ q, btm r' q d = btm r q d) (h2 : swN r' d = swN r d) (S : Nat) : lst r' d S = lst r d S := by
  unfold lst
  rw [h2]
  congr 1
  funext q
  rw [h1]
theorem swN_st (h : Stc r r') (hd : d < 4) : swN r' d = swN r d := by
  funext p q
  unfold swN bwN
  rw [h.n (nmec (i := 17 + d) (by omega)), h.n (nmec (i := 29 + p) (by omega)), h.n (nmec (i := 29 + q) (by omega)), h.n (nmec (i := 1) (by omega)), h.n (nmec (i := 2) (by omega)), h.n (nmec (i := 3) (by omega))]
theorem freQ_row (u : Nat → Nat) (h6 : nv r' 6 = nv r 6) (h : ∀ d, d < nv r 6 → r' (21 + d) = r (21 + d)) : freQ r' u = freQ r u := by
  have e : empQ r' = empQ r := by
    show fst _ (nv r' 6) 0 = fst _ (nv r 6) 0
    rw [h6]
    exact fst_congr0 (fun e he => by rw [h e he])
  unfold freQ
  rw [e, h6]
theorem clear_step (hI : Inv r) (hR : Rel b s r) : Inv (rup r 16 0) ∧ Rel b (upS s 4 0 13 0) (rup r 16 0) := by
  obtain ⟨h1, h2⟩ := req_step (r' := rup r 16 0) (sd' := upS s 4 0 13 0) (Q := 0) hI hR (by omega) (fun i h _ => rup_ne h) (rup_hit _ _ _) (fun k hk => absurd hk (Nat.not_lt_zero _)) (fun k j t _ n2 => by unfold upS; rw [if_neg n2]) (upS_hit _ _ _ _ _) (fun k hk => absurd hk (Nat.not_lt_zero _))
  have n9 : nv (rup r 16 0) 9 = nv r 9 := nv_eq (rup_ne (by omega))
  exact ⟨inv_of h1 n9, rel_of h2 n9⟩
theorem sQ_all (hI : Inv r) : sQ r (fun _ => true) (nv r 16) 0 = sQ r (hb r (nv r 6)) (nv r 16) 0 + sQ r (fun p => (awS r (-1)).testBit p) (nv r 16) 0 := by
  have l7 := hI.l7
  refine sQ_add _ _ (fun i _ h2 => ?_)
  have hp := pq_lt hI (q := i) (by omega)
  have ha : anQ r (pq r i) (nv r 16) 0 = true := (anQ_iff r _ _ _).mpr ⟨i, by omega, h2, rfl⟩
  have hw := aw_not (p := pq r i) hI
  rcases holdQ_cases r (nI (pq r i)) with ⟨h, hn⟩ | ⟨e, e1, e2, e3⟩
  · have hf : hb r (nv r 6) (pq r i) = false := Bool.eq_false_iff.mpr (fun z => by
      obtain ⟨e, e1, e2⟩ := (hb_iff r _ _).mp z
      exact hn e e1 e2)
    rw [hf, hw.mpr ⟨ha, h⟩]
    exact ⟨rfl, fun h => by cases h.1⟩
  · have ht : hb r (nv r 6) (pq r i) = true := (hb_iff r _ _).mpr ⟨e, e1, e3⟩
    have hf : (awS r (-1)).testBit (pq r i) = false := Bool.eq_false_iff.mpr (fun z => by
      have := (hw.mp z).2
      rw [e2, nm1 (by have := hI.l6; omega)] at this
      exact this)
    rw [ht, hf]
    exact ⟨rfl, fun h => by cases h.2⟩
/-- the order of the batch -/
def olQ (r : RW) (d : Nat) : List Nat := ordL r d 10 none (awS r (-1)) (lst r d (awS r (-1)))
theorem aw0 (hI : Inv r) (h : (wlQ r).length = 0) : awS r (-1) = 0 := Nat.eq_of_testBit_eq (fun p => by
  rw [Nat.zero_testBit]
  refine Bool.eq_false_iff.mpr (fun z => ?_)
  obtain ⟨i, i1, -⟩ := (wlQ_WO hI).2.2.2 p z
  omega)
theorem serve_both (hr : m 30 0 = r) (hI : Inv r) (hR : Rel b s r) (hb' : b < 2 ^ 27) (h0 : 0 < nv r 6) (hd : d < nv r 6) (hfr : freQ r (useC s (mkF r (-1) (nv r 16) 0 0)) = nI d) {pd : SD} (p3 : pd 2 0 3 = nI (olQ r d).length) (p4 : pd 2 0 4 = nI d) (p25 : ∀ t, t < (olQ r d).length → pd 25 0 t = nI ((olQ r d).getD t 0)) : ∃ s1 s2 m', f_X4_readInDrives s = some s1 ∧ f_X7_serveBatch_L pd fuel s1 0 = some s2 ∧ f_X8_serves m = some m' ∧ MX m m' ∧ Inv (m' 30 0) ∧ Rel (b + 256) (upS s2 4 0 13 0) (m' 30 0) ∧ m' 30 0 12 = r 12 + (rtF r (-1) (nv r 16) 0 0 + (if awS r (-1) = 0 then 0 else nI (lst r d (awS r (-1))))) ∧ m' 8 0 10 = nI (olQ r d).length ∧ (∀ u, u < (olQ r d).length → ∃ i, i < 10 ∧ m' 35 0 u = nI i ∧ m' 34 0 i = nI ((olQ r d).getD u 0)) ∧ (olQ r d).length = (wlQ r).length := by
  have l6 := hI.l6
  have l7 := hI.l7
  have l16 := hI.l16
  obtain ⟨m1, a1, a2, a3, a4⟩ := m_findsWanted hr hI
  have r1 : m1 30 0 = r := by rw [← hr]; funext t; exact a2 _ _ _ (by omega) (by omega)
  have hX1 : MX m m1 := fun k j t _ z2 => a2 k j t (by omega) (by omega)
  obtain ⟨s1, m2, b1, b2, b3, b4, b5, b6, b7, b8⟩ := in_loop hI (s0 := s) (nv r 6) 0 fuel fuel b s m1 (by omega) (by unfold fuel; omega) (by unfold fuel; omega) (by omega) (fun i _ _ _ => by rw [r1]) (by rw [r1]; exact hI) (by rw [r1]; exact hR) ⟨Nat.le_refl _, fun e he => absurd he (Nat.not_lt_zero _), fun _ _ => rfl, fun e e' _ he => absurd he (Nat.not_lt_zero _)⟩ (by
    rw [r1, sQ_congr (Q := fun _ => false) _ _ (fun i _ _ => rfl), sQ_0]
    grind)
  rw [nI_0] at b1 b2
  have hsv : f_X8_serves m = svT m2 := by
    unfold f_X8_serves
    rw [a1, xb]
    exact b2
  have hin : f_X4_readInDrives s = some s1 := b1
  have hW := wlQ_WO hI
  have lw := hW.1
  have h10 : m2 8 0 10 = nI (wlQ r).length := by rw [b3 _ _ _ (by omega)]; exact a3
  have h34 : ∀ i, i < (wlQ r).length → m2 34 0 i = nI ((wlQ r).getD i 0) := fun i hi => by rw [b3 _ _ _ (by omega)]; exact a4 i hi
  have hsum := sQ_all hI
  have hrt := rtF_sQ (r := r) (nv r 16) 0 0 (by omega)
  by_cases hz : (wlQ r).length = 0
  · have hS := aw0 hI hz
    have hol : olQ r d = [] := by
      unfold olQ
      rw [hS, ordL, if_pos rfl]
    obtain ⟨j1, j2⟩ := clear_step b5 b6
    refine ⟨s1, s1, upS m2 30 0 16 0, hin, ?_, ?_, hX1.tr (b3.mx.up (by omega)), by rw [row_up]; exact j1, by rw [row_up]; exact j2.more (by omega), ?_, ?_, ?_, ?_⟩
    · rw [show fuel = 19999 + 1 from rfl, f_X7_serveBatch_L, p3, hol, if_pos (show nI ([] : List Nat).length ≤ 0 from nI_le (a := 0) (b := 0) (Nat.le_refl _) (by omega))]
    · rw [hsv]
      unfold svT
      rw [h10, hz, if_pos (show nI 0 ≤ 0 from nI_le (a := 0) (b := 0) (Nat.le_refl _) (by omega))]
    · rw [row_up, rup_ne (by omega), b8, hS, if_pos rfl, hrt, hsum, hS, sQ_congr (P := fun p => (0 : Nat).testBit p) (Q := fun _ => false) _ _ (fun i _ _ => Nat.zero_testBit _), sQ_0]
      grind
    · rw [upS_k (by omega), h10, hz, hol]; rfl
    · intro u hu
      rw [hol] at hu
      exact absurd hu (Nat.not_lt_zero _)
    · rw [hol, hz]; rfl
  · have hU := b6.useN (by omega)
    have n6 := b4.stc.n (i := 6) (nmec (by omega))
    have n7 := b4.stc.n (i := 7) (nmec (by omega))
    have hfree : f_X8_freeDrive m2 = some (nI d) := by
      rw [m_freeDrive rfl b5 hU (by omega), freQ_row _ n6 (fun e he => b4 _ (by omega) (by omega) (by omega)), ← hfr, ← UQ.free hI hR rfl b7 h0]
      congr 1
      refine freQ_congr (fun e e' he he' => ?_) h0
      exact (b6.us.2.2.2 e e' (by omega) (by omega)).symm
    have hCu : Cur r (m2 30 0) d none := ⟨b4 _ (by omega) (by omega) (by omega), b4 _ (by omega) (by omega) (by omega)⟩
    have eb : ∀ q, btm (m2 30 0) q d = btm r q d := fun q => btm_cur b4.stc (by omega) hCu q
    have es := swN_st b4.stc (d := d) (by omega)
    obtain ⟨m3, c1, c2, c3, c4⟩ := m_findsOrder (md := m2) rfl b5 (by rw [n7]; exact hW) h34 h10 (d := d) (by omega)
    rw [ordL_same (stp_same eb es) es, lst_same eb es] at c3
    have hlen : (olQ r d).length = (wlQ r).length := c3
    have r3 : m3 30 0 = m2 30 0 := by funext t; exact c2 _ _ _ (by omega) (by omega)
    have c4' : ∀ u, u < (olQ r d).length → ∃ i, i < 10 ∧ m3 35 0 u = nI i ∧ m3 34 0 i = nI ((olQ r d).getD u 0) := fun u hu => by
      obtain ⟨i, i1, i2, i3⟩ := c4 u (by omega)
      rw [ordL_same (stp_same eb es) es, lst_same eb es] at i3
      have i3' : (olQ r d).getD u 0 = (wlQ r).getD i 0 := i3
      exact ⟨i, by omega, i2, by rw [c2 _ _ _ (by omega) (by omega), i3']; exact h34 i i1⟩
    have hlt := awS_lt hI (-1)
    obtain ⟨s2, m4, e1, e2, e3, e4, e5, e6, e7⟩ := br_loop hI hd (c := (olQ r d).length) (ol := fun u => (olQ r d).getD u 0) (by omega) p3 p4 p25 10 0 fuel fuel (b + 16 * nv r 6) (awS r (-1)) none s1 m3 (by omega) (crd_le hlt) (by unfold fuel; omega) (by unfold fuel; omega) hlt (awS_lt7 hI (-1)) (by omega) (by rw [Nat.sub_zero]; rfl) (fun u hu => by rw [Nat.zero_add]; rfl) (by rw [c2 _ _ _ (by omega) (by omega), hlen]; exact h10) c4' (by rw [r3]; exact b4.stc) (by rw [r3]; exact hCu) (fun p hp => by cases hp) (fun p hp e he => by
      rw [r3, b4 _ (by omega) (by omega) (by omega)]
      exact hold_ne hI ((aw_not hI).mp hp).2 e he) (by rw [r3]; exact b5) (by rw [r3]; exact b6) (by omega)
    rw [nI_0] at e1 e2
    obtain ⟨j1, j2⟩ := clear_step e5 e6
    have hS0 : awS r (-1) ≠ 0 := fun z => by
      have := (hW.2.1 0 (by omega)).1
      rw [z, Nat.zero_testBit] at this
      cases this
    refine ⟨s1, s2, upS m4 30 0 16 0, hin, e1, ?_, hX1.tr (b3.mx.tr (MX.tr (fun k j t _ z2 => c2 k j t (by omega) (by omega)) (e3.mx.up (by omega)))), by rw [row_up]; exact j1, by rw [row_up]; exact j2.more (by omega), ?_, ?_, ?_, hlen⟩
    · rw [hsv]
      unfold svT
      rw [h10, if_neg (fun h => by rw [← nI_0, nI_leI (by omega) (by omega)] at h; omega), hfree, xb, c1, xb, e2, xb]
    · rw [row_up, rup_ne (by omega), e7, r3, b8, hrt, hsum, if_neg hS0, if_neg hS0]
      show _ + _ + (nI (lst r d (awS r (-1))) + _) = _
      grind
    · rw [upS_k (by omega), e3 _ _ _ (by omega), c2 _ _ _ (by omega) (by omega), hlen]; exact h10
    · intro u hu
      obtain ⟨i, i1, i2, i3⟩ := c4' u hu
      exact ⟨i, i1, by rw [upS_k (by omega), e3 _ _ _ (by omega)]; exact i2, by rw [upS_k (by omega), e3 _ _ _ (by omega)]; exact i3⟩
end SVB
end
section
/-! Layer 2: batchTime, batchExchanges, batchPlatter, serveBatch -/
section BQ
variable {b d : Nat} {cs : CT} {m s : SD} {r : RW}
theorem JJ.plan (h : JJ b cs m) {pd' : SD} (hP : pd' 2 0 5 = -1 ∨ PTok pd' (m 30 0)) : JJ b (kP cs pd') m := by
  obtain ⟨h1, h2, h3, h4, h5, h6, h7⟩ := h
  exact ⟨h1, h2, h3, h4, h5, h6, Or.inr hP⟩
theorem ready_JJ (h : JJ b cs m) : ∃ (pi : Nat) (c1 : CT), f_X7_readyPlanner cs = some (pi, c1) ∧ JJ b c1 m ∧ k_pl c1 = some pi ∧ k_xs c1 (k_st c1) = k_xs cs (k_st cs) ∧ (k_pd c1 2 0 5 = -1 ∨ PTok (k_pd c1) (m 30 0)) := by
  unfold f_X7_readyPlanner
  cases e : k_pl cs with
  | some pi =>
    refine ⟨pi, cs, rfl, h, e, rfl, ?_⟩
    obtain ⟨-, -, -, -, -, -, h7⟩ := h
    rcases h7 with z | z
    · rw [e] at z; cases z
    · exact z
  | none =>
    obtain ⟨h1, h2, h3, ⟨d1, d2, d3, d4, d5, d6⟩, h5, h6, h7⟩ := h
    have e5 : pd0 2 0 5 = -1 := rfl
    refine ⟨_, _, rfl, ⟨h1, h2, h3, ⟨d1, d2, d3, ?_, ?_, fun t q hq => ?_⟩, h5, h6, Or.inr (Or.inl e5)⟩, rfl, rfl, Or.inl e5⟩
    · show k_st cs < k_sz cs + 4
      omega
    · show k_sp cs < k_sz cs + 4
      omega
    · have := d6 t q hq
      show q < k_sz cs + 4
      omega
theorem m_back2 {m2 : SD} (h : MX (trM m) m2) : ∃ m3, f_X8_takesBack m2 = some (m2 30 0 12 - m 30 0 12, m3) ∧ MSame m m3 ∧ ∀ k j t, k ≠ 30 → m3 k j t = m2 k j t := by
  obtain ⟨m3, e1, e2⟩ := m_back h
  refine ⟨m3, e1, e2, fun k j t hk => ?_⟩
  unfold f_X8_takesBack at e1
  rw [m_copies m2 (by decide)] at e1
  simp only [xl, xb] at e1
  have := (Prod.mk.inj (Option.some.inj e1)).2
  rw [← this]
  unfold cpM
  rw [if_neg (by omega)]
/-- a plan by hand -/
def pdL (d : Nat) (l : List Nat) : SD := fun k _ t => if k = 2 then (if t = 3 then nI l.length else nI d) else nI (l.getD t 0)
theorem m_servingTime (hr : m 30 0 = r) (hI : Inv r) (hR : Rel b s r) (hb : b < 2 ^ 27) (h0 : 0 < nv r 6) (hd : d < nv r 6) (hfr : freQ r (useC s (mkF r (-1) (nv r 16) 0 0)) = nI d) : ∃ m3, f_X8_servingTime m = some (rtF r (-1) (nv r 16) 0 0 + (if awS r (-1) = 0 then 0 else nI (lst r d (awS r (-1)))), m3) ∧ MSame m m3 ∧ m3 8 0 10 = nI (olQ r d).length ∧ (∀ u, u < (olQ r d).length → ∃ i, i < 10 ∧ m3 35 0 u = nI i ∧ m3 34 0 i = nI ((olQ r d).getD u 0)) ∧ (olQ r d).length = (wlQ r).length := by
  have hrow := trM_row m
  obtain ⟨s1, s2, m2, a1, a2, a3, a4, a5, a6, a7, a8, a9, a10⟩ := serve_both (m := trM m) (hrow.trans hr) hI hR hb h0 hd hfr (pd := pdL d (olQ r d)) rfl rfl (fun t _ => rfl)
  obtain ⟨m3, b1, b2, b3⟩ := m_back2 a4
  refine ⟨m3, ?_, b2, by rw [b3 _ _ _ (by omega)]; exact a8, fun u hu => ?_, a10⟩
  · unfold f_X8_servingTime
    rw [m_tries, xb, a3, xb, b1, xb, a7, hr, i32_back]
  · obtain ⟨i, i1, i2, i3⟩ := a9 u hu
    exact ⟨i, i1, by rw [b3 _ _ _ (by omega)]; exact i2, by rw [b3 _ _ _ (by omega)]; exact i3⟩
theorem st_batchTime (hJ : JJ b cs m) (hb : b < 2 ^ 27) : ST b (f_X7_batchTime cs) (f_X8_batchTime m) := by
  obtain ⟨m1, e1, r1, s1⟩ := thr m
  have hJ1 := hJ.same s1
  obtain ⟨hI, hR, -, -, -⟩ := hJ.same s1
  unfold f_X7_batchTime f_X8_batchTime
  rw [c_batchProblem hI hR, xb, xl, e1, m_whyNotServed rfl hI, xb]
  by_cases z : bpV (m1 30 0) 1 = 0
  · obtain ⟨-, h06⟩ := bpV_0 hI z
    obtain ⟨pi, c1, q1, q2, q3, q4, q5⟩ := ready_JJ hJ1
    obtain ⟨d, pd', d1, d2, d3, d4, -⟩ := c_timeWithout hI hR (by omega) h06 q5 (-1)
    obtain ⟨m3, f1, f2, -⟩ := m_servingTime rfl hI hR hb h06 d1 d2
    rw [if_pos z, if_pos z, q1, xb]
    simp only
    rw [q4, d3, xb, f1, xb]
    exact ⟨_, _, m3, rfl, rfl, (q2.plan d4).same f2⟩
  · rw [if_neg z, if_neg z]
    exact ⟨_, _, _, rfl, rfl, hJ1⟩
/-- the plan of the class, and what it says -/
theorem plan_JJ (hJ : JJ b cs m) (hb : b < 2 ^ 27) (z : bpV (m 30 0) 1 = 0) : ∃ (pi : Nat) (c1 : CT) (d : Nat), f_X7_planBatch cs = some (0, c1) ∧ JJ b c1 m ∧ k_pl c1 = some pi ∧ k_xs c1 (k_st c1) = k_xs cs (k_st cs) ∧ d < nv (m 30 0) 6 ∧ freQ (m 30 0) (useC (k_xs cs (k_st cs)) (mkF (m 30 0) (-1) (nv (m 30 0) 16) 0 0)) = nI d ∧ k_pd c1 2 0 4 = nI d ∧ k_pd c1 2 0 3 = nI (olQ (m 30 0) d).length ∧ ∀ t, t < (olQ (m 30 0) d).length → k_pd c1 25 0 t = nI ((olQ (m 30 0) d).getD t 0) := by
  have hI : Inv (m 30 0) := hJ.1
  have hR : Rel b (k_xs cs (k_st cs)) (m 30 0) := hJ.2.1
  obtain ⟨-, h06⟩ := bpV_0 hI z
  obtain ⟨pi, c1, q1, q2, q3, q4, q5⟩ := ready_JJ hJ
  obtain ⟨d, pd', d1, d2, d3, d4, d5, d6, d7⟩ := c_planOrder hI hR (by omega) h06 q5
  refine ⟨pi, kP c1 pd', d, ?_, q2.plan d4, q3, q4, d1, d2, d5, d6, d7⟩
  unfold f_X7_planBatch
  rw [c_batchProblem hI hR, xb, if_pos z, q1, xb]
  simp only
  rw [q4, d3, xb, z]
theorem planBatch_no (hJ : JJ b cs m) (z : ¬ bpV (m 30 0) 1 = 0) : f_X7_planBatch cs = some (bpV (m 30 0) 1, cs) := by
  obtain ⟨hI, hR, -, -, -⟩ := hJ
  unfold f_X7_planBatch
  rw [c_batchProblem hI hR, xb, if_neg z]
theorem st_batchExchanges (hJ : JJ b cs m) (hb : b < 2 ^ 27) : ST b (f_X7_batchExchanges cs) (f_X8_batchExchanges m) := by
  obtain ⟨m1, e1, r1, s1⟩ := thr m
  have hJ1 := hJ.same s1
  obtain ⟨hI, hR, -, -, -⟩ := hJ.same s1
  unfold f_X7_batchExchanges f_X8_batchExchanges
  rw [xl, e1, m_whyNotServed rfl hI, xb]
  by_cases z : bpV (m1 30 0) 1 = 0
  · obtain ⟨-, h06⟩ := bpV_0 hI z
    obtain ⟨pi, c1, d, q1, q2, q3, q4, q5, q6, q7, q8, q9⟩ := plan_JJ hJ1 hb z
    obtain ⟨-, -, -, -, -, f5⟩ := m_servingTime rfl hI hR hb h06 q5 q6
    obtain ⟨m3, g1, g2, g3, -⟩ := m_findsWanted (md := m1) rfl hI
    rw [q1, xb, if_pos rfl, if_pos z, g1, xb]
    simp only
    rw [q3, xb, q8, g3, f5]
    refine ⟨_, _, m3, rfl, rfl, q2.same (fun k j t hs => g2 k j t ?_ ?_)⟩
    · unfold scr at hs; omega
    · unfold scr at hs; omega
  · rw [planBatch_no hJ1 z, xb, if_neg z, if_neg z]
    exact ⟨_, _, _, rfl, rfl, hJ1⟩
theorem st_batchPlatter (hJ : JJ b cs m) (hb : b < 2 ^ 27) (a : Int32) : ST b (f_X7_batchPlatter cs a) (f_X8_batchPlatter m a) := by
  obtain ⟨m1, e1, r1, s1⟩ := thr m
  have hJ1 := hJ.same s1
  obtain ⟨hI, hR, -, -, -⟩ := hJ.same s1
  unfold f_X7_batchPlatter f_X8_batchPlatter
  rw [xl, e1, m_whyNotServed rfl hI, xb]
  by_cases z : bpV (m1 30 0) 1 = 0
  · obtain ⟨-, h06⟩ := bpV_0 hI z
    obtain ⟨pi, c1, d, q1, q2, q3, q4, q5, q6, q7, q8, q9⟩ := plan_JJ hJ1 hb z
    obtain ⟨m3, f1, f2, f3, f4, f5⟩ := m_servingTime rfl hI hR hb h06 q5 q6
    have hl := (wlQ_WO hI).1
    have hl2 : (olQ (m1 30 0) d).length < 2 ^ 31 := by omega
    rw [q1, xb, if_pos rfl, if_pos z, f1, xb]
    simp only
    rw [q3, xb, q8, f3, isIn0 a hl2, xb]
    rcases hasV_cases a hl2 with h | ⟨h, j, hj, rfl⟩
    · rw [h, if_pos rfl]
      refine ⟨-1000001, c1, m3, ?_, rfl, q2.same f2⟩
      by_cases y : a < 0
      · rw [if_pos y]
      · rw [if_neg y, if_neg]
        intro w
        unfold hasV at h
        rw [if_neg y, if_neg (fun v => i32_lt_le.mpr v w)] at h
        exact absurd h i1
    · obtain ⟨i, g1, g2, g3⟩ := f4 j hj
      rw [h, if_neg i1, if_neg (nI_pos (by omega)), if_pos ((nI_ltI (by omega) (by omega)).mpr hj)]
      simp (disch := omega) only [xg, vinT, nI_clamp]
      rw [g2]
      simp (disch := omega) only [xg, vinT, nI_clamp]
      rw [g3, q9 j hj]
      exact ⟨_, _, m3, rfl, rfl, q2.same f2⟩
  · rw [planBatch_no hJ1 z, xb, if_neg z, if_neg z]
    exact ⟨_, _, _, rfl, rfl, hJ1⟩
theorem st_serveBatch (hJ : JJ b cs m) (hb : b < 2 ^ 27) : ST (b + 256) (f_X7_serveBatch cs) (f_X8_serveBatch m) := by
  obtain ⟨m1, e1, r1, s1⟩ := thr m
  have hJ1 := hJ.same s1
  obtain ⟨hI, hR, -, -, -⟩ := hJ.same s1
  unfold f_X7_serveBatch f_X8_serveBatch
  rw [xl, e1, m_whyNotServed rfl hI, xb]
  by_cases z : bpV (m1 30 0) 1 = 0
  · obtain ⟨-, h06⟩ := bpV_0 hI z
    obtain ⟨pi, c1, d, q1, q2, q3, q4, q5, q6, q7, q8, q9⟩ := plan_JJ hJ1 hb z
    obtain ⟨c2, m2, f1, k1, g1, g2, hrow, -, hR0, hR1, hx, g3, g4, g5, g6, g7⟩ := edit_go q2 (MSame.rf m1)
    have hne : k_pl c1 ≠ none := by rw [q3]; simp
    have hpd := g6.2 hne
    have hpl : k_pl c2 = some pi := g6.1.trans q3
    have hx2 : k_xs c2 (k_st c2) = k_xs cs (k_st cs) := hx.trans q4
    obtain ⟨s1', s2, m3, a1, a2, a3, a4, a5, a6, -, -⟩ := serve_both (m := m2) hrow hI hR1 hb h06 q5 (by rw [hx2]; exact q6) (pd := k_pd c2) (by rw [hpd, upS_t (by omega)]; exact q8) (by rw [hpd, upS_t (by omega)]; exact q7) (fun t ht => by rw [hpd, upS_k (by omega)]; exact q9 t ht)
    rw [q1, xb, if_pos rfl, if_pos z, g1, xb, g2, xb]
    simp only [xl]
    rw [hpl, xb, a1, xb, a2, xb, a3, xb]
    refine ⟨_, _, m3, rfl, ?_, q2.edit (MSame.rf m1) (by omega) g3 g4 g5 g6 g7 a4 a5 a6⟩
    unfold f_X8_took
    rw [xb, a6.s15, hR1.s15, hrow]
  · rw [planBatch_no hJ1 z, xb, if_neg z, if_neg z]
    exact ⟨_, _, _, rfl, rfl, hJ1.more (by omega)⟩
end BQ
end
section
/-! Layer 2: leastTimeWithoutOne -/
theorem itr_off {σ : Type} {h : Nat → σ → σ} {q : Nat} : ∀ (n k : Nat) (s : σ), q < k → itr (fun k s => if k = q then s else h k s) n k s = itr h n k s
  | 0, _, _, _ => rfl
  | n + 1, k, s, hk => by
    unfold itr
    rw [if_neg (show ¬ k = q by omega)]
    exact itr_off n (k + 1) _ (by omega)
theorem itr_shift {σ : Type} {h : Nat → σ → σ} {q : Nat} : ∀ (n k : Nat) (s : σ), q ≤ k → itr (fun k s => h (if k < q then k else k + 1) s) n k s = itr h n (k + 1) s
  | 0, _, _, _ => rfl
  | n + 1, k, s, hk => by
    unfold itr
    rw [if_neg (show ¬ k < q by omega)]
    exact itr_shift n (k + 1) _ (by omega)
theorem itr_skip {σ : Type} {h : Nat → σ → σ} {q : Nat} : ∀ (n k : Nat) (s : σ), k ≤ q → q < k + n → itr (fun k s => if k = q then s else h k s) n k s = itr (fun k s => h (if k < q then k else k + 1) s) (n - 1) k s
  | 0, _, _, h1, h2 => by omega
  | n + 1, k, s, h1, h2 => by
    rw [Nat.add_sub_cancel]
    by_cases e : k = q
    · subst e
      rw [itr_shift n k s (Nat.le_refl _)]
      show itr _ n (k + 1) (if k = k then s else h k s) = itr h n (k + 1) s
      rw [if_pos rfl]
      exact itr_off (q := k) n (k + 1) s (by omega)
    · obtain ⟨n, rfl⟩ : ∃ x, n = x + 1 := ⟨n - 1, by omega⟩
      have ih := itr_skip (h := h) (q := q) (n + 1) (k + 1) (h k s) (by omega) (by omega)
      rw [Nat.add_sub_cancel] at ih
      show itr _ (n + 1) (k + 1) (if k = q then s else h k s) = itr _ n (k + 1) (h (if k < q then k else k + 1) s)
      rw [if_neg e, if_pos (show k < q by omega)]
      exact ih
section LT1
variable {b d : Nat} {cs : CT} {m s : SD} {r r' : RW}
/-- the steps of the three sums over the requests -/
def hAw (r : RW) (k s : Nat) : Nat := if holdQ r (nI (pq r k)) = -1 then s ||| 2 ^ pq r k else s
def hMk (r : RW) (k s : Nat) : Nat := if holdQ r (nI (pq r k)) = -1 then s else s ||| 2 ^ (holdQ r (nI (pq r k))).toNatClampNeg
def hRt (r : RW) (k : Nat) (s : Int32) : Int32 := s + rdT r (nv r (289 + nv r (589 + k)))
theorem awF_itr (r : RW) {a : Int32} : ∀ (n k s : Nat), awF r a n k s = itr (fun k s => if nI k = a then s else hAw r k s) n k s
  | 0, _, _ => rfl
  | n + 1, k, s => by
    unfold awF itr
    exact awF_itr r n (k + 1) _
theorem mkF_itr (r : RW) {a : Int32} : ∀ (n k s : Nat), mkF r a n k s = itr (fun k s => if nI k = a then s else hMk r k s) n k s
  | 0, _, _ => rfl
  | n + 1, k, s => by
    unfold mkF itr
    exact mkF_itr r n (k + 1) _
theorem rtF_itr (r : RW) {a : Int32} : ∀ (n k : Nat) (s : Int32), rtF r a n k s = itr (fun k s => if nI k = a then s else hRt r k s) n k s
  | 0, _, _ => rfl
  | n + 1, k, s => by
    unfold rtF itr
    exact rtF_itr r n (k + 1) _
theorem DV.n {q : Nat} (h : DV r r' q) {i : Nat} (h1 : i ≠ 16) (h2 : i < 589) : nv r' i = nv r i := nv_eq (h.1 i h1 (by omega))
theorem DV.q {q : Nat} (h : DV r r' q) {k : Nat} (hk : k < nv r 16 - 1) : nv r' (589 + k) = nv r (589 + (if k < q then k else k + 1)) := by
  refine nv_eq ?_
  rw [h.2.2 k hk]
  by_cases z : k < q
  · rw [if_pos z, if_pos z]
  · rw [if_neg z, if_neg z]
    rfl
theorem DV.hold {q : Nat} (h : DV r r' q) (hI : Inv r) (a : Int32) : holdQ r' a = holdQ r a := by
  have l6 := hI.l6
  show fst _ (nv r' 6) 0 = fst _ (nv r 6) 0
  rw [h.n (by omega) (by omega)]
  exact fst_congr0 (fun e he => by rw [h.1 _ (by omega) (by omega)])
theorem DV.pq {q : Nat} (h : DV r r' q) (hI : Inv r) {k : Nat} (hk : k < nv r 16 - 1) : nv r' (289 + nv r' (589 + k)) = nv r (289 + nv r (589 + (if k < q then k else k + 1))) ∧ pq r' k = pq r (if k < q then k else k + 1) := by
  have l9 := hI.l9
  have l10 := hI.l10
  obtain ⟨-, y2⟩ := hI.req (if k < q then k else k + 1) (by split <;> omega)
  obtain ⟨-, x2⟩ := hI.cur _ y2
  have e1 : nv r' (289 + nv r' (589 + k)) = nv r (289 + nv r (589 + (if k < q then k else k + 1))) := by
    rw [h.q hk, h.n (by omega) (by omega)]
  refine ⟨e1, ?_⟩
  show nv r' (349 + nv r' (289 + nv r' (589 + k))) = nv r (349 + nv r (289 + nv r (589 + (if k < q then k else k + 1))))
  rw [e1, h.n (by omega) (by omega)]
theorem DV.rd {q : Nat} (h : DV r r' q) {v : Nat} (hv : v < 40) : rdT r' v = rdT r v := by
  unfold rdT
  rw [h.1 4 (by omega) (by omega), h.1 (429 + v) (by omega) (by omega), h.1 (509 + v) (by omega) (by omega)]
/-- leaving a request out, or dropping it: the same sums -/
theorem DV.sums {q : Nat} (h : DV r r' q) (hI : Inv r) (hq : q < nv r 16) : awS r' (-1) = awS r (nI q) ∧ mkF r' (-1) (nv r' 16) 0 0 = mkF r (nI q) (nv r 16) 0 0 ∧ rtF r' (-1) (nv r' 16) 0 0 = rtF r (nI q) (nv r 16) 0 0 := by
  have l16 := hI.l16
  have l10 := hI.l10
  have n16 : nv r' 16 = nv r 16 - 1 := nv_of h.2.1 (by omega)
  have cond : ∀ (σ : Type) (f : Nat → σ → σ) (s : σ), itr (fun k s => if nI k = nI q then s else f k s) (nv r 16) 0 s = itr (fun k s => f (if k < q then k else k + 1) s) (nv r 16 - 1) 0 s := fun σ f s => by
    rw [← itr_skip (h := f) (q := q) (nv r 16) 0 s (by omega) (by omega)]
    refine itr_congr (fun e s _ he => ?_)
    by_cases z : e = q
    · rw [if_pos z, if_pos (by rw [z])]
    · rw [if_neg z, if_neg (by rw [nI_eq (by omega) (by omega)]; exact z)]
  have neg : ∀ (σ : Type) (f g : Nat → σ → σ) (s : σ), (∀ k s, k < nv r 16 - 1 → f k s = g (if k < q then k else k + 1) s) → itr (fun k s => if nI k = -1 then s else f k s) (nv r 16 - 1) 0 s = itr (fun k s => g (if k < q then k else k + 1) s) (nv r 16 - 1) 0 s := fun σ f g s hh => by
    refine itr_congr (fun e s _ he => ?_)
    rw [if_neg (by rw [nm1 (by omega)]; exact id)]
    exact hh e s (by omega)
  refine ⟨?_, ?_, ?_⟩
  · unfold awS
    rw [awF_itr, awF_itr, n16, cond, neg _ _ (hAw r)]
    intro k s hk
    unfold hAw
    rw [h.hold hI, (h.pq hI hk).2]
  · rw [mkF_itr, mkF_itr, n16, cond, neg _ _ (hMk r)]
    intro k s hk
    unfold hMk
    rw [h.hold hI, (h.pq hI hk).2]
  · rw [rtF_itr, rtF_itr, n16, cond, neg _ _ (hRt r)]
    intro k s hk
    unfold hRt
    have e1 := (h.pq hI hk).1
    obtain ⟨-, y2⟩ := hI.req (if k < q then k else k + 1) (by split <;> omega)
    obtain ⟨-, x2⟩ := hI.cur _ y2
    rw [e1, h.rd (by omega)]
theorem opt_congr {w w' : Nat → Nat → Nat} : ∀ (k s p : Nat), (∀ a c, (a = p ∨ s.testBit a = true) → s.testBit c = true → w a c = w' a c) → opt w k s p = opt w' k s p
  | 0, _, _, _ => by rw [opt, opt]
  | k + 1, s, p, h => by
    rw [opt, opt]
    by_cases z : s = 0
    · rw [if_pos z, if_pos z]
    · rw [if_neg z, if_neg z]
      refine mnS_congr _ _ _ (fun i _ _ hi => ?_)
      have e1 := h p i (Or.inl rfl) hi
      have e2 := opt_congr (w := w) (w' := w') k (s ^^^ 2 ^ i) i (fun a c ha hc => h a c (by
        rcases ha with rfl | ha
        · exact Or.inr hi
        · exact Or.inr (xo_sub (fun _ h => h) hi a ha)) (xo_sub (fun _ h => h) hi c hc))
      show w p i + _ = w' p i + _
      rw [e1, e2]
theorem DV_sw {q : Nat} (h : DV r r' q) (hd : d < 4) {a c : Nat} (ha : a < 10) (hc : c < 10) : swN r' d a c = swN r d a c := by
  have e6 : ∀ i, i < 589 → i ≠ 16 → nv r' i = nv r i := fun i h1 h2 => h.n h2 h1
  have b : bwN r' d a c = bwN r d a c := by
    unfold bwN
    rw [e6 (17 + d) (by omega) (by omega), e6 (29 + a) (by omega) (by omega), e6 (29 + c) (by omega) (by omega)]
  unfold swN
  rw [b, e6 1 (by omega) (by omega), e6 2 (by omega) (by omega), e6 3 (by omega) (by omega)]
theorem DV_bt {q : Nat} (h : DV r r' q) (hI : Inv r) (hd : d < nv r 6) {p : Nat} (hp : p < 10) : btm r' p d = btm r p d := by
  have l6 := hI.l6
  have l7 := hI.l7
  have e6 : ∀ i, i < 589 → i ≠ 16 → nv r' i = nv r i := fun i h1 h2 => h.n h2 h1
  have e21 : r' (21 + d) = r (21 + d) := h.1 (21 + d) (by omega) (by omega)
  have b : mvs r' p d = mvs r p d := by
    unfold mvs
    rw [e21, e6 (17 + d) (by omega) (by omega), e6 (29 + p) (by omega) (by omega), e6 11 (by omega) (by omega), e6 (21 + d) (by omega) (by omega)]
    rcases (hI.drv d hd).2 with z | ⟨z1, z2⟩
    · simp only [if_pos z]
    · rw [e6 (29 + nv r (21 + d)) (by omega) (by omega)]
  unfold btm
  rw [b, e21, e6 1 (by omega) (by omega), e6 2 (by omega) (by omega), e6 3 (by omega) (by omega)]
theorem DV_lst {q : Nat} (h : DV r r' q) (hI : Inv r) (hd : d < nv r 6) (S : Nat) (hS : ∀ p, S.testBit p = true → p < nv r 7) : lst r' d S = lst r d S := by
  have l6 := hI.l6
  have l7 := hI.l7
  have h10 : ∀ p, S.testBit p = true → p < 10 := fun p hp => by have := hS p hp; omega
  unfold lst
  refine mnS_congr _ _ _ (fun i _ _ hi => ?_)
  have e1 := DV_bt h hI hd (h10 i hi)
  have e2 : opt (swN r' d) (S ^^^ 2 ^ i) (S ^^^ 2 ^ i) i = opt (swN r d) (S ^^^ 2 ^ i) (S ^^^ 2 ^ i) i := opt_congr _ _ _ (fun a c ha hc => DV_sw h (by omega) (by
    rcases ha with rfl | ha
    · exact h10 _ hi
    · exact h10 _ (xo_sub (fun _ h => h) hi a ha)) (h10 _ (xo_sub (fun _ h => h) hi c hc)))
  show btm r' i d + _ = btm r i d + _
  rw [e1, e2]
theorem rt_nat (hI : Inv r) (a : Int32) : ∀ (n q s : Nat), q + n ≤ nv r 16 → ∃ w, rtF r a n q (nI s) = nI w ∧ w ≤ s + 30591 * n
  | 0, _, s, _ => ⟨s, rfl, by omega⟩
  | n + 1, q, s, h => by
    unfold rtF
    by_cases z : nI q = a
    · rw [if_pos z]
      obtain ⟨w, w1, w2⟩ := rt_nat hI a n (q + 1) s (by omega)
      exact ⟨w, w1, by omega⟩
    · obtain ⟨-, y2⟩ := hI.req q (by omega)
      obtain ⟨-, x2⟩ := hI.cur _ y2
      obtain ⟨-, -, -, v4, -, -, v7, -⟩ := hI.ver _ x2
      have t4 := hI.tim.2.2.2.1
      rw [if_neg z]
      unfold rdT
      rw [t4.e, v4.e, v7.e, nI_add, pk_mul, nI_add]
      obtain ⟨w, w1, w2⟩ := rt_nat hI a n (q + 1) (s + nv r 4 * (nv r (429 + nv r (289 + nv r (589 + q))) + nv r (509 + nv r (289 + nv r (589 + q))))) (by omega)
      have : nv r 4 * (nv r (429 + nv r (289 + nv r (589 + q))) + nv r (509 + nv r (289 + nv r (589 + q)))) ≤ 99 * 309 := Nat.mul_le_mul t4.l (by have := v4.l; have := v7.l; omega)
      exact ⟨w, w1, by omega⟩
theorem lst_le (hI : Inv r) (hd : d < nv r 6) {S : Nat} (h0 : S ≠ 0) (hS : S < 1024) (hb : ∀ p, S.testBit p = true → p < nv r 7) : lst r d S ≤ 8000000 := by
  obtain ⟨q, q1, q2⟩ := ex_bit h0 hS
  have b1 := opt_b hI hd hS hb q2
  have b2 := btm_le hI (hb q q2) hd
  have := mnS_le2 (s := S) (f := fun q => btm r q d + opt (swN r d) (S ^^^ 2 ^ q) (S ^^^ 2 ^ q) q) 10 0 2147483647 q (by omega) (by omega) q2
  unfold lst
  omega
theorem lt_loop (hI : Inv r) (hR : Rel b s r) (hb : b < 2 ^ 27) (h0 : 0 < nv r 6) : ∀ (k q f f' : Nat) (x y : Int32) (pd m : SD), q + k = nv r 16 → k < f → k < f' → m 30 0 = r → (pd 2 0 5 = -1 ∨ PTok pd r) → ((x = 2147483647 ∧ y = 1000000000 ∧ 0 < k) ∨ ∃ w, w < 1000000000 ∧ x = nI w ∧ y = nI w) → ∃ v pd' m', f_X7_leastTimeWithoutOne_L s f pd x (nI q) = some (v, pd') ∧ f_X8_leastTimeWithoutOne_L22 f' y (nI q) m = some (v, m') ∧ MSame m m' ∧ (pd' 2 0 5 = -1 ∨ PTok pd' r) := by
  have l16 := hI.l16
  have l6 := hI.l6
  intro k
  induction k with
  | zero =>
    intro q f f' x y pd m hq hf hf' hr hP hxy
    obtain ⟨f, rfl⟩ : ∃ q, f = q + 1 := ⟨f - 1, by omega⟩
    obtain ⟨f', rfl⟩ : ∃ q, f' = q + 1 := ⟨f' - 1, by omega⟩
    have : q = nv r 16 := by omega
    subst this
    rcases hxy with ⟨-, -, h⟩ | ⟨w, -, rfl, rfl⟩
    · omega
    · rw [f_X7_leastTimeWithoutOne_L, hR.s13, hI.c16, if_pos (nI_le (Nat.le_refl _) (by omega)), f_X8_leastTimeWithoutOne_L22, hr, hI.c16, if_pos (nI_le (Nat.le_refl _) (by omega))]
      exact ⟨_, pd, m, rfl, rfl, MSame.rf m, hP⟩
  | succ k ih =>
    intro q f f' x y pd m hq hf hf' hr hP hxy
    obtain ⟨f, rfl⟩ : ∃ q, f = q + 1 := ⟨f - 1, by omega⟩
    obtain ⟨f', rfl⟩ : ∃ q, f' = q + 1 := ⟨f' - 1, by omega⟩
    have hq2 : q < nv r 16 := by omega
    obtain ⟨d, pd', d1, d2, d3, d4, -⟩ := c_timeWithout hI hR (by omega) h0 hP (nI q)
    have hrow := (trM_row m).trans hr
    obtain ⟨m2, a1, a2, a3⟩ := m_drops hrow hI hq2
    obtain ⟨s2, k1, k2, k3, k4⟩ := c_removeRequest hI hR hq2
    obtain ⟨e0, e16, eq⟩ := a3
    have a3 : DV r (m2 30 0) q := ⟨e0, e16, eq⟩
    have sh : ∀ k, k < nv r 16 - 1 → isN (m2 30 0) (589 + k) 19 ∧ nv (m2 30 0) (589 + k) < nv r 9 := fun k hk => by
      have e := eq k hk
      by_cases z : k < q
      · rw [if_pos z] at e
        have g := hI.req k (by omega)
        exact ⟨isN_eq e g.1, by rw [nv_eq e]; exact g.2⟩
      · rw [if_neg z] at e
        have g := hI.req (k + 1) (by omega)
        have e2 : 589 + k + 1 = 589 + (k + 1) := by omega
        rw [e2] at e
        have e3 := nv_eq e
        exact ⟨⟨by rw [e3, e]; exact g.1.1, by rw [e3]; exact g.1.2⟩, by rw [e3]; exact g.2⟩
    obtain ⟨hI3, hR3⟩ := req_step (r' := m2 30 0) (sd' := s2) (Q := nv r 16 - 1) hI hR (by omega) e0 e16 sh k2 k3 (fun k hk => by rw [k4 k hk, eq k hk])
    have n9 : nv (m2 30 0) 9 = nv r 9 := nv_eq (e0 9 (by omega) (by omega))
    have n6 : nv (m2 30 0) 6 = nv r 6 := nv_eq (e0 6 (by omega) (by omega))
    have hI2 := inv_of hI3 n9
    have hR2 := rel_of hR3 n9
    obtain ⟨u1, u2, u3⟩ := a3.sums hI hq2
    have hus : useC s2 = useC s := by
      funext M e
      unfold useC ns
      rw [k2 0 e 2 (by omega) (by omega), k2 4 0 4 (by omega) (by omega)]
    have hfr : freQ (m2 30 0) (useC s2 (mkF (m2 30 0) (-1) (nv (m2 30 0) 16) 0 0)) = nI d := by
      rw [u2, hus, freQ_row _ n6 (fun e he => e0 _ (by omega) (by omega))]
      exact d2
    obtain ⟨s3, s4, m4, -, -, b3, b4, -, -, b7, -⟩ := serve_both (m := m2) rfl hI2 hR2 hb (by omega) (d := d) (by omega) hfr (pd := pdL d (olQ (m2 30 0) d)) rfl rfl (fun t _ => rfl)
    obtain ⟨m5, c1, c2⟩ := m_back (a2.tr b4)
    have hS7 := awS_lt7 hI (nI q)
    have hSl := awS_lt hI (nI q)
    have e12 : (m2 30 0) 12 = r 12 := e0 12 (by omega) (by omega)
    rw [u1, u3, DV_lst a3 hI d1 _ hS7, e12] at b7
    have hT : m4 30 0 12 - m 30 0 12 = rtF r (nI q) (nv r 16) 0 0 + (if awS r (nI q) = 0 then 0 else nI (lst r d (awS r (nI q)))) := by
      rw [b7, hr, i32_back]
    rw [hT] at c1
    obtain ⟨w, w1, w2⟩ : ∃ w, rtF r (nI q) (nv r 16) 0 0 + (if awS r (nI q) = 0 then 0 else nI (lst r d (awS r (nI q)))) = nI w ∧ w < 1000000000 := by
      obtain ⟨w, w1, w2⟩ := rt_nat hI (nI q) (nv r 16) 0 0 (by omega)
      rw [nI_0] at w1
      rw [w1]
      by_cases z : awS r (nI q) = 0
      · rw [if_pos z]
        exact ⟨w, by grind, by omega⟩
      · have := lst_le hI d1 z hSl hS7
        rw [if_neg z, nI_add]
        exact ⟨_, rfl, by omega⟩
    rw [w1] at c1 d3
    have hrow5 : m5 30 0 = r := c2.row.trans hr
    rw [f_X7_leastTimeWithoutOne_L, hR.s13, hI.c16, if_neg (by rw [nI_leI (by omega) (by omega)]; omega), f_X8_leastTimeWithoutOne_L22, hr, hI.c16, if_neg (by rw [nI_leI (by omega) (by omega)]; omega), d3, xb, m_tries, xb, a1, xb, b3, xb, c1, xb]
    simp (disch := omega) only [xl, ra]
    rcases hxy with ⟨rfl, rfl, -⟩ | ⟨v, v1, rfl, rfl⟩
    · have i2 : nI w < 2147483647 := (nI_ltI (b := 2147483647) (by omega) (by omega)).mpr (by omega)
      have i3 : ¬ (1000000000 : Int32) ≤ nI w := by
        show ¬ nI 1000000000 ≤ nI w
        rw [nI_leI (by omega) (by omega)]
        omega
      rw [if_pos i2, if_neg i3]
      obtain ⟨v, pd2, m6, g1, g2, g3, g4⟩ := ih (q + 1) f f' (nI w) (nI w) pd' m5 (by omega) (by omega) (by omega) hrow5 d4 (Or.inr ⟨w, w2, rfl, rfl⟩)
      exact ⟨v, pd2, m6, g1, g2, c2.tr g3, g4⟩
    · by_cases y : w < v
      · rw [if_pos ((nI_ltI (by omega) (by omega)).mpr y), if_neg (by rw [nI_leI (by omega) (by omega)]; omega)]
        obtain ⟨v, pd2, m6, g1, g2, g3, g4⟩ := ih (q + 1) f f' (nI w) (nI w) pd' m5 (by omega) (by omega) (by omega) hrow5 d4 (Or.inr ⟨w, w2, rfl, rfl⟩)
        exact ⟨v, pd2, m6, g1, g2, c2.tr g3, g4⟩
      · rw [if_neg (by rw [nI_ltI (by omega) (by omega)]; exact y), if_pos (nI_le (by omega) (by omega))]
        obtain ⟨v, pd2, m6, g1, g2, g3, g4⟩ := ih (q + 1) f f' (nI v) (nI v) pd' m5 (by omega) (by omega) (by omega) hrow5 d4 (Or.inr ⟨v, v1, rfl, rfl⟩)
        exact ⟨v, pd2, m6, g1, g2, c2.tr g3, g4⟩
theorem st_leastTimeWithoutOne (hJ : JJ b cs m) (hb : b < 2 ^ 27) : ST b (f_X7_leastTimeWithoutOne cs) (f_X8_leastTimeWithoutOne m) := by
  obtain ⟨m1, e1, r1, s1⟩ := thr m
  have hJ1 := hJ.same s1
  obtain ⟨hI, hR, -, -, -⟩ := hJ.same s1
  have l16 := hI.l16
  unfold f_X7_leastTimeWithoutOne f_X8_leastTimeWithoutOne
  rw [c_batchProblem hI hR, xb, xl, e1, m_whyNotServed rfl hI, xb]
  by_cases z : bpV (m1 30 0) 2 = 0
  · obtain ⟨h2, h06⟩ := bpV_0 hI z
    rw [hI.c16] at h2
    have h2 : 2 ≤ nv (m1 30 0) 16 := (nI_leI (a := 2) (by omega) (by omega)).mp h2
    obtain ⟨pi, c1, q1, q2, q3, q4, q5⟩ := ready_JJ hJ1
    obtain ⟨v, pd', m', g1, g2, g3, g4⟩ := lt_loop hI hR hb h06 (nv (m1 30 0) 16) 0 fuel fuel 2147483647 1000000000 (k_pd c1) m1 (by omega) (by unfold fuel; omega) (by unfold fuel; omega) rfl q5 (Or.inl ⟨rfl, rfl, by omega⟩)
    rw [nI_0] at g1 g2
    rw [if_pos z, if_pos z, q1, xb]
    simp only
    rw [q4, g1, xb, g2]
    exact ⟨_, _, m', rfl, rfl, (q2.plan g4).same g3⟩
  · rw [if_neg z, if_neg z]
    exact ⟨_, _, _, rfl, rfl, hJ1⟩
end LT1
end
section
/-! Layer 2: writeCatalogue -/
/-- the bytes written so far -/
def OUr (jd m : SD) (n : Nat) : Prop := n ≤ 280 ∧ jd 7 0 8 = nI n ∧ m 8 0 12 = nI n ∧ ∀ t, t < n → jd 26 0 t = m 37 0 t
def FJ (jd jd' : SD) : Prop := ∀ k j t, k ≠ 26 → ¬ (k = 7 ∧ j = 0 ∧ t = 8) → jd' k j t = jd k j t
def FM (m m' : SD) : Prop := ∀ k j t, k ≠ 37 → ¬ (k = 8 ∧ j = 0 ∧ t = 12) → m' k j t = m k j t
theorem FJ.rf (x : SD) : FJ x x := fun _ _ _ _ _ => rfl
theorem FM.rf (x : SD) : FM x x := fun _ _ _ _ _ => rfl
theorem FJ.tr {x y z : SD} (h : FJ x y) (g : FJ y z) : FJ x z := fun k j t a c => (g k j t a c).trans (h k j t a c)
theorem FM.tr {x y z : SD} (h : FM x y) (g : FM y z) : FM x z := fun k j t a c => (g k j t a c).trans (h k j t a c)
theorem FM.row {m m' : SD} (h : FM m m') : m' 30 0 = m 30 0 := by
  funext t
  exact h 30 0 t (by omega) (by omega)
/-- both put the same -/
def PB (x : SD → Option SD) (y : SD → Option SD) (w : Nat) : Prop := ∀ jd m n, OUr jd m n → n + w ≤ 280 → ∃ jd' m' n', x jd = some jd' ∧ y m = some m' ∧ OUr jd' m' n' ∧ n' ≤ n + w ∧ FJ jd jd' ∧ FM m m'
theorem put_both (x : Int32) : PB (fun jd => f_X7_putByte jd x) (fun m => f_X8_puts m x) 1 := by
  intro jd m n ⟨h1, h2, h3, h4⟩ hn
  have c1 : f_X7_putByte jd x = some (upS (upS jd 26 0 n (x.toInt8.toInt32).toInt8.toInt32) 7 0 8 (nI (n + 1))) := by
    unfold f_X7_putByte
    rw [h2, if_neg (by show ¬ nI 280 ≤ nI n; rw [nI_leI (by omega) (by omega)]; omega)]
    simp (disch := omega) only [xl, xg, vinT, nI_clamp]
    rw [upS_k (by omega), h2, ra (k := 1)]
  have c2 : f_X8_puts m x = some (upS (upS m 37 0 n (x.toInt8.toInt32).toInt8.toInt32) 8 0 12 (nI (n + 1))) := by
    unfold f_X8_puts
    rw [h3]
    simp (disch := omega) only [xl, xg, vinT, nI_clamp]
    rw [upS_k (by omega), h3, ra (k := 1)]
  refine ⟨_, _, n + 1, c1, c2, ⟨by omega, upS_hit _ _ _ _ _, upS_hit _ _ _ _ _, fun t ht => ?_⟩, by omega, fun k j t a c => ?_, fun k j t a c => ?_⟩
  · rw [upS_k (show (26 : Nat) ≠ 7 by omega), upS_k (show (37 : Nat) ≠ 8 by omega)]
    by_cases z : t = n
    · subst z
      rw [upS_hit, upS_hit]
    · rw [upS_t z, upS_t z]
      exact h4 t (by omega)
  · unfold upS
    rw [if_neg c, if_neg (by omega)]
  · unfold upS
    rw [if_neg c, if_neg (by omega)]
theorem PB.tr {x1 x2 y1 y2 : SD → Option SD} {w1 w2 : Nat} (h1 : PB x1 y1 w1) (h2 : PB x2 y2 w2) : PB (fun jd => x_bind (x1 jd) x2) (fun m => x_bind (y1 m) y2) (w1 + w2) := by
  intro jd m n ho hn
  obtain ⟨jd1, m1, n1, a1, a2, a3, a4, a5, a6⟩ := h1 jd m n ho (by omega)
  obtain ⟨jd2, m2, n2, b1, b2, b3, b4, b5, b6⟩ := h2 jd1 m1 n1 a3 (by omega)
  refine ⟨jd2, m2, n2, ?_, ?_, b3, by omega, a5.tr b5, a6.tr b6⟩
  · show x_bind (x1 jd) x2 = _
    rw [a1, xb, b1]
  · show x_bind (y1 m) y2 = _
    rw [a2, xb, b2]
theorem PB.eq {x x' y y' : SD → Option SD} {w w' : Nat} (h : PB x y w) (hx : ∀ s, x' s = x s) (hy : ∀ s, y' s = y s) (hw : w ≤ w') : PB x' y' w' := by
  intro jd m n ho hn
  obtain ⟨jd1, m1, n1, a1, a2, a3, a4, a5, a6⟩ := h jd m n ho (by omega)
  exact ⟨jd1, m1, n1, by rw [hx]; exact a1, by rw [hy]; exact a2, a3, by omega, a5, a6⟩
theorem d20_0 (a : Int32) (n : Nat) (m : SD) : f_X8_digits_L20 a (n + 1) 0 m = some m := by
  rw [f_X8_digits_L20, if_pos (by decide)]
theorem d20_1 (a : Int32) (n : Nat) (m : SD) (ha : a / 1 = a) : f_X8_digits_L20 a (n + 2) 1 m = x_bind (f_X8_puts m (48 + (a - a / 10 * 10))) some := by
  rw [f_X8_digits_L20, if_neg (by decide), x_guard_pos (by decide), ha]
  congr 1
theorem d20_10 (a : Int32) (n : Nat) (m : SD) (ha : a / 1 = a) : f_X8_digits_L20 a (n + 3) 10 m = x_bind (f_X8_puts m (48 + (a / 10 - a / 10 / 10 * 10))) fun q => x_bind (f_X8_puts q (48 + (a - a / 10 * 10))) some := by
  rw [f_X8_digits_L20, if_neg (by decide), x_guard_pos (by decide)]
  congr 1
  funext q
  rw [xl, show (10 : Int32) / 10 = 1 by decide, d20_1 a n q ha]
theorem d20_100 (a : Int32) (n : Nat) (m : SD) (ha : a / 1 = a) : f_X8_digits_L20 a (n + 4) 100 m = x_bind (f_X8_puts m (48 + (a / 100 - a / 100 / 10 * 10))) fun q => x_bind (f_X8_puts q (48 + (a / 10 - a / 10 / 10 * 10))) fun q => x_bind (f_X8_puts q (48 + (a - a / 10 * 10))) some := by
  rw [f_X8_digits_L20, if_neg (by decide), x_guard_pos (by decide)]
  congr 1
  funext q
  rw [xl, show (100 : Int32) / 10 = 10 by decide, d20_10 a n q ha]
/-- how many digits -/
def dl (v : Nat) : Nat := if v < 10 then 1 else if v < 100 then 2 else 3
theorem num_both {v : Nat} (hv : v < 1000) : PB (fun jd => f_X7_putNumber jd (nI v)) (fun m => f_X8_digits m (nI v)) (dl v) := by
  have h1 : nI v / 1 = nI v := by
    rw [show (1 : Int32) = nI 1 from rfl, pk_div (by omega) (by omega) (by omega), Nat.div_one]
  have h10 : nI v / 10 = nI (v / 10) := pk_div (d := 10) (by omega) (by omega) (by omega)
  have h100 : nI v / 100 = nI (v / 100) := pk_div (d := 100) (by omega) (by omega) (by omega)
  have P := fun x => put_both x
  have n9 : ∀ x : Nat, x < 2 ^ 31 → ((nI x ≤ (9 : Int32)) ↔ x ≤ 9) := fun x h => nI_leI (b := 9) h (by omega)
  have t10 : (nI v < (10 : Int32)) ↔ v < 10 := nI_ltI (b := 10) (by omega) (by omega)
  have t100 : (nI v < (100 : Int32)) ↔ v < 100 := nI_ltI (b := 100) (by omega) (by omega)
  have e2 : ∀ m, f_X8_digits m (nI v) = if v < 10 then f_X8_digits_L20 (nI v) fuel 1 m else if v < 100 then f_X8_digits_L20 (nI v) fuel 10 m else f_X8_digits_L20 (nI v) fuel 100 m := fun m => by
    unfold f_X8_digits
    show f_X8_digits_L2 (nI v) m (19997 + 1 + 1 + 1) 1 = _
    rw [f_X8_digits_L2, x_guard_pos (by decide), h1]
    by_cases z : v < 10
    · rw [if_pos (show nI v ≤ 9 from nI_le (b := 9) (by omega) (by omega)), if_pos z]
    · rw [if_neg (fun h => z (by have := (n9 _ (by omega)).mp h; omega)), if_neg z, xl, show (1 : Int32) * 10 = 10 by decide, f_X8_digits_L2, x_guard_pos (by decide), h10]
      by_cases y : v < 100
      · rw [if_pos (show nI (v / 10) ≤ 9 from nI_le (b := 9) (by omega) (by omega)), if_pos y]
      · rw [if_neg (fun h => y (by have := (n9 _ (by omega)).mp h; omega)), if_neg y, xl, show (10 : Int32) * 10 = 100 by decide, f_X8_digits_L2, x_guard_pos (by decide), h100]
        rw [if_pos (show nI (v / 100) ≤ 9 from nI_le (b := 9) (by omega) (by omega))]
  have PS : PB some some 0 := fun jd m n ho _ => ⟨jd, m, n, rfl, rfl, ho, by omega, FJ.rf _, FM.rf _⟩
  have hf : fuel = 19996 + 4 := rfl
  by_cases z : v < 10
  · refine PB.eq ((P (48 + (nI v - nI v / 10 * 10))).tr PS) (fun s => ?_) (fun s => ?_) (by unfold dl; rw [if_pos z]; omega)
    · show f_X7_putNumber s (nI v) = _
      unfold f_X7_putNumber
      simp only [xl]
      rw [if_pos (show nI v < 100 from (nI_ltI (b := 100) (by omega) (by omega)).mpr (by omega)), if_pos (show nI v < 10 from (nI_ltI (b := 10) (by omega) (by omega)).mpr (by omega))]
    · show f_X8_digits s (nI v) = _
      rw [e2, if_pos z, hf, d20_1 _ 19998 s h1]
  · by_cases y : v < 100
    · refine PB.eq ((P (48 + (nI v / 10 - nI v / 10 / 10 * 10))).tr ((P (48 + (nI v - nI v / 10 * 10))).tr PS)) (fun s => ?_) (fun s => ?_) (by unfold dl; rw [if_neg z, if_pos y]; omega)
      · show f_X7_putNumber s (nI v) = _
        unfold f_X7_putNumber
        simp only [xl]
        rw [if_pos (show nI v < 100 from (nI_ltI (b := 100) (by omega) (by omega)).mpr (by omega)), if_neg (fun h => z (t10.mp h))]
      · show f_X8_digits s (nI v) = _
        rw [e2, if_neg z, if_pos y, hf, d20_10 _ 19997 s h1]
    · refine PB.eq ((P (48 + (nI v / 100 - nI v / 100 / 10 * 10))).tr ((P (48 + (nI v / 10 - nI v / 10 / 10 * 10))).tr ((P (48 + (nI v - nI v / 10 * 10))).tr PS))) (fun s => ?_) (fun s => ?_) (by unfold dl; rw [if_neg z, if_neg y]; omega)
      · show f_X7_putNumber s (nI v) = _
        unfold f_X7_putNumber
        simp only [xl]
        rw [if_neg (fun h => y (t100.mp h))]
        congr 1
        funext q
        rw [if_neg (fun h => z (t10.mp h))]
      · show f_X8_digits s (nI v) = _
        rw [e2, if_neg z, if_neg y, hf, d20_100 _ 19996 s h1]
section CATL
variable {b : Nat} {cs : CT} {m s : SD} {r : RW}
theorem cat_loop (hI : Inv r) (hR : Rel b s r) : ∀ (k f g g' n : Nat) (jd m : SD), f + k = nv r 9 → k < g → k < g' → m 30 0 = r → OUr jd m n → n ≤ 14 * f → ∃ v jd' m' n', f_X7_writeCatalogue_L7 s g (nI f) jd = some (v, jd') ∧ f_X8_writeCatalogue_L12 g' (nI f) m = some (v, m') ∧ OUr jd' m' n' ∧ FJ jd jd' ∧ FM m m' := by
  have l9 := hI.l9
  have l10 := hI.l10
  have l7 := hI.l7
  intro k
  induction k with
  | zero =>
    intro f g g' n jd m hf hg hg' hr ho hn
    obtain ⟨g, rfl⟩ : ∃ q, g = q + 1 := ⟨g - 1, by omega⟩
    obtain ⟨g', rfl⟩ : ∃ q, g' = q + 1 := ⟨g' - 1, by omega⟩
    have : f = nv r 9 := by omega
    subst this
    rw [f_X7_writeCatalogue_L7, hR.s11, hI.c9, if_pos (nI_le (Nat.le_refl _) (by omega)), f_X8_writeCatalogue_L12, hr, hI.c9, if_pos (nI_le (Nat.le_refl _) (by omega))]
    refine ⟨_, jd, m, n, rfl, ?_, ho, FJ.rf _, FM.rf _⟩
    rw [ho.2.1, ho.2.2.1]
  | succ k ih =>
    intro f g g' n jd m hf hg hg' hr ho hn
    obtain ⟨g, rfl⟩ : ∃ q, g = q + 1 := ⟨g - 1, by omega⟩
    obtain ⟨g', rfl⟩ : ∃ q, g' = q + 1 := ⟨g' - 1, by omega⟩
    have hf2 : f < nv r 9 := by omega
    obtain ⟨x1, x2⟩ := hI.cur f hf2
    obtain ⟨-, ⟨v2, v3⟩, v4, v5, -⟩ := hI.ver _ x2
    have b4 := v4.l
    have b5 := v5.l
    obtain ⟨-, w1, w2, w3, -⟩ := hR.ve _ x2
    have k1 : dl f ≤ 2 := by
      unfold dl
      by_cases z : f < 10
      · rw [if_pos z]; omega
      · rw [if_neg z, if_pos (by omega)]; omega
    have k2 : dl (nv r (349 + nv r (289 + f))) ≤ 1 := by unfold dl; rw [if_pos (by omega)]; omega
    have k3 : ∀ v, dl v ≤ 3 := fun v => by
      unfold dl
      split
      · omega
      · split <;> omega
    have k4 := k3 (nv r (389 + nv r (289 + f)))
    have k5 := k3 (nv r (429 + nv r (289 + f)))
    obtain ⟨j1, m1, n1, a1, a2, a3, a4, a5, a6⟩ := num_both (v := f) (by omega) jd m n ho (by omega)
    obtain ⟨j2, m2, n2, c1, c2, c3, c4, c5, c6⟩ := put_both 58 j1 m1 n1 a3 (by omega)
    obtain ⟨j3, m3, n3, d1, d2, d3, d4, d5, d6⟩ := num_both (v := nv r (349 + nv r (289 + f))) (by omega) j2 m2 n2 c3 (by omega)
    obtain ⟨j4, m4, n4, e1, e2, e3, e4, e5, e6⟩ := put_both 44 j3 m3 n3 d3 (by omega)
    obtain ⟨j5, m5, n5, f1, f2, f3, f4, f5, f6⟩ := num_both (v := nv r (389 + nv r (289 + f))) (by omega) j4 m4 n4 e3 (by omega)
    obtain ⟨j6, m6, n6, g1, g2, g3, g4, g5, g6⟩ := put_both 44 j5 m5 n5 f3 (by omega)
    obtain ⟨j7, m7, n7, h1, h2, h3, h4, h5, h6⟩ := num_both (v := nv r (429 + nv r (289 + f))) (by omega) j6 m6 n6 g3 (by omega)
    have r2 : m2 30 0 = r := by rw [c6.row, a6.row, hr]
    have r4 : m4 30 0 = r := by rw [e6.row, d6.row, r2]
    have r6 : m6 30 0 = r := by rw [g6.row, f6.row, r4]
    have r7 : m7 30 0 = r := by rw [h6.row, r6]
    have FJ7 : FJ jd j7 := a5.tr (c5.tr (d5.tr (e5.tr (f5.tr (g5.tr h5)))))
    have FM7 : FM m m7 := a6.tr (c6.tr (d6.tr (e6.tr (f6.tr (g6.tr h6)))))
    simp only at a1 a2 c1 c2 d1 d2 e1 e2 f1 f2 g1 g2 h1 h2
    rw [f_X7_writeCatalogue_L7, hR.s11, hI.c9, if_neg (by rw [nI_leI (by omega) (by omega)]; omega), f_X8_writeCatalogue_L12, hr, hI.c9, if_neg (by rw [nI_leI (by omega) (by omega)]; omega)]
    rw [c_currentVersion hI hR hf2, xb, a1, xb, c1, xb, w1, v2.e, d1, xb, e1, xb, w2, v4.e, f1, xb, g1, xb, w3, v5.e, h1, xb, c_isReadable hI hR hf2, xb]
    rw [a2, xb, c2, xb, m_platterOf r2 hI hf2, xb, d2, xb, e2, xb, m_version r4 hI hf2, xb]
    simp (disch := omega) only [xl, xg, vinT, nI_clamp, la, ra]
    rw [r4, v4.e, f2, xb, g2, xb, m_version r6 hI hf2, xb]
    simp (disch := omega) only [xl, xg, vinT, nI_clamp, la, ra]
    rw [r6, v5.e, h2, xb, m_isReadable r7 hI hf2, xb]
    by_cases z : gdV r (nv r (289 + f)) = 0
    · rw [if_pos z, if_pos z]
      obtain ⟨j8, m8, n8, p1, p2, p3, p4, p5, p6⟩ := put_both 59 j7 m7 n7 h3 (by omega)
      simp only at p1 p2
      rw [p1, xb, p2, xb]
      obtain ⟨v, j9, m9, n9, q1, q2, q3, q4, q5⟩ := ih (f + 1) g g' n8 j8 m8 (by omega) (by omega) (by omega) (by rw [p6.row, r7]) p3 (by omega)
      exact ⟨v, j9, m9, n9, q1, q2, q3, FJ7.tr (p5.tr q4), FM7.tr (p6.tr q5)⟩
    · rw [if_neg z, if_neg z]
      obtain ⟨jx, mx, nx, o1, o2, o3, o4, o5, o6⟩ := put_both 42 j7 m7 n7 h3 (by omega)
      simp only at o1 o2
      rw [o1, xb, o2, xb]
      obtain ⟨j8, m8, n8, p1, p2, p3, p4, p5, p6⟩ := put_both 59 jx mx nx o3 (by omega)
      simp only at p1 p2
      rw [p1, xb, p2, xb]
      obtain ⟨v, j9, m9, n9, q1, q2, q3, q4, q5⟩ := ih (f + 1) g g' n8 j8 m8 (by omega) (by omega) (by omega) (by rw [p6.row, o6.row, r7]) p3 (by omega)
      exact ⟨v, j9, m9, n9, q1, q2, q3, FJ7.tr (o5.tr (p5.tr q4)), FM7.tr (o6.tr (p6.tr q5))⟩
theorem JJ.out (h : JJ b cs m) {jd' m' : SD} {n : Nat} (ho : OUr jd' m' n) (hj : FJ (k_jd cs) jd') (hm : FM m m') : JJ b (kJ cs jd') m' := by
  obtain ⟨h1, h2, ⟨f0, c, h3⟩, h4, h5, h6, h7⟩ := h
  have hr := hm.row
  refine ⟨by rw [hr]; exact h1, by rw [hr]; exact h2, ⟨f0, c, ?_⟩, h4, ?_, ⟨n, ho⟩, by rw [hr]; exact h7⟩
  · exact HSx.same (cs := kJ cs jd') h3 (hm _ _ _ (by omega) (by omega)) (fun t => hm _ _ _ (by omega) (by omega))
  · obtain ⟨⟨n, t1, t2, t3, t4⟩, t5, t6⟩ := h5
    refine ⟨⟨n, t1, t2, ?_, fun t ht => ?_⟩, ?_, ?_⟩
    · rw [hm _ _ _ (by omega) (by omega)]; exact t3
    · rw [hm _ _ _ (by omega) (by omega)]; exact t4 t ht
    · show jd' 7 0 1 = _
      rw [hj _ _ _ (by omega) (by omega), hm _ _ _ (by omega) (by omega)]; exact t5
    · show _ = if jd' 7 0 1 = 0 then _ else jd' 7 0 2
      rw [hj 7 0 1 (by omega) (by omega), hj 7 0 2 (by omega) (by omega), hm _ _ _ (by omega) (by omega)]; exact t6
theorem st_writeCatalogue (hJ : JJ b cs m) : ∃ v jd' m', f_X7_writeCatalogue (k_xs cs (k_st cs)) (k_jd cs) = some (v, jd') ∧ f_X8_writeCatalogue m = some (v, m') ∧ JJ b (kJ cs jd') m' := by
  obtain ⟨m1, e1, r1, s1⟩ := thr m
  have hJ1 := hJ.same s1
  obtain ⟨hI, hR, -, -, -⟩ := hJ.same s1
  have l9 := hI.l9
  obtain ⟨v, jd', m', n', a1, a2, a3, a4, a5⟩ := cat_loop hI hR (nv (m1 30 0) 9) 0 fuel fuel 0 (upS (k_jd cs) 7 0 8 0) (upS m1 8 0 12 0) (by omega) (by unfold fuel; omega) (by unfold fuel; omega) rfl ⟨by omega, upS_hit _ _ _ _ _, upS_hit _ _ _ _ _, fun t ht => absurd ht (Nat.not_lt_zero _)⟩ (by omega)
  rw [nI_0] at a1 a2
  refine ⟨v, jd', m', ?_, ?_, hJ1.out a3 (FJ.tr (fun k j t _ c => by unfold upS; rw [if_neg c]) a4) (FM.tr (fun k j t _ c => by unfold upS; rw [if_neg c]) a5)⟩
  · unfold f_X7_writeCatalogue
    rw [xl, a1]
  · unfold f_X8_writeCatalogue
    rw [xl, e1, xl, a2]
end CATL
end
section
/-! Layer 2: fillBits: the class's whole numbers against the division of floats -/
def enN (p w : Nat) : Nat := FP.Core.div FP.Core.b32 (FP.Core.fromInt FP.Core.b32 p) (FP.Core.fromInt FP.Core.b32 w)
def shv (p w : Nat) : Nat := if 8388608 ≤ p * 2 ^ (23 + w.log2 - p.log2) / w then 23 + w.log2 - p.log2 else 24 + w.log2 - p.log2
def ckv (p w v : Nat) : Bool := Nat.ble 8388608 (p * 2 ^ v / w) && Nat.blt (p * 2 ^ v / w) 16777216 && Nat.blt (p * 2 ^ (v - 1) / w) 8388608 && Nat.ble v 40 && Nat.ble 1 v && Nat.beq (enN p w) ((150 - v) * 8388608 + (p * 2 ^ v / w + (if Nat.blt (2 * (p * 2 ^ v % w)) w then 0 else 1) - 8388608))
def ckf (p w : Nat) : Bool := Nat.beq p 0 || ckv p w (shv p w)
def ckw (w : Nat) : Bool := (List.range (w + 1)).all fun p => ckf p w
theorem ckw_1 : (List.range 90).all (fun i => ckw (10 + i)) = true := by decide +kernel
theorem ckw_2 : (List.range 50).all (fun i => ckw (100 + i)) = true := by decide +kernel
theorem ckw_3 : (List.range 40).all (fun i => ckw (150 + i)) = true := by decide +kernel
theorem ckw_4 : (List.range 30).all (fun i => ckw (190 + i)) = true := by decide +kernel
theorem ckw_5 : (List.range 25).all (fun i => ckw (220 + i)) = true := by decide +kernel
theorem ckw_6 : (List.range 20).all (fun i => ckw (245 + i)) = true := by decide +kernel
theorem ckw_7 : (List.range 20).all (fun i => ckw (265 + i)) = true := by decide +kernel
theorem ckw_8 : (List.range 16).all (fun i => ckw (285 + i)) = true := by decide +kernel
theorem ckw_0 : (List.range 291).all (fun i => Nat.beq (enN 0 (10 + i)) 0) = true := by decide +kernel
theorem ckw_9 : (List.range 301).all (fun i => Nat.blt (FP.Core.fromInt FP.Core.b32 (i : Nat)) 4294967296) = true := by decide +kernel
end
section
/-! Layer 2: fillBits -/
theorem ckw_at {a n w : Nat} (h : (List.range n).all (fun i => ckw (a + i)) = true) (h1 : a ≤ w) (h2 : w < a + n) : ckw w = true := by
  have := List.all_eq_true.mp h (w - a) (List.mem_range.mpr (by omega))
  rw [show a + (w - a) = w by omega] at this
  exact this
theorem ckw_all {w : Nat} (h1 : 10 ≤ w) (h2 : w ≤ 300) : ckw w = true := by
  by_cases z : w < 100
  · exact ckw_at ckw_1 h1 (by omega)
  by_cases z : w < 150
  · exact ckw_at ckw_2 (by omega) (by omega)
  by_cases z : w < 190
  · exact ckw_at ckw_3 (by omega) (by omega)
  by_cases z : w < 220
  · exact ckw_at ckw_4 (by omega) (by omega)
  by_cases z : w < 245
  · exact ckw_at ckw_5 (by omega) (by omega)
  by_cases z : w < 265
  · exact ckw_at ckw_6 (by omega) (by omega)
  by_cases z : w < 285
  · exact ckw_at ckw_7 (by omega) (by omega)
  · exact ckw_at ckw_8 (by omega) (by omega)
theorem ck_p {p w : Nat} (h1 : 10 ≤ w) (h2 : w ≤ 300) (hp : p ≤ w) (h0 : 0 < p) : ∃ v, 1 ≤ v ∧ v ≤ 40 ∧ 8388608 ≤ p * 2 ^ v / w ∧ p * 2 ^ v / w < 16777216 ∧ p * 2 ^ (v - 1) / w < 8388608 ∧ enN p w = (150 - v) * 8388608 + (p * 2 ^ v / w + (if 2 * (p * 2 ^ v % w) < w then 0 else 1) - 8388608) := by
  have h := List.all_eq_true.mp (ckw_all h1 h2) p (List.mem_range.mpr (by omega))
  unfold ckf at h
  rw [Bool.or_eq_true] at h
  rcases h with h | h
  · have := Nat.eq_of_beq_eq_true h
    omega
  · unfold ckv at h
    simp only [Bool.and_eq_true] at h
    obtain ⟨⟨⟨⟨⟨a1, a2⟩, a3⟩, a4⟩, a5⟩, a6⟩ := h
    refine ⟨shv p w, Nat.le_of_ble_eq_true a5, Nat.le_of_ble_eq_true a4, Nat.le_of_ble_eq_true a1, Nat.le_of_ble_eq_true a2, Nat.le_of_ble_eq_true a3, ?_⟩
    rw [Nat.eq_of_beq_eq_true a6]
    congr 3
    by_cases z : 2 * (p * 2 ^ shv p w % w) < w
    · rw [if_pos z, if_pos (show Nat.blt (2 * (p * 2 ^ shv p w % w)) w = true from Nat.ble_eq_true_of_le z)]
    · rw [if_neg z, if_neg (show ¬ Nat.blt (2 * (p * 2 ^ shv p w % w)) w = true from fun y => z (Nat.le_of_ble_eq_true y))]
theorem lgc (x y : Int64) : (lg_cmp x y < 0 ↔ x < y) ∧ (0 ≤ lg_cmp x y ↔ y ≤ x) := by
  have key : lg_cmp x y < 0 ↔ x < y := by
    unfold lg_cmp
    rcases Int.lt_trichotomy x.toInt y.toInt with h | h | h
    · have h1 : x < y := Int64.lt_iff_toInt_lt.mpr h
      have h2 : ¬ (x > y) := fun z => by have := Int64.lt_iff_toInt_lt.mp z; omega
      have h3 : ¬ (x = y) := fun z => by rw [z] at h; omega
      rw [if_neg h2, if_neg h3]
      exact ⟨fun _ => h1, fun _ => by decide⟩
    · have h3 : x = y := Int64.toInt_inj.mp h
      subst h3
      have h2 : ¬ (x > x) := fun z => by have := Int64.lt_iff_toInt_lt.mp z; omega
      rw [if_neg h2, if_pos rfl]
      exact ⟨fun z => absurd z (by decide), fun z => absurd z h2⟩
    · have h1 : x > y := Int64.lt_iff_toInt_lt.mpr h
      have h2 : ¬ (x < y) := fun z => by have := Int64.lt_iff_toInt_lt.mp z; omega
      rw [if_pos h1]
      exact ⟨fun z => absurd z (by decide), fun z => absurd z h2⟩
  refine ⟨key, ?_⟩
  rw [← Int32.not_lt, key, Int64.not_lt]
theorem sh63 : ∀ k, k < 41 → ((nI k).toInt64 &&& 63).toBitVec.smod 64 = BitVec.ofNat 64 k := by decide +kernel
theorem lsh (n : Nat) {k : Nat} (hk : k < 41) : lN n <<< ((nI k).toInt64 &&& 63) = lN (n * 2 ^ k) := by
  apply Int64.toBitVec_inj.mp
  rw [Int64.toBitVec_shiftLeft, sh63 k hk]
  show (BitVec.ofNat 64 n) <<< (BitVec.ofNat 64 k) = BitVec.ofNat 64 (n * 2 ^ k)
  apply BitVec.eq_of_toNat_eq
  rw [BitVec.shiftLeft_eq', BitVec.toNat_shiftLeft, BitVec.toNat_ofNat, BitVec.toNat_ofNat, BitVec.toNat_ofNat, Nat.mod_eq_of_lt (show k < 2 ^ 64 by omega), Nat.shiftLeft_eq, Nat.mod_mul_mod]
theorem c_bos {p w v : Nat} (h1 : 10 ≤ w) (h2 : w ≤ 300) (hp : p ≤ w) (v1 : 1 ≤ v) (v2 : v ≤ 40) (v3 : 8388608 ≤ p * 2 ^ v / w) (v4 : p * 2 ^ v / w < 16777216) (v5 : p * 2 ^ (v - 1) / w < 8388608) : ∀ (k u f : Nat), u + k = v → k < f → f_X7_bitsOfShare_L17 (nI p) (nI w) f (nI u) = some (nI ((150 - v) * 8388608 + (p * 2 ^ v / w + (if 2 * (p * 2 ^ v % w) < w then 0 else 1) - 8388608))) := by
  have ew : (nI w).toInt64 = lN w := nI_l (by omega)
  have ep : (nI p).toInt64 = lN p := nI_l (by omega)
  have ne : ¬ (lN w = 0) := by
    show ¬ lN w = lN 0
    rw [pk_lEQ (by omega) (by omega)]
    omega
  have big : ∀ u, u ≤ 40 → p * 2 ^ u < 2 ^ 49 := fun u hu => by
    have : 2 ^ u ≤ 2 ^ 40 := Nat.pow_le_pow_right (by omega) hu
    have := Nat.mul_le_mul (show p ≤ 300 by omega) this
    omega
  have dv : ∀ u, u ≤ 40 → p * 2 ^ u / w < 2 ^ 49 := fun u hu => Nat.lt_of_le_of_lt (Nat.div_le_self _ _) (big u hu)
  intro k
  induction k with
  | zero =>
    intro u f hu hf
    obtain ⟨f, rfl⟩ : ∃ q, f = q + 1 := ⟨f - 1, by omega⟩
    have : u = v := by omega
    subst this
    have b1 := big u v2
    have hK : (x_let (((nI p).toInt64 <<< ((nI u).toInt64 &&& 63))) fun (x2 : Int64) => x_guard (¬ (nI w).toInt64 = 0) <| x_let ((x2 / (nI w).toInt64)) fun (x4 : Int64) => x_guard (¬ (nI w).toInt64 = 0) <| (x_let (fun (y7 : Int64) => (x_let (((150 : Int32) - nI u)) fun (x8 : Int32) => some (((x8 <<< ((23 : Int32) &&& 31)) + ((y7 - (8388608 : Int64))).toInt32)) : Option Int32)) fun K6 => (if (lg_cmp ((2 : Int64) * (x2 - x2 / (nI w).toInt64 * (nI w).toInt64)) (nI w).toInt64) < 0 then K6 (x4) else x_let ((x4 + (1 : Int64))) fun (x9 : Int64) => K6 (x9)))) = some (nI ((150 - u) * 8388608 + (p * 2 ^ u / w + (if 2 * (p * 2 ^ u % w) < w then 0 else 1) - 8388608))) := by
      have hm : p * 2 ^ u % w < w := Nat.mod_lt _ (by omega)
      rw [xl, ew, ep, lsh p (by omega), x_guard_pos ne, xl, pk_lDiv (by omega) (by omega) (by omega), x_guard_pos ne, xl]
      have e1 : (150 : Int32) - nI u = nI (150 - u) := pk_sub (a := 150) (by omega)
      have e2 : nI (150 - u) <<< ((23 : Int32) &&& 31) = nI ((150 - u) * 8388608) := pk_shlN _ 23 (by decide) (by omega)
      have e3 : (2 : Int64) * (lN (p * 2 ^ u) - lN (p * 2 ^ u / w) * lN w) = lN (2 * (p * 2 ^ u % w)) := by
        have := pk_lRem (a := p * 2 ^ u) (b := w) (by omega) (by omega) (by omega)
        rw [pk_lDiv (by omega) (by omega) (by omega)] at this
        rw [this]
        exact lN_mul 2 _
      have e4 : ∀ q, 8388608 ≤ q → (lN q - (8388608 : Int64)).toInt32 = nI (q - 8388608) := fun q hq => by
        rw [show lN q - (8388608 : Int64) = lN (q - 8388608) from lN_sub hq, lN_i]
      rw [e3]
      by_cases z : 2 * (p * 2 ^ u % w) < w
      · rw [if_pos ((lgc _ _).1.mpr ((pk_lLT (by omega) (by omega)).mpr z))]
        simp only [xl]
        rw [e1, e2, e4 _ v3, nI_add, if_pos z, Nat.add_zero]
      · rw [if_neg (fun y => z ((pk_lLT (by omega) (by omega)).mp ((lgc _ _).1.mp y)))]
        simp only [xl]
        rw [e1, e2, lN_1, e4 _ (by omega), nI_add, if_neg z]
    rw [f_X7_bitsOfShare_L17, xl]
    by_cases y : (40 : Int32) ≤ nI u
    · rw [if_pos y]
      exact hK
    · have : 0 ≤ lg_cmp ((nI p).toInt64 <<< ((nI u).toInt64 &&& 63) / (nI w).toInt64) 8388608 := by
        rw [(lgc _ _).2, ew, ep, lsh p (by omega), pk_lDiv (by omega) (by omega) (by omega)]
        show lN 8388608 ≤ _
        rw [pk_lLE (by omega) (by omega)]
        exact v3
      rw [if_neg y, x_guard_pos (by rw [ew]; exact ne), if_pos this]
      exact hK
  | succ k ih =>
    intro u f hu hf
    obtain ⟨f, rfl⟩ : ∃ q, f = q + 1 := ⟨f - 1, by omega⟩
    have b1 := big u (by omega)
    have b2 := dv u (by omega)
    have hlt : p * 2 ^ u / w < 8388608 := Nat.lt_of_le_of_lt (Nat.div_le_div_right (Nat.mul_le_mul_left p (Nat.pow_le_pow_right (by omega) (show u ≤ v - 1 by omega)))) v5
    have n1 : ¬ (40 : Int32) ≤ nI u := by
      show ¬ nI 40 ≤ nI u
      rw [nI_leI (by omega) (by omega)]
      omega
    have n2 : ¬ 0 ≤ lg_cmp ((nI p).toInt64 <<< ((nI u).toInt64 &&& 63) / (nI w).toInt64) 8388608 := by
      rw [(lgc _ _).2, ew, ep, lsh p (by omega), pk_lDiv (by omega) (by omega) (by omega)]
      show ¬ lN 8388608 ≤ _
      rw [pk_lLE (by omega) (by omega)]
      omega
    rw [f_X7_bitsOfShare_L17, xl, if_neg n1, x_guard_pos (by rw [ew]; exact ne), if_neg n2, xl, ra (k := 1)]
    exact ih (u + 1) f (by omega) (by omega)
theorem enN_c {p w : Nat} (h1 : 10 ≤ w) (h2 : w ≤ 300) (hp : p ≤ w) : f_X7_bitsOfShare (nI p) (nI w) = some (nI (enN p w)) ∧ enN p w < 2139095040 := by
  unfold f_X7_bitsOfShare
  have w0 : (0 : Int32) < nI w := (nI_ltI (a := 0) (by omega) (by omega)).mpr (by omega)
  by_cases z : p = 0
  · subst z
    have h := List.all_eq_true.mp ckw_0 (w - 10) (List.mem_range.mpr (by omega))
    rw [show 10 + (w - 10) = w by omega] at h
    have h := Nat.eq_of_beq_eq_true h
    rw [if_pos (show nI 0 ≤ 0 from nI_le (a := 0) (b := 0) (Nat.le_refl _) (by omega)), h]
    exact ⟨rfl, by omega⟩
  · obtain ⟨v, v1, v2, v3, v4, v5, v6⟩ := ck_p h1 h2 hp (by omega)
    have p0 : ¬ nI p ≤ 0 := by
      show ¬ nI p ≤ nI 0
      rw [nI_leI (by omega) (by omega)]
      omega
    rw [if_neg p0, if_pos w0, v6]
    refine ⟨?_, by split <;> omega⟩
    have := c_bos h1 h2 hp v1 v2 v3 v4 v5 v 0 fuel (by omega) (by unfold fuel; omega)
    rw [nI_0] at this
    exact this
theorem ord_eq (d : FP.Core.Datum) (h : d ≠ .nan) : FP.Core.order d d = some .eq := by
  cases d with
  | nan => exact absurd rfl h
  | inf s => simp [FP.Core.order]
  | fin s c q => simp [FP.Core.order]
theorem fN {p w : Nat} (h1 : 10 ≤ w) (h2 : w ≤ 300) (hp : p ≤ w) : FP.fdiv (FP.i2f (nI p)) (FP.i2f (nI w)) = UInt32.ofNat (enN p w) := by
  have ti : ∀ n, n ≤ 300 → (FP.i2f (nI n)).toNat = FP.Core.fromInt FP.Core.b32 n := fun n hn => by
    have h := List.all_eq_true.mp ckw_9 n (List.mem_range.mpr (by omega))
    have h : FP.Core.fromInt FP.Core.b32 n < 4294967296 := Nat.le_of_ble_eq_true h
    show (UInt32.ofNat (FP.Core.fromInt FP.Core.b32 (nI n).toInt)).toNat = _
    rw [nI_toInt (by omega)]
    exact UInt32.toNat_ofNat_of_lt h
  show UInt32.ofNat (FP.Core.div FP.Core.b32 (FP.i2f (nI p)).toNat (FP.i2f (nI w)).toNat) = _
  rw [ti p (by omega), ti w (by omega)]
  rfl
theorem fok {n : Nat} (h : n < 2139095040) : vf_n32 (UInt32.ofNat n) ∧ FP.fcmp (UInt32.ofNat n) (UInt32.ofNat n) = some .eq ∧ fbits (UInt32.ofNat n) = nI n := by
  have tn : (UInt32.ofNat n).toNat = n := UInt32.toNat_ofNat_of_lt (by show n < 4294967296; omega)
  refine ⟨?_, ?_, rfl⟩
  · unfold vf_n32
    rw [UInt32.le_iff_toNat_le, UInt32.toNat_and, tn]
    have : n &&& (2147483647 : UInt32).toNat ≤ n := Nat.and_le_left
    show _ ≤ 2139095040
    omega
  · show FP.Core.order (FP.Core.decode FP.Core.b32 (UInt32.ofNat n).toNat) (FP.Core.decode FP.Core.b32 (UInt32.ofNat n).toNat) = _
    rw [tn]
    apply ord_eq
    unfold FP.Core.decode
    have hf : FP.Core.fieldE FP.Core.b32 n ≠ FP.Core.b32.exps - 1 := by
      show n / 8388608 % 256 ≠ 255
      omega
    rw [if_neg hf]
    split <;> simp
section FLB
variable {b : Nat} {sd md : SD} {r : RW}
theorem q_fillBits (hr : md 30 0 = r) (hI : Inv r) (hR : Rel b sd r) (a : Int32) : Ans md (f_X7_fillBits sd a) (f_X8_fillBits md a) := by
  obtain ⟨m1, e1, r1, s1⟩ := thr md
  have hr1 : m1 30 0 = r := r1.trans hr
  have l7 := hI.l7
  unfold f_X7_fillBits f_X8_fillBits
  rw [c_hasPlatter hI hR, xb, xl, e1, m_isPlatter hr1 hI, xb]
  rcases hasV_cases a (n := nv r 7) (by omega) with h | ⟨h, p, hp, rfl⟩
  · rw [h, if_pos rfl, if_pos rfl]
    exact ⟨_, m1, rfl, rfl, s1⟩
  · obtain ⟨-, ⟨t1, t2⟩, -, ⟨t3, t4⟩, -⟩ := hI.plt p hp
    have t5 := t1.l
    obtain ⟨-, g1, -, g3, -⟩ := hR.pl p hp
    obtain ⟨k1, k2⟩ := enN_c (p := nv r (59 + p)) (w := nv r (39 + p)) t2 t5 t4
    obtain ⟨o1, o2, o3⟩ := fok k2
    have fn := fN (p := nv r (59 + p)) (w := nv r (39 + p)) t2 t5 t4
    rw [h, if_neg i1, if_neg i1]
    simp (disch := omega) only [xl, xg, vinT, nI_clamp, la]
    rw [g1, g3, hr1, t1.e, t3.e, k1, xb, fn, x_guard_pos o1, x_guard_pos o2, o3]
    exact ⟨_, m1, rfl, rfl, s1⟩
end FLB
end
section
/-! Layer 2: the tokens of a text -/
def isB (c : Int32) : Bool := decide (c = 32) || decide (c = 10)
def isR (a b c : Int32) : Bool := decide (a ≤ c) && decide (c ≤ b)
def run (P : Int32 → Bool) (T : Nat → Int32) : Nat → Nat → Nat
  | 0, p => p
  | n + 1, p => if P (T p) = true then run P T n (p + 1) else p
theorem run_ge (P : Int32 → Bool) (T : Nat → Int32) : ∀ n p, p ≤ run P T n p
  | 0, p => Nat.le_refl _
  | n + 1, p => by
    unfold run
    split
    · have := run_ge P T n (p + 1); omega
    · exact Nat.le_refl _
theorem run_le (P : Int32 → Bool) (T : Nat → Int32) : ∀ n p, run P T n p ≤ p + n
  | 0, p => Nat.le_refl _
  | n + 1, p => by
    unfold run
    split
    · have := run_le P T n (p + 1); omega
    · omega
theorem run_in (P : Int32 → Bool) (T : Nat → Int32) : ∀ n p q, p ≤ q → q < run P T n p → P (T q) = true
  | 0, p, q, h1, h2 => by
    unfold run at h2
    omega
  | n + 1, p, q, h1, h2 => by
    unfold run at h2
    by_cases z : P (T p) = true
    · rw [if_pos z] at h2
      by_cases e : q = p
      · subst e; exact z
      · exact run_in P T n (p + 1) q (by omega) h2
    · rw [if_neg z] at h2
      omega
theorem run_1 (P : Int32 → Bool) (T : Nat → Int32) {n p : Nat} (hn : 0 < n) (h : P (T p) = true) : p < run P T n p := by
  obtain ⟨n, rfl⟩ : ∃ k, n = k + 1 := ⟨n - 1, by omega⟩
  unfold run
  rw [if_pos h]
  have := run_ge P T n (p + 1)
  omega
/-- where the next token starts -/
def tkS (T : Nat → Int32) (E x : Nat) : Nat := run isB T (E - x) x
/-- where it ends -/
def tkE (T : Nat → Int32) (E x : Nat) : Nat := if E ≤ tkS T E x then tkS T E x else if isR 97 122 (T (tkS T E x)) = true then run (isR 97 122) T (E - tkS T E x) (tkS T E x) else if isR 48 57 (T (tkS T E x)) = true then run (isR 48 57) T (E - tkS T E x) (tkS T E x) else tkS T E x + 1
/-- its kind: 0 the end, 1 none of the others, 2 a word, 3 a number, 4 a semicolon -/
def tkK (T : Nat → Int32) (E x : Nat) : Nat := if E ≤ tkS T E x then 0 else if isR 97 122 (T (tkS T E x)) = true then (if run (isR 97 122) T (E - tkS T E x) (tkS T E x) - tkS T E x ≤ 8 then 2 else 1) else if isR 48 57 (T (tkS T E x)) = true then (if run (isR 48 57) T (E - tkS T E x) (tkS T E x) - tkS T E x ≤ 5 then 3 else 1) else if T (tkS T E x) = 59 then 4 else 1
theorem tkS_b (T : Nat → Int32) {E x : Nat} (hx : x ≤ E) : x ≤ tkS T E x ∧ tkS T E x ≤ E := by
  have h1 := run_ge isB T (E - x) x
  have h2 := run_le isB T (E - x) x
  unfold tkS
  omega
theorem tkE_b (T : Nat → Int32) {E x : Nat} (hx : x ≤ E) : tkS T E x ≤ tkE T E x ∧ tkE T E x ≤ E ∧ (tkK T E x ≠ 0 → tkS T E x < tkE T E x) ∧ (tkK T E x = 0 → tkS T E x = E) := by
  obtain ⟨h1, h2⟩ := tkS_b T hx
  unfold tkE tkK
  by_cases z : E ≤ tkS T E x
  · rw [if_pos z, if_pos z]
    exact ⟨Nat.le_refl _, h2, fun h => absurd rfl h, fun _ => by omega⟩
  · rw [if_neg z, if_neg z]
    by_cases y : isR 97 122 (T (tkS T E x)) = true
    · rw [if_pos y, if_pos y]
      have a1 := run_1 (isR 97 122) T (n := E - tkS T E x) (by omega) y
      have a2 := run_le (isR 97 122) T (E - tkS T E x) (tkS T E x)
      exact ⟨by omega, by omega, fun _ => a1, fun h => by split at h <;> omega⟩
    · rw [if_neg y, if_neg y]
      by_cases w : isR 48 57 (T (tkS T E x)) = true
      · rw [if_pos w, if_pos w]
        have a1 := run_1 (isR 48 57) T (n := E - tkS T E x) (by omega) w
        have a2 := run_le (isR 48 57) T (E - tkS T E x) (tkS T E x)
        exact ⟨by omega, by omega, fun _ => a1, fun h => by split at h <;> omega⟩
      · rw [if_neg w, if_neg w]
        exact ⟨by omega, by omega, fun _ => by omega, fun h => by split at h <;> omega⟩
theorem rng_b (c a b : Int32) : (if c < a then (0 : Int32) else if b < c then 0 else 1) = b01 (isR a b c) := by
  unfold isR b01
  by_cases z : c < a
  · rw [if_pos z, decide_eq_false (fun h => i32_lt_le.mpr h z), Bool.false_and, if_neg (by decide)]
  · rw [if_neg z, decide_eq_true (i32_lt_le.mp z), Bool.true_and]
    by_cases y : b < c
    · rw [if_pos y, decide_eq_false (fun h => i32_lt_le.mpr h y), if_neg (by decide)]
    · rw [if_neg y, decide_eq_true (i32_lt_le.mp y), if_pos rfl]
theorem c_between {rd : SD} {p : Nat} (hp : p < 900) (a b : Int32) : f_X5_isBetween rd (nI p) a b = some (b01 (isR a b (rd 20 0 p))) := by
  unfold f_X5_isBetween
  rw [← rng_b]
  simp (disch := omega) only [xg, vinT, nI_clamp]
  split
  · rfl
  · split <;> rfl
/-- the cells of the token -/
def RT (rd rd' : SD) : Prop := ∀ k j t, ¬ (k = 5 ∧ j = 0 ∧ (t = 3 ∨ t = 4 ∨ t = 5)) → rd' k j t = rd k j t
theorem RT.rf (x : SD) : RT x x := fun _ _ _ _ => rfl
theorem RT.tr {x y z : SD} (h : RT x y) (g : RT y z) : RT x z := fun k j t a => (g k j t a).trans (h k j t a)
theorem RT.up {x y : SD} (h : RT x y) {t : Nat} {v : Int32} (ht : t = 3 ∨ t = 4 ∨ t = 5) : RT x (upS y 5 0 t v) := fun k j q a => by
  unfold upS
  rw [if_neg (fun z => a ⟨z.1, z.2.1, by omega⟩)]
  exact h k j q a
theorem c_run {E : Nat} (hE : E ≤ 900) (a b : Int32) : ∀ (n p f : Nat) (rd : SD), p + n = E → n < f → rd 5 0 4 = nI p → rd 5 0 2 = nI E → ∃ rd', f_X5_endOfRun_L0 a b f rd = some (rd' 5 0 4 - rd 5 0 3, rd') ∧ rd' 5 0 4 = nI (run (isR a b) (rd 20 0) n p) ∧ ∀ k j t, ¬ (k = 5 ∧ j = 0 ∧ t = 4) → rd' k j t = rd k j t := by
  intro n
  induction n with
  | zero =>
    intro p f rd hp hf h4 h2
    obtain ⟨f, rfl⟩ : ∃ q, f = q + 1 := ⟨f - 1, by omega⟩
    have : p = E := by omega
    subst this
    rw [f_X5_endOfRun_L0, xl, h2, h4, if_pos (nI_le (Nat.le_refl _) (by omega))]
    exact ⟨rd, by rw [h4], h4, fun _ _ _ _ => rfl⟩
  | succ n ih =>
    intro p f rd hp hf h4 h2
    obtain ⟨f, rfl⟩ : ∃ q, f = q + 1 := ⟨f - 1, by omega⟩
    rw [f_X5_endOfRun_L0, xl, h2, h4, if_neg (by rw [nI_leI (by omega) (by omega)]; omega), c_between (by omega), xb]
    unfold run
    by_cases z : isR a b (rd 20 0 p) = true
    · rw [if_neg (by rw [b01_0, z]; decide), if_pos z, xl, ra (k := 1)]
      obtain ⟨rd', q1, q2, q3⟩ := ih (p + 1) f (upS rd 5 0 4 (nI (p + 1))) (by omega) (by omega) (upS_hit _ _ _ _ _) h2
      refine ⟨rd', q1, q2, fun k j t hn => ?_⟩
      rw [q3 k j t hn]
      unfold upS
      rw [if_neg hn]
    · rw [if_pos (by rw [b01_0]; exact Bool.eq_false_iff.mpr z), if_neg z]
      exact ⟨rd, by rw [h4], h4, fun _ _ _ _ => rfl⟩
/-- the class behind the blanks -/
theorem c_kind {rd : SD} {E x s : Nat} (hE : E ≤ 900) (hx : x ≤ E) (h2 : rd 5 0 2 = nI E) (h3 : rd 5 0 3 = nI s) (hs : s = tkS (rd 20 0) E x) : ∃ rd', (x_let (upS rd 5 0 4 (rd 5 0 3)) fun (rd3 : SD) => (if (rd3 5 0 3) < (rd3 5 0 2) then x_bind (f_X5_isBetween rd3 ((rd3 5 0 3)) (97 : Int32) (122 : Int32)) fun (q4 : Int32) => (if q4 = 0 then x_bind (f_X5_isBetween rd3 ((rd3 5 0 3)) (48 : Int32) (57 : Int32)) fun (q5 : Int32) => (if q5 = 0 then x_guard (vp_in (rd3 5 0 3) 900) <| (x_let (fun (y8 : Int32) => (x_let (upS rd3 5 0 5 y8) fun (rd9 : SD) => x_let (upS rd9 5 0 4 ((rd9 5 0 4) + (1 : Int32))) fun (rd10 : SD) => some (rd10) : Option SD)) fun K7 => (if (rd3 20 0 ((rd3 5 0 3)).toNatClampNeg) = (59 : Int32) then K7 ((4 : Int32)) else K7 ((1 : Int32)))) else x_bind (f_X5_endOfRun rd3 (48 : Int32) (57 : Int32)) fun (q11 : (Int32 × SD)) => (x_let (fun (y13 : Int32) => (x_let (upS q11.2 5 0 5 y13) fun (rd14 : SD) => some (rd14) : Option SD)) fun K12 => (if (5 : Int32) < q11.1 then K12 ((1 : Int32)) else K12 ((3 : Int32))))) else x_bind (f_X5_endOfRun rd3 (97 : Int32) (122 : Int32)) fun (q15 : (Int32 × SD)) => (x_let (fun (y17 : Int32) => (x_let (upS q15.2 5 0 5 y17) fun (rd18 : SD) => some (rd18) : Option SD)) fun K16 => (if (8 : Int32) < q15.1 then K16 ((1 : Int32)) else K16 ((2 : Int32))))) else x_let (upS rd3 5 0 5 (0 : Int32)) fun (rd19 : SD) => some (rd19))) = some rd' ∧ RT rd rd' ∧ rd' 5 0 3 = nI s ∧ rd' 5 0 4 = nI (tkE (rd 20 0) E x) ∧ rd' 5 0 5 = nI (tkK (rd 20 0) E x) := by
  obtain ⟨b1, b2⟩ := tkS_b (rd 20 0) hx
  have e3 : (upS rd 5 0 4 (rd 5 0 3)) 5 0 3 = nI s := (upS_t (by omega)).trans h3
  have e2 : (upS rd 5 0 4 (rd 5 0 3)) 5 0 2 = nI E := (upS_t (by omega)).trans h2
  have e4 : (upS rd 5 0 4 (rd 5 0 3)) 5 0 4 = nI s := (upS_hit _ _ _ _ _).trans h3
  have hT : (upS rd 5 0 4 (rd 5 0 3)) 20 0 = rd 20 0 := by funext t; exact upS_k (by omega)
  have hF : RT rd (upS rd 5 0 4 (rd 5 0 3)) := (RT.rf rd).up (by omega)
  generalize upS rd 5 0 4 (rd 5 0 3) = rd3 at *
  rw [xl, e3, e2]
  unfold tkE tkK
  rw [← hs] at b1 b2 ⊢
  by_cases z : s < E
  · rw [if_pos ((nI_ltI (by omega) (by omega)).mpr z), if_neg (show ¬ E ≤ s by omega), if_neg (show ¬ E ≤ s by omega), c_between (by omega), xb, hT]
    by_cases y : isR 97 122 (rd 20 0 s) = true
    · rw [if_neg (by rw [b01_0, y]; decide), if_pos y, if_pos y]
      obtain ⟨rd', q1, q2, q3⟩ := c_run hE 97 122 (E - s) s fuel rd3 (by omega) (by unfold fuel; omega) e4 e2
      rw [hT] at q2
      have c1 := run_ge (isR 97 122) (rd 20 0) (E - s) s
      have c2 := run_le (isR 97 122) (rd 20 0) (E - s) s
      unfold f_X5_endOfRun
      rw [q1, xb]
      simp only [xl]
      rw [q2, e3, pk_sub c1]
      have hF' : RT rd rd' := hF.tr (fun k j t a => q3 k j t (by omega))
      have e3' : rd' 5 0 3 = nI s := (q3 _ _ _ (by omega)).trans e3
      have l8 : ((8 : Int32) < nI (run (isR 97 122) (rd 20 0) (E - s) s - s)) ↔ 8 < run (isR 97 122) (rd 20 0) (E - s) s - s := nI_ltI (a := 8) (by omega) (by omega)
      by_cases w : run (isR 97 122) (rd 20 0) (E - s) s - s ≤ 8
      · rw [if_neg (fun h => by have := l8.mp h; omega), if_pos w]
        exact ⟨_, rfl, hF'.up (by omega), (upS_t (by omega)).trans e3', (upS_t (by omega)).trans q2, upS_hit _ _ _ _ _⟩
      · rw [if_pos (l8.mpr (by omega)), if_neg w]
        exact ⟨_, rfl, hF'.up (by omega), (upS_t (by omega)).trans e3', (upS_t (by omega)).trans q2, upS_hit _ _ _ _ _⟩
    · rw [if_pos (by rw [b01_0]; exact Bool.eq_false_iff.mpr y), if_neg y, if_neg y, c_between (by omega), xb, hT]
      by_cases w : isR 48 57 (rd 20 0 s) = true
      · rw [if_neg (by rw [b01_0, w]; decide), if_pos w, if_pos w]
        obtain ⟨rd', q1, q2, q3⟩ := c_run hE 48 57 (E - s) s fuel rd3 (by omega) (by unfold fuel; omega) e4 e2
        rw [hT] at q2
        have c1 := run_ge (isR 48 57) (rd 20 0) (E - s) s
        have c2 := run_le (isR 48 57) (rd 20 0) (E - s) s
        unfold f_X5_endOfRun
        rw [q1, xb]
        simp only [xl]
        rw [q2, e3, pk_sub c1]
        have hF' : RT rd rd' := hF.tr (fun k j t a => q3 k j t (by omega))
        have e3' : rd' 5 0 3 = nI s := (q3 _ _ _ (by omega)).trans e3
        have l5 : ((5 : Int32) < nI (run (isR 48 57) (rd 20 0) (E - s) s - s)) ↔ 5 < run (isR 48 57) (rd 20 0) (E - s) s - s := nI_ltI (a := 5) (by omega) (by omega)
        by_cases v : run (isR 48 57) (rd 20 0) (E - s) s - s ≤ 5
        · rw [if_neg (fun h => by have := l5.mp h; omega), if_pos v]
          exact ⟨_, rfl, hF'.up (by omega), (upS_t (by omega)).trans e3', (upS_t (by omega)).trans q2, upS_hit _ _ _ _ _⟩
        · rw [if_pos (l5.mpr (by omega)), if_neg v]
          exact ⟨_, rfl, hF'.up (by omega), (upS_t (by omega)).trans e3', (upS_t (by omega)).trans q2, upS_hit _ _ _ _ _⟩
      · rw [if_pos (by rw [b01_0]; exact Bool.eq_false_iff.mpr w), if_neg w, if_neg w, x_guard_pos (vp_in_nI (by omega) (by omega)), nI_clamp (by omega)]
        simp only [xl]
        have e4' : ∀ v, (upS rd3 5 0 5 v) 5 0 4 + 1 = nI (s + 1) := fun v => by rw [upS_t (by omega), e4, ra (k := 1)]
        by_cases v : rd 20 0 s = 59
        · rw [if_pos v, if_pos v, e4']
          exact ⟨_, rfl, (hF.up (by omega)).up (by omega), by rw [upS_t (by omega), upS_t (by omega)]; exact e3, upS_hit _ _ _ _ _, by rw [upS_t (by omega)]; exact upS_hit _ _ _ _ _⟩
        · rw [if_neg v, if_neg v, e4']
          exact ⟨_, rfl, (hF.up (by omega)).up (by omega), by rw [upS_t (by omega), upS_t (by omega)]; exact e3, upS_hit _ _ _ _ _, by rw [upS_t (by omega)]; exact upS_hit _ _ _ _ _⟩
  · rw [if_neg (by rw [nI_ltI (by omega) (by omega)]; exact z), if_pos (show E ≤ s by omega), if_pos (show E ≤ s by omega), xl]
    exact ⟨_, rfl, hF.up (by omega), (upS_t (by omega)).trans e3, (upS_t (by omega)).trans e4, upS_hit _ _ _ _ _⟩
theorem c_skip {E x : Nat} (hE : E ≤ 900) (hx : x ≤ E) : ∀ (n p f : Nat) (rd : SD), p + n = E → n < f → rd 5 0 3 = nI p → rd 5 0 2 = nI E → run isB (rd 20 0) n p = tkS (rd 20 0) E x → ∃ rd', f_X5_nextToken_L8 f rd = some rd' ∧ RT rd rd' ∧ rd' 5 0 3 = nI (tkS (rd 20 0) E x) ∧ rd' 5 0 4 = nI (tkE (rd 20 0) E x) ∧ rd' 5 0 5 = nI (tkK (rd 20 0) E x) := by
  intro n
  induction n with
  | zero =>
    intro p f rd hp hf h3 h2 hr
    obtain ⟨f, rfl⟩ : ∃ q, f = q + 1 := ⟨f - 1, by omega⟩
    have : p = E := by omega
    subst this
    obtain ⟨rd', q1, q2, q3, q4, q5⟩ := c_kind hE hx h2 h3 (show p = tkS (rd 20 0) p x from hr)
    refine ⟨rd', ?_, q2, by rw [← hr]; exact q3, q4, q5⟩
    rw [f_X5_nextToken_L8, xl, h2, h3, if_pos (nI_le (Nat.le_refl _) (by omega)), ← h3]
    exact q1
  | succ n ih =>
    intro p f rd hp hf h3 h2 hr
    obtain ⟨f, rfl⟩ : ∃ q, f = q + 1 := ⟨f - 1, by omega⟩
    unfold run at hr
    have cont : ∀ h : isB (rd 20 0 p) = true, ∃ rd', f_X5_nextToken_L8 f (upS rd 5 0 3 (nI (p + 1))) = some rd' ∧ RT rd rd' ∧ rd' 5 0 3 = nI (tkS (rd 20 0) E x) ∧ rd' 5 0 4 = nI (tkE (rd 20 0) E x) ∧ rd' 5 0 5 = nI (tkK (rd 20 0) E x) := fun h => by
      rw [if_pos h] at hr
      obtain ⟨rd', q1, q2, q3⟩ := ih (p + 1) f (upS rd 5 0 3 (nI (p + 1))) (by omega) (by omega) (upS_hit _ _ _ _ _) h2 hr
      exact ⟨rd', q1, ((RT.rf rd).up (by omega)).tr q2, q3⟩
    rw [f_X5_nextToken_L8]
    simp only [xl]
    rw [h2, h3, if_neg (by rw [nI_leI (by omega) (by omega)]; omega)]
    simp (disch := omega) only [xg, vinT, nI_clamp, ra]
    by_cases z : rd 20 0 p = 32
    · rw [if_pos z]
      exact cont (by unfold isB; rw [decide_eq_true z, Bool.true_or])
    · rw [if_neg z]
      by_cases y : rd 20 0 p = 10
      · rw [if_pos y]
        exact cont (by unfold isB; rw [decide_eq_true y, Bool.or_true])
      · rw [if_neg y]
        have hb : ¬ isB (rd 20 0 p) = true := by
          unfold isB
          rw [decide_eq_false z, decide_eq_false y]
          decide
        rw [if_neg hb] at hr
        obtain ⟨rd', q1, q2, q3, q4, q5⟩ := c_kind hE hx h2 h3 hr
        refine ⟨rd', ?_, q2, by rw [← hr]; exact q3, q4, q5⟩
        simp only [xl] at q1
        rw [← h3]
        exact q1
theorem c_next {rd : SD} {E x : Nat} (hE : E ≤ 900) (hx : x ≤ E) (h2 : rd 5 0 2 = nI E) (h4 : rd 5 0 4 = nI x) : ∃ rd', f_X5_nextToken rd = some rd' ∧ RT rd rd' ∧ rd' 5 0 3 = nI (tkS (rd 20 0) E x) ∧ rd' 5 0 4 = nI (tkE (rd 20 0) E x) ∧ rd' 5 0 5 = nI (tkK (rd 20 0) E x) := by
  obtain ⟨rd', q1, q2, q3⟩ := c_skip hE hx (E - x) x fuel (upS rd 5 0 3 (rd 5 0 4)) (by omega) (by unfold fuel; omega) ((upS_hit _ _ _ _ _).trans h4) h2 rfl
  refine ⟨rd', ?_, ((RT.rf rd).up (by omega)).tr q2, q3⟩
  unfold f_X5_nextToken
  rw [xl]
  exact q1
end
section
/-! Layer 2: the reference's tokens -/
def val (T : Nat → Int32) : Nat → Nat → Int32 → Int32
  | 0, _, v => v
  | k + 1, p, v => val T k (p + 1) (v * 10 + (T p - 48))
def wd (B : Nat) (T : Nat → Int32) : Nat → Nat → Nat → Nat
  | 0, _, v => v
  | k + 1, p, v => wd B T k (p + 1) (B * v + ((T p).toNatClampNeg - 96))
/-- the reference's number of a kind -/
def rk (k : Nat) : Nat := if k = 0 then 0 else if k = 1 then 4 else k - 1
/-- the reference's token is the one behind x -/
def TokM (T : Nat → Int32) (E x : Nat) (md : SD) (mw : Int64) : Prop := md 8 0 20 = nI (tkS T E x) ∧ md 8 0 22 = nI (rk (tkK T E x)) ∧ (tkK T E x ≠ 0 → md 8 0 21 = nI (tkE T E x)) ∧ (tkK T E x = 3 → md 8 0 23 = val T (tkE T E x - tkS T E x) (tkS T E x) 0) ∧ (tkK T E x = 2 → mw = lN (wd 27 T (tkE T E x - tkS T E x) (tkS T E x) 0))
def RM (md md' : SD) : Prop := ∀ k j t, ¬ (k = 8 ∧ j = 0 ∧ 20 ≤ t ∧ t ≤ 23) → md' k j t = md k j t
theorem RM.rf (x : SD) : RM x x := fun _ _ _ _ => rfl
theorem RM.tr {x y z : SD} (h : RM x y) (g : RM y z) : RM x z := fun k j t a => (g k j t a).trans (h k j t a)
theorem RM.up {x y : SD} (h : RM x y) {t : Nat} {v : Int32} (ht : 20 ≤ t ∧ t ≤ 23) : RM x (upS y 8 0 t v) := fun k j q a => by
  unfold upS
  rw [if_neg (fun z => a ⟨z.1, z.2.1, by omega⟩)]
  exact h k j q a
theorem b01_if (b : Bool) : (if b01 b = 0 then some (0 : Int32) else some 1) = some (b01 b) := by cases b <;> rfl
theorem m_isOf {md : SD} {p E : Nat} (hE : E ≤ 900) (hp : p < 2 ^ 30) (h24 : md 8 0 24 = nI E) (a b : Int32) : f_X8_isOf md (nI p) a b = some (b01 (decide (p < E) && isR a b (md 38 0 p))) := by
  unfold f_X8_isOf
  rw [h24]
  by_cases z : p < E
  · rw [if_neg (by rw [nI_leI (by omega) (by omega)]; omega), x_guard_pos (vp_in_nI (by omega) (by omega)), nI_clamp (by omega), isIn32, rng_b, xb, b01_if, decide_eq_true z, Bool.true_and]
  · rw [if_pos (nI_le (by omega) (by omega)), decide_eq_false z, Bool.false_and]
    rfl
theorem isR_eq (c k : Int32) : isR k k c = decide (c = k) := by
  unfold isR
  by_cases z : c = k
  · subst z
    rw [decide_eq_true (Int32.le_refl _), decide_eq_true rfl]
    rfl
  · rw [decide_eq_false z]
    refine Bool.eq_false_iff.mpr (fun h => z ?_)
    rw [Bool.and_eq_true, decide_eq_true_eq, decide_eq_true_eq] at h
    exact Int32.le_antisymm h.2 h.1
theorem isR_n {a b : Nat} {c : Int32} (hb : b < 2 ^ 30) (h : isR (nI a) (nI b) c = true) (ha : a ≤ b) : ∃ n, a ≤ n ∧ n ≤ b ∧ c = nI n := by
  unfold isR at h
  rw [Bool.and_eq_true, decide_eq_true_eq, decide_eq_true_eq] at h
  rcases pk_ix c (n := b + 1) (by omega) with z | z | ⟨n, hn, rfl⟩
  · exact absurd (Int32.lt_of_lt_of_le z (nI_pos' (n := a) (by omega))) (i32_lt_le.mpr h.1)
  · have h2 := h.2
    rw [Int32.le_iff_toInt_le, nI_toInt (by omega)] at z h2
    omega
  · rw [nI_leI (by omega) (by omega), nI_leI (by omega) (by omega)] at h
    exact ⟨n, h.1, h.2, rfl⟩
section MTK
variable {T : Nat → Int32} {E : Nat}
theorem m_r254 (hE : E ≤ 900) {s : Nat} : ∀ (n p f : Nat) (md : SD) (v : Int32), p + n = E → n < f → s ≤ p → md 8 0 21 = nI p → md 8 0 20 = nI s → md 8 0 23 = v → md 8 0 24 = nI E → (∀ t, t < E → md 38 0 t = T t) → ∃ md', f_X8_next_L254 f md = some md' ∧ md' 8 0 21 = nI (run (isR 48 57) T n p) ∧ (run (isR 48 57) T n p - s ≤ 5 → md' 8 0 23 = val T (run (isR 48 57) T n p - p) p v) ∧ ∀ k j t, ¬ (k = 8 ∧ j = 0 ∧ (t = 21 ∨ t = 23)) → md' k j t = md k j t := by
  intro n
  induction n with
  | zero =>
    intro p f md v hp hf hs h21 h20 h23 h24 hT
    obtain ⟨f, rfl⟩ : ∃ q, f = q + 1 := ⟨f - 1, by omega⟩
    have : p = E := by omega
    subst this
    rw [f_X8_next_L254, h21, m_isOf hE (by omega) h24, xb, decide_eq_false (Nat.lt_irrefl _), Bool.false_and, if_pos (show b01 false = 0 from rfl)]
    refine ⟨md, rfl, h21, fun _ => ?_, fun _ _ _ _ => rfl⟩
    show _ = val T (p - p) p v
    rw [Nat.sub_self]
    exact h23
  | succ n ih =>
    intro p f md v hp hf hs h21 h20 h23 h24 hT
    obtain ⟨f, rfl⟩ : ∃ q, f = q + 1 := ⟨f - 1, by omega⟩
    rw [f_X8_next_L254, h21, m_isOf hE (by omega) h24, xb, decide_eq_true (show p < E by omega), Bool.true_and, hT p (by omega), h20, pk_sub hs]
    unfold run
    by_cases z : isR 48 57 (T p) = true
    · rw [if_neg (by rw [b01_0, z]; decide), if_pos z]
      simp only [xl]
      have l5 : ((5 : Int32) ≤ nI (p - s)) ↔ 5 ≤ p - s := nI_leI (a := 5) (by omega) (by omega)
      have hg := run_ge (isR 48 57) T n (p + 1)
      have key : ∀ w, (p - s < 5 → w = v * 10 + (T p - 48)) → ∃ md', f_X8_next_L254 f (upS (upS md 8 0 23 w) 8 0 21 ((upS md 8 0 23 w) 8 0 21 + 1)) = some md' ∧ md' 8 0 21 = nI (run (isR 48 57) T n (p + 1)) ∧ (run (isR 48 57) T n (p + 1) - s ≤ 5 → md' 8 0 23 = val T (run (isR 48 57) T n (p + 1) - p) p v) ∧ ∀ k j t, ¬ (k = 8 ∧ j = 0 ∧ (t = 21 ∨ t = 23)) → md' k j t = md k j t := fun w hw => by
        obtain ⟨md', q1, q2, q3, q4⟩ := ih (p + 1) f (upS (upS md 8 0 23 w) 8 0 21 (nI (p + 1))) w (by omega) (by omega) (by omega) (upS_hit _ _ _ _ _) ((upS_t (by omega)).trans ((upS_t (by omega)).trans h20)) ((upS_t (by omega)).trans (upS_hit _ _ _ _ _)) ((upS_t (by omega)).trans ((upS_t (by omega)).trans h24)) hT
        refine ⟨md', ?_, q2, fun h => ?_, fun k j t hn => ?_⟩
        · rw [upS_t (show (21 : Nat) ≠ 23 by omega), h21, ra (k := 1)]
          exact q1
        · rw [q3 h, hw (by omega)]
          obtain ⟨c, hc⟩ : ∃ c, run (isR 48 57) T n (p + 1) - p = c + 1 := ⟨run (isR 48 57) T n (p + 1) - p - 1, by omega⟩
          rw [hc, show run (isR 48 57) T n (p + 1) - (p + 1) = c by omega]
          rfl
        · rw [q4 k j t hn]
          unfold upS
          rw [if_neg (by omega), if_neg (by omega)]
      by_cases y : 5 ≤ p - s
      · rw [if_pos (l5.mpr y)]
        exact key _ (fun h => by omega)
      · rw [if_neg (fun h => y (l5.mp h)), x_guard_pos (vp_in_nI (by omega) (by omega)), nI_clamp (by omega), hT p (by omega), h23]
        exact key _ (fun _ => by grind)
    · rw [if_pos (by rw [b01_0]; exact Bool.eq_false_iff.mpr z), if_neg z]
      refine ⟨md, rfl, h21, fun _ => ?_, fun _ _ _ _ => rfl⟩
      show _ = val T (p - p) p v
      rw [Nat.sub_self]
      exact h23
theorem m_r127 (hE : E ≤ 900) {s : Nat} : ∀ (n p f : Nat) (md : SD) (mw : Int64) (v : Nat), p + n = E → n < f → s ≤ p → md 8 0 21 = nI p → md 8 0 20 = nI s → (p - s ≤ 8 → mw = lN v) → md 8 0 24 = nI E → (∀ t, t < E → md 38 0 t = T t) → ∃ md' mw', f_X8_next_L127 f md mw = some (md', mw') ∧ md' 8 0 21 = nI (run (isR 97 122) T n p) ∧ (run (isR 97 122) T n p - s ≤ 8 → mw' = lN (wd 27 T (run (isR 97 122) T n p - p) p v)) ∧ ∀ k j t, ¬ (k = 8 ∧ j = 0 ∧ t = 21) → md' k j t = md k j t := by
  intro n
  induction n with
  | zero =>
    intro p f md mw v hp hf hs h21 h20 hv h24 hT
    obtain ⟨f, rfl⟩ : ∃ q, f = q + 1 := ⟨f - 1, by omega⟩
    have : p = E := by omega
    subst this
    rw [f_X8_next_L127, h21, m_isOf hE (by omega) h24, xb, decide_eq_false (Nat.lt_irrefl _), Bool.false_and, if_pos (show b01 false = 0 from rfl)]
    refine ⟨md, mw, rfl, h21, fun h => ?_, fun _ _ _ _ => rfl⟩
    show _ = lN (wd 27 T (p - p) p v)
    rw [Nat.sub_self]
    exact hv h
  | succ n ih =>
    intro p f md mw v hp hf hs h21 h20 hv h24 hT
    obtain ⟨f, rfl⟩ : ∃ q, f = q + 1 := ⟨f - 1, by omega⟩
    rw [f_X8_next_L127, h21, m_isOf hE (by omega) h24, xb, decide_eq_true (show p < E by omega), Bool.true_and, hT p (by omega), h20, pk_sub hs]
    unfold run
    by_cases z : isR 97 122 (T p) = true
    · rw [if_neg (by rw [b01_0, z]; decide), if_pos z]
      simp only [xl]
      have l8 : ((8 : Int32) ≤ nI (p - s)) ↔ 8 ≤ p - s := nI_leI (a := 8) (by omega) (by omega)
      have hg := run_ge (isR 97 122) T n (p + 1)
      obtain ⟨x, x1, x2, x3⟩ := isR_n (a := 97) (b := 122) (by omega) z (by omega)
      have key : ∀ w : Int64, (p + 1 - s ≤ 8 → w = lN (27 * v + ((T p).toNatClampNeg - 96))) → ∃ md' mw', f_X8_next_L127 f (upS md 8 0 21 (nI (p + 1))) w = some (md', mw') ∧ md' 8 0 21 = nI (run (isR 97 122) T n (p + 1)) ∧ (run (isR 97 122) T n (p + 1) - s ≤ 8 → mw' = lN (wd 27 T (run (isR 97 122) T n (p + 1) - p) p v)) ∧ ∀ k j t, ¬ (k = 8 ∧ j = 0 ∧ t = 21) → md' k j t = md k j t := fun w hw => by
        obtain ⟨md', mw', q1, q2, q3, q4⟩ := ih (p + 1) f (upS md 8 0 21 (nI (p + 1))) w _ (by omega) (by omega) (by omega) (upS_hit _ _ _ _ _) ((upS_t (by omega)).trans h20) hw ((upS_t (by omega)).trans h24) hT
        refine ⟨md', mw', q1, q2, fun h => ?_, fun k j t hn => ?_⟩
        · rw [q3 h]
          obtain ⟨c, hc⟩ : ∃ c, run (isR 97 122) T n (p + 1) - p = c + 1 := ⟨run (isR 97 122) T n (p + 1) - p - 1, by omega⟩
          rw [hc, show run (isR 97 122) T n (p + 1) - (p + 1) = c by omega]
          rfl
        · rw [q4 k j t hn]
          unfold upS
          rw [if_neg (by omega)]
      rw [ra (k := 1)]
      by_cases y : 8 ≤ p - s
      · rw [if_pos (l8.mpr y)]
        exact key _ (fun h => by omega)
      · rw [if_neg (fun h => y (l8.mp h)), x_guard_pos (vp_in_nI (by omega) (by omega)), nI_clamp (by omega), hT p (by omega), hv (by omega)]
        refine key _ (fun _ => ?_)
        rw [x3, nI_l (by omega), nI_clamp (by omega)]
        show lN 27 * lN v + lN x - lN 96 = _
        rw [lN_mul, lN_add, lN_sub (by omega)]
        congr 1
        omega
    · rw [if_pos (by rw [b01_0]; exact Bool.eq_false_iff.mpr z), if_neg z]
      refine ⟨md, mw, rfl, h21, fun h => ?_, fun _ _ _ _ => rfl⟩
      show _ = lN (wd 27 T (p - p) p v)
      rw [Nat.sub_self]
      exact hv h
theorem m_skip (hE : E ≤ 900) {x : Nat} (hx : x ≤ E) (mw : Int64) : ∀ (n p f : Nat) (md : SD), p + n = E → n < f → md 8 0 20 = nI p → md 8 0 24 = nI E → (∀ t, t < E → md 38 0 t = T t) → run isB T n p = tkS T E x → ∃ md' mw', f_X8_next_L8 mw f md = some (md', mw') ∧ RM md md' ∧ TokM T E x md' mw' := by
  have fin : ∀ (p : Nat) (md : SD), p ≤ E → md 8 0 20 = nI p → md 8 0 24 = nI E → (∀ t, t < E → md 38 0 t = T t) → p = tkS T E x → ∃ md' mw', (x_let (upS md 8 0 21 ((md 8 0 20) + (1 : Int32))) fun (md6 : SD) => (x_let (fun (y8 : Int32) => (x_let (upS md6 8 0 22 y8) fun (md9 : SD) => x_bind (f_X8_isOf md9 ((md9 8 0 20)) (97 : Int32) (122 : Int32)) fun (q10 : Int32) => (if q10 = 0 then x_bind (f_X8_isOf md9 ((md9 8 0 20)) (48 : Int32) (57 : Int32)) fun (q11 : Int32) => (if q11 = 0 then some (md9, mw) else x_let (upS md9 8 0 23 (0 : Int32)) fun (md12 : SD) => x_let (upS md12 8 0 21 (md12 8 0 20)) fun (md13 : SD) => x_bind (f_X8_next_L254  fuel (md13)) fun (q14 : (SD)) => (x_let (fun (y22 : Int32) => (x_let (upS q14 8 0 22 y22) fun (md23 : SD) => some (md23, mw) : Option (SD × Int64))) fun K21 => (if ((q14 8 0 21) - (q14 8 0 20)) ≤ (5 : Int32) then K21 ((2 : Int32)) else K21 ((4 : Int32))))) else x_let ((0 : Int64)) fun (mw24 : Int64) => x_let (upS md9 8 0 21 (md9 8 0 20)) fun (md25 : SD) => x_bind (f_X8_next_L127  fuel (md25) (mw24)) fun (q26 : (SD × Int64)) => (x_let (fun (y34 : Int32) => (x_let (upS q26.1 8 0 22 y34) fun (md35 : SD) => some (md35, q26.2) : Option (SD × Int64))) fun K33 => (if ((q26.1 8 0 21) - (q26.1 8 0 20)) ≤ (8 : Int32) then K33 ((1 : Int32)) else K33 ((4 : Int32))))) : Option (SD × Int64))) fun K7 => (if (md6 8 0 20) < (md6 8 0 24) then x_guard (vp_in (md6 8 0 20) 900) <| (if (md6 38 0 ((md6 8 0 20)).toNatClampNeg) = (59 : Int32) then K7 ((3 : Int32)) else K7 ((4 : Int32))) else K7 ((0 : Int32))))) = some (md', mw') ∧ RM md md' ∧ TokM T E x md' mw' := by
    intro p md hpE h20 h24 hT hp
    have core : ∀ y : Nat, (E ≤ p → y = 0) → (p < E → T p = 59 → y = 3) → (p < E → ¬ T p = 59 → y = 4) → ∃ md' mw', (x_let (upS (upS md 8 0 21 (nI (p + 1))) 8 0 22 (nI y)) fun (md9 : SD) => x_bind (f_X8_isOf md9 ((md9 8 0 20)) (97 : Int32) (122 : Int32)) fun (q10 : Int32) => (if q10 = 0 then x_bind (f_X8_isOf md9 ((md9 8 0 20)) (48 : Int32) (57 : Int32)) fun (q11 : Int32) => (if q11 = 0 then some (md9, mw) else x_let (upS md9 8 0 23 (0 : Int32)) fun (md12 : SD) => x_let (upS md12 8 0 21 (md12 8 0 20)) fun (md13 : SD) => x_bind (f_X8_next_L254  fuel (md13)) fun (q14 : (SD)) => (x_let (fun (y22 : Int32) => (x_let (upS q14 8 0 22 y22) fun (md23 : SD) => some (md23, mw) : Option (SD × Int64))) fun K21 => (if ((q14 8 0 21) - (q14 8 0 20)) ≤ (5 : Int32) then K21 ((2 : Int32)) else K21 ((4 : Int32))))) else x_let ((0 : Int64)) fun (mw24 : Int64) => x_let (upS md9 8 0 21 (md9 8 0 20)) fun (md25 : SD) => x_bind (f_X8_next_L127  fuel (md25) (mw24)) fun (q26 : (SD × Int64)) => (x_let (fun (y34 : Int32) => (x_let (upS q26.1 8 0 22 y34) fun (md35 : SD) => some (md35, q26.2) : Option (SD × Int64))) fun K33 => (if ((q26.1 8 0 21) - (q26.1 8 0 20)) ≤ (8 : Int32) then K33 ((1 : Int32)) else K33 ((4 : Int32)))))) = some (md', mw') ∧ RM md md' ∧ TokM T E x md' mw' := by
      intro y y0 y3 y4
      have hF : RM md (upS (upS md 8 0 21 (nI (p + 1))) 8 0 22 (nI y)) := ((RM.rf md).up (by omega)).up (by omega)
      have f20 : (upS (upS md 8 0 21 (nI (p + 1))) 8 0 22 (nI y)) 8 0 20 = nI p := (upS_t (by omega)).trans ((upS_t (by omega)).trans h20)
      have f21 : (upS (upS md 8 0 21 (nI (p + 1))) 8 0 22 (nI y)) 8 0 21 = nI (p + 1) := (upS_t (by omega)).trans (upS_hit _ _ _ _ _)
      have f22 : (upS (upS md 8 0 21 (nI (p + 1))) 8 0 22 (nI y)) 8 0 22 = nI y := upS_hit _ _ _ _ _
      have f24 : (upS (upS md 8 0 21 (nI (p + 1))) 8 0 22 (nI y)) 8 0 24 = nI E := (upS_t (by omega)).trans ((upS_t (by omega)).trans h24)
      have fT : ∀ t, t < E → (upS (upS md 8 0 21 (nI (p + 1))) 8 0 22 (nI y)) 38 0 t = T t := hT
      generalize upS (upS md 8 0 21 (nI (p + 1))) 8 0 22 (nI y) = m9 at *
      rw [xl, f20, m_isOf hE (by omega) f24, xb, m_isOf hE (by omega) f24, xb]
      unfold TokM tkE tkK
      rw [← hp]
      by_cases z : E ≤ p
      · rw [decide_eq_false (show ¬ p < E by omega), Bool.false_and, Bool.false_and, if_pos (show b01 false = 0 from rfl), if_pos (show b01 false = 0 from rfl)]
        refine ⟨m9, mw, rfl, hF, f20, ?_, ?_, ?_, ?_⟩
        · rw [f22, y0 z, if_pos z]
          rfl
        · rw [if_pos z]; intro h; exact absurd rfl h
        · rw [if_pos z]; intro h; omega
        · rw [if_pos z]; intro h; omega
      · have hlt : p < E := by omega
        rw [decide_eq_true hlt, Bool.true_and, Bool.true_and, fT p hlt]
        by_cases w : isR 97 122 (T p) = true
        · rw [if_neg (by rw [b01_0, w]; decide)]
          simp only [xl]
          obtain ⟨m', mw', q1, q2, q3, q4⟩ := m_r127 (T := T) hE (s := p) (E - p) p fuel (upS m9 8 0 21 (nI p)) 0 0 (by omega) (by unfold fuel; omega) (Nat.le_refl _) (upS_hit _ _ _ _ _) ((upS_t (by omega)).trans f20) (fun _ => rfl) ((upS_t (by omega)).trans f24) fT
          have c1 := run_ge (isR 97 122) T (E - p) p
          have c2 := run_le (isR 97 122) T (E - p) p
          have q20 : m' 8 0 20 = nI p := (q4 _ _ _ (by omega)).trans ((upS_t (by omega)).trans f20)
          rw [q1, xb]
          simp only
          rw [q2, q20, pk_sub c1]
          have l8 : (nI (run (isR 97 122) T (E - p) p - p) ≤ (8 : Int32)) ↔ run (isR 97 122) T (E - p) p - p ≤ 8 := nI_leI (b := 8) (by omega) (by omega)
          have hF' : RM md m' := hF.tr (((RM.rf m9).up (t := 21) (by omega)).tr (fun k j t a => q4 k j t (by omega)))
          by_cases v : run (isR 97 122) T (E - p) p - p ≤ 8
          · rw [if_pos (l8.mpr v)]
            refine ⟨_, mw', rfl, hF'.up (by omega), (upS_t (by omega)).trans q20, ?_, ?_, ?_, ?_⟩
            all_goals simp only [if_neg z, if_pos w, if_pos v]
            · exact upS_hit _ _ _ _ _
            · exact fun _ => (upS_t (by omega)).trans q2
            · intro h; omega
            · exact fun _ => q3 v
          · rw [if_neg (fun h => v (l8.mp h))]
            refine ⟨_, mw', rfl, hF'.up (by omega), (upS_t (by omega)).trans q20, ?_, ?_, ?_, ?_⟩
            all_goals simp only [if_neg z, if_pos w, if_neg v]
            · exact upS_hit _ _ _ _ _
            · exact fun _ => (upS_t (by omega)).trans q2
            · intro h; omega
            · intro h; omega
        · rw [if_pos (by rw [b01_0]; exact Bool.eq_false_iff.mpr w)]
          by_cases u : isR 48 57 (T p) = true
          · rw [if_neg (by rw [b01_0, u]; decide)]
            simp only [xl]
            rw [upS_t (show (20 : Nat) ≠ 23 by omega), f20]
            obtain ⟨m', q1, q2, q3, q4⟩ := m_r254 (T := T) hE (s := p) (E - p) p fuel (upS (upS m9 8 0 23 0) 8 0 21 (nI p)) 0 (by omega) (by unfold fuel; omega) (Nat.le_refl _) (upS_hit _ _ _ _ _) ((upS_t (by omega)).trans ((upS_t (by omega)).trans f20)) ((upS_t (by omega)).trans (upS_hit _ _ _ _ _)) ((upS_t (by omega)).trans ((upS_t (by omega)).trans f24)) fT
            have c1 := run_ge (isR 48 57) T (E - p) p
            have c2 := run_le (isR 48 57) T (E - p) p
            have q20 : m' 8 0 20 = nI p := (q4 _ _ _ (by omega)).trans ((upS_t (by omega)).trans ((upS_t (by omega)).trans f20))
            rw [q1, xb, q2, q20, pk_sub c1]
            have l5 : (nI (run (isR 48 57) T (E - p) p - p) ≤ (5 : Int32)) ↔ run (isR 48 57) T (E - p) p - p ≤ 5 := nI_leI (b := 5) (by omega) (by omega)
            have hF' : RM md m' := hF.tr ((((RM.rf m9).up (t := 23) (by omega)).up (t := 21) (by omega)).tr (fun k j t a => q4 k j t (by omega)))
            by_cases v : run (isR 48 57) T (E - p) p - p ≤ 5
            · rw [if_pos (l5.mpr v)]
              refine ⟨_, mw, rfl, hF'.up (by omega), (upS_t (by omega)).trans q20, ?_, ?_, ?_, ?_⟩
              all_goals simp only [if_neg z, if_neg w, if_pos u, if_pos v]
              · exact upS_hit _ _ _ _ _
              · exact fun _ => (upS_t (by omega)).trans q2
              · exact fun _ => (upS_t (by omega)).trans (q3 v)
              · intro h; omega
            · rw [if_neg (fun h => v (l5.mp h))]
              refine ⟨_, mw, rfl, hF'.up (by omega), (upS_t (by omega)).trans q20, ?_, ?_, ?_, ?_⟩
              all_goals simp only [if_neg z, if_neg w, if_pos u, if_neg v]
              · exact upS_hit _ _ _ _ _
              · exact fun _ => (upS_t (by omega)).trans q2
              · intro h; omega
              · intro h; omega
          · rw [if_pos (by rw [b01_0]; exact Bool.eq_false_iff.mpr u)]
            by_cases v : T p = 59
            · refine ⟨m9, mw, rfl, hF, f20, ?_, ?_, ?_, ?_⟩
              all_goals simp only [if_neg z, if_neg w, if_neg u, if_pos v]
              · rw [f22, y3 hlt v]; rfl
              · exact fun _ => f21
              · intro h; omega
              · intro h; omega
            · refine ⟨m9, mw, rfl, hF, f20, ?_, ?_, ?_, ?_⟩
              all_goals simp only [if_neg z, if_neg w, if_neg u, if_neg v]
              · rw [f22, y4 hlt v]; rfl
              · exact fun _ => f21
              · intro h; omega
              · intro h; omega
    rw [xl, xl, h20, ra (k := 1)]
    have g20 : (upS md 8 0 21 (nI (p + 1))) 8 0 20 = nI p := (upS_t (by omega)).trans h20
    have g24 : (upS md 8 0 21 (nI (p + 1))) 8 0 24 = nI E := (upS_t (by omega)).trans h24
    have gT : ∀ t, t < E → (upS md 8 0 21 (nI (p + 1))) 38 0 t = T t := hT
    rw [g20, g24]
    by_cases z : p < E
    · rw [if_pos ((nI_ltI (by omega) (by omega)).mpr z), x_guard_pos (vp_in_nI (by omega) (by omega)), nI_clamp (by omega), gT p z]
      by_cases v : T p = 59
      · rw [if_pos v]
        exact core 3 (fun h => by omega) (fun _ _ => rfl) (fun _ h => absurd v h)
      · rw [if_neg v]
        exact core 4 (fun h => by omega) (fun _ h => absurd h v) (fun _ _ => rfl)
    · rw [if_neg (by rw [nI_ltI (by omega) (by omega)]; exact z)]
      exact core 0 (fun _ => rfl) (fun h => absurd h z) (fun h => absurd h z)
  intro n
  induction n with
  | zero =>
    intro p f md hp hf h20 h24 hT hr
    obtain ⟨f, rfl⟩ : ∃ q, f = q + 1 := ⟨f - 1, by omega⟩
    obtain ⟨md', mw', q1, q2, q3⟩ := fin p md (by omega) h20 h24 hT hr
    refine ⟨md', mw', ?_, q2, q3⟩
    rw [f_X8_next_L8, h20, m_isOf hE (by omega) h24, xb, m_isOf hE (by omega) h24]
    simp only [xl]
    rw [decide_eq_false (show ¬ p < E by omega), Bool.false_and, Bool.false_and, if_pos (show b01 false = 0 from rfl), xb, if_pos (show b01 false = 0 from rfl)]
    simp only [xl, h20] at q1
    exact q1
  | succ n ih =>
    intro p f md hp hf h20 h24 hT hr
    obtain ⟨f, rfl⟩ : ∃ q, f = q + 1 := ⟨f - 1, by omega⟩
    unfold run at hr
    have cont : ∀ h : isB (T p) = true, ∃ md' mw', f_X8_next_L8 mw f (upS md 8 0 20 (nI (p + 1))) = some (md', mw') ∧ RM md md' ∧ TokM T E x md' mw' := fun h => by
      rw [if_pos h] at hr
      obtain ⟨md', mw', q1, q2, q3⟩ := ih (p + 1) f (upS md 8 0 20 (nI (p + 1))) (by omega) (by omega) (upS_hit _ _ _ _ _) ((upS_t (by omega)).trans h24) hT hr
      exact ⟨md', mw', q1, ((RM.rf md).up (by omega)).tr q2, q3⟩
    rw [f_X8_next_L8, h20, m_isOf hE (by omega) h24, xb, m_isOf hE (by omega) h24]
    simp only [xl]
    rw [decide_eq_true (show p < E by omega), Bool.true_and, Bool.true_and, hT p (by omega), isR_eq, isR_eq]
    by_cases z : T p = 32
    · rw [decide_eq_true z, if_neg (show ¬ b01 true = 0 by decide), ra (k := 1)]
      exact cont (by unfold isB; rw [decide_eq_true z, Bool.true_or])
    · rw [decide_eq_false z, if_pos (show b01 false = 0 from rfl), xb]
      by_cases y : T p = 10
      · rw [decide_eq_true y, if_neg (show ¬ b01 true = 0 by decide), ra (k := 1)]
        exact cont (by unfold isB; rw [decide_eq_true y, Bool.or_true])
      · rw [decide_eq_false y, if_pos (show b01 false = 0 from rfl)]
        have hb : ¬ isB (T p) = true := by
          unfold isB
          rw [decide_eq_false z, decide_eq_false y]
          decide
        rw [if_neg hb] at hr
        obtain ⟨md', mw', q1, q2, q3⟩ := fin p md (by omega) h20 h24 hT hr
        refine ⟨md', mw', ?_, q2, q3⟩
        simp only [xl, h20] at q1
        exact q1
theorem m_next (hE : E ≤ 900) {x : Nat} (hx : x ≤ E) {md : SD} (mw : Int64) (h24 : md 8 0 24 = nI E) (h21 : md 8 0 21 = nI x) (hT : ∀ t, t < E → md 38 0 t = T t) : ∃ md' mw', f_X8_next md mw = some (md', mw') ∧ RM md md' ∧ TokM T E x md' mw' := by
  obtain ⟨md', mw', q1, q2, q3⟩ := m_skip (T := T) hE hx mw (E - x) x fuel (upS md 8 0 20 (md 8 0 21)) (by omega) (by unfold fuel; omega) ((upS_hit _ _ _ _ _).trans h21) ((upS_t (by omega)).trans h24) hT rfl
  refine ⟨md', mw', ?_, ((RM.rf md).up (by omega)).tr q2, q3⟩
  unfold f_X8_next
  rw [xl]
  exact q1
end MTK
end
section
/-! Layer 2: both readers at a token; numbers; errors -/
def GG (T : Nat → Int32) (E : Nat) (rd md : SD) : Prop := E ≤ 900 ∧ rd 20 0 = T ∧ (∀ t, t < E → md 38 0 t = T t) ∧ (rd 5 0 2 = nI E ∧ rd 5 0 7 = 0) ∧ md 8 0 24 = nI E ∧ md 8 0 18 = 0
/-- the class stands before the token, the reference has it -/
def GS (T : Nat → Int32) (E x : Nat) (rd md : SD) (mw : Int64) : Prop := GG T E rd md ∧ x ≤ E ∧ rd 5 0 4 = nI x ∧ TokM T E x md mw
/-- both have the token -/
def GC (T : Nat → Int32) (E x : Nat) (rd md : SD) (mw : Int64) : Prop := GG T E rd md ∧ x ≤ E ∧ rd 5 0 3 = nI (tkS T E x) ∧ rd 5 0 4 = nI (tkE T E x) ∧ rd 5 0 5 = nI (tkK T E x) ∧ TokM T E x md mw
/-- both have failed alike -/
def BD (rd md : SD) : Prop := ∃ k, 0 < k ∧ k < 7 ∧ rd 5 0 7 = nI k ∧ md 8 0 18 = nI k ∧ rd 5 0 8 = md 8 0 19
def ER (md : SD) : Prop := ∃ k, 0 < k ∧ k < 7 ∧ md 8 0 18 = nI k
def RF (rd rd' : SD) : Prop := ∀ k j t, ¬ (k = 5 ∧ j = 0 ∧ (t = 3 ∨ t = 4 ∨ t = 5 ∨ t = 7 ∨ t = 8)) → rd' k j t = rd k j t
def MF (md md' : SD) : Prop := ∀ k j t, k ≠ 31 → ¬ (k = 8 ∧ j = 0 ∧ 18 ≤ t ∧ t ≤ 25) → md' k j t = md k j t
theorem RF.rf (x : SD) : RF x x := fun _ _ _ _ => rfl
theorem RF.tr {x y z : SD} (h : RF x y) (g : RF y z) : RF x z := fun k j t a => (g k j t a).trans (h k j t a)
theorem MF.rf (x : SD) : MF x x := fun _ _ _ _ _ => rfl
theorem MF.tr {x y z : SD} (h : MF x y) (g : MF y z) : MF x z := fun k j t a c => (g k j t a c).trans (h k j t a c)
theorem RT.f {x y : SD} (h : RT x y) : RF x y := fun k j t a => h k j t (by omega)
theorem RM.f {x y : SD} (h : RM x y) : MF x y := fun k j t _ c => h k j t (by omega)
theorem MF.r31 {x y : SD} (h : MF x y) {t : Nat} {v : Int32} : MF x (upS y 31 0 t v) := fun k j q a c => by
  unfold upS
  rw [if_neg (fun z => a z.1)]
  exact h k j q a c
theorem MK.f {x y : SD} (h : MK 31 x y) : MF x y := fun k j t a _ => h k j t (by omega)
theorem BD.er {rd md : SD} (h : BD rd md) : ER md := by
  obtain ⟨k, h1, h2, -, h4, -⟩ := h
  exact ⟨k, h1, h2, h4⟩
section RDS
variable {T : Nat → Int32} {E x : Nat} {rd md : SD} {mw : Int64}
theorem GS.tok (h : GS T E x rd md mw) : ∃ rd', f_X5_nextToken rd = some rd' ∧ GC T E x rd' md mw ∧ RT rd rd' := by
  obtain ⟨⟨h1, h2, h3, h4, h5, h6⟩, h7, h8, h9⟩ := h
  obtain ⟨rd', q1, q2, q3, q4, q5⟩ := c_next h1 h7 h4.1 h8
  rw [h2] at q3 q4 q5
  refine ⟨rd', q1, ⟨⟨h1, ?_, h3, ⟨(q2 _ _ _ (by omega)).trans h4.1, (q2 _ _ _ (by omega)).trans h4.2⟩, h5, h6⟩, h7, q3, q4, q5, h9⟩, q2⟩
  rw [← h2]
  funext t
  exact q2 _ _ _ (by omega)
theorem g_good (h : md 8 0 18 = 0) : f_X8_good md = some 1 := by
  unfold f_X8_good
  rw [h, if_pos rfl]
theorem GC.on (h : GC T E x rd md mw) (hk : tkK T E x ≠ 0) : ∃ md' mw', f_X8_goesOn md mw = some (md', mw') ∧ GS T E (tkE T E x) rd md' mw' ∧ RM md md' := by
  obtain ⟨⟨h1, h2, h3, h4, h5, h6⟩, h7, h8, h9, h10, t1, t2, t3, t4⟩ := h
  obtain ⟨-, b2, -, -⟩ := tkE_b T h7
  obtain ⟨md', mw', q1, q2, q3⟩ := m_next (T := T) h1 b2 mw h5 (t3 hk) h3
  refine ⟨md', mw', ?_, ⟨⟨h1, h2, fun t ht => (q2 _ _ _ (by omega)).trans (h3 t ht), h4, (q2 _ _ _ (by omega)).trans h5, (q2 _ _ _ (by omega)).trans h6⟩, b2, h9, q3⟩, q2⟩
  unfold f_X8_goesOn
  rw [g_good h6, xb, if_neg i1, q1, xb]
theorem must_1 (md : SD) (c : Int32) : f_X8_must md 1 c = some md := by
  unfold f_X8_must
  rw [if_neg i1]
theorem er_ne (h : ER md) : ¬ md 8 0 18 ≤ 0 ∧ ¬ md 8 0 18 = 0 := by
  obtain ⟨k, k1, k2, k3⟩ := h
  rw [k3]
  constructor
  · show ¬ nI k ≤ nI 0
    rw [nI_leI (by omega) (by omega)]
    omega
  · show ¬ nI k = nI 0
    rw [nI_eq (by omega) (by omega)]
    omega
theorem e_good (h : ER md) : f_X8_good md = some 0 := by
  unfold f_X8_good
  rw [if_neg (er_ne h).2]
theorem e_must (h : ER md) (a c : Int32) : f_X8_must md a c = some md := by
  unfold f_X8_must
  rw [if_neg (er_ne h).1]
  split <;> rfl
theorem e_on (h : ER md) (mw : Int64) : f_X8_goesOn md mw = some (md, mw) := by
  unfold f_X8_goesOn
  rw [e_good h, xb, if_pos rfl]
theorem e_sees (h : ER md) (a c : Int32) : f_X8_sees md a c = some (0, md) := by
  unfold f_X8_sees
  simp only [xl]
  simp only [e_must h, xb, isIn32, e_good h, if_true]
  split <;> rfl
theorem e_takes (h : ER md) (mw : Int64) (a c : Int32) : f_X8_takes md mw a c = some (0, md, mw) := by
  unfold f_X8_takes
  rw [e_sees h, xb, xl, e_on h, xb]
theorem e_isWord (h : ER md) (mw w : Int64) : f_X8_isWord md mw w = some 0 := by
  unfold f_X8_isWord
  rw [e_good h, xb, if_pos rfl]
def M2 (md md' : SD) : Prop := ∀ k j t, ¬ (k = 8 ∧ j = 0 ∧ (t = 18 ∨ t = 19)) → md' k j t = md k j t
theorem M2.f {x y : SD} (h : M2 x y) : MF x y := fun k j t _ c => h k j t (by omega)
theorem fail_k (h : GC T E x rd md mw) {k : Nat} (h1 : 0 < k) (h2 : k < 7) : ∃ rd' md', f_X5_fail rd (nI k) = some (0, rd') ∧ (x_let (upS md 8 0 18 (nI k)) fun (md3 : SD) => x_let (upS md3 8 0 19 (md3 8 0 20)) fun (md4 : SD) => some (md4)) = some md' ∧ BD rd' md' ∧ RF rd rd' ∧ M2 md md' := by
  obtain ⟨-, -, h8, -, -, t1, -⟩ := h
  refine ⟨_, _, rfl, rfl, ⟨k, h1, h2, (upS_t (by omega)).trans (upS_hit _ _ _ _ _), (upS_t (by omega)).trans (upS_hit _ _ _ _ _), ?_⟩, fun k j t a => ?_, fun k j t a => ?_⟩
  · rw [upS_hit, upS_hit, upS_t (by omega), upS_t (by omega), h8, t1]
  · unfold upS
    rw [if_neg (by omega), if_neg (by omega)]
  · unfold upS
    rw [if_neg (by omega), if_neg (by omega)]
theorem fail_must (h : GC T E x rd md mw) {k : Nat} (h1 : 0 < k) (h2 : k < 7) (h3 : k ≠ 2) : ∃ rd' md', f_X5_fail rd (nI k) = some (0, rd') ∧ f_X8_must md 0 (nI k) = some md' ∧ BD rd' md' ∧ RF rd rd' ∧ M2 md md' := by
  obtain ⟨rd', md', a1, a2, a3⟩ := fail_k h h1 h2
  refine ⟨rd', md', a1, ?_, a3⟩
  have h6 : md 8 0 18 = 0 := h.1.2.2.2.2.2
  unfold f_X8_must
  rw [if_pos rfl, h6, if_pos (show (0 : Int32) ≤ 0 by decide)]
  simp only [xl]
  have n2 : ¬ nI k = (2 : Int32) := fun z => h3 ((nI_eq (b := 2) (by omega) (by omega)).mp z)
  rw [if_neg n2]
  simp only [xl] at a2
  exact a2
theorem rk_eq {k n : Nat} (hk : k < 5) (hn : n < 5) : (nI (rk k) = nI (rk n)) ↔ k = n := by
  have : ∀ k, k < 5 → ∀ n, n < 5 → ((rk k = rk n) ↔ k = n) := by decide
  have l : ∀ k, k < 5 → rk k < 5 := by decide
  have := l k hk
  have := l n hn
  rw [nI_eq (by omega) (by omega)]
  exact ‹∀ k, k < 5 → ∀ n, n < 5 → ((rk k = rk n) ↔ k = n)› k hk n hn
theorem tkK_lt (T : Nat → Int32) (E x : Nat) : tkK T E x < 5 := by
  unfold tkK
  split
  · omega
  · split
    · split <;> omega
    · split
      · split <;> omega
      · split <;> omega
theorem failU_must (h : GC T E x rd md mw) : ∃ rd' md', f_X5_failUnexpected rd = some (0, rd') ∧ f_X8_must md 0 2 = some md' ∧ BD rd' md' ∧ RF rd rd' ∧ M2 md md' := by
  have h5 : rd 5 0 5 = nI (tkK T E x) := h.2.2.2.2.1
  have h22 : md 8 0 22 = nI (rk (tkK T E x)) := h.2.2.2.2.2.2.1
  have h6 : md 8 0 18 = 0 := h.1.2.2.2.2.2
  have hk := tkK_lt T E x
  have e1 : (nI (tkK T E x) = (1 : Int32)) ↔ tkK T E x = 1 := nI_eq (b := 1) (by omega) (by omega)
  have e2 : (nI (rk (tkK T E x)) = (4 : Int32)) ↔ tkK T E x = 1 := rk_eq (n := 1) hk (by omega)
  unfold f_X5_failUnexpected f_X8_must
  rw [if_pos rfl, h6, if_pos (show (0 : Int32) ≤ 0 by decide), h5, h22]
  simp only [xl]
  rw [if_pos trivial]
  by_cases z : tkK T E x = 1
  · obtain ⟨rd', md', a1, a2, a3⟩ := fail_k h (k := 1) (by omega) (by omega)
    have a1 : f_X5_fail rd 1 = some (0, rd') := a1
    rw [if_pos (e1.mpr z), if_pos (e2.mpr z), a1, xb, x_guard_pos (Or.inl rfl)]
    simp only [xl] at a2
    exact ⟨rd', md', rfl, a2, a3⟩
  · obtain ⟨rd', md', a1, a2, a3⟩ := fail_k h (k := 2) (by omega) (by omega)
    have a1 : f_X5_fail rd 2 = some (0, rd') := a1
    rw [if_neg (fun y => z (e1.mp y)), if_neg (fun y => z (e2.mp y)), a1, xb, x_guard_pos (Or.inl rfl)]
    simp only [xl] at a2
    exact ⟨rd', md', rfl, a2, a3⟩
theorem c_value {e : Nat} (he : e ≤ 900) (h4 : rd 5 0 4 = nI e) : ∀ (n p f : Nat) (v : Int32), p + n = e → n < f → f_X5_tokenValue_L7 rd f v (nI p) = some (val (rd 20 0) n p v) := by
  intro n
  induction n with
  | zero =>
    intro p f v hp hf
    obtain ⟨f, rfl⟩ : ∃ q, f = q + 1 := ⟨f - 1, by omega⟩
    have : p = e := by omega
    subst this
    rw [f_X5_tokenValue_L7, h4, if_pos (nI_le (Nat.le_refl _) (by omega))]
    rfl
  | succ n ih =>
    intro p f v hp hf
    obtain ⟨f, rfl⟩ : ∃ q, f = q + 1 := ⟨f - 1, by omega⟩
    rw [f_X5_tokenValue_L7, h4, if_neg (by rw [nI_leI (by omega) (by omega)]; omega)]
    simp (disch := omega) only [xl, xg, vinT, nI_clamp, ra]
    exact ih (p + 1) f _ (by omega) (by omega)
/-- the value of the token -/
def tv (T : Nat → Int32) (E x : Nat) : Int32 := val T (tkE T E x - tkS T E x) (tkS T E x) 0
theorem nmb_both (h : GS T E x rd md mw) (lo hi : Int32) : (∃ rd', tkK T E x = 3 ∧ lo ≤ tv T E x ∧ tv T E x ≤ hi ∧ f_X5_readNumber rd lo hi = some (tv T E x, rd') ∧ f_X8_sees md lo hi = some (tv T E x, md) ∧ GC T E x rd' md mw ∧ RF rd rd') ∨ ∃ rd' md', f_X5_readNumber rd lo hi = some (-1, rd') ∧ f_X8_sees md lo hi = some (0, md') ∧ BD rd' md' ∧ RF rd rd' ∧ M2 md md' := by
  obtain ⟨rd1, a1, a2, a3⟩ := h.tok
  have hk := tkK_lt T E x
  obtain ⟨⟨g1, g2, g3, g4, g5, g6⟩, h7, h8, h9, h10, t1, t2, t3, t4, t5⟩ := id a2
  obtain ⟨b1, b2, b3, -⟩ := tkE_b T h7
  have e1 : (nI (tkK T E x) = (3 : Int32)) ↔ tkK T E x = 3 := nI_eq (b := 3) (by omega) (by omega)
  have e2 : (nI (rk (tkK T E x)) = (2 : Int32)) ↔ tkK T E x = 3 := rk_eq (n := 3) hk (by omega)
  unfold f_X5_readNumber f_X8_sees
  rw [a1, xb, h10, t2]
  simp only [xl]
  by_cases z : tkK T E x = 3
  · have hv := c_value (rd := rd1) (e := tkE T E x) (by omega) h9 (tkE T E x - tkS T E x) (tkS T E x) fuel 0 (by omega) (by unfold fuel; omega)
    rw [g2] at hv
    have hv : f_X5_tokenValue rd1 = some (tv T E x) := by
      unfold f_X5_tokenValue
      rw [xl, h8]
      exact hv
    have t4 : md 8 0 23 = tv T E x := t4 z
    rw [if_pos (e1.mpr z), if_pos (e2.mpr z), hv, xb, must_1, xb, t4, isIn32, xb]
    by_cases y : tv T E x < lo
    · obtain ⟨rd', md', c1, c2, c3, c4, c5⟩ := fail_must a2 (k := 3) (by omega) (by omega) (by omega)
      have c1 : f_X5_fail rd1 3 = some (0, rd') := c1
      have c2 : f_X8_must md 0 3 = some md' := c2
      rw [if_pos y, if_pos y, c1, xb, c2, xb, e_good c3.er, xb, if_pos rfl]
      exact Or.inr ⟨rd', md', rfl, rfl, c3, a3.f.tr c4, c5⟩
    · rw [if_neg y, if_neg y]
      by_cases w : tv T E x ≤ hi
      · rw [if_pos w, if_neg (i32_lt_le.mpr w), must_1, xb, g_good g6, xb, if_neg i1, t4]
        exact Or.inl ⟨rd1, z, i32_lt_le.mp y, w, rfl, rfl, a2, a3.f⟩
      · obtain ⟨rd', md', c1, c2, c3, c4, c5⟩ := fail_must a2 (k := 3) (by omega) (by omega) (by omega)
        have c1 : f_X5_fail rd1 3 = some (0, rd') := c1
        have c2 : f_X8_must md 0 3 = some md' := c2
        rw [if_neg w, if_pos (i32_le_lt.mp w), c1, xb, c2, xb, e_good c3.er, xb, if_pos rfl]
        exact Or.inr ⟨rd', md', rfl, rfl, c3, a3.f.tr c4, c5⟩
  · obtain ⟨rd', md', c1, c2, c3, c4, c5⟩ := failU_must a2
    rw [if_neg (fun y => z (e1.mp y)), if_neg (fun y => z (e2.mp y)), c1, xb, c2, xb, isIn32, xb, e_must c3.er, xb, e_good c3.er, xb, if_pos rfl]
    exact Or.inr ⟨rd', md', rfl, rfl, c3, a3.f.tr c4, c5⟩
/-- a number that both take -/
theorem take_both (h : GS T E x rd md mw) (lo hi : Int32) : (∃ rd' md' mw', lo ≤ tv T E x ∧ tv T E x ≤ hi ∧ f_X5_readNumber rd lo hi = some (tv T E x, rd') ∧ f_X8_takes md mw lo hi = some (tv T E x, md', mw') ∧ GS T E (tkE T E x) rd' md' mw' ∧ RF rd rd' ∧ RM md md' ∧ x < tkE T E x) ∨ ∃ rd' md', f_X5_readNumber rd lo hi = some (-1, rd') ∧ f_X8_takes md mw lo hi = some (0, md', mw) ∧ BD rd' md' ∧ RF rd rd' ∧ M2 md md' := by
  rcases nmb_both h lo hi with ⟨rd', a1, a2, a3, a4, a5, a6, a7⟩ | ⟨rd', md', a1, a2, a3, a4, a5⟩
  · obtain ⟨md', mw', b1, b2, b3⟩ := a6.on (by omega)
    obtain ⟨c1, c2⟩ := tkS_b T h.2.1
    obtain ⟨-, -, d3, -⟩ := tkE_b T h.2.1
    have := d3 (by omega)
    refine Or.inl ⟨rd', md', mw', a2, a3, a4, ?_, b2, a7, b3, by omega⟩
    unfold f_X8_takes
    rw [a5, xb, xl, b1, xb]
  · refine Or.inr ⟨rd', md', a1, ?_, a3, a4, a5⟩
    unfold f_X8_takes
    rw [a2, xb, xl, e_on a3.er, xb]
end RDS
theorem in_nat {v : Int32} {a b : Nat} (hb : b < 2 ^ 30) (h1 : nI a ≤ v) (h2 : v ≤ nI b) (ha : a < 2 ^ 30) : ∃ n, a ≤ n ∧ n ≤ b ∧ v = nI n := by
  have h : isR (nI a) (nI b) v = true := by
    unfold isR
    rw [decide_eq_true h1, decide_eq_true h2]
    rfl
  by_cases z : a ≤ b
  · exact isR_n hb h z
  · rw [Int32.le_iff_toInt_le, nI_toInt (by omega)] at h1 h2
    omega
theorem in_nat1 {v : Int32} {b : Nat} (hb : b < 2 ^ 30) (h1 : 0 ≤ v) (h2 : v ≤ nI b - 1) : ∃ n, n < b ∧ v = nI n := by
  have h3 : v < nI b := by
    rw [← i32_le_lt]
    intro z
    exact i32_lt_le.mpr h2 ((nI_m1 (by omega) v).mpr z)
  have h4 : v ≤ nI b := Int32.le_of_lt h3
  obtain ⟨n, n1, n2, rfl⟩ := in_nat (a := 0) hb h1 h4 (by omega)
  refine ⟨n, ?_, rfl⟩
  rw [nI_ltI (by omega) (by omega)] at h3
  exact h3
theorem nm1' {n : Nat} (h : n < 2 ^ 31) : ¬ nI n = -1 := by rw [nm1 h]; exact id
end
section
/-! Layer 2: words -/
def dgs (T : Nat → Int32) : Nat → Nat → List Nat
  | 0, _ => []
  | k + 1, p => ((T p).toNatClampNeg - 96) :: dgs T k (p + 1)
def vB (B : Nat) (L : List Nat) (v : Nat) : Nat := L.foldl (fun v d => B * v + d) v
theorem wd_vB (B : Nat) (T : Nat → Int32) : ∀ k p v, wd B T k p v = vB B (dgs T k p) v
  | 0, _, _ => rfl
  | k + 1, p, v => by
    unfold wd dgs
    rw [wd_vB B T k (p + 1)]
    rfl
theorem dgs_len (T : Nat → Int32) : ∀ k p, (dgs T k p).length = k
  | 0, _ => rfl
  | k + 1, p => by
    unfold dgs
    rw [List.length_cons, dgs_len T k (p + 1)]
/-- the digits of a word -/
def okD (L : List Nat) : Prop := ∀ d, d ∈ L → 1 ≤ d ∧ d ≤ 26
theorem vB_snoc (B : Nat) (L : List Nat) (d v : Nat) : vB B (L ++ [d]) v = B * vB B L v + d := by
  unfold vB
  rw [List.foldl_append]
  rfl
theorem vB_inj {B : Nat} (hB : 27 ≤ B) : ∀ (n : Nat) (L M : List Nat), L.length = n → okD L → okD M → vB B L 0 = vB B M 0 → L = M := by
  intro n
  induction n with
  | zero =>
    intro L M hn hL hM h
    have : L = [] := List.length_eq_zero_iff.mp hn
    subst this
    rcases List.eq_nil_or_concat M with rfl | ⟨M', d, rfl⟩
    · rfl
    · rw [List.concat_eq_append, vB_snoc] at h
      have := (hM d (by simp)).1
      have h : 0 = B * vB B M' 0 + d := h
      omega
  | succ n ih =>
    intro L M hn hL hM h
    rcases List.eq_nil_or_concat L with rfl | ⟨L', c, rfl⟩
    · cases hn
    · rw [List.concat_eq_append] at hn hL h ⊢
      have c1 := hL c (by simp)
      rcases List.eq_nil_or_concat M with rfl | ⟨M', d, rfl⟩
      · rw [vB_snoc] at h
        have h : B * vB B L' 0 + c = 0 := h
        omega
      · rw [List.concat_eq_append] at hM h ⊢
        have d1 := hM d (by simp)
        rw [vB_snoc, vB_snoc] at h
        have e1 : c = d := by
          have := congrArg (· % B) h
          simp only [Nat.mul_add_mod] at this
          rw [Nat.mod_eq_of_lt (by omega), Nat.mod_eq_of_lt (by omega)] at this
          exact this
        subst e1
        have e2 : vB B L' 0 = vB B M' 0 := Nat.eq_of_mul_eq_mul_left (show 0 < B by omega) (by omega)
        have hn' : L'.length = n := by simpa using hn
        rw [ih L' M' hn' (fun d hd => hL d (by simp [hd])) (fun d hd => hM d (by simp [hd])) e2]
theorem vB_lt {B : Nat} (hB : 27 ≤ B) : ∀ (L : List Nat) (v n : Nat), okD L → v < B ^ n → vB B L v < B ^ (n + L.length)
  | [], _, _, _, h => h
  | d :: L, v, n, hL, h => by
    have hd := hL d (by simp)
    have e : B * v + d < B ^ (n + 1) := by
      rw [Nat.pow_succ, Nat.mul_comm (B ^ n)]
      have := Nat.mul_le_mul_left B (show v + 1 ≤ B ^ n from h)
      rw [Nat.mul_add] at this
      omega
    have := vB_lt hB L (B * v + d) (n + 1) (fun d hd => hL d (by simp [hd])) e
    show vB B L (B * v + d) < _
    rw [List.length_cons, show n + (L.length + 1) = n + 1 + L.length by omega]
    exact this
theorem vB_small {B : Nat} (hB : 27 ≤ B) (hB2 : B ≤ 32) {L : List Nat} (hL : okD L) (hl : L.length ≤ 8) : vB B L 0 < 2 ^ 62 := by
  have h := vB_lt hB L 0 0 hL (by rw [Nat.pow_zero]; omega)
  rw [Nat.zero_add] at h
  have h1 : B ^ L.length ≤ 32 ^ 8 := Nat.le_trans (Nat.pow_le_pow_left hB2 _) (Nat.pow_le_pow_right (by omega) hl)
  have h2 : (32 : Nat) ^ 8 < 2 ^ 62 := by decide
  omega
theorem lg_eq (x y : Int64) : lg_cmp x y = 0 ↔ x = y := by
  unfold lg_cmp
  rcases Int.lt_trichotomy x.toInt y.toInt with h | h | h
  · have h2 : ¬ (x > y) := fun z => by have := Int64.lt_iff_toInt_lt.mp z; omega
    have h3 : ¬ (x = y) := fun z => by rw [z] at h; omega
    rw [if_neg h2, if_neg h3]
    exact ⟨fun z => absurd z (by decide), fun z => absurd z h3⟩
  · have h3 : x = y := Int64.toInt_inj.mp h
    subst h3
    have h2 : ¬ (x > x) := fun z => by have := Int64.lt_iff_toInt_lt.mp z; omega
    rw [if_neg h2, if_pos rfl]
    exact ⟨fun _ => rfl, fun _ => rfl⟩
  · have h1 : x > y := Int64.lt_iff_toInt_lt.mpr h
    have h3 : ¬ (x = y) := fun z => by rw [z] at h; omega
    rw [if_pos h1]
    exact ⟨fun z => absurd z (by decide), fun z => absurd z h3⟩
theorem vB_eq {B : Nat} (hB : 27 ≤ B) (hB2 : B ≤ 32) {L M : List Nat} (hL : okD L) (hM : okD M) (l1 : L.length ≤ 8) (l2 : M.length ≤ 8) : lg_cmp (lN (vB B L 0)) (lN (vB B M 0)) = 0 ↔ L = M := by
  have a1 := vB_small hB hB2 hL l1
  have a2 := vB_small hB hB2 hM l2
  rw [lg_eq, pk_lEQ (by omega) (by omega)]
  exact ⟨fun h => vB_inj hB L.length L M rfl hL hM h, fun h => by rw [h]⟩
/-- the seven words -/
def kw (i : Nat) : List Nat := [[19, 12, 15, 20, 19], [4, 18, 9, 22, 5], [20, 9, 13, 5], [16, 12, 1, 20, 20, 5, 18], [2, 1, 4], [6, 9, 12, 5], [3, 12, 15, 19, 5]].getD i []
theorem kw_ok : ∀ i, i < 7 → okD (kw i) ∧ (kw i).length ≤ 8 ∧ slen.getD i 0 = (kw i).length ∧ sbyt.getD i [] = (kw i).map (fun d => nI (96 + d)) := by
  intro i hi
  have : ∀ i, i < 7 → (∀ d, d ∈ kw i → 1 ≤ d ∧ d ≤ 26) ∧ (kw i).length ≤ 8 ∧ slen.getD i 0 = (kw i).length ∧ sbyt.getD i [] = (kw i).map (fun d => nI (96 + d)) := by decide
  exact this i hi
def mt (T : Nat → Int32) : Nat → List Int32 → Bool
  | _, [] => true
  | p, c :: R => decide (T p = c) && mt T (p + 1) R
theorem mt_iff {T : Nat → Int32} : ∀ (W : List Nat) (p : Nat), okD W → (∀ q, p ≤ q → q < p + W.length → ∃ d, 1 ≤ d ∧ d ≤ 26 ∧ T q = nI (96 + d)) → (mt T p (W.map (fun d => nI (96 + d))) = true ↔ dgs T W.length p = W)
  | [], _, _, _ => ⟨fun _ => rfl, fun _ => rfl⟩
  | d :: W, p, hW, hT => by
    have hd := hW d (by simp)
    obtain ⟨e, e1, e2, e3⟩ := hT p (Nat.le_refl _) (by rw [List.length_cons]; omega)
    have ih := mt_iff (T := T) W (p + 1) (fun d hd => hW d (by simp [hd])) (fun q h1 h2 => hT q (by omega) (by rw [List.length_cons]; omega))
    rw [List.map_cons, List.length_cons, mt, dgs, Bool.and_eq_true, ih, decide_eq_true_eq, e3, nI_eq (by omega) (by omega), nI_clamp (by omega), List.cons.injEq]
    constructor
    · rintro ⟨h1, h2⟩
      exact ⟨by omega, h2⟩
    · rintro ⟨h1, h2⟩
      exact ⟨by omega, h2⟩
section WRD
variable {T : Nat → Int32} {E x : Nat} {rd md : SD} {mw : Int64}
def tokW (T : Nat → Int32) (E x : Nat) : List Nat := dgs T (tkE T E x - tkS T E x) (tkS T E x)
theorem tok_let (hk : tkK T E x = 2) : tkE T E x - tkS T E x ≤ 8 ∧ ∀ q, tkS T E x ≤ q → q < tkE T E x → ∃ d, 1 ≤ d ∧ d ≤ 26 ∧ T q = nI (96 + d) := by
  unfold tkK at hk
  unfold tkE
  by_cases z : E ≤ tkS T E x
  · rw [if_pos z] at hk; omega
  · rw [if_neg z] at hk ⊢
    by_cases y : isR 97 122 (T (tkS T E x)) = true
    · rw [if_pos y] at hk ⊢
      by_cases w : run (isR 97 122) T (E - tkS T E x) (tkS T E x) - tkS T E x ≤ 8
      · refine ⟨w, fun q h1 h2 => ?_⟩
        obtain ⟨n, n1, n2, n3⟩ := isR_n (a := 97) (b := 122) (by omega) (run_in (isR 97 122) T _ _ q h1 h2) (by omega)
        exact ⟨n - 96, by omega, by omega, by rw [n3]; congr 1; omega⟩
      · rw [if_neg w] at hk; omega
    · rw [if_neg y] at hk
      by_cases w : isR 48 57 (T (tkS T E x)) = true
      · rw [if_pos w] at hk
        split at hk <;> omega
      · rw [if_neg w] at hk
        split at hk <;> omega
theorem dgs_ok : ∀ (k p : Nat), (∀ q, p ≤ q → q < p + k → ∃ d, 1 ≤ d ∧ d ≤ 26 ∧ T q = nI (96 + d)) → okD (dgs T k p)
  | 0, _, _ => fun d hd => by cases hd
  | k + 1, p, h => fun d hd => by
    obtain ⟨e, e1, e2, e3⟩ := h p (Nat.le_refl _) (by omega)
    rw [dgs, List.mem_cons] at hd
    rcases hd with rfl | hd
    · rw [e3, nI_clamp (by omega)]
      omega
    · exact dgs_ok k (p + 1) (fun q h1 h2 => h q (by omega) (by omega)) d hd
theorem tokW_ok (hk : tkK T E x = 2) (hx : x ≤ E) : okD (tokW T E x) ∧ (tokW T E x).length ≤ 8 := by
  obtain ⟨h1, h2⟩ := tok_let hk
  obtain ⟨b1, -⟩ := tkE_b T hx
  refine ⟨dgs_ok _ _ (fun q a1 a2 => h2 q a1 (by omega)), ?_⟩
  unfold tokW
  rw [dgs_len]
  exact h1
theorem c_wi {i s : Nat} (hs : s + (kw i).length ≤ 900) (hi : i < 7) (h3 : rd 5 0 3 = nI s) : ∀ (R : List Int32) (j f : Nat), (sbyt.getD i []).drop j = R → j + R.length = (kw i).length → R.length < f → f_X5_wordIs_L rd i f (nI j) = some (b01 (mt (rd 20 0) (s + j) R)) := by
  obtain ⟨-, k2, k3, k4⟩ := kw_ok i hi
  intro R
  induction R with
  | nil =>
    intro j f hR hj hf
    obtain ⟨f, rfl⟩ : ∃ q, f = q + 1 := ⟨f - 1, by omega⟩
    have : j = (kw i).length := hj
    rw [f_X5_wordIs_L, k3, if_pos (nI_le (by omega) (by omega))]
    rfl
  | cons c R ih =>
    intro j f hR hj hf
    rw [List.length_cons] at hj hf
    obtain ⟨f, rfl⟩ : ∃ q, f = q + 1 := ⟨f - 1, by omega⟩
    have hc : (sbyt.getD i []).getD j 0 = c := by
      have h1 : (sbyt.getD i [])[j]? = some c := by
        have := congrArg (fun l => l[0]?) hR
        simp only [List.getElem?_drop] at this
        rw [Nat.add_zero] at this
        exact this
      rw [List.getD_eq_getElem?_getD, h1]
      rfl
    have hR2 : (sbyt.getD i []).drop (j + 1) = R := by
      have := congrArg List.tail hR
      rw [List.tail_drop] at this
      exact this
    rw [f_X5_wordIs_L, k3, if_neg (by rw [nI_leI (by omega) (by omega)]; omega), h3, nI_add]
    simp (disch := omega) only [xg, vinT, nI_clamp, ra]
    rw [hc, mt]
    by_cases z : rd 20 0 (s + j) = c
    · rw [if_pos z, decide_eq_true z, Bool.true_and]
      exact ih (j + 1) f hR2 (by omega) (by omega)
    · rw [if_neg z, decide_eq_false z, Bool.false_and]
      rfl
/-- the token is this word -/
def wq (T : Nat → Int32) (E x i : Nat) : Bool := decide (tkK T E x = 2 ∧ tokW T E x = kw i)
theorem c_wordIs (h : GC T E x rd md mw) {i : Nat} (hi : i < 7) : f_X5_wordIs rd i = some (b01 (wq T E x i)) := by
  obtain ⟨⟨g1, g2, g3, g4, g5, g6⟩, h7, h8, h9, h10, t1, t2, t3, t4, t5⟩ := id h
  obtain ⟨k1, k2, k3, k4⟩ := kw_ok i hi
  have hk := tkK_lt T E x
  obtain ⟨b1, b2, b3, -⟩ := tkE_b T h7
  have e1 : (nI (tkK T E x) = (2 : Int32)) ↔ tkK T E x = 2 := nI_eq (b := 2) (by omega) (by omega)
  unfold f_X5_wordIs wq
  rw [h10, h9, h8, k3, pk_sub b1]
  by_cases z : tkK T E x = 2
  · rw [if_pos (e1.mpr z)]
    obtain ⟨a1, a2⟩ := tok_let z
    by_cases y : tkE T E x - tkS T E x = (kw i).length
    · rw [if_pos (by rw [y])]
      have := c_wi (rd := rd) (i := i) (s := tkS T E x) (by omega) hi h8 (sbyt.getD i []) 0 fuel (by rw [List.drop_zero]) (by rw [k4, List.length_map, Nat.zero_add]) (by rw [k4, List.length_map]; unfold fuel; omega)
      rw [nI_0, g2, Nat.add_zero, k4] at this
      rw [this]
      have hm := mt_iff (T := T) (kw i) (tkS T E x) k1 (fun q h1 h2 => a2 q h1 (by omega))
      congr 2
      unfold tokW
      rw [y]
      by_cases w : dgs T (kw i).length (tkS T E x) = kw i
      · rw [hm.mpr w, decide_eq_true ⟨z, w⟩]
      · rw [Bool.eq_false_iff.mpr (fun v => w (hm.mp v)), decide_eq_false (fun v => w v.2)]
    · rw [if_neg (by rw [nI_eq (by omega) (by omega)]; exact y)]
      rw [decide_eq_false (fun v => y ?_)]
      · rfl
      · have := congrArg List.length v.2
        unfold tokW at this
        rw [dgs_len] at this
        exact this
  · rw [if_neg (fun y => z (e1.mp y)), decide_eq_false (fun v => z v.1)]
    rfl
theorem m_isWord (h : GC T E x rd md mw) {i : Nat} (hi : i < 7) : f_X8_isWord md mw (lN (vB 27 (kw i) 0)) = some (b01 (wq T E x i)) := by
  obtain ⟨⟨g1, g2, g3, g4, g5, g6⟩, h7, h8, h9, h10, t1, t2, t3, t4, t5⟩ := id h
  obtain ⟨k1, k2, k3, k4⟩ := kw_ok i hi
  have hk := tkK_lt T E x
  have e2 : (nI (rk (tkK T E x)) = (1 : Int32)) ↔ tkK T E x = 2 := rk_eq (n := 2) hk (by omega)
  unfold f_X8_isWord wq
  rw [g_good g6, xb, if_neg i1, t2]
  by_cases z : tkK T E x = 2
  · obtain ⟨o1, o2⟩ := tokW_ok z h7
    rw [if_pos (e2.mpr z), t5 z, wd_vB]
    have hv := vB_eq (B := 27) (by omega) (by omega) o1 k1 o2 k2
    show (if lg_cmp (lN (vB 27 (tokW T E x) 0)) (lN (vB 27 (kw i) 0)) = 0 then some (1 : Int32) else some 0) = _
    by_cases w : tokW T E x = kw i
    · rw [if_pos (hv.mpr w), decide_eq_true ⟨z, w⟩]
      rfl
    · rw [if_neg (fun v => w (hv.mp v)), decide_eq_false (fun v => w v.2)]
      rfl
  · rw [if_neg (fun y => z (e2.mp y)), decide_eq_false (fun v => z v.1)]
    rfl
theorem kw_val : lN (vB 27 (kw 0) 0) = 10345069 ∧ lN (vB 27 (kw 1) 0) = 2487218 ∧ lN (vB 27 (kw 2) 0) = 400577 ∧ lN (vB 27 (kw 3) 0) = 6371854542 ∧ lN (vB 27 (kw 4) 0) = 1489 ∧ lN (vB 27 (kw 5) 0) = 124988 ∧ lN (vB 27 (kw 6) 0) = 1841972 := by decide
end WRD
end
section
/-! Layer 2: what the lines of a text change -/
/-- what lies beyond the counts of a jukebox that is being read -/
def FRs (r : RW) : Prop := (∀ d, nv r 6 ≤ d → d < 4 → r (21 + d) = -1 ∧ r (25 + d) = 0) ∧ (∀ p, nv r 7 ≤ p → p < 10 → r (59 + p) = 0 ∧ r (69 + p) = 0 ∧ r (79 + p) = 0) ∧ r 11 = 0 ∧ nv r 10 = nv r 9
section STP
variable {F b : Nat} {sd sd' : SD} {r r' : RW}
/-- one cell below 6 changes: the slots or a time -/
theorem low_step {c v : Nat} (hI : Inv r) (hR : Rel b sd r) (hF : FRs r) (hc : c < 6) (a0 : ∀ i, i ≠ c → r' i = r i) (ac : r' c = nI v) (h0 : c = 0 → 4 ≤ v ∧ v ≤ 24 ∧ nv r 6 = 0 ∧ nv r 7 = 0) (h1 : c ≠ 0 → v ≤ 99) (w0 : ∀ k j t, ¬ (k = (if c = 0 then 4 else 10) ∧ j = 0 ∧ t = c - 1) → sd' k j t = sd k j t) (wc : sd' (if c = 0 then 4 else 10) 0 (c - 1) = nI v) : Inv r' ∧ Rel b sd' r' ∧ FRs r' := by
  have l6 := hI.l6
  have l7 := hI.l7
  have l8 := hI.l8
  have l9 := hI.lF
  have l10 := hI.l10
  have l16 := hI.l16
  have b0 : ∀ i, i ≠ c → nv r' i = nv r i := fun i k1 => nv_eq (a0 i k1)
  have hv : v < 2 ^ 31 := by
    by_cases z : c = 0
    · have := h0 z; omega
    · have := h1 z; omega
  have vc := nv_of ac hv
  have n9 := b0 9 (by omega)
  have hInv : InvF (nv r 9) r' := by
    refine ⟨?_, ?_, ?_, ?_, ?_, ?_, ?_, ?_, ?_, ?_, ?_, ?_, hI.lF⟩
    · have g := hI.1
      unfold I_cnt at g ⊢
      obtain ⟨g1, g2, g3, g4, g5, g6, g7, g8⟩ := g
      refine ⟨?_, ?_, isN_eq (a0 _ (by omega)) g3, isN_eq (a0 _ (by omega)) g4, isN_eq (a0 _ (by omega)) g5, isN_eq (a0 _ (by omega)) g6, isN_eq (a0 _ (by omega)) g7, isN_eq (a0 _ (by omega)) g8⟩
      · by_cases z : c = 0
        · obtain ⟨z1, z2, -⟩ := h0 z
          subst z
          exact isN_nI ac z2 (by omega)
        · exact isN_eq (a0 _ (fun y => z y.symm)) g1
      · by_cases z : c = 0
        · obtain ⟨z1, z2, -⟩ := h0 z
          subst z
          rw [vc]
          exact z1
        · rw [b0 0 (fun y => z y.symm)]
          exact g2
    · have g := hI.tim
      have key : ∀ i, 1 ≤ i → i ≤ 5 → isN r i 99 → isN r' i 99 := fun i i1 i2 h => by
        by_cases z : i = c
        · subst z
          exact isN_nI ac (h1 (by omega)) (by omega)
        · exact isN_eq (a0 _ z) h
      obtain ⟨g1, g2, g3, g4, g5⟩ := g
      exact ⟨key 1 (by omega) (by omega) g1, key 2 (by omega) (by omega) g2, key 3 (by omega) (by omega) g3, key 4 (by omega) (by omega) g4, key 5 (by omega) (by omega) g5⟩
    · have g := hI.pick
      refine ⟨isN_eq (a0 _ (by omega)) g.1, ?_⟩
      rw [b0 11 (by omega)]
      by_cases z : c = 0
      · obtain ⟨z1, z2, -⟩ := h0 z
        subst z
        rw [vc, nv_of (n := 0) hF.2.2.1 (by omega)]
        omega
      · rw [b0 0 (fun y => z y.symm)]
        exact g.2
    · intro d hd
      rw [b0 6 (by omega)] at hd
      have g := hI.drv d hd
      by_cases z : c = 0
      · have := h0 z; omega
      · unfold isN at g ⊢
        simp (disch := omega) only [a0, b0]
        exact g
    · intro d e hd he
      rw [b0 6 (by omega)] at hd he
      simp (disch := omega) only [a0]
      exact hI.drd d e hd he
    · intro q hq
      rw [b0 7 (by omega)] at hq
      have g := hI.plt q hq
      by_cases z : c = 0
      · have := h0 z; omega
      · unfold isN at g ⊢
        simp (disch := omega) only [a0, b0]
        exact g
    · intro x y hx hy hxy
      rw [b0 7 (by omega)] at hx hy
      simp (disch := omega) only [a0] at hxy
      exact hI.hom x y hx hy hxy
    · intro k hk
      rw [b0 8 (by omega)] at hk
      have g := hI.bad k hk
      unfold isN at g ⊢
      simp (disch := omega) only [a0, b0]
      exact g
    · intro k l hk hl h3 h4
      rw [b0 8 (by omega)] at hk hl
      simp (disch := omega) only [a0] at h3 h4
      exact hI.bdd k l hk hl h3 h4
    · intro g hg
      have w := hI.cur g hg
      unfold isN at w ⊢
      simp (disch := omega) only [a0, b0]
      exact w
    · intro v hv
      rw [b0 10 (by omega)] at hv
      have g := hI.ver v hv
      unfold isN at g ⊢
      simp (disch := omega) only [a0, b0]
      exact g
    · intro q hq
      rw [b0 16 (by omega)] at hq
      have g := hI.req q hq
      unfold isN at g ⊢
      simp (disch := omega) only [a0, b0]
      exact g
  have w4 : ∀ t, t ≠ 0 → sd' 4 0 t = sd 4 0 t := fun t ht => w0 4 0 t (fun z => by
    by_cases y : c = 0
    · rw [if_pos y] at z; omega
    · rw [if_neg y] at z; omega)
  have wk : ∀ k j t, k ≠ 4 → k ≠ 10 → sd' k j t = sd k j t := fun k j t k1 k2 => w0 k j t (fun z => by
    split at z <;> omega)
  have hRel : RelF (nv r 9) b sd' r' := by
    refine ⟨?_, ?_, ?_, ?_, ?_, ?_, ?_, ?_, ?_, ?_⟩
    · have g := hR.sc
      unfold R_sc at g ⊢
      simp (disch := omega) only [a0, w4]
      refine ⟨?_, g.2⟩
      by_cases z : c = 0
      · subst z
        rw [ac]
        exact wc
      · rw [a0 0 (fun y => z y.symm), w0 4 0 0 (fun y => by rw [if_neg z] at y; omega)]
        exact g.1
    · have g := hR.tm
      have key : ∀ t, t < 5 → sd 10 0 t = r (1 + t) → sd' 10 0 t = r' (1 + t) := fun t ht h => by
        by_cases z : c = 1 + t
        · subst z
          rw [ac]
          have := wc
          rw [if_neg (by omega), show 1 + t - 1 = t by omega] at this
          exact this
        · rw [a0 _ (fun y => z y.symm), w0 10 0 t (fun y => by
            by_cases w : c = 0
            · rw [if_pos w] at y; omega
            · rw [if_neg w] at y; omega)]
          exact h
      obtain ⟨g1, g2, g3, g4, g5⟩ := g
      exact ⟨key 0 (by omega) g1, key 1 (by omega) g2, key 2 (by omega) g3, key 3 (by omega) g4, key 4 (by omega) g5⟩
    · intro d hd
      rw [b0 6 (by omega)] at hd
      simp (disch := omega) only [a0, wk]
      exact hR.dr d hd
    · exact us_same hR.us (Nat.le_refl _) (b0 6 (by omega)) (w4 _ (by omega)) (fun e => wk _ _ _ (by omega) (by omega)) (a0 _ (by omega)) (fun e he => a0 _ (by omega))
    · intro q hq
      rw [b0 7 (by omega)] at hq
      simp (disch := omega) only [a0, wk]
      exact hR.pl q hq
    · intro q t hq ht
      rw [b0 7 (by omega)] at hq
      rw [b0 _ (by omega)] at ht
      simp (disch := omega) only [a0, wk]
      exact hR.se q t hq ht
    · intro q u hq hu
      rw [b0 7 (by omega)] at hq
      have g := hR.bd q u hq hu
      unfold bdc bdm at g ⊢
      rw [b0 8 (by omega), wk _ _ _ (by omega) (by omega), g]
      simp (disch := omega) only [a0]
    · intro g hg
      rw [a0 _ (by omega), wk _ _ _ (by omega) (by omega)]
      exact hR.cu g hg
    · intro v hv
      rw [b0 10 (by omega)] at hv
      simp (disch := omega) only [a0, wk]
      exact hR.ve v hv
    · intro q hq
      rw [b0 16 (by omega)] at hq
      rw [a0 _ (by omega), wk _ _ _ (by omega) (by omega)]
      exact hR.rq q hq
  refine ⟨inv_of hInv n9, rel_of hRel n9, ?_, ?_, ?_, ?_⟩
  · intro d h1 h2
    rw [b0 6 (by omega)] at h1
    rw [a0 _ (by omega), a0 _ (by omega)]
    exact hF.1 d h1 h2
  · intro p h1 h2
    rw [b0 7 (by omega)] at h1
    rw [a0 _ (by omega), a0 _ (by omega), a0 _ (by omega)]
    exact hF.2.1 p h1 h2
  · rw [a0 _ (by omega)]; exact hF.2.2.1
  · rw [b0 _ (by omega), b0 _ (by omega)]; exact hF.2.2.2
theorem c_addDrive {a : Int32} (hR : Rel b sd r) (hI : Inv r) (hd : nv r 6 < 4) : f_X4_addDrive sd a = some (upS (upS (upS (upS sd 0 (nv r 6) 0 a) 0 (nv r 6) 1 (-1)) 0 (nv r 6) 2 0) 4 0 3 (nI (nv r 6 + 1))) := by
  have i4 : ¬ (4 : Int32) ≤ nI (nv r 6) := fun h => by have := (nI_leI (a := 4) (by omega) (by omega)).mp h; omega
  unfold f_X4_addDrive
  rw [hR.s3, hI.c6, if_neg i4, x_guard_pos (vp_in_nI hd (by omega)), nI_clamp (by omega)]
  simp only [xl]
  rw [upS_k (by omega), upS_k (by omega), upS_k (by omega), hR.s3, hI.c6, ra (k := 1)]
theorem drive_step {v : Nat} (hI : Inv r) (hR : Rel 0 sd r) (hF : FRs r) (hd : nv r 6 < 4) (hv : v < nv r 0) (a0 : ∀ i, i ≠ 6 → i ≠ 17 + nv r 6 → r' i = r i) (a6 : r' 6 = nI (nv r 6 + 1)) (a17 : r' (17 + nv r 6) = nI v) : Inv r' ∧ Rel 0 (upS (upS (upS (upS sd 0 (nv r 6) 0 (nI v)) 0 (nv r 6) 1 (-1)) 0 (nv r 6) 2 0) 4 0 3 (nI (nv r 6 + 1))) r' ∧ FRs r' := by
  have l0 := hI.l0
  have l7 := hI.l7
  have l8 := hI.l8
  have l9 := hI.lF
  have l10 := hI.l10
  have l16 := hI.l16
  have b0 : ∀ i, i ≠ 6 → i ≠ 17 + nv r 6 → nv r' i = nv r i := fun i k1 k2 => nv_eq (a0 i k1 k2)
  have v6 := nv_of a6 (by omega)
  have v17 := nv_of a17 (by omega)
  have n9 := b0 9 (by omega) (by omega)
  obtain ⟨f21, f25⟩ := hF.1 (nv r 6) (Nat.le_refl _) hd
  have hInv : InvF (nv r 9) r' := by
    refine ⟨?_, ?_, ?_, ?_, ?_, ?_, ?_, ?_, ?_, ?_, ?_, ?_, hI.lF⟩
    · obtain ⟨g1, g2, g3, g4, g5, g6, g7, g8⟩ := hI.1
      exact ⟨isN_eq (a0 _ (by omega) (by omega)) g1, by rw [b0 _ (by omega) (by omega)]; exact g2, isN_nI a6 (by omega) (by omega), isN_eq (a0 _ (by omega) (by omega)) g4, isN_eq (a0 _ (by omega) (by omega)) g5, isN_eq (a0 _ (by omega) (by omega)) g6, isN_eq (a0 _ (by omega) (by omega)) g7, isN_eq (a0 _ (by omega) (by omega)) g8⟩
    · obtain ⟨g1, g2, g3, g4, g5⟩ := hI.tim
      exact ⟨isN_eq (a0 _ (by omega) (by omega)) g1, isN_eq (a0 _ (by omega) (by omega)) g2, isN_eq (a0 _ (by omega) (by omega)) g3, isN_eq (a0 _ (by omega) (by omega)) g4, isN_eq (a0 _ (by omega) (by omega)) g5⟩
    · have g := hI.pick
      unfold I_pick isN at g ⊢
      simp (disch := omega) only [a0, b0]
      exact g
    · intro d hd2
      rw [v6] at hd2
      by_cases z : d = nv r 6
      · subst z
        refine ⟨⟨isN_nI a17 (by omega) (by omega), by rw [v17, b0 0 (by omega) (by omega)]; exact hv⟩, Or.inl ?_⟩
        rw [a0 _ (by omega) (by omega)]
        exact f21
      · have g := hI.drv d (by omega)
        unfold isN at g ⊢
        simp (disch := omega) only [a0, b0]
        exact g
    · intro d e hd2 he2
      rw [v6] at hd2 he2
      simp (disch := omega) only [a0]
      intro h
      by_cases z : d = nv r 6
      · subst z
        exact Or.inr f21
      · by_cases y : e = nv r 6
        · subst y
          right
          rw [h]
          exact f21
        · exact hI.drd d e (by omega) (by omega) h
    · intro q hq
      rw [b0 7 (by omega) (by omega)] at hq
      have g := hI.plt q hq
      unfold isN at g ⊢
      simp (disch := omega) only [a0, b0]
      exact g
    · intro x y hx hy hxy
      rw [b0 7 (by omega) (by omega)] at hx hy
      simp (disch := omega) only [a0] at hxy
      exact hI.hom x y hx hy hxy
    · intro k hk
      rw [b0 8 (by omega) (by omega)] at hk
      have g := hI.bad k hk
      unfold isN at g ⊢
      simp (disch := omega) only [a0, b0]
      exact g
    · intro k l hk hl h3 h4
      rw [b0 8 (by omega) (by omega)] at hk hl
      simp (disch := omega) only [a0] at h3 h4
      exact hI.bdd k l hk hl h3 h4
    · intro g hg
      have w := hI.cur g hg
      unfold isN at w ⊢
      simp (disch := omega) only [a0, b0]
      exact w
    · intro v hv
      rw [b0 10 (by omega) (by omega)] at hv
      have g := hI.ver v hv
      unfold isN at g ⊢
      simp (disch := omega) only [a0, b0]
      exact g
    · intro q hq
      rw [b0 16 (by omega) (by omega)] at hq
      have g := hI.req q hq
      unfold isN at g ⊢
      simp (disch := omega) only [a0, b0]
      exact g
  have wk : ∀ k j t, ¬ (k = 0 ∧ j = nv r 6) → ¬ (k = 4 ∧ j = 0 ∧ t = 3) → (upS (upS (upS (upS sd 0 (nv r 6) 0 (nI v)) 0 (nv r 6) 1 (-1)) 0 (nv r 6) 2 0) 4 0 3 (nI (nv r 6 + 1))) k j t = sd k j t := fun k j t h1 h2 => by
    unfold upS
    rw [if_neg (by omega), if_neg (by omega), if_neg (by omega), if_neg (by omega)]
  have e3 : (upS (upS (upS (upS sd 0 (nv r 6) 0 (nI v)) 0 (nv r 6) 1 (-1)) 0 (nv r 6) 2 0) 4 0 3 (nI (nv r 6 + 1))) 4 0 3 = nI (nv r 6 + 1) := upS_hit _ _ _ _ _
  have d0 : (upS (upS (upS (upS sd 0 (nv r 6) 0 (nI v)) 0 (nv r 6) 1 (-1)) 0 (nv r 6) 2 0) 4 0 3 (nI (nv r 6 + 1))) 0 (nv r 6) 0 = nI v := by
    rw [upS_k (by omega), upS_t (by omega), upS_t (by omega), upS_hit]
  have d1 : (upS (upS (upS (upS sd 0 (nv r 6) 0 (nI v)) 0 (nv r 6) 1 (-1)) 0 (nv r 6) 2 0) 4 0 3 (nI (nv r 6 + 1))) 0 (nv r 6) 1 = -1 := by
    rw [upS_k (by omega), upS_t (by omega), upS_hit]
  have d2 : (upS (upS (upS (upS sd 0 (nv r 6) 0 (nI v)) 0 (nv r 6) 1 (-1)) 0 (nv r 6) 2 0) 4 0 3 (nI (nv r 6 + 1))) 0 (nv r 6) 2 = 0 := by
    rw [upS_k (by omega), upS_hit]
  generalize upS (upS (upS (upS sd 0 (nv r 6) 0 (nI v)) 0 (nv r 6) 1 (-1)) 0 (nv r 6) 2 0) 4 0 3 (nI (nv r 6 + 1)) = s' at *
  have hRel : RelF (nv r 9) 0 s' r' := by
    refine ⟨?_, ?_, ?_, ?_, ?_, ?_, ?_, ?_, ?_, ?_⟩
    · have g := hR.sc
      unfold R_sc at g ⊢
      rw [e3, a6]
      simp (disch := omega) only [a0, wk]
      exact ⟨g.1, trivial, g.2.2⟩
    · have g := hR.tm
      unfold R_tm at g ⊢
      simp (disch := omega) only [a0, wk]
      exact g
    · intro d hd2
      rw [v6] at hd2
      by_cases z : d = nv r 6
      · subst z
        rw [d0, d1, a17, a0 _ (by omega) (by omega), f21]
        exact ⟨rfl, rfl⟩
      · rw [a0 _ (by omega) (by omega), a0 _ (by omega) (by omega), wk _ _ _ (by omega) (by omega), wk _ _ _ (by omega) (by omega)]
        exact hR.dr d (by omega)
    · obtain ⟨⟨u1, u2⟩, u3, u4, u5⟩ := hR.us
      have n4 : ns s' 4 0 4 = ns sd 4 0 4 := by unfold ns; rw [wk _ _ _ (by omega) (by omega)]
      have ne : ∀ e, e ≠ nv r 6 → ns s' 0 e 2 = ns sd 0 e 2 := fun e he => by unfold ns; rw [wk _ _ _ (by omega) (by omega)]
      have nd : ns s' 0 (nv r 6) 2 = 0 := by unfold ns; rw [d2]; rfl
      have n25 : nv r' (25 + nv r 6) = 0 := nv_of (n := 0) (by rw [a0 _ (by omega) (by omega)]; exact f25) (by omega)
      have z0 : ∀ e, e < nv r 6 → ns sd 0 e 2 = 0 ∧ nv r (25 + e) = 0 := fun e he => by
        have g := u4 e he
        have := u3.l
        have := g.1.2
        have := g.2.l
        omega
      have all : ∀ e, e < nv r 6 + 1 → ns s' 0 e 2 = 0 ∧ nv r' (25 + e) = 0 := fun e he => by
        by_cases z : e = nv r 6
        · subst z; exact ⟨nd, n25⟩
        · rw [ne e z, b0 _ (by omega) (by omega)]
          exact z0 e (by omega)
      refine ⟨⟨?_, by rw [n4]; exact u2⟩, isN_eq (a0 _ (by omega) (by omega)) u3, fun e he => ?_, fun d e hd2 he => ?_⟩
      · rw [n4, wk _ _ _ (by omega) (by omega)]; exact u1
      · rw [v6] at he
        obtain ⟨q1, q2⟩ := all e he
        refine ⟨⟨?_, by omega⟩, ?_, by omega⟩
        · rw [q1]
          by_cases z : e = nv r 6
          · subst z; exact d2
          · rw [wk _ _ _ (by omega) (by omega), (u4 e (by omega)).1.1, (z0 e (by omega)).1]
        · rw [q2]
          by_cases z : e = nv r 6
          · subst z
            rw [a0 _ (by omega) (by omega)]; exact f25
          · rw [a0 _ (by omega) (by omega), (u4 e (by omega)).2.e, (z0 e (by omega)).2]
      · rw [v6] at hd2 he
        obtain ⟨q1, q2⟩ := all d hd2
        obtain ⟨q3, q4⟩ := all e he
        omega
    · intro q hq
      rw [b0 7 (by omega) (by omega)] at hq
      simp (disch := omega) only [a0, wk]
      exact hR.pl q hq
    · intro q t hq ht
      rw [b0 7 (by omega) (by omega)] at hq
      rw [b0 _ (by omega) (by omega)] at ht
      simp (disch := omega) only [a0, wk]
      exact hR.se q t hq ht
    · intro q u hq hu
      rw [b0 7 (by omega) (by omega)] at hq
      have g := hR.bd q u hq hu
      unfold bdc bdm at g ⊢
      rw [b0 8 (by omega) (by omega), wk _ _ _ (by omega) (by omega), g]
      simp (disch := omega) only [a0]
    · intro g hg
      rw [a0 _ (by omega) (by omega), wk _ _ _ (by omega) (by omega)]
      exact hR.cu g hg
    · intro v hv
      rw [b0 10 (by omega) (by omega)] at hv
      simp (disch := omega) only [a0, wk]
      exact hR.ve v hv
    · intro q hq
      rw [b0 16 (by omega) (by omega)] at hq
      rw [a0 _ (by omega) (by omega), wk _ _ _ (by omega) (by omega)]
      exact hR.rq q hq
  refine ⟨inv_of hInv n9, rel_of hRel n9, ?_, ?_, ?_, ?_⟩
  · intro d h1 h2
    rw [v6] at h1
    rw [a0 _ (by omega) (by omega), a0 _ (by omega) (by omega)]
    exact hF.1 d (by omega) h2
  · intro p h1 h2
    rw [b0 7 (by omega) (by omega)] at h1
    rw [a0 _ (by omega) (by omega), a0 _ (by omega) (by omega), a0 _ (by omega) (by omega)]
    exact hF.2.1 p h1 h2
  · rw [a0 _ (by omega) (by omega)]; exact hF.2.2.1
  · rw [b0 _ (by omega) (by omega), b0 _ (by omega) (by omega)]; exact hF.2.2.2
end STP
end
section
/-! Layer 2: a platter is read -/
section PST
variable {F b : Nat} {sd : SD} {r r' : RW}
/-- the class's State with one platter more -/
def plN (sd : SD) (p : Nat) (a c e : Int32) : SD := upS (cpS (upS (upS (upS (upS (upS (upS sd 3 p 0 a) 3 p 1 c) 3 p 2 e) 3 p 3 0) 3 p 4 0) 3 p 5 0) 18 p 10 (fun _ => 0)) 4 0 6 (nI (p + 1))
theorem c_addPlatter (a c e : Int32) (hR : Rel b sd r) (hI : Inv r) (hp : nv r 7 < 10) : f_X4_addPlatter sd a c e = some (plN sd (nv r 7) a c e) := by
  have i4 : ¬ (10 : Int32) ≤ nI (nv r 7) := fun h => by have := (nI_leI (a := 10) (by omega) (by omega)).mp h; omega
  unfold f_X4_addPlatter f_X3_begin plN
  rw [hR.s6, hI.c7, if_neg i4, x_guard_pos (vp_in_nI hp (by omega)), nI_clamp (by omega)]
  simp only [xl, xb]
  rw [cpS_k (by omega), upS_k (by omega), upS_k (by omega), upS_k (by omega), upS_k (by omega), upS_k (by omega), upS_k (by omega), hR.s6, hI.c7, ra (k := 1)]
theorem plN_cells (sd : SD) (p : Nat) (a c e : Int32) : (∀ k j t, ¬ ((k = 3 ∨ k = 18) ∧ j = p) → ¬ (k = 4 ∧ j = 0 ∧ t = 6) → plN sd p a c e k j t = sd k j t) ∧ plN sd p a c e 4 0 6 = nI (p + 1) ∧ (plN sd p a c e 3 p 0 = a ∧ plN sd p a c e 3 p 1 = c ∧ plN sd p a c e 3 p 2 = e ∧ plN sd p a c e 3 p 3 = 0 ∧ plN sd p a c e 3 p 4 = 0 ∧ plN sd p a c e 3 p 5 = 0) ∧ ∀ t, t < 10 → plN sd p a c e 18 p t = 0 := by
  unfold plN
  refine ⟨fun k j t h1 h2 => ?_, upS_hit _ _ _ _ _, ⟨?_, ?_, ?_, ?_, ?_, ?_⟩, fun t ht => ?_⟩
  · have e1 : ∀ s : SD, upS s 4 0 6 (nI (p + 1)) k j t = s k j t := fun s => by unfold upS; rw [if_neg h2]
    have e2 : ∀ (s : SD), cpS s 18 p 10 (fun _ => 0) k j t = s k j t := fun s => by
      by_cases z : k = 18
      · exact cpS_j (by omega)
      · exact cpS_k z
    have e3 : ∀ (s : SD) (u : Nat) (v : Int32), upS s 3 p u v k j t = s k j t := fun s u v => by unfold upS; rw [if_neg (by omega)]
    rw [e1, e2, e3, e3, e3, e3, e3, e3]
  all_goals rw [upS_k (by omega)]
  all_goals try rw [cpS_k (by omega)]
  · rw [upS_t (by omega), upS_t (by omega), upS_t (by omega), upS_t (by omega), upS_t (by omega), upS_hit]
  · rw [upS_t (by omega), upS_t (by omega), upS_t (by omega), upS_t (by omega), upS_hit]
  · rw [upS_t (by omega), upS_t (by omega), upS_t (by omega), upS_hit]
  · rw [upS_t (by omega), upS_t (by omega), upS_hit]
  · rw [upS_t (by omega), upS_hit]
  · rw [upS_hit]
  · rw [cpS_in ht]
theorem plat_step {h c e : Nat} (hI : Inv r) (hR : Rel 0 sd r) (hF : FRs r) (hp : nv r 7 < 10) (hh : h < nv r 0) (hc : 10 ≤ c ∧ c ≤ 300) (he : e ≤ 9) (hnew : homeQ r (nI h) = -1) (a0 : ∀ i, i ≠ 7 → i ≠ 29 + nv r 7 → i ≠ 39 + nv r 7 → i ≠ 49 + nv r 7 → r' i = r i) (a7 : r' 7 = nI (nv r 7 + 1)) (a29 : r' (29 + nv r 7) = nI h) (a39 : r' (39 + nv r 7) = nI c) (a49 : r' (49 + nv r 7) = nI e) : Inv r' ∧ Rel 0 (plN sd (nv r 7) (nI h) (nI c) (nI e)) r' ∧ FRs r' := by
  have l0 := hI.l0
  have l6 := hI.l6
  have l8 := hI.l8
  have l9 := hI.lF
  have l10 := hI.l10
  have l16 := hI.l16
  have b0 : ∀ i, i ≠ 7 → i ≠ 29 + nv r 7 → i ≠ 39 + nv r 7 → i ≠ 49 + nv r 7 → nv r' i = nv r i := fun i k1 k2 k3 k4 => nv_eq (a0 i k1 k2 k3 k4)
  have v7 := nv_of a7 (by omega)
  have v29 := nv_of a29 (by omega)
  have v39 := nv_of a39 (by omega)
  have v49 := nv_of a49 (by omega)
  have n9 := b0 9 (by omega) (by omega) (by omega) (by omega)
  obtain ⟨f59, f69, f79⟩ := hF.2.1 (nv r 7) (Nat.le_refl _) hp
  have hno : ∀ q, q < nv r 7 → r (29 + q) ≠ nI h := by
    rcases homeQ_cases r (nI h) with ⟨-, z⟩ | ⟨d, d1, d2, -⟩
    · exact z
    · rw [d2, nm1 (by omega)] at hnew
      exact hnew.elim
  have a59 : r' (59 + nv r 7) = nI 0 := (a0 _ (by omega) (by omega) (by omega) (by omega)).trans f59
  have a69 : r' (69 + nv r 7) = nI 0 := (a0 _ (by omega) (by omega) (by omega) (by omega)).trans f69
  have a79 : r' (79 + nv r 7) = nI 0 := (a0 _ (by omega) (by omega) (by omega) (by omega)).trans f79
  have v59 := nv_of a59 (by omega)
  have v69 := nv_of a69 (by omega)
  have v79 := nv_of a79 (by omega)
  have hInv : InvF (nv r 9) r' := by
    refine ⟨?_, ?_, ?_, ?_, ?_, ?_, ?_, ?_, ?_, ?_, ?_, ?_, hI.lF⟩
    · obtain ⟨g1, g2, g3, g4, g5, g6, g7, g8⟩ := hI.1
      exact ⟨isN_eq (a0 _ (by omega) (by omega) (by omega) (by omega)) g1, by rw [b0 _ (by omega) (by omega) (by omega) (by omega)]; exact g2, isN_eq (a0 _ (by omega) (by omega) (by omega) (by omega)) g3, isN_nI a7 (by omega) (by omega), isN_eq (a0 _ (by omega) (by omega) (by omega) (by omega)) g5, isN_eq (a0 _ (by omega) (by omega) (by omega) (by omega)) g6, isN_eq (a0 _ (by omega) (by omega) (by omega) (by omega)) g7, isN_eq (a0 _ (by omega) (by omega) (by omega) (by omega)) g8⟩
    · have g := hI.tim
      unfold I_tim isN at g ⊢
      simp (disch := omega) only [a0, b0]
      exact g
    · have g := hI.pick
      unfold I_pick isN at g ⊢
      simp (disch := omega) only [a0, b0]
      exact g
    · intro d hd
      rw [b0 6 (by omega) (by omega) (by omega) (by omega)] at hd
      have g := hI.drv d hd
      rw [v7]
      refine ⟨?_, ?_⟩
      · have g1 := g.1
        unfold isN at g1 ⊢
        simp (disch := omega) only [a0, b0]
        exact g1
      · rcases g.2 with z | ⟨z1, z2⟩
        · left
          rw [a0 _ (by omega) (by omega) (by omega) (by omega)]
          exact z
        · right
          refine ⟨isN_eq (a0 _ (by omega) (by omega) (by omega) (by omega)) z1, ?_⟩
          rw [b0 _ (by omega) (by omega) (by omega) (by omega)]
          omega
    · intro d e hd he
      rw [b0 6 (by omega) (by omega) (by omega) (by omega)] at hd he
      simp (disch := omega) only [a0]
      exact hI.drd d e hd he
    · intro q hq
      rw [v7] at hq
      by_cases z : q = nv r 7
      · subst z
        refine ⟨⟨isN_nI a29 (by omega) (by omega), ?_⟩, ⟨isN_nI a39 hc.2 (by omega), by omega⟩, isN_nI a49 he (by omega), ⟨isN_nI a59 (by omega) (by omega), by omega⟩, isN_nI a69 (by omega) (by omega), isN_nI a79 (by omega) (by omega), fun y => by omega⟩
        rw [v29, b0 0 (by omega) (by omega) (by omega) (by omega)]
        exact hh
      · have g := hI.plt q (by omega)
        unfold isN at g ⊢
        simp (disch := omega) only [a0, b0]
        exact g
    · intro x y hx hy hxy
      rw [v7] at hx hy
      by_cases z : x = nv r 7
      · by_cases w : y = nv r 7
        · omega
        · subst z
          rw [a29, a0 (29 + y) (by omega) (by omega) (by omega) (by omega)] at hxy
          exact absurd hxy.symm (hno y (by omega))
      · by_cases w : y = nv r 7
        · subst w
          rw [a29, a0 (29 + x) (by omega) (by omega) (by omega) (by omega)] at hxy
          exact absurd hxy (hno x (by omega))
        · simp (disch := omega) only [a0] at hxy
          exact hI.hom x y (by omega) (by omega) hxy
    · intro k hk
      rw [b0 8 (by omega) (by omega) (by omega) (by omega)] at hk
      have g := hI.bad k hk
      have g2 := g.1.2
      rw [v7]
      have e1 := b0 (249 + k) (by omega) (by omega) (by omega) (by omega)
      have e2 := b0 (39 + nv r (249 + k)) (by omega) (by omega) (by omega) (by omega)
      refine ⟨⟨isN_eq (a0 _ (by omega) (by omega) (by omega) (by omega)) g.1.1, by omega⟩, isN_eq (a0 _ (by omega) (by omega) (by omega) (by omega)) g.2.1, ?_⟩
      rw [e1, e2, b0 (269 + k) (by omega) (by omega) (by omega) (by omega)]
      exact g.2.2
    · intro k l hk hl h3 h4
      rw [b0 8 (by omega) (by omega) (by omega) (by omega)] at hk hl
      simp (disch := omega) only [a0] at h3 h4
      exact hI.bdd k l hk hl h3 h4
    · intro g hg
      have w := hI.cur g hg
      unfold isN at w ⊢
      simp (disch := omega) only [a0, b0]
      exact w
    · intro v hv
      rw [b0 10 (by omega) (by omega) (by omega) (by omega)] at hv
      have g := hI.ver v hv
      have g2 := g.2.1.2
      have e1 := b0 (349 + v) (by omega) (by omega) (by omega) (by omega)
      rw [v7]
      obtain ⟨g1, g3, g4, g5, g6, g7, g8, g9⟩ := g
      refine ⟨?_, ⟨isN_eq (a0 _ (by omega) (by omega) (by omega) (by omega)) g3.1, by omega⟩, isN_eq (a0 _ (by omega) (by omega) (by omega) (by omega)) g4, isN_eq (a0 _ (by omega) (by omega) (by omega) (by omega)) g5, ?_, ?_, isN_eq (a0 _ (by omega) (by omega) (by omega) (by omega)) g8, isN_eq (a0 _ (by omega) (by omega) (by omega) (by omega)) g9⟩
      · exact ⟨isN_eq (a0 _ (by omega) (by omega) (by omega) (by omega)) g1.1, by rw [b0 _ (by omega) (by omega) (by omega) (by omega)]; exact g1.2⟩
      · rw [e1, b0 (59 + nv r (349 + v)) (by omega) (by omega) (by omega) (by omega), b0 (389 + v) (by omega) (by omega) (by omega) (by omega), b0 (429 + v) (by omega) (by omega) (by omega) (by omega)]
        exact g6
      · refine ⟨isN_eq (a0 _ (by omega) (by omega) (by omega) (by omega)) g7.1, ?_⟩
        rw [e1, b0 (69 + nv r (349 + v)) (by omega) (by omega) (by omega) (by omega), b0 (469 + v) (by omega) (by omega) (by omega) (by omega)]
        exact g7.2
    · intro q hq
      rw [b0 16 (by omega) (by omega) (by omega) (by omega)] at hq
      have g := hI.req q hq
      unfold isN at g ⊢
      simp (disch := omega) only [a0, b0]
      exact g
  obtain ⟨wk, w6, ⟨w30, w31, w32, w33, w34, w35⟩, w18⟩ := plN_cells sd (nv r 7) (nI h) (nI c) (nI e)
  generalize plN sd (nv r 7) (nI h) (nI c) (nI e) = s' at *
  have hRel : RelF (nv r 9) 0 s' r' := by
    refine ⟨?_, ?_, ?_, ?_, ?_, ?_, ?_, ?_, ?_, ?_⟩
    · have g := hR.sc
      unfold R_sc at g ⊢
      rw [w6, a7]
      simp (disch := omega) only [a0, wk]
      exact ⟨g.1, g.2.1, trivial, g.2.2.2⟩
    · have g := hR.tm
      unfold R_tm at g ⊢
      simp (disch := omega) only [a0, wk]
      exact g
    · intro d hd
      rw [b0 6 (by omega) (by omega) (by omega) (by omega)] at hd
      rw [a0 _ (by omega) (by omega) (by omega) (by omega), a0 _ (by omega) (by omega) (by omega) (by omega), wk _ _ _ (by omega) (by omega), wk _ _ _ (by omega) (by omega)]
      exact hR.dr d hd
    · exact us_same hR.us (Nat.le_refl _) (b0 6 (by omega) (by omega) (by omega) (by omega)) (wk _ _ _ (by omega) (by omega)) (fun e => wk _ _ _ (by omega) (by omega)) (a0 _ (by omega) (by omega) (by omega) (by omega)) (fun e he => a0 _ (by omega) (by omega) (by omega) (by omega))
    · intro q hq
      rw [v7] at hq
      by_cases z : q = nv r 7
      · subst z
        rw [w30, w31, w32, w33, w34, w35, a29, a39, a49, a59, a69, a79]
        exact ⟨rfl, rfl, rfl, rfl, rfl, rfl⟩
      · have g := hR.pl q (by omega)
        simp (disch := omega) only [a0, wk]
        exact g
    · intro q t hq ht
      rw [v7] at hq
      by_cases z : q = nv r 7
      · subst z
        omega
      · rw [b0 _ (by omega) (by omega) (by omega) (by omega)] at ht
        have g := hR.se q t (by omega) ht
        simp (disch := omega) only [a0, wk]
        exact g
    · intro q u hq hu
      rw [v7] at hq
      by_cases z : q = nv r 7
      · subst z
        unfold bdc bdm
        rw [w18 _ (by omega)]
        constructor
        · intro y
          simp at y
        · rintro ⟨k, k1, k2, -⟩
          rw [b0 8 (by omega) (by omega) (by omega) (by omega)] at k1
          have g := (hI.bad k k1).1
          rw [a0 _ (by omega) (by omega) (by omega) (by omega), g.1.e, nI_eq (by omega) (by omega)] at k2
          omega
      · have g := hR.bd q u (by omega) hu
        unfold bdc bdm at g ⊢
        rw [b0 8 (by omega) (by omega) (by omega) (by omega), wk _ _ _ (by omega) (by omega), g]
        constructor
        · rintro ⟨k, k1, k2, k3⟩
          refine ⟨k, k1, ?_, ?_⟩
          · rw [a0 _ (by omega) (by omega) (by omega) (by omega)]; exact k2
          · rw [a0 _ (by omega) (by omega) (by omega) (by omega)]; exact k3
        · rintro ⟨k, k1, k2, k3⟩
          rw [a0 _ (by omega) (by omega) (by omega) (by omega)] at k2 k3
          exact ⟨k, k1, k2, k3⟩
    · intro g hg
      rw [a0 _ (by omega) (by omega) (by omega) (by omega), wk _ _ _ (by omega) (by omega)]
      exact hR.cu g hg
    · intro v hv
      rw [b0 10 (by omega) (by omega) (by omega) (by omega)] at hv
      have g := hR.ve v hv
      simp (disch := omega) only [a0, wk]
      exact g
    · intro q hq
      rw [b0 16 (by omega) (by omega) (by omega) (by omega)] at hq
      rw [a0 _ (by omega) (by omega) (by omega) (by omega), wk _ _ _ (by omega) (by omega)]
      exact hR.rq q hq
  refine ⟨inv_of hInv n9, rel_of hRel n9, ?_, ?_, ?_, ?_⟩
  · intro d h1 h2
    rw [b0 6 (by omega) (by omega) (by omega) (by omega)] at h1
    rw [a0 _ (by omega) (by omega) (by omega) (by omega), a0 _ (by omega) (by omega) (by omega) (by omega)]
    exact hF.1 d h1 h2
  · intro p h1 h2
    rw [v7] at h1
    rw [a0 _ (by omega) (by omega) (by omega) (by omega), a0 _ (by omega) (by omega) (by omega) (by omega), a0 _ (by omega) (by omega) (by omega) (by omega)]
    exact hF.2.1 p (by omega) h2
  · rw [a0 _ (by omega) (by omega) (by omega) (by omega)]; exact hF.2.2.1
  · rw [b0 _ (by omega) (by omega) (by omega) (by omega), b0 _ (by omega) (by omega) (by omega) (by omega)]; exact hF.2.2.2
end PST
end
section
/-! Layer 2: the lines of a text -/
/-- the State that is being read, and the reference's row -/
def LSt (n : Nat) (sd md : SD) : Prop := Inv (md 31 0) ∧ Rel 0 sd (md 31 0) ∧ FRs (md 31 0) ∧ (n = 0 → nv (md 31 0) 6 = 0 ∧ nv (md 31 0) 7 = 0)
/-- the outcome of a line -/
def LOt (T : Nat → Int32) (E x : Nat) (rd md : SD) (o1 : Option (Int32 × SD × SD)) (o2 : Option (SD × Int64)) : Prop := (∃ sd' rd' md' mw' x', o1 = some (1, sd', rd') ∧ o2 = some (md', mw') ∧ x < x' ∧ GS T E x' rd' md' mw' ∧ LSt 1 sd' md' ∧ RF rd rd' ∧ MF md md' ∧ md' 8 0 25 = md 8 0 25 ∧ nv (md' 31 0) 9 = nv (md 31 0) 9) ∨ ∃ sd' rd' md' mw', o1 = some (0, sd', rd') ∧ o2 = some (md', mw') ∧ BD rd' md' ∧ RF rd rd' ∧ MF md md'
theorem GS.cg {T : Nat → Int32} {E x : Nat} {rd md md' : SD} {mw : Int64} (h : GS T E x rd md mw) (hm : ∀ k j t, k ≠ 31 → md' k j t = md k j t) : GS T E x rd md' mw := by
  obtain ⟨⟨h1, h2, h3, h4, h5, h6⟩, h7, h8, t1, t2, t3, t4, t5⟩ := h
  exact ⟨⟨h1, h2, fun t ht => (hm _ _ _ (by omega)).trans (h3 t ht), h4, (hm _ _ _ (by omega)).trans h5, (hm _ _ _ (by omega)).trans h6⟩, h7, h8, (hm _ _ _ (by omega)).trans t1, (hm _ _ _ (by omega)).trans t2, fun z => (hm _ _ _ (by omega)).trans (t3 z), fun z => (hm _ _ _ (by omega)).trans (t4 z), t5⟩
theorem BD.cg {rd md md' : SD} (h : BD rd md) (hm : ∀ k j t, k ≠ 31 → md' k j t = md k j t) : BD rd md' := by
  obtain ⟨k, k1, k2, k3, k4, k5⟩ := h
  exact ⟨k, k1, k2, k3, (hm _ _ _ (by omega)).trans k4, by rw [hm 8 0 19 (by omega)]; exact k5⟩
theorem up31 (m : SD) (t : Nat) (v : Int32) : ∀ k j q, k ≠ 31 → upS m 31 0 t v k j q = m k j q := fun k j q h => upS_k h
theorem RM.row31 {x y : SD} (h : RM x y) : y 31 0 = x 31 0 := by funext t; exact h _ _ _ (by omega)
theorem M2.row31 {x y : SD} (h : M2 x y) : y 31 0 = x 31 0 := by funext t; exact h _ _ _ (by omega)
section LNS
variable {T : Nat → Int32} {E x n : Nat} {sd rd md : SD} {mw : Int64}
theorem gc_x (h : GC T E x rd md mw) (hk : tkK T E x ≠ 0) : x < tkE T E x := by
  obtain ⟨c1, -⟩ := tkS_b T h.2.1
  obtain ⟨-, -, d3, -⟩ := tkE_b T h.2.1
  have := d3 hk
  omega
theorem slots_ok (h : GC T E x rd md mw) (hk : tkK T E x ≠ 0) (hL : LSt 0 sd md) (h25 : md 8 0 25 = 0) : LOt T E x rd md (f_X5_readSlots sd rd) (f_X8_slotsLine md mw) := by
  have hx := gc_x h hk
  obtain ⟨md1, mw1, a1, a2, a3⟩ := h.on hk
  obtain ⟨hI, hR, hF, hZ⟩ := hL
  unfold f_X5_readSlots f_X8_slotsLine
  simp only [xl]
  rw [h25, if_pos rfl, must_1, xb, a1, xb]
  rcases take_both a2 4 24 with ⟨rd2, md2, mw2, c1, c2, c3, c4, c5, c6, c7, c8⟩ | ⟨rd2, md2, c3, c4, c5, c6, c7⟩
  · obtain ⟨v, v1, v2, v3⟩ := in_nat (a := 4) (b := 24) (by omega) c1 c2 (by omega)
    rw [v3] at c3 c4
    have hr2 : md2 31 0 = md 31 0 := c7.row31.trans a3.row31
    obtain ⟨i1, i2, i3⟩ := low_step (c := 0) (v := v) (r' := (upS md2 31 0 0 (nI v)) 31 0) (sd' := upS sd 4 0 0 (nI v)) hI hR hF (by omega) (fun i hi => by rw [row_up, rup_ne hi, hr2]) (by rw [row_up, rup_hit]) (fun _ => ⟨v1, v2, hZ rfl⟩) (fun z => absurd rfl z) (fun k j t hn => if_neg (fun z => hn z)) (upS_hit _ _ _ _ _)
    rw [c3, xb, c4, xb]
    simp only
    rw [if_neg (nm1' (by omega))]
    refine Or.inl ⟨_, rd2, _, mw2, _, rfl, rfl, Nat.lt_trans hx c8, c5.cg (up31 _ _ _), ⟨i1, i2, i3, fun z => by omega⟩, c6, a3.f.tr (c7.f.r31), ?_, ?_⟩
    · rw [upS_k (by omega), c7 _ _ _ (by omega), a3 _ _ _ (by omega)]
    · rw [row_up, nv_eq (rup_ne (by omega)), hr2]
  · rw [c3, xb, c4, xb]
    simp only
    rw [if_pos trivial]
    exact Or.inr ⟨_, rd2, _, mw1, rfl, rfl, c5.cg (up31 _ _ _), c6, a3.f.tr (c7.f.r31)⟩
theorem slots_no (h : GC T E x rd md mw) (h25 : ¬ md 8 0 25 = 0) : ∃ rd' md', f_X5_fail rd 5 = some (0, rd') ∧ f_X8_slotsLine md mw = some (md', mw) ∧ BD rd' md' ∧ RF rd rd' ∧ MF md md' := by
  obtain ⟨rd1, md1, a1, a2, a3, a4, a5⟩ := fail_must h (k := 5) (by omega) (by omega) (by omega)
  have a2 : f_X8_must md 0 5 = some md1 := a2
  refine ⟨rd1, _, a1, ?_, a3.cg (up31 _ 0 0), a4, a5.f.r31⟩
  unfold f_X8_slotsLine
  simp only [xl]
  rw [if_neg h25, a2, xb, e_on a3.er, xb, e_takes a3.er, xb]
theorem drive_line (h : GC T E x rd md mw) (hk : tkK T E x ≠ 0) (hL : LSt n sd md) : LOt T E x rd md (f_X5_readDrive sd rd) (f_X8_driveLine md mw) := by
  have hx := gc_x h hk
  obtain ⟨hI, hR, hF, hZ⟩ := hL
  have l6 := hI.l6
  have l0 := hI.l0
  unfold f_X5_readDrive f_X8_driveLine
  simp only [xl]
  rw [hR.s3, hI.c6, hR.s0, hI.c0]
  have e1 : (nI (nv (md 31 0) 6) < (4 : Int32)) ↔ nv (md 31 0) 6 < 4 := nI_ltI (b := 4) (by omega) (by omega)
  have e2 : ((4 : Int32) ≤ nI (nv (md 31 0) 6)) ↔ 4 ≤ nv (md 31 0) 6 := nI_leI (a := 4) (by omega) (by omega)
  by_cases z : nv (md 31 0) 6 < 4
  · obtain ⟨md1, mw1, a1, a2, a3⟩ := h.on hk
    rw [if_pos (e1.mpr z), if_neg (fun y => by have := e2.mp y; omega), must_1, xb, a1, xb]
    have r0 : md1 31 0 0 = nI (nv (md 31 0) 0) := by rw [a3.row31]; exact hI.c0
    simp only
    rw [r0]
    rcases take_both a2 0 (nI (nv (md 31 0) 0) - 1) with ⟨rd2, md2, mw2, c1, c2, c3, c4, c5, c6, c7, c8⟩ | ⟨rd2, md2, c3, c4, c5, c6, c7⟩
    · obtain ⟨v, v1, v3⟩ := in_nat1 (by omega) c1 c2
      rw [v3] at c3 c4
      have hr2 : md2 31 0 = md 31 0 := c7.row31.trans a3.row31
      have g2 : md2 8 0 18 = 0 := c5.1.2.2.2.2.2
      rw [c3, xb, c4, xb]
      simp only
      rw [if_neg (nm1' (by omega)), c_addDrive hR hI z, xb, g_good g2, xb, if_neg i1]
      have r6 : md2 31 0 6 = nI (nv (md 31 0) 6) := by rw [hr2]; exact hI.c6
      rw [r6]
      simp (disch := omega) only [xg, vinT, nI_clamp, la]
      rw [upS_t (show (6 : Nat) ≠ 17 + nv (md 31 0) 6 by omega), r6, ra (k := 1)]
      have hrow : (upS (upS md2 31 0 (17 + nv (md 31 0) 6) (nI v)) 31 0 6 (nI (nv (md 31 0) 6 + 1))) 31 0 = rup (rup (md 31 0) (17 + nv (md 31 0) 6) (nI v)) 6 (nI (nv (md 31 0) 6 + 1)) := by rw [row_up, row_up, hr2]
      obtain ⟨i1, i2, i3⟩ := drive_step (v := v) (r' := rup (rup (md 31 0) (17 + nv (md 31 0) 6) (nI v)) 6 (nI (nv (md 31 0) 6 + 1))) hI hR hF z v1 (fun i h1 h2 => by rw [rup_ne h1, rup_ne h2]) (rup_hit _ _ _) (by rw [rup_ne (by omega), rup_hit])
      refine Or.inl ⟨_, rd2, _, mw2, _, rfl, rfl, Nat.lt_trans hx c8, (c5.cg (up31 _ _ _)).cg (up31 _ _ _), ?_, c6, a3.f.tr (c7.f.r31.r31), ?_, ?_⟩
      · unfold LSt
        rw [hrow]
        exact ⟨i1, i2, i3, fun z => by omega⟩
      · rw [upS_k (by omega), upS_k (by omega), c7 _ _ _ (by omega), a3 _ _ _ (by omega)]
      · rw [hrow, nv_eq ((rup_ne (by omega)).trans (rup_ne (by omega)))]
    · rw [c3, xb, c4, xb]
      simp only
      rw [if_pos trivial, e_good c5.er, xb, if_pos rfl]
      exact Or.inr ⟨_, rd2, md2, mw1, rfl, rfl, c5, c6, a3.f.tr c7.f⟩
  · obtain ⟨rd1, md1, a1, a2, a3, a4, a5⟩ := fail_must h (k := 5) (by omega) (by omega) (by omega)
    have a1 : f_X5_fail rd 5 = some (0, rd1) := a1
    have a2 : f_X8_must md 0 5 = some md1 := a2
    rw [if_neg (fun y => z (e1.mp y)), if_pos (e2.mpr (by omega)), a1, xb, x_guard_pos (Or.inl rfl), a2, xb, e_on a3.er, xb]
    simp only
    rw [e_takes a3.er, xb]
    simp only
    rw [e_good a3.er, xb, if_pos rfl]
    exact Or.inr ⟨_, rd1, md1, mw, rfl, rfl, a3, a4, a5.f⟩
theorem time_err (hE : ER md) (mw : Int64) : ∀ (k d f : Nat) (md : SD), ER md → d + k = 5 → k < f → ∃ md', f_X8_timeLine_L6 f (nI d) md mw = some (md', mw) ∧ ∀ k j t, k ≠ 31 → md' k j t = md k j t := by
  intro k
  induction k with
  | zero =>
    intro d f md he hd hf
    obtain ⟨f, rfl⟩ : ∃ q, f = q + 1 := ⟨f - 1, by omega⟩
    have : d = 5 := by omega
    subst this
    rw [f_X8_timeLine_L6, if_pos (by decide)]
    exact ⟨md, rfl, fun _ _ _ _ => rfl⟩
  | succ k ih =>
    intro d f md he hd hf
    obtain ⟨f, rfl⟩ : ∃ q, f = q + 1 := ⟨f - 1, by omega⟩
    have e5 : ¬ (5 : Int32) ≤ nI d := fun y => by have := (nI_leI (a := 5) (by omega) (by omega)).mp y; omega
    rw [f_X8_timeLine_L6, if_neg e5, e_takes he, xb]
    simp (disch := omega) only [xl, xg, vinT, nI_clamp, la, ra]
    obtain ⟨c, c1, c2, c3⟩ := he
    obtain ⟨md', q1, q2⟩ := ih (d + 1) f (upS md 31 0 (1 + d) 0) ⟨c, c1, c2, (upS_k (by omega)).trans c3⟩ (by omega) (by omega)
    exact ⟨md', q1, fun k j t hk => by rw [q2 k j t hk, upS_k hk]⟩
theorem time_loop {md0 rd0 : SD} : ∀ (k d f f' x : Nat) (sd rd md : SD) (mw : Int64), d + k = 5 → k < f → k < f' → GS T E x rd md mw → LSt 1 sd md → RF rd0 rd → MF md0 md → md 8 0 25 = md0 8 0 25 → nv (md 31 0) 9 = nv (md0 31 0) 9 → ∀ x0, x0 < x → LOt T E x0 rd0 md0 (f_X5_readTimes_L2 f (nI d) sd rd) (f_X8_timeLine_L6 f' (nI d) md mw) := by
  intro k
  induction k with
  | zero =>
    intro d f f' x sd rd md mw hd hf hf' hG hL hRF hMF h25 h9 x0 hx0
    obtain ⟨f, rfl⟩ : ∃ q, f = q + 1 := ⟨f - 1, by omega⟩
    obtain ⟨f', rfl⟩ : ∃ q, f' = q + 1 := ⟨f' - 1, by omega⟩
    have : d = 5 := by omega
    subst this
    rw [f_X5_readTimes_L2, if_pos (by decide), f_X8_timeLine_L6, if_pos (by decide)]
    exact Or.inl ⟨sd, rd, md, mw, x, rfl, rfl, hx0, hG, hL, hRF, hMF, h25, h9⟩
  | succ k ih =>
    intro d f f' x sd rd md mw hd hf hf' hG hL hRF hMF h25 h9 x0 hx0
    obtain ⟨f, rfl⟩ : ∃ q, f = q + 1 := ⟨f - 1, by omega⟩
    obtain ⟨f', rfl⟩ : ∃ q, f' = q + 1 := ⟨f' - 1, by omega⟩
    obtain ⟨hI, hR, hF, hZ⟩ := hL
    have e5 : ¬ (5 : Int32) ≤ nI d := fun y => by have := (nI_leI (a := 5) (by omega) (by omega)).mp y; omega
    rw [f_X5_readTimes_L2, if_neg e5, f_X8_timeLine_L6, if_neg e5]
    rcases take_both hG 0 99 with ⟨rd2, md2, mw2, c1, c2, c3, c4, c5, c6, c7, c8⟩ | ⟨rd2, md2, c3, c4, c5, c6, c7⟩
    · obtain ⟨v, -, v2, v3⟩ := in_nat (a := 0) (b := 99) (by omega) c1 c2 (by omega)
      rw [v3] at c3 c4
      rw [c3, xb, c4, xb]
      simp (disch := omega) only [xl, xg, vinT, nI_clamp, la, ra]
      rw [if_neg (nm1' (by omega))]
      obtain ⟨i1, i2, i3⟩ := low_step (c := 1 + d) (v := v) (r' := (upS md2 31 0 (1 + d) (nI v)) 31 0) (sd' := upS sd 10 0 d (nI v)) hI hR hF (by omega) (fun i hi => by rw [row_up, rup_ne hi, c7.row31]) (by rw [row_up, rup_hit]) (fun z => by omega) (fun _ => v2) (fun k j t hn => by
        rw [if_neg (by omega), show 1 + d - 1 = d by omega] at hn
        unfold upS
        rw [if_neg hn]) (by
        rw [if_neg (by omega), show 1 + d - 1 = d by omega]
        exact upS_hit _ _ _ _ _)
      refine ih (d + 1) f f' _ _ rd2 _ mw2 (by omega) (by omega) (by omega) (c5.cg (up31 _ _ _)) ⟨i1, i2, i3, fun z => by omega⟩ (hRF.tr c6) (hMF.tr c7.f.r31) ?_ ?_ x0 (Nat.lt_trans hx0 c8)
      · rw [upS_k (by omega), c7 _ _ _ (by omega)]; exact h25
      · rw [row_up, nv_eq (rup_ne (by omega)), c7.row31]; exact h9
    · rw [c3, xb, c4, xb]
      simp (disch := omega) only [xl, xg, vinT, nI_clamp, la, ra]
      rw [if_pos trivial]
      obtain ⟨e, e1, e2, e3⟩ := c5.er
      have c5' : BD rd2 (upS md2 31 0 (1 + d) 0) := c5.cg (up31 _ _ _)
      obtain ⟨md', q1, q2⟩ := time_err c5'.er mw k (d + 1) f' (upS md2 31 0 (1 + d) 0) c5'.er (by omega) (by omega)
      exact Or.inr ⟨sd, rd2, md', mw, rfl, q1, c5'.cg q2, hRF.tr c6, hMF.tr (c7.f.r31.tr (fun k j t h1 _ => q2 k j t h1))⟩
theorem time_line (h : GC T E x rd md mw) (hk : tkK T E x ≠ 0) (hL : LSt n sd md) : LOt T E x rd md (f_X5_readTimes sd rd) (f_X8_timeLine md mw) := by
  have hx := gc_x h hk
  obtain ⟨md1, mw1, a1, a2, a3⟩ := h.on hk
  obtain ⟨hI, hR, hF, hZ⟩ := hL
  unfold f_X5_readTimes f_X8_timeLine
  rw [a1, xb]
  have := time_loop (md0 := md) (rd0 := rd) 5 0 fuel fuel (tkE T E x) sd rd md1 mw1 (by omega) (by unfold fuel; omega) (by unfold fuel; omega) a2 (by unfold LSt; rw [a3.row31]; exact ⟨hI, hR, hF, fun z => by omega⟩) (RF.rf _) a3.f (a3 _ _ _ (by omega)) (by rw [a3.row31]) x hx
  rw [nI_0] at this
  exact this
end LNS
end
section
/-! Layer 2: platter, bad and close lines -/
section LN2
variable {T : Nat → Int32} {E x n : Nat} {sd rd md : SD} {mw : Int64}
theorem platter_line (h : GC T E x rd md mw) (hk : tkK T E x ≠ 0) (hL : LSt n sd md) : LOt T E x rd md (f_X5_readPlatter sd rd) (f_X8_platterLine md mw) := by
  have hx := gc_x h hk
  obtain ⟨hI, hR, hF, hZ⟩ := hL
  have l7 := hI.l7
  have l0 := hI.l0
  have tail : ∀ md1 : SD, ER md1 → md1 31 0 = md 31 0 → ∀ (a : Int32) (mw : Int64), (x_bind (f_X8_homeAt md1 31 a) fun q7 => if q7 = -1 then x_bind (f_X8_must md1 1 4) fun q10 => x_bind (f_X8_goesOn q10 mw) fun q11 => x_bind (f_X8_takes q11.1 q11.2 10 300) fun q12 => x_bind (f_X8_takes q12.2.1 q12.2.2 0 9) fun q14 => x_bind (f_X8_good q14.2.1) fun q16 => if q16 = 0 then some (q14.2.1, q14.2.2) else (none : Option (SD × Int64)) else x_bind (f_X8_must md1 0 4) fun q10 => x_bind (f_X8_goesOn q10 mw) fun q11 => x_bind (f_X8_takes q11.1 q11.2 10 300) fun q12 => x_bind (f_X8_takes q12.2.1 q12.2.2 0 9) fun q14 => x_bind (f_X8_good q14.2.1) fun q16 => if q16 = 0 then some (q14.2.1, q14.2.2) else (none : Option (SD × Int64))) = some (md1, mw) := fun md1 he hr a mw => by
    rw [m_homeAt hr hI, xb]
    simp only [e_must he, xb, e_on he, e_takes he, e_good he, if_true]
    split <;> rfl
  unfold f_X5_readPlatter f_X8_platterLine
  simp only [xl]
  rw [hR.s6, hI.c7, hR.s0, hI.c0]
  have e1 : (nI (nv (md 31 0) 7) < (10 : Int32)) ↔ nv (md 31 0) 7 < 10 := nI_ltI (b := 10) (by omega) (by omega)
  have e2 : ((10 : Int32) ≤ nI (nv (md 31 0) 7)) ↔ 10 ≤ nv (md 31 0) 7 := nI_leI (a := 10) (by omega) (by omega)
  by_cases z : nv (md 31 0) 7 < 10
  · obtain ⟨md1, mw1, a1, a2, a3⟩ := h.on hk
    rw [if_pos (e1.mpr z), if_neg (fun y => by have := e2.mp y; omega), must_1, xb, a1, xb]
    have r0 : md1 31 0 0 = nI (nv (md 31 0) 0) := by rw [a3.row31]; exact hI.c0
    simp only
    rw [r0]
    rcases nmb_both a2 0 (nI (nv (md 31 0) 0) - 1) with ⟨rd2, k3, c1, c2, c3, c4, c5, c6⟩ | ⟨rd2, md2, c3, c4, c5, c6, c7⟩
    · obtain ⟨v, v1, v3⟩ := in_nat1 (by omega) c1 c2
      rw [v3] at c3 c4
      rw [c3, xb, c4, xb]
      simp only
      rw [if_neg (nm1' (by omega)), c_platterWithHome hI hR, xb, m_homeAt a3.row31 hI, xb]
      by_cases y : homeQ (md 31 0) (nI v) = -1
      · rw [if_pos y, if_pos y, must_1, xb]
        obtain ⟨md2, mw2, b1, b2, b3⟩ := c5.on (by omega)
        have hx2 := gc_x c5 (by omega)
        rw [b1, xb]
        simp only
        rcases take_both b2 10 300 with ⟨rd3, md3, mw3, d1, d2, d3, d4, d5, d6, d7, d8⟩ | ⟨rd3, md3, d3, d4, d5, d6, d7⟩
        · obtain ⟨w, w1, w2, w3⟩ := in_nat (a := 10) (b := 300) (by omega) d1 d2 (by omega)
          rw [w3] at d3 d4
          rw [d3, xb, d4, xb]
          simp only
          rw [if_neg (nm1' (by omega))]
          rcases take_both d5 0 9 with ⟨rd4, md4, mw4, f1, f2, f3, f4, f5, f6, f7, f8⟩ | ⟨rd4, md4, f3, f4, f5, f6, f7⟩
          · obtain ⟨u, -, u2, u3⟩ := in_nat (a := 0) (b := 9) (by omega) f1 f2 (by omega)
            rw [u3] at f3 f4
            have hr4 : md4 31 0 = md 31 0 := by rw [f7.row31, d7.row31, b3.row31, a3.row31]
            have g4 : md4 8 0 18 = 0 := f5.1.2.2.2.2.2
            have r7 : md4 31 0 7 = nI (nv (md 31 0) 7) := by rw [hr4]; exact hI.c7
            rw [f3, xb, f4, xb]
            simp only
            rw [if_neg (nm1' (by omega)), c_addPlatter _ _ _ hR hI z, xb, g_good g4, xb, if_neg i1, r7, ra (k := 1)]
            simp (disch := omega) only [xg, vinT, nI_clamp, la]
            have hrow : (upS (upS (upS (upS md4 31 0 7 (nI (nv (md 31 0) 7 + 1))) 31 0 (29 + nv (md 31 0) 7) (nI v)) 31 0 (39 + nv (md 31 0) 7) (nI w)) 31 0 (49 + nv (md 31 0) 7) (nI u)) 31 0 = rup (rup (rup (rup (md 31 0) 7 (nI (nv (md 31 0) 7 + 1))) (29 + nv (md 31 0) 7) (nI v)) (39 + nv (md 31 0) 7) (nI w)) (49 + nv (md 31 0) 7) (nI u) := by rw [row_up, row_up, row_up, row_up, hr4]
            obtain ⟨i1, i2, i3⟩ := plat_step (h := v) (c := w) (e := u) (r' := rup (rup (rup (rup (md 31 0) 7 (nI (nv (md 31 0) 7 + 1))) (29 + nv (md 31 0) 7) (nI v)) (39 + nv (md 31 0) 7) (nI w)) (49 + nv (md 31 0) 7) (nI u)) hI hR hF z v1 ⟨w1, w2⟩ u2 y (fun i h1 h2 h3 h4 => by rw [rup_ne h4, rup_ne h3, rup_ne h2, rup_ne h1]) (by rw [rup_ne (by omega), rup_ne (by omega), rup_ne (by omega), rup_hit]) (by rw [rup_ne (by omega), rup_ne (by omega), rup_hit]) (by rw [rup_ne (by omega), rup_hit]) (rup_hit _ _ _)
            refine Or.inl ⟨_, rd4, _, mw4, _, rfl, rfl, Nat.lt_trans hx (Nat.lt_trans hx2 (Nat.lt_trans d8 f8)), (((f5.cg (up31 _ _ _)).cg (up31 _ _ _)).cg (up31 _ _ _)).cg (up31 _ _ _), ?_, c6.tr (d6.tr f6), a3.f.tr (b3.f.tr (d7.f.tr (f7.f.r31.r31.r31.r31))), ?_, ?_⟩
            · unfold LSt
              rw [hrow]
              exact ⟨i1, i2, i3, fun z => by omega⟩
            · rw [upS_k (by omega), upS_k (by omega), upS_k (by omega), upS_k (by omega), f7 _ _ _ (by omega), d7 _ _ _ (by omega), b3 _ _ _ (by omega), a3 _ _ _ (by omega)]
            · rw [hrow, nv_eq ((rup_ne (by omega)).trans ((rup_ne (by omega)).trans ((rup_ne (by omega)).trans (rup_ne (by omega)))))]
          · rw [f3, xb, f4, xb]
            simp only
            rw [if_pos trivial, e_good f5.er, xb, if_pos rfl]
            exact Or.inr ⟨_, rd4, md4, mw3, rfl, rfl, f5, c6.tr (d6.tr f6), a3.f.tr (b3.f.tr (d7.f.tr f7.f))⟩
        · rw [d3, xb, d4, xb]
          simp only
          rw [if_pos trivial, e_takes d5.er, xb]
          simp only
          rw [e_good d5.er, xb, if_pos rfl]
          exact Or.inr ⟨_, rd3, md3, mw2, rfl, rfl, d5, c6.tr d6, a3.f.tr (b3.f.tr d7.f)⟩
      · rw [if_neg y, if_neg y]
        obtain ⟨rd3, md3, d1, d2, d3, d4, d5⟩ := fail_must c5 (k := 4) (by omega) (by omega) (by omega)
        have d1 : f_X5_fail rd2 4 = some (0, rd3) := d1
        have d2 : f_X8_must md1 0 4 = some md3 := d2
        rw [d1, xb, x_guard_pos (Or.inl rfl), d2, xb, e_on d3.er, xb]
        simp only
        rw [e_takes d3.er, xb]
        simp only
        rw [e_takes d3.er, xb]
        simp only
        rw [e_good d3.er, xb, if_pos rfl]
        exact Or.inr ⟨_, rd3, md3, mw1, rfl, rfl, d3, c6.tr d4, a3.f.tr d5.f⟩
    · rw [c3, xb, c4, xb]
      simp only
      rw [if_pos trivial]
      have hr2 : md2 31 0 = md 31 0 := c7.row31.trans a3.row31
      rw [m_homeAt hr2 hI, xb]
      refine Or.inr ⟨_, rd2, md2, mw1, rfl, ?_, c5, c6, a3.f.tr c7.f⟩
      simp only [e_must c5.er, xb, e_on c5.er, e_takes c5.er, e_good c5.er, if_true]
      split <;> rfl
  · obtain ⟨rd1, md1, a1, a2, a3, a4, a5⟩ := fail_must h (k := 5) (by omega) (by omega) (by omega)
    have a1 : f_X5_fail rd 5 = some (0, rd1) := a1
    have a2 : f_X8_must md 0 5 = some md1 := a2
    rw [if_neg (fun y => z (e1.mp y)), if_pos (e2.mpr (by omega)), a1, xb, x_guard_pos (Or.inl rfl), a2, xb, e_on a3.er, xb]
    simp only
    rw [e_sees a3.er, xb]
    simp only
    rw [m_homeAt (a5.row31) hI, xb]
    refine Or.inr ⟨_, rd1, md1, mw, rfl, ?_, a3, a4, a5.f⟩
    simp only [e_must a3.er, xb, e_on a3.er, e_takes a3.er, e_good a3.er, if_true]
    split <;> rfl
theorem bad_line (h : GC T E x rd md mw) (hk : tkK T E x ≠ 0) (hL : LSt n sd md) : LOt T E x rd md (f_X5_readBad sd rd) (f_X8_badLine md mw) := by
  have hx := gc_x h hk
  obtain ⟨hI, hR, hF, hZ⟩ := hL
  have l7 := hI.l7
  have l8 := hI.l8
  unfold f_X5_readBad f_X8_badLine
  simp only [xl]
  rw [hR.s7, hI.c8, hR.s6, hI.c7]
  have e1 : (nI (nv (md 31 0) 8) < (20 : Int32)) ↔ nv (md 31 0) 8 < 20 := nI_ltI (b := 20) (by omega) (by omega)
  have e2 : ((20 : Int32) ≤ nI (nv (md 31 0) 8)) ↔ 20 ≤ nv (md 31 0) 8 := nI_leI (a := 20) (by omega) (by omega)
  by_cases z : nv (md 31 0) 8 < 20
  · obtain ⟨md1, mw1, a1, a2, a3⟩ := h.on hk
    rw [if_pos (e1.mpr z), if_neg (fun y => by have := e2.mp y; omega), must_1, xb, a1, xb]
    have r7 : md1 31 0 7 = nI (nv (md 31 0) 7) := by rw [a3.row31]; exact hI.c7
    simp only
    rw [r7]
    rcases take_both a2 0 (nI (nv (md 31 0) 7) - 1) with ⟨rd2, md2, mw2, c1, c2, c3, c4, c5, c6, c7, c8⟩ | ⟨rd2, md2, c3, c4, c5, c6, c7⟩
    · obtain ⟨p, p1, p3⟩ := in_nat1 (by omega) c1 c2
      rw [p3] at c3 c4
      have hr2 : md2 31 0 = md 31 0 := c7.row31.trans a3.row31
      have g2 : md2 8 0 18 = 0 := c5.1.2.2.2.2.2
      obtain ⟨-, ⟨q1, q2⟩, -⟩ := hI.plt p p1
      have q3 := q1.l
      have rc : md2 31 0 (39 + p) = nI (nv (md 31 0) (39 + p)) := by rw [hr2]; exact q1.e
      rw [c3, xb, c4, xb]
      simp only
      rw [if_neg (nm1' (by omega)), g_good g2, xb, if_neg i1]
      simp (disch := omega) only [xg, vinT, nI_clamp, la]
      rw [rc, (hR.pl p p1).2.1, q1.e]
      rcases nmb_both c5 0 (nI (nv (md 31 0) (39 + p)) - 1) with ⟨rd3, k3, d1, d2, d3, d4, d5, d6⟩ | ⟨rd3, md3, d3, d4, d5, d6, d7⟩
      · obtain ⟨s, s1, s3⟩ := in_nat1 (by omega) d1 d2
        rw [s3] at d3 d4
        rw [d3, xb, d4, xb]
        simp only
        rw [if_neg (nm1' (by omega)), c_isBad sd p (by omega), xb, g_good g2, xb, if_neg i1, m_isBad2 hr2 hI hR.bd p1 (by omega), xb]
        by_cases y : bdc sd p s = true
        · obtain ⟨rd4, md4, f1, f2, f3, f4, f5⟩ := fail_must d5 (k := 4) (by omega) (by omega) (by omega)
          have f1 : f_X5_fail rd3 4 = some (0, rd4) := f1
          have f2 : f_X8_must md2 0 4 = some md4 := f2
          have nb : ¬ b01 (bdc sd p s) = 0 := by rw [b01_0, y]; decide
          rw [if_neg nb, if_neg nb, f1, xb, x_guard_pos (Or.inl rfl), f2, xb, e_good f3.er, xb, if_pos rfl, e_on f3.er, xb]
          exact Or.inr ⟨_, rd4, md4, mw2, rfl, rfl, f3, c6.tr (d6.tr f4), a3.f.tr (c7.f.tr f5.f)⟩
        · have nb : b01 (bdc sd p s) = 0 := by rw [b01_0]; exact Bool.eq_false_iff.mpr y
          obtain ⟨sd', f1, f2⟩ := c_spoil hI hR p1 z (show s < 300 by omega)
          obtain ⟨m5, f3, f4, f5⟩ := m_marks hr2 hI z (show s < 300 by omega) (p := p)
          have hnew : ¬ bdm (md 31 0) p s := fun w => y ((hR.bd p s p1 (by omega)).mpr w)
          have hI2 := SV_inv hI f5 p1 z s1 hnew
          have hR2 := SV_rel hI hR f5 f2 p1 z (by omega)
          have n9 : nv (m5 31 0) 9 = nv (md 31 0) 9 := nv_eq (f5.1 9 (by omega) (by omega) (by omega) (by omega))
          have G5 : GC T E (tkE T E (tkE T E x)) rd3 m5 mw2 := by
            have hm : ∀ k j t, k ≠ 31 → m5 k j t = md2 k j t := fun k j t hk => f4 k j t (by omega)
            obtain ⟨⟨h1, h2, h3, h4, h5, h6⟩, h7, h8, h9, h10, t1, t2, t3, t4, t5⟩ := d5
            exact ⟨⟨h1, h2, fun t ht => (hm _ _ _ (by omega)).trans (h3 t ht), h4, (hm _ _ _ (by omega)).trans h5, (hm _ _ _ (by omega)).trans h6⟩, h7, h8, h9, h10, (hm _ _ _ (by omega)).trans t1, (hm _ _ _ (by omega)).trans t2, fun z => (hm _ _ _ (by omega)).trans (t3 z), fun z => (hm _ _ _ (by omega)).trans (t4 z), t5⟩
          obtain ⟨md6, mw6, o1, o2, o3⟩ := G5.on (by omega)
          have hx3 := gc_x G5 (by omega)
          rw [if_pos nb, if_pos nb, f1, xb, must_1, xb, g_good g2, xb, if_neg i1, f3, xb, o1, xb]
          refine Or.inl ⟨sd', rd3, md6, mw6, _, rfl, rfl, Nat.lt_trans hx (Nat.lt_trans c8 hx3), o2, ?_, c6.tr d6, a3.f.tr (c7.f.tr (f4.f.tr o3.f)), ?_, ?_⟩
          · have e16 : ∀ i, i < 249 → i ≠ 8 → (m5 31 0) i = (md 31 0) i := fun i h1 h2 => f5.1 i h2 (by omega) (by omega) (by omega)
            have ev : ∀ i, i < 249 → i ≠ 8 → nv (m5 31 0) i = nv (md 31 0) i := fun i h1 h2 => nv_eq (e16 i h1 h2)
            unfold LSt
            rw [o3.row31]
            refine ⟨inv_of hI2 n9, rel_of hR2 n9, ⟨fun d h1 h2 => ?_, fun q h1 h2 => ?_, ?_, ?_⟩, fun z => by omega⟩
            · rw [ev 6 (by omega) (by omega)] at h1
              rw [e16 _ (by omega) (by omega), e16 _ (by omega) (by omega)]
              exact hF.1 d h1 h2
            · rw [ev 7 (by omega) (by omega)] at h1
              rw [e16 _ (by omega) (by omega), e16 _ (by omega) (by omega), e16 _ (by omega) (by omega)]
              exact hF.2.1 q h1 h2
            · rw [e16 _ (by omega) (by omega)]; exact hF.2.2.1
            · rw [ev 10 (by omega) (by omega), n9]; exact hF.2.2.2
          · rw [o3 _ _ _ (by omega), f4 _ _ _ (by omega), c7 _ _ _ (by omega), a3 _ _ _ (by omega)]
          · rw [o3.row31, n9]
      · rw [d3, xb, d4, xb]
        simp only
        rw [if_pos trivial, e_good d5.er, xb, if_pos rfl, e_must d5.er, xb, e_good d5.er, xb, if_pos rfl, e_on d5.er, xb]
        exact Or.inr ⟨_, rd3, md3, mw2, rfl, rfl, d5, c6.tr d6, a3.f.tr (c7.f.tr d7.f)⟩
    · rw [c3, xb, c4, xb]
      simp only
      rw [if_pos trivial, e_good c5.er, xb, if_pos rfl, e_sees c5.er, xb]
      simp only
      rw [e_good c5.er, xb, if_pos rfl, e_must c5.er, xb, e_good c5.er, xb, if_pos rfl, e_on c5.er, xb]
      exact Or.inr ⟨_, rd2, md2, mw1, rfl, rfl, c5, c6, a3.f.tr c7.f⟩
  · obtain ⟨rd1, md1, a1, a2, a3, a4, a5⟩ := fail_must h (k := 5) (by omega) (by omega) (by omega)
    have a1 : f_X5_fail rd 5 = some (0, rd1) := a1
    have a2 : f_X8_must md 0 5 = some md1 := a2
    rw [if_neg (fun y => z (e1.mp y)), if_pos (e2.mpr (by omega)), a1, xb, x_guard_pos (Or.inl rfl), a2, xb, e_on a3.er, xb]
    simp only
    rw [e_takes a3.er, xb]
    simp only
    rw [e_good a3.er, xb, if_pos rfl, e_sees a3.er, xb]
    simp only
    rw [e_good a3.er, xb, if_pos rfl, e_must a3.er, xb, e_good a3.er, xb, if_pos rfl, e_on a3.er, xb]
    exact Or.inr ⟨_, rd1, md1, mw, rfl, rfl, a3, a4, a5.f⟩
theorem close_line (h : GC T E x rd md mw) (hk : tkK T E x ≠ 0) (hL : LSt n sd md) : LOt T E x rd md (f_X5_readClose sd rd) (f_X8_closeLine md mw) := by
  have hx := gc_x h hk
  obtain ⟨hI, hR, hF, hZ⟩ := hL
  have l7 := hI.l7
  obtain ⟨md1, mw1, a1, a2, a3⟩ := h.on hk
  unfold f_X5_readClose f_X8_closeLine
  simp only [xl]
  rw [a1, xb, hR.s6, hI.c7]
  have r7 : md1 31 0 7 = nI (nv (md 31 0) 7) := by rw [a3.row31]; exact hI.c7
  simp only
  rw [r7]
  rcases nmb_both a2 0 (nI (nv (md 31 0) 7) - 1) with ⟨rd2, k3, c1, c2, c3, c4, c5, c6⟩ | ⟨rd2, md2, c3, c4, c5, c6, c7⟩
  · obtain ⟨p, p1, p3⟩ := in_nat1 (by omega) c1 c2
    rw [p3] at c3 c4
    have g1 : md1 8 0 18 = 0 := c5.1.2.2.2.2.2
    obtain ⟨-, -, -, -, -, q1, -⟩ := hI.plt p p1
    have q2 := q1.l
    have rc : md1 31 0 (79 + p) = nI (nv (md 31 0) (79 + p)) := by rw [a3.row31]; exact q1.e
    rw [c3, xb, c4, xb]
    simp only
    rw [if_neg (nm1' (by omega)), g_good g1, xb, if_neg i1]
    simp (disch := omega) only [xg, vinT, nI_clamp, la]
    rw [rc, (hR.pl p p1).2.2.2.2.2, q1.e]
    by_cases y : nv (md 31 0) (79 + p) = 0
    · have n0 : nI (nv (md 31 0) (79 + p)) = 0 := by rw [y]; rfl
      have n1 : ¬ nI (nv (md 31 0) (79 + p)) = 1 := by rw [n0]; decide
      obtain ⟨rd3, md3, d1, d2, d3, d4, d5⟩ := fail_must c5 (k := 6) (by omega) (by omega) (by omega)
      have d1 : f_X5_fail rd2 6 = some (0, rd3) := d1
      have d2 : f_X8_must md1 0 6 = some md3 := d2
      rw [if_pos n0, if_neg n1, d1, xb, x_guard_pos (Or.inl rfl), d2, xb, e_good d3.er, xb, if_pos rfl, e_on d3.er, xb]
      exact Or.inr ⟨_, rd3, md3, mw1, rfl, rfl, d3, c6.tr d4, a3.f.tr d5.f⟩
    · have y1 : nv (md 31 0) (79 + p) = 1 := by omega
      have n1 : nI (nv (md 31 0) (79 + p)) = 1 := by rw [y1]; rfl
      have n0 : ¬ nI (nv (md 31 0) (79 + p)) = 0 := by rw [n1]; exact i1
      obtain ⟨sd', f1, f2⟩ := c_addLeadOut hI hR p1 y1
      obtain ⟨m5, f3, f4, f5⟩ := m_closes a3.row31 hI p1 y1
      have hI2 := CV_inv hI f5 p1 y1
      have hR2 := CV_rel hI hR f5 f2 p1 y1
      have ec : ∀ i, i ≠ 59 + p → i ≠ 79 + p → ¬ (169 ≤ i ∧ i < 249) → (m5 31 0) i = (md 31 0) i := fun i h1 h2 h3 => f5.1 i h1 h2 (fun z => h3 (by
        have := (hI.plt p p1).2.2.2.2.1.l
        omega))
      have n9 : nv (m5 31 0) 9 = nv (md 31 0) 9 := nv_eq (ec 9 (by omega) (by omega) (by omega))
      have n7 : nv (m5 31 0) 7 = nv (md 31 0) 7 := nv_eq (ec 7 (by omega) (by omega) (by omega))
      have n6 : nv (m5 31 0) 6 = nv (md 31 0) 6 := nv_eq (ec 6 (by omega) (by omega) (by omega))
      have n10 : nv (m5 31 0) 10 = nv (md 31 0) 10 := nv_eq (ec 10 (by omega) (by omega) (by omega))
      have G5 : GC T E (tkE T E x) rd2 m5 mw1 := by
        have hm : ∀ k j t, k ≠ 31 → m5 k j t = md1 k j t := fun k j t hk => f4 k j t (by omega)
        obtain ⟨⟨h1, h2, h3, h4, h5, h6⟩, h7, h8, h9, h10, t1, t2, t3, t4, t5⟩ := c5
        exact ⟨⟨h1, h2, fun t ht => (hm _ _ _ (by omega)).trans (h3 t ht), h4, (hm _ _ _ (by omega)).trans h5, (hm _ _ _ (by omega)).trans h6⟩, h7, h8, h9, h10, (hm _ _ _ (by omega)).trans t1, (hm _ _ _ (by omega)).trans t2, fun z => (hm _ _ _ (by omega)).trans (t3 z), fun z => (hm _ _ _ (by omega)).trans (t4 z), t5⟩
      obtain ⟨md6, mw6, o1, o2, o3⟩ := G5.on (by omega)
      have hx3 := gc_x G5 (by omega)
      rw [if_neg n0, if_pos n1, f1, xb, must_1, xb, g_good g1, xb, if_neg i1, f3, xb, o1, xb]
      refine Or.inl ⟨sd', rd2, md6, mw6, _, rfl, rfl, Nat.lt_trans hx hx3, o2, ?_, c6, a3.f.tr (f4.f.tr o3.f), ?_, ?_⟩
      · unfold LSt
        rw [o3.row31]
        refine ⟨inv_of hI2 n9, rel_of hR2 n9, ⟨fun d h1 h2 => ?_, fun q h1 h2 => ?_, ?_, ?_⟩, fun z => by omega⟩
        · rw [n6] at h1
          rw [ec _ (by omega) (by omega) (by omega), ec _ (by omega) (by omega) (by omega)]
          exact hF.1 d h1 h2
        · rw [n7] at h1
          rw [ec _ (by omega) (by omega) (by omega), ec _ (by omega) (by omega) (by omega), ec _ (by omega) (by omega) (by omega)]
          exact hF.2.1 q h1 h2
        · rw [ec _ (by omega) (by omega) (by omega)]; exact hF.2.2.1
        · rw [n10, n9]; exact hF.2.2.2
      · rw [o3 _ _ _ (by omega), f4 _ _ _ (by omega), a3 _ _ _ (by omega)]
      · rw [o3.row31, n9]
  · rw [c3, xb, c4, xb]
    simp only
    rw [if_pos trivial, e_good c5.er, xb, if_pos rfl, e_must c5.er, xb, e_good c5.er, xb, if_pos rfl, e_on c5.er, xb]
    exact Or.inr ⟨_, rd2, md2, mw1, rfl, rfl, c5, c6, a3.f.tr c7.f⟩
end LN2
end
section
/-! Layer 2: the file line -/
section FIL
variable {T : Nat → Int32} {E x n : Nat} {sd rd md : SD} {mw : Int64} {rn mn : Nat → Int64}
/-- the names that were read, in the class's numbers and in the reference's -/
def NM (c : Nat) (rn mn : Nat → Int64) : Prop := ∀ f, f < c → ∃ L : List Nat, okD L ∧ L.length ≤ 8 ∧ rn f = lN (vB 32 L 0) ∧ mn f = lN (vB 27 L 0)
/-- the outcome of a line, with the names -/
def LOf (T : Nat → Int32) (E x : Nat) (rd md : SD) (o1 : Option (Int32 × SD × SD × (Nat → Int64))) (o2 : Option (SD × (Nat → Int64) × Int64)) : Prop := (∃ sd' rd' rn' md' mn' mw' x', o1 = some (1, sd', rd', rn') ∧ o2 = some (md', mn', mw') ∧ x < x' ∧ GS T E x' rd' md' mw' ∧ LSt 1 sd' md' ∧ NM (nv (md' 31 0) 9) rn' mn' ∧ RF rd rd' ∧ MF md md' ∧ md' 8 0 25 = md 8 0 25) ∨ ∃ sd' rd' rn' md' mn' mw', o1 = some (0, sd', rd', rn') ∧ o2 = some (md', mn', mw') ∧ BD rd' md' ∧ RF rd rd' ∧ MF md md'
def rsv (T : Nat → Int32) (E x : Nat) : Bool := wq T E x 0 || (wq T E x 1 || (wq T E x 2 || (wq T E x 3 || (wq T E x 4 || (wq T E x 5 || wq T E x 6)))))
theorem c_isReserved (h : GC T E x rd md mw) : f_X5_isReserved rd = some (b01 (rsv T E x)) := by
  unfold f_X5_isReserved rsv
  rw [c_wordIs h (i := 0) (by omega), c_wordIs h (i := 1) (by omega), c_wordIs h (i := 2) (by omega), c_wordIs h (i := 3) (by omega), c_wordIs h (i := 4) (by omega), c_wordIs h (i := 5) (by omega), c_wordIs h (i := 6) (by omega)]
  simp only [xb]
  cases wq T E x 0 <;> cases wq T E x 1 <;> cases wq T E x 2 <;> cases wq T E x 3 <;> cases wq T E x 4 <;> cases wq T E x 5 <;> cases wq T E x 6 <;> rfl
theorem m_isReserved (h : GC T E x rd md mw) : f_X8_isReserved md mw = some (b01 (rsv T E x)) := by
  obtain ⟨k0, k1, k2, k3, k4, k5, k6⟩ := kw_val
  unfold f_X8_isReserved rsv
  rw [← k0, ← k1, ← k2, ← k3, ← k4, ← k5, ← k6]
  rw [m_isWord h (i := 0) (by omega), m_isWord h (i := 1) (by omega), m_isWord h (i := 2) (by omega), m_isWord h (i := 3) (by omega), m_isWord h (i := 4) (by omega), m_isWord h (i := 5) (by omega), m_isWord h (i := 6) (by omega)]
  simp only [xb]
  cases wq T E x 0 <;> cases wq T E x 1 <;> cases wq T E x 2 <;> cases wq T E x 3 <;> cases wq T E x 4 <;> cases wq T E x 5 <;> cases wq T E x 6 <;> rfl
theorem c_wnum {e : Nat} (he : e ≤ 900) (h4 : rd 5 0 4 = nI e) : ∀ (k p f v : Nat), p + k = e → k < f → (∀ q, p ≤ q → q < e → ∃ d, 1 ≤ d ∧ d ≤ 26 ∧ rd 20 0 q = nI (96 + d)) → f_X5_wordNumber_L7 rd f (lN v) (nI p) = some (lN (wd 32 (rd 20 0) k p v)) := by
  intro k
  induction k with
  | zero =>
    intro p f v hp hf hl
    obtain ⟨f, rfl⟩ : ∃ q, f = q + 1 := ⟨f - 1, by omega⟩
    have : p = e := by omega
    subst this
    rw [f_X5_wordNumber_L7, h4, if_pos (nI_le (Nat.le_refl _) (by omega))]
    rfl
  | succ k ih =>
    intro p f v hp hf hl
    obtain ⟨f, rfl⟩ : ∃ q, f = q + 1 := ⟨f - 1, by omega⟩
    obtain ⟨d, d1, d2, d3⟩ := hl p (Nat.le_refl _) (by omega)
    rw [f_X5_wordNumber_L7, h4, if_neg (by rw [nI_leI (by omega) (by omega)]; omega)]
    simp (disch := omega) only [xl, xg, vinT, nI_clamp]
    rw [d3, show nI (96 + d) - 97 = nI (96 + d - 97) from pk_sub (b := 97) (by omega), ra (k := 1), ra (k := 1), nI_l (show 96 + d - 97 + 1 < 2 ^ 31 by omega)]
    rw [show lN v * (32 : Int64) + lN (96 + d - 97 + 1) = lN (32 * v + d) by
      show lN v * lN 32 + _ = _
      rw [lN_mul, lN_add]
      congr 1
      omega]
    rw [ih (p + 1) f (32 * v + d) (by omega) (by omega) (fun q h1 h2 => hl q (by omega) h2)]
    congr 2
    rw [wd, d3, nI_clamp (by omega)]
    congr 1
    omega
theorem c_wordNumber (h : GC T E x rd md mw) (hk : tkK T E x = 2) : f_X5_wordNumber rd = some (lN (vB 32 (tokW T E x) 0)) := by
  obtain ⟨⟨g1, g2, g3, g4, g5, g6⟩, h7, h8, h9, h10, -⟩ := id h
  obtain ⟨b1, b2, b3, -⟩ := tkE_b T h7
  obtain ⟨a1, a2⟩ := tok_let hk
  have := c_wnum (rd := rd) (e := tkE T E x) (by omega) h9 (tkE T E x - tkS T E x) (tkS T E x) fuel 0 (by omega) (by unfold fuel; omega) (by rw [g2]; exact a2)
  unfold f_X5_wordNumber
  rw [xl, h8]
  rw [g2, wd_vB] at this
  exact this
/-- what the reference does behind the name -/
noncomputable def flK (w : Int64) (mn : Nat → Int64) (md : SD) : Option (SD × (Nat → Int64) × Int64) := x_bind (f_X8_goesOn md w) fun (q10 : (SD × Int64)) => x_bind (f_X8_takes (q10.1) (q10.2) (1 : Int32) (300 : Int32)) fun (q11 : (Int32 × SD × Int64)) => x_bind (f_X8_sees (q11.2.1) (0 : Int32) (((q11.2.1 31 0 7) - (1 : Int32)))) fun (q13 : (Int32 × SD)) => x_bind (f_X8_good (q13.2)) fun (q15 : Int32) => (x_let (fun (y17 : Int32) => (x_bind (f_X8_must (q13.2) y17 (6 : Int32)) fun (q18 : SD) => x_bind (f_X8_good q18) fun (q19 : Int32) => (x_let (fun (md21 : SD) (mn22 : Nat → Int64) => (x_bind (f_X8_goesOn md21 (q11.2.2)) fun (q23 : (SD × Int64)) => some (q23.1, mn22, q23.2) : Option (SD × (Nat → Int64) × Int64))) fun K20 => (if q19 = 0 then K20 (q18) (mn) else x_guard (vp_in (q18 31 0 9) 20) <| x_let (vp_updL mn ((q18 31 0 9)).toNatClampNeg w) fun (mn25 : Nat → Int64) => x_let (upS q18 31 0 9 ((q18 31 0 9) + (1 : Int32))) fun (md26 : SD) => x_bind (f_X8_writesVersion md26 (31) (((md26 31 0 9) - (1 : Int32))) q13.1 q11.1) fun (q27 : SD) => K20 (q27) (mn25))) : Option (SD × (Nat → Int64) × Int64))) fun K16 => (if q15 = 0 then K16 (0 : Int32) else x_bind (f_X8_canWrite (q13.2) (31) q13.1 q11.1) fun (q29 : Int32) => (if q29 = 0 then K16 (0 : Int32) else K16 ((1 : Int32)))))
theorem flK_err (h : ER md) (w : Int64) (mn : Nat → Int64) : flK w mn md = some (md, mn, w) := by
  unfold flK
  simp only [e_on h, xb, e_takes h, e_sees h, e_good h, xl, e_must h, if_true]
theorem fl_step (q4 : SD × Int64) (mn : Nat → Int64) (f : Nat) (v : Int32) (md : SD) : f_X8_fileLine_L53 q4 mn (f + 1) v md = if (md 31 0 9) ≤ v then flK q4.2 mn md else x_bind (f_X8_good md) fun (q30 : Int32) => (if q30 = 0 then flK q4.2 mn md else x_guard (vp_in v 20) <| if (lg_cmp (mn (v).toNatClampNeg) q4.2) = 0 then x_bind (f_X8_must md 0 (4 : Int32)) fun (q34 : SD) => f_X8_fileLine_L53 q4 mn f (v + 1) (q34) else x_bind (f_X8_must md 1 (4 : Int32)) fun (q34 : SD) => f_X8_fileLine_L53 q4 mn f (v + 1) (q34)) := by
  rw [f_X8_fileLine_L53]
  unfold flK
  simp only [xl]
theorem fl_er (h : ER md) (q4 : SD × Int64) (mn : Nat → Int64) (f : Nat) (v : Int32) : f_X8_fileLine_L53 q4 mn (f + 1) v md = flK q4.2 mn md := by
  rw [fl_step, e_good h, xb, if_pos rfl]
  split <;> rfl
theorem fl_loop {c : Nat} (hc : c < 20) (q4 : SD × Int64) (h : GC T E x rd md mw) (hw : q4.2 = mw) (hk : tkK T E x = 2) (h9 : md 31 0 9 = nI c) (hN : NM c rn mn) : ∀ (k j f f' : Nat), j + k = c → k < f → k + 1 < f' → (f_X5_keepName_L8 (nI c) rn (lN (vB 32 (tokW T E x) 0)) f (nI j) = some (1, vp_updL rn c (lN (vB 32 (tokW T E x) 0))) ∧ f_X8_fileLine_L53 q4 mn f' (nI j) md = flK mw mn md) ∨ (f_X5_keepName_L8 (nI c) rn (lN (vB 32 (tokW T E x) 0)) f (nI j) = some (0, rn) ∧ ∃ rd' md', f_X5_fail rd 4 = some (0, rd') ∧ f_X8_fileLine_L53 q4 mn f' (nI j) md = flK mw mn md' ∧ BD rd' md' ∧ RF rd rd' ∧ M2 md md') := by
  obtain ⟨o1, o2⟩ := tokW_ok hk h.2.1
  have g6 : md 8 0 18 = 0 := h.1.2.2.2.2.2
  have hm : mw = lN (vB 27 (tokW T E x) 0) := by
    have := h.2.2.2.2.2.2.2.2.2 hk
    rw [this, wd_vB]
    rfl
  intro k
  induction k with
  | zero =>
    intro j f f' hj hf hf'
    obtain ⟨f, rfl⟩ : ∃ q, f = q + 1 := ⟨f - 1, by omega⟩
    obtain ⟨f', rfl⟩ : ∃ q, f' = q + 1 := ⟨f' - 1, by omega⟩
    have : j = c := by omega
    subst this
    left
    rw [f_X5_keepName_L8, if_pos (nI_le (Nat.le_refl _) (by omega)), fl_step, h9, if_pos (nI_le (Nat.le_refl _) (by omega)), hw]
    simp (disch := omega) only [xl, xg, vinT, nI_clamp]
    exact ⟨trivial, trivial⟩
  | succ k ih =>
    intro j f f' hj hf hf'
    obtain ⟨f, rfl⟩ : ∃ q, f = q + 1 := ⟨f - 1, by omega⟩
    obtain ⟨f', rfl⟩ : ∃ q, f' = q + 1 := ⟨f' - 1, by omega⟩
    obtain ⟨L, l1, l2, l3, l4⟩ := hN j (by omega)
    have s32 := vB_eq (B := 32) (by omega) (by omega) l1 o1 l2 o2
    have s27 := vB_eq (B := 27) (by omega) (by omega) l1 o1 l2 o2
    have nle : ¬ nI c ≤ nI j := by rw [nI_leI (by omega) (by omega)]; omega
    rw [f_X5_keepName_L8, if_neg nle, fl_step, h9, if_neg nle, g_good g6, xb, if_neg i1]
    simp (disch := omega) only [xl, xg, vinT, nI_clamp, ra]
    rw [l3, l4, hw, hm]
    by_cases z : L = tokW T E x
    · rw [if_pos (s32.mpr z), if_pos (s27.mpr z), ← hm]
      obtain ⟨rd', md', a1, a2, a3, a4, a5⟩ := fail_must h (k := 4) (by omega) (by omega) (by omega)
      have a2 : f_X8_must md 0 4 = some md' := a2
      obtain ⟨f', rfl⟩ : ∃ q, f' = q + 1 := ⟨f' - 1, by omega⟩
      rw [a2, xb, fl_er a3.er, hw]
      exact Or.inr ⟨rfl, rd', md', a1, rfl, a3, a4, a5⟩
    · rw [if_neg (fun y => z (s32.mp y)), if_neg (fun y => z (s27.mp y)), must_1, xb, ← hm]
      exact ih (j + 1) f f' (by omega) (by omega) (by omega)
theorem file_line (h : GC T E x rd md mw) (hk : tkK T E x ≠ 0) (hL : LSt n sd md) (hN : NM (nv (md 31 0) 9) rn mn) : LOf T E x rd md (f_X5_readNewFile sd rd rn) (f_X8_fileLine md mn mw) := by
  have hx := gc_x h hk
  obtain ⟨hI, hR, hF, hZ⟩ := hL
  have l7 := hI.l7
  have l9 := hI.l9
  have l10 := hI.l10
  unfold f_X5_readNewFile f_X8_fileLine
  simp only [xl]
  rw [hR.s11, hI.c9, hR.s6, hI.c7]
  have e1 : (nI (nv (md 31 0) 9) < (20 : Int32)) ↔ nv (md 31 0) 9 < 20 := nI_ltI (b := 20) (by omega) (by omega)
  have e2 : ((20 : Int32) ≤ nI (nv (md 31 0) 9)) ↔ 20 ≤ nv (md 31 0) 9 := nI_leI (a := 20) (by omega) (by omega)
  by_cases z : nv (md 31 0) 9 < 20
  · obtain ⟨md1, mw1, a1, a2, a3⟩ := h.on hk
    obtain ⟨rd1, b1, b2, b3⟩ := a2.tok
    have hr1 := a3.row31
    rw [if_pos (e1.mpr z), if_neg (fun y => by have := e2.mp y; omega), must_1, xb, a1, xb, b1, xb]
    have h10 : rd1 5 0 5 = nI (tkK T E (tkE T E x)) := b2.2.2.2.2.1
    have h22 : md1 8 0 22 = nI (rk (tkK T E (tkE T E x))) := b2.2.2.2.2.2.2.1
    have hkl := tkK_lt T E (tkE T E x)
    have f2 : (nI (tkK T E (tkE T E x)) = (2 : Int32)) ↔ tkK T E (tkE T E x) = 2 := nI_eq (b := 2) (by omega) (by omega)
    have f1 : (nI (rk (tkK T E (tkE T E x))) = (1 : Int32)) ↔ tkK T E (tkE T E x) = 2 := rk_eq (n := 2) hkl (by omega)
    have unexp : LOf T E x rd md (x_bind (f_X5_failUnexpected rd1) fun q3 => x_guard (q3.1 = 0 ∨ q3.1 = 1) (some (q3.1, sd, q3.2, rn))) (x_bind (f_X8_must md1 0 2) fun q7 => f_X8_fileLine_L53 (md1, mw1) mn fuel 0 q7) := by
      obtain ⟨rd2, md2, c1, c2, c3, c4, c5⟩ := failU_must b2
      rw [c1, xb, x_guard_pos (Or.inl rfl), c2, xb, show fuel = 19999 + 1 from rfl, fl_er c3.er, flK_err c3.er]
      exact Or.inr ⟨_, rd2, rn, md2, mn, _, rfl, rfl, c3, b3.f.tr c4, a3.f.tr c5.f⟩
    simp only
    rw [h10, h22]
    by_cases y : tkK T E (tkE T E x) = 2
    · rw [if_pos (f2.mpr y), if_pos (f1.mpr y), c_isReserved b2, xb, m_isReserved b2, xb]
      by_cases w : rsv T E (tkE T E x) = true
      · have nb : ¬ b01 (rsv T E (tkE T E x)) = 0 := by rw [b01_0, w]; decide
        rw [if_neg nb, if_neg nb]
        exact unexp
      · have nb : b01 (rsv T E (tkE T E x)) = 0 := by rw [b01_0]; exact Bool.eq_false_iff.mpr w
        rw [if_pos nb, if_pos nb, must_1, xb]
        have h9 : md1 31 0 9 = nI (nv (md 31 0) 9) := by rw [hr1]; exact hI.c9
        unfold f_X5_keepName
        rw [c_wordNumber b2 y, xb]
        have lp := fl_loop (rn := rn) (mn := mn) z (md1, mw1) b2 rfl y h9 hN (nv (md 31 0) 9) 0 fuel fuel (by omega) (by unfold fuel; omega) (by unfold fuel; omega)
        rw [nI_0] at lp
        rcases lp with ⟨p1, p2⟩ | ⟨p1, rd2, md2, p2, p3, p4, p5, p6⟩
        · rw [p1, xb, p2]
          simp only
          rw [if_neg i1]
          obtain ⟨md2, mw2, c1, c2, c3⟩ := b2.on (by omega)
          have hx2 := gc_x b2 (by omega)
          unfold flK
          simp only [xl]
          rw [c1, xb]
          simp only
          rcases take_both c2 1 300 with ⟨rd3, md3, mw3, d1, d2, d3, d4, d5, d6, d7, d8⟩ | ⟨rd3, md3, d3, d4, d5, d6, d7⟩
          · obtain ⟨s, s1, s2, s3⟩ := in_nat (a := 1) (b := 300) (by omega) d1 d2 (by omega)
            rw [s3] at d3 d4
            have hr3 : md3 31 0 = md 31 0 := by rw [d7.row31, c3.row31, hr1]
            have r7 : md3 31 0 7 = nI (nv (md 31 0) 7) := by rw [hr3]; exact hI.c7
            rw [d3, xb, d4, xb]
            simp only
            rw [if_neg (nm1' (by omega)), r7]
            rcases nmb_both d5 0 (nI (nv (md 31 0) 7) - 1) with ⟨rd4, k4, g1, g2, g3, g4, g5, g6⟩ | ⟨rd4, md4, g3, g4, g5, g6, g7⟩
            · obtain ⟨p, pl, p3⟩ := in_nat1 (by omega) g1 g2
              rw [p3] at g3 g4
              have g18 : md3 8 0 18 = 0 := g5.1.2.2.2.2.2
              rw [g3, xb, g4, xb]
              simp only
              rw [if_neg (nm1' (by omega)), x_guard_pos (vp_in_nI (show p < 10 by omega) (by omega)), nI_clamp (by omega), c_canTake hI hR pl s2, xb, g_good g18, xb, if_neg i1, m_canWrite hr3 hI pl s2, xb]
              by_cases v : ctV (md 31 0) p s = 0
              · obtain ⟨rd5, md5, o1, o2, o3, o4, o5⟩ := fail_must g5 (k := 6) (by omega) (by omega) (by omega)
                have o1 : f_X5_fail rd4 6 = some (0, rd5) := o1
                have o2 : f_X8_must md3 0 6 = some md5 := o2
                rw [if_pos v, if_pos v, o1, xb, x_guard_pos (Or.inl rfl), o2, xb, e_good o3.er, xb, if_pos rfl, e_on o3.er, xb]
                exact Or.inr ⟨_, rd5, _, md5, mn, _, rfl, rfl, o3, b3.f.tr (d6.tr (g6.tr o4)), a3.f.tr (c3.f.tr (d7.f.tr o5.f))⟩
              · obtain ⟨t1, t2, t3⟩ := ctV_1 v
                have r9 : md3 31 0 9 = nI (nv (md 31 0) 9) := by rw [hr3]; exact hI.c9
                rw [if_neg v, if_neg v, must_1, xb, g_good g18, xb, if_neg i1, r9, ra (k := 1), upS_hit, upS_hit]
                simp (disch := omega) only [xg, vinT, nI_clamp]
                rw [show nI (nv (md 31 0) 9 + 1) - 1 = nI (nv (md 31 0) 9) from (rsu (k := 1) (show 1 ≤ nv (md 31 0) 9 + 1 by omega)).trans (by rw [Nat.add_sub_cancel])]
                obtain ⟨hI1, hR1⟩ := files_step hI hR z
                have q9 : nv (rup (md 31 0) 9 (nI (nv (md 31 0) 9 + 1))) 9 = nv (md 31 0) 9 + 1 := nv_of (rup_hit _ _ _) (by omega)
                have qn : ∀ i, i ≠ 9 → nv (rup (md 31 0) 9 (nI (nv (md 31 0) 9 + 1))) i = nv (md 31 0) i := fun i hi => nv_eq (rup_ne hi)
                have qe : ent (rup (md 31 0) 9 (nI (nv (md 31 0) 9 + 1))) p (nv (md 31 0) (59 + p)) s = ent (md 31 0) p (nv (md 31 0) (59 + p)) s := ent_congr (qn 8 (by omega)) (fun k hk => ⟨rup_ne (by omega), qn _ (by omega)⟩)
                have p69 := (hI.plt p pl).2.2.2.2.1.l
                have p59 := (hI.plt p pl).2.2.2.1.2
                have p39 := (hI.plt p pl).2.1.1.l
                have hrow3 : (upS md3 31 0 9 (nI (nv (md 31 0) 9 + 1))) 31 0 = rup (md 31 0) 9 (nI (nv (md 31 0) 9 + 1)) := by rw [row_up, hr3]
                have hV : nv (rup (md 31 0) 9 (nI (nv (md 31 0) 9 + 1))) 10 < 40 := by rw [qn 10 (by omega), hF.2.2.2]; omega
                have hS : nv (rup (md 31 0) 9 (nI (nv (md 31 0) 9 + 1))) (79 + p) = 0 → nv (rup (md 31 0) 9 (nI (nv (md 31 0) 9 + 1))) (69 + p) < 8 := fun u => by
                  rw [qn _ (by omega)] at u ⊢
                  have := t1 u
                  omega
                have hle : ent (rup (md 31 0) 9 (nI (nv (md 31 0) 9 + 1))) p (nv (rup (md 31 0) 9 (nI (nv (md 31 0) 9 + 1))) (59 + p)) s ≤ nv (rup (md 31 0) 9 (nI (nv (md 31 0) 9 + 1))) (49 + p) := by
                  rw [qn (59 + p) (by omega), qn (49 + p) (by omega), qe]
                  exact t3
                have pl' : p < nv (rup (md 31 0) 9 (nI (nv (md 31 0) 9 + 1))) 7 := by rw [qn 7 (by omega)]; exact pl
                obtain ⟨m6, u1, u2, u3⟩ := m_writesVersion hrow3 hI1 (f := nv (md 31 0) 9) (p := p) (n := s) z pl' s2 hV hS hle
                obtain ⟨sd6, w1, w2⟩ := c_addVersion hI1 hR1 (f := nv (md 31 0) 9) (p := p) (n := s) (by rw [q9]; omega) pl' (by rw [qn (59 + p) (by omega)]; omega) hV hS hle
                have hI2 := WV_inv (F' := nv (md 31 0) 9 + 1) hI1 u3 pl' s2 hV hS hle (by rw [qn (59 + p) (by omega), qn (39 + p) (by omega)]; omega) (by omega) (by omega) (fun g h1 h2 => by omega) (by omega)
                have hR2 := WV_rel (F' := nv (md 31 0) 9 + 1) hI1 hR1 u3 w2 pl' hV hS (by omega) (fun g h1 h2 => by omega) (by omega)
                have nS : nSe (rup (md 31 0) 9 (nI (nv (md 31 0) 9 + 1))) p ≤ 9 := by
                  unfold nSe
                  rw [qn (79 + p) (by omega), qn (69 + p) (by omega)]
                  split <;> omega
                have low : ∀ i, i < 309 → i ≠ 9 → i ≠ 10 → ¬ (49 ≤ i ∧ i < 289 ∧ ((i = 49 + p ∨ i = 59 + p ∨ i = 69 + p ∨ i = 79 + p) ∨ 89 ≤ i)) → ¬ 289 ≤ i → (m6 31 0) i = (md 31 0) i := fun i h1 h2 h3 h4 h5 => by
                  rw [u3.1 i h3 (by omega) (by omega) (by omega) (by omega) (by omega) (by omega) (by omega) (by omega) (by omega) (by omega) (by omega) (by omega) (by omega) (by omega), rup_ne h2]
                have m9 : (m6 31 0) 9 = nI (nv (md 31 0) 9 + 1) := by
                  rw [u3.1 9 (by omega) (by omega) (by omega) (by omega) (by omega) (by omega) (by omega) (by omega) (by omega) (by omega) (by omega) (by omega) (by omega) (by omega) (by omega), rup_hit]
                have n9 : nv (m6 31 0) 9 = nv (md 31 0) 9 + 1 := nv_of m9 (by omega)
                have n10 : nv (m6 31 0) 10 = nv (md 31 0) 10 + 1 := by
                  have := u3.2.1
                  rw [qn 10 (by omega)] at this
                  exact nv_of this (by omega)
                have n6 : nv (m6 31 0) 6 = nv (md 31 0) 6 := nv_eq (low 6 (by omega) (by omega) (by omega) (by omega) (by omega))
                have n7 : nv (m6 31 0) 7 = nv (md 31 0) 7 := nv_eq (low 7 (by omega) (by omega) (by omega) (by omega) (by omega))
                have hm6 : ∀ k j t, k ≠ 31 → m6 k j t = md3 k j t := fun k j t hk => by rw [u2 k j t (by omega), upS_k hk]
                have G5 : GC T E (tkE T E (tkE T E (tkE T E x))) rd4 m6 mw3 := by
                  obtain ⟨⟨h1, h2, h3, h4, h5, h6⟩, h7, h8, h9, h10, t1, t2, t3, t4, t5⟩ := g5
                  exact ⟨⟨h1, h2, fun t ht => (hm6 _ _ _ (by omega)).trans (h3 t ht), h4, (hm6 _ _ _ (by omega)).trans h5, (hm6 _ _ _ (by omega)).trans h6⟩, h7, h8, h9, h10, (hm6 _ _ _ (by omega)).trans t1, (hm6 _ _ _ (by omega)).trans t2, fun z => (hm6 _ _ _ (by omega)).trans (t3 z), fun z => (hm6 _ _ _ (by omega)).trans (t4 z), t5⟩
                obtain ⟨md7, mw7, o1, o2, o3⟩ := G5.on (by omega)
                have hx4 := gc_x G5 (by omega)
                rw [w1, xb, u1, xb, o1, xb]
                refine Or.inl ⟨sd6, rd4, _, md7, _, mw7, _, rfl, rfl, Nat.lt_trans hx (Nat.lt_trans hx2 (Nat.lt_trans d8 hx4)), o2, ?_, ?_, b3.f.tr (d6.tr g6), a3.f.tr (c3.f.tr (d7.f.tr (MF.tr (fun k j t h1 _ => hm6 k j t h1) o3.f))), ?_⟩
                · unfold LSt
                  rw [o3.row31]
                  refine ⟨inv_of hI2 n9, rel_of hR2 n9, ⟨fun d h1 h2 => ?_, fun q h1 h2 => ?_, ?_, ?_⟩, fun z => by omega⟩
                  · rw [n6] at h1
                    rw [low _ (by omega) (by omega) (by omega) (by omega) (by omega), low _ (by omega) (by omega) (by omega) (by omega) (by omega)]
                    exact hF.1 d h1 h2
                  · rw [n7] at h1
                    rw [low _ (by omega) (by omega) (by omega) (by omega) (by omega), low _ (by omega) (by omega) (by omega) (by omega) (by omega), low _ (by omega) (by omega) (by omega) (by omega) (by omega)]
                    exact hF.2.1 q h1 h2
                  · rw [low _ (by omega) (by omega) (by omega) (by omega) (by omega)]; exact hF.2.2.1
                  · rw [n10, n9, hF.2.2.2]
                · rw [o3.row31, n9]
                  intro f hf
                  by_cases e : f = nv (md 31 0) 9
                  · subst e
                    obtain ⟨q1, q2⟩ := tokW_ok y b2.2.1
                    refine ⟨tokW T E (tkE T E x), q1, q2, pk_uLs, ?_⟩
                    rw [pk_uLs, b2.2.2.2.2.2.2.2.2.2 y, wd_vB]
                    rfl
                  · rw [pk_uLn e, pk_uLn e]
                    exact hN f (by omega)
                · rw [o3 _ _ _ (by omega), hm6 _ _ _ (by omega), d7 _ _ _ (by omega), c3 _ _ _ (by omega), a3 _ _ _ (by omega)]
            · rw [g3, xb, g4, xb]
              simp only
              rw [if_pos trivial, e_good g5.er, xb, if_pos rfl, e_must g5.er, xb, e_good g5.er, xb, if_pos rfl, e_on g5.er, xb]
              exact Or.inr ⟨_, rd4, _, md4, mn, _, rfl, rfl, g5, b3.f.tr (d6.tr g6), a3.f.tr (c3.f.tr (d7.f.tr g7.f))⟩
          · rw [d3, xb, d4, xb]
            simp only
            rw [if_pos trivial, e_sees d5.er, xb]
            simp only
            rw [e_good d5.er, xb, if_pos rfl, e_must d5.er, xb, e_good d5.er, xb, if_pos rfl, e_on d5.er, xb]
            exact Or.inr ⟨_, rd3, _, md3, mn, _, rfl, rfl, d5, b3.f.tr d6, a3.f.tr (c3.f.tr d7.f)⟩
        · rw [p1, xb, p3, flK_err p4.er]
          simp only
          rw [if_pos trivial, p2, xb, x_guard_pos (Or.inl rfl)]
          exact Or.inr ⟨_, rd2, _, md2, mn, _, rfl, rfl, p4, b3.f.tr p5, a3.f.tr p6.f⟩
    · rw [if_neg (fun v => y (f2.mp v)), if_neg (fun v => y (f1.mp v))]
      exact unexp
  · obtain ⟨rd1, md1, a1, a2, a3, a4, a5⟩ := fail_must h (k := 5) (by omega) (by omega) (by omega)
    have a1 : f_X5_fail rd 5 = some (0, rd1) := a1
    have a2 : f_X8_must md 0 5 = some md1 := a2
    have er : ∀ y : Int32, (x_bind (f_X8_must md1 y 2) fun q7 => f_X8_fileLine_L53 (md1, mw) mn fuel 0 q7) = some (md1, mn, mw) := fun y => by
      rw [e_must a3.er, xb, show fuel = 19999 + 1 from rfl, fl_er a3.er, flK_err a3.er]
    rw [if_neg (fun y => z (e1.mp y)), if_pos (e2.mpr (by omega)), a1, xb, x_guard_pos (Or.inl rfl), a2, xb, e_on a3.er, xb]
    simp only
    refine Or.inr ⟨_, rd1, rn, md1, mn, mw, rfl, ?_, a3, a4, a5.f⟩
    have eres : f_X8_isReserved md1 mw = some 0 := by
      unfold f_X8_isReserved
      simp only [e_isWord a3.er, xb, if_true]
    rw [eres, xb, if_pos rfl, er 1, er 0]
    split <;> rfl
end FIL
end
section
/-! Layer 2: a statement, a text -/
section TXT
variable {T : Nat → Int32} {E x n : Nat} {sd rd md : SD} {mw : Int64} {rn mn : Nat → Int64}
/-- the outcome of a statement -/
def SO (T : Nat → Int32) (E x n : Nat) (rd md : SD) (o1 : Option (Int32 × SD × SD × (Nat → Int64))) (o2 : Option (SD × (Nat → Int64) × Int64)) : Prop := (∃ sd' rd' rn' md' mn' mw' x', o1 = some (1, sd', rd', rn') ∧ o2 = some (md', mn', mw') ∧ x < x' ∧ GS T E x' rd' md' mw' ∧ LSt 1 sd' md' ∧ NM (nv (md' 31 0) 9) rn' mn' ∧ RF rd rd' ∧ MF md md' ∧ md' 8 0 25 = nI (n + 1)) ∨ ∃ sd' rd' rn' md' mn' mw', o1 = some (0, sd', rd', rn') ∧ o2 = some (md', mn', mw') ∧ BD rd' md' ∧ RF rd rd' ∧ MF md md'
theorem GS.c25 {v : Int32} (h : GS T E x rd md mw) : GS T E x rd (upS md 8 0 25 v) mw := by
  obtain ⟨⟨h1, h2, h3, h4, h5, h6⟩, h7, h8, t1, t2, t3, t4, t5⟩ := h
  exact ⟨⟨h1, h2, h3, h4, (upS_t (by omega)).trans h5, (upS_t (by omega)).trans h6⟩, h7, h8, (upS_t (by omega)).trans t1, (upS_t (by omega)).trans t2, fun z => (upS_t (by omega)).trans (t3 z), fun z => (upS_t (by omega)).trans (t4 z), t5⟩
theorem BD.c25 {v : Int32} (h : BD rd md) : BD rd (upS md 8 0 25 v) := by
  obtain ⟨k, k1, k2, k3, k4, k5⟩ := h
  exact ⟨k, k1, k2, k3, (upS_t (by omega)).trans k4, by rw [upS_t (by omega)]; exact k5⟩
theorem MF.c25 {x y : SD} {v : Int32} (h : MF x y) : MF x (upS y 8 0 25 v) := fun k j q a c => by
  unfold upS
  rw [if_neg (fun z => c ⟨z.1, z.2.1, by omega⟩)]
  exact h k j q a c
theorem so3 {o1 : Option (Int32 × SD × SD)} {o2 : Option (SD × Int64)} (hl : LOt T E x rd md o1 o2) (hN : NM (nv (md 31 0) 9) rn mn) (h25 : md 8 0 25 = nI n) : SO T E x n rd md (x_bind o1 fun q => x_guard (q.1 = 0 ∨ q.1 = 1) (some (q.1, q.2.1, q.2.2, rn))) (x_bind o2 fun q => some (upS q.1 8 0 25 (q.1 8 0 25 + 1), mn, q.2)) := by
  rcases hl with ⟨sd', rd', md', mw', x', a1, a2, a3, a4, a5, a6, a7, a8, a9⟩ | ⟨sd', rd', md', mw', a1, a2, a3, a4, a5⟩
  · rw [a1, a2, xb, xb]
    simp only
    rw [x_guard_pos (Or.inr trivial), a8, h25, ra (k := 1)]
    refine Or.inl ⟨sd', rd', rn, _, mn, mw', x', rfl, rfl, a3, a4.c25, a5, ?_, a6, a7.c25, upS_hit _ _ _ _ _⟩
    show NM (nv (md' 31 0) 9) rn mn
    rw [a9]
    exact hN
  · rw [a1, a2, xb, xb]
    simp only
    rw [x_guard_pos (Or.inl trivial)]
    exact Or.inr ⟨sd', rd', rn, _, mn, mw', rfl, rfl, a3.c25, a4, a5.c25⟩
theorem so4 {o1 : Option (Int32 × SD × SD × (Nat → Int64))} {o2 : Option (SD × (Nat → Int64) × Int64)} (hl : LOf T E x rd md o1 o2) (h25 : md 8 0 25 = nI n) : SO T E x n rd md (x_bind o1 fun q => x_guard (q.1 = 0 ∨ q.1 = 1) (some (q.1, q.2.1, q.2.2.1, q.2.2.2))) (x_bind o2 fun q => some (upS q.1 8 0 25 (q.1 8 0 25 + 1), q.2.1, q.2.2)) := by
  rcases hl with ⟨sd', rd', rn', md', mn', mw', x', a1, a2, a3, a4, a5, a6, a7, a8, a9⟩ | ⟨sd', rd', rn', md', mn', mw', a1, a2, a3, a4, a5⟩
  · rw [a1, a2, xb, xb]
    simp only
    rw [x_guard_pos (Or.inr trivial), a9, h25, ra (k := 1)]
    exact Or.inl ⟨sd', rd', rn', _, mn', mw', x', rfl, rfl, a3, a4.c25, a5, a6, a7, a8.c25, upS_hit _ _ _ _ _⟩
  · rw [a1, a2, xb, xb]
    simp only
    rw [x_guard_pos (Or.inl trivial)]
    exact Or.inr ⟨sd', rd', rn', _, mn', mw', rfl, rfl, a3.c25, a4, a5.c25⟩
theorem b0f {b : Bool} (h : ¬ b = true) : b01 b = 0 := by rw [b01_0]; exact Bool.eq_false_iff.mpr h
theorem b0t {b : Bool} (h : b = true) : ¬ b01 b = 0 := by rw [b01_0, h]; decide
theorem stmt_both (h : GC T E x rd md mw) (hk : tkK T E x ≠ 0) (hL : LSt n sd md) (hN : NM (nv (md 31 0) 9) rn mn) (h25 : md 8 0 25 = nI n) (hn : n < 2 ^ 30) : SO T E x n rd md (f_X5_readStatement sd rd rn (if n = 0 then 1 else 0)) (f_X8_line md mn mw) := by
  obtain ⟨k0, k1, k2, k3, k4, k5, k6⟩ := kw_val
  have g6 : md 8 0 18 = 0 := h.1.2.2.2.2.2
  unfold f_X5_readStatement f_X8_line
  simp only [xl]
  rw [← k0, ← k1, ← k2, ← k3, ← k4, ← k5, ← k6]
  rw [c_wordIs h (i := 0) (by omega), xb, m_isWord h (i := 0) (by omega), xb]
  by_cases z0 : wq T E x 0 = true
  · rw [if_neg (b0t z0), if_neg (b0t z0)]
    by_cases zn : n = 0
    · subst zn
      rw [if_pos rfl, if_neg i1]
      exact so3 (slots_ok h hk hL h25) hN h25
    · have n25 : ¬ md 8 0 25 = 0 := by
        rw [h25]
        intro y
        rw [← nI_0, nI_eq (by omega) (by omega)] at y
        exact zn y
      obtain ⟨rd', md', a1, a2, a3, a4, a5⟩ := slots_no h n25
      rw [if_neg zn, if_pos rfl, a1, xb, x_guard_pos (Or.inl rfl), a2, xb]
      exact Or.inr ⟨sd, rd', rn, _, mn, mw, rfl, rfl, a3.c25, a4, a5.c25⟩
  · rw [if_pos (b0f z0), if_pos (b0f z0), c_wordIs h (i := 1) (by omega), xb, m_isWord h (i := 1) (by omega), xb]
    by_cases z1 : wq T E x 1 = true
    · rw [if_neg (b0t z1), if_neg (b0t z1)]
      exact so3 (drive_line h hk hL) hN h25
    · rw [if_pos (b0f z1), if_pos (b0f z1), c_wordIs h (i := 2) (by omega), xb, m_isWord h (i := 2) (by omega), xb]
      by_cases z2 : wq T E x 2 = true
      · rw [if_neg (b0t z2), if_neg (b0t z2)]
        exact so3 (time_line h hk hL) hN h25
      · rw [if_pos (b0f z2), if_pos (b0f z2), c_wordIs h (i := 3) (by omega), xb, m_isWord h (i := 3) (by omega), xb]
        by_cases z3 : wq T E x 3 = true
        · rw [if_neg (b0t z3), if_neg (b0t z3)]
          exact so3 (platter_line h hk hL) hN h25
        · rw [if_pos (b0f z3), if_pos (b0f z3), c_wordIs h (i := 4) (by omega), xb, m_isWord h (i := 4) (by omega), xb]
          by_cases z4 : wq T E x 4 = true
          · rw [if_neg (b0t z4), if_neg (b0t z4)]
            exact so3 (bad_line h hk hL) hN h25
          · rw [if_pos (b0f z4), if_pos (b0f z4), c_wordIs h (i := 5) (by omega), xb, m_isWord h (i := 5) (by omega), xb]
            by_cases z5 : wq T E x 5 = true
            · rw [if_neg (b0t z5), if_neg (b0t z5)]
              exact so4 (file_line h hk hL hN) h25
            · rw [if_pos (b0f z5), if_pos (b0f z5), c_wordIs h (i := 6) (by omega), xb, m_isWord h (i := 6) (by omega), xb]
              by_cases z6 : wq T E x 6 = true
              · rw [if_neg (b0t z6), show b01 (wq T E x 6) = 1 by rw [z6]; rfl, must_1, xb, g_good g6, xb, if_neg i1]
                exact so3 (close_line h hk hL) hN h25
              · obtain ⟨rd', md', a1, a2, a3, a4, a5⟩ := failU_must h
                rw [if_pos (b0f z6), b0f z6, a1, xb, x_guard_pos (Or.inl rfl), a2, xb, e_good a3.er, xb, if_pos rfl]
                exact Or.inr ⟨sd, rd', rn, _, mn, mw, rfl, rfl, a3.c25, a4, a5.f.c25⟩
/-- how the reference ends a load -/
noncomputable def ldK (md : SD) (mn : Nat → Int64) (mw : Int64) : Option (Int32 × SD × (Nat → Int64) × Int64) := x_let (upS md 8 0 15 (0 : Int32)) fun (md11 : SD) => x_let (upS md11 8 0 16 (md11 8 0 18)) fun (md12 : SD) => (x_let (fun (y14 : Int32) => (x_let (upS md12 8 0 17 y14) fun (md15 : SD) => (if (md15 8 0 18) ≤ 0 then x_bind (f_X8_copies md15 (31) (30)) fun (q16 : SD) => x_let (upS q16 8 0 5 (0 : Int32)) fun (md17 : SD) => some ((md17 30 0 9), md17, mn, mw) else some ((-1000006 : Int32), md15, mn, mw)) : Option (Int32 × SD × (Nat → Int64) × Int64))) fun K13 => (if (md12 8 0 18) ≤ 0 then K13 ((-1000005 : Int32)) else K13 ((md12 8 0 19))))
theorem ld_step (f : Nat) (md : SD) (mn : Nat → Int64) (mw : Int64) : f_X8_load_L53 (f + 1) md mn mw = x_bind (f_X8_good md) fun (q9 : Int32) => if q9 = 0 then ldK md mn mw else if (md 8 0 22) = 0 then ldK md mn mw else x_bind (f_X8_line md mn mw) fun (q18 : (SD × (Nat → Int64) × Int64)) => if (q18.1 8 0 22) = (3 : Int32) then x_bind (f_X8_must (q18.1) 1 (2 : Int32)) fun (q21 : SD) => x_bind (f_X8_goesOn q21 (q18.2.2)) fun (q22 : (SD × Int64)) => f_X8_load_L53 f (q22.1) (q18.2.1) (q22.2) else x_bind (f_X8_must (q18.1) 0 (2 : Int32)) fun (q21 : SD) => x_bind (f_X8_goesOn q21 (q18.2.2)) fun (q22 : (SD × Int64)) => f_X8_load_L53 f (q22.1) (q18.2.1) (q22.2) := by
  rw [f_X8_load_L53]
  unfold ldK
  simp only [xl]
theorem ld_er (h : ER md) (f : Nat) (mn : Nat → Int64) (mw : Int64) : f_X8_load_L53 (f + 1) md mn mw = ldK md mn mw := by
  rw [ld_step, e_good h, xb, if_pos rfl]
/-- the outcome of a text -/
def TO (rd0 md0 : SD) (o1 : Option (Int32 × SD × SD × (Nat → Int64))) (o2 : Option (Int32 × SD × (Nat → Int64) × Int64)) : Prop := (∃ sd' rd' rn' md' mn' mw', o1 = some (1, sd', rd', rn') ∧ o2 = ldK md' mn' mw' ∧ rd' 5 0 7 = 0 ∧ md' 8 0 18 = 0 ∧ Inv (md' 31 0) ∧ Rel 0 sd' (md' 31 0) ∧ RF rd0 rd' ∧ MF md0 md') ∨ ∃ sd' rd' rn' md' mn' mw', o1 = some (0, sd', rd', rn') ∧ o2 = ldK md' mn' mw' ∧ BD rd' md' ∧ RF rd0 rd' ∧ MF md0 md'
theorem text_loop {rd0 md0 : SD} : ∀ (k n x f f' : Nat) (sd rd md : SD) (rn mn : Nat → Int64) (mw : Int64), E - x ≤ k → k < f → k + 1 < f' → n ≤ x → GS T E x rd md mw → LSt n sd md → NM (nv (md 31 0) 9) rn mn → md 8 0 25 = nI n → RF rd0 rd → MF md0 md → TO rd0 md0 (f_X5_readText_L33 f (nI n) sd rd rn) (f_X8_load_L53 f' md mn mw) := by
  intro k
  induction k with
  | zero =>
    intro n x f f' sd rd md rn mn mw hk hf hf' hn hG hL hN h25 hRF hMF
    obtain ⟨f, rfl⟩ : ∃ q, f = q + 1 := ⟨f - 1, by omega⟩
    obtain ⟨f', rfl⟩ : ∃ q, f' = q + 1 := ⟨f' - 1, by omega⟩
    have hE := hG.1.1
    have hxE := hG.2.1
    have g6 : md 8 0 18 = 0 := hG.1.2.2.2.2.2
    have h2 : rd 5 0 2 = nI E := hG.1.2.2.2.1.1
    obtain ⟨rd1, a1, a2, a3⟩ := hG.tok
    have hk0 : tkK T E x = 0 := by
      obtain ⟨c1, c2⟩ := tkS_b T hxE
      unfold tkK
      rw [if_pos (by omega)]
    have h5 : rd1 5 0 5 = 0 := by
      have := a2.2.2.2.2.1
      rw [hk0] at this
      exact this
    have h22 : md 8 0 22 = 0 := by
      have := a2.2.2.2.2.2.2.1
      rw [hk0] at this
      exact this
    rw [f_X5_readText_L33, h2, if_neg (by rw [nI_ltI (by omega) (by omega)]; omega), a1, xb, if_pos h5, ld_step, g_good g6, xb, if_neg i1, if_pos h22]
    exact Or.inl ⟨sd, rd1, rn, md, mn, mw, rfl, rfl, a2.1.2.2.2.1.2, g6, hL.1, hL.2.1, hRF.tr a3.f, hMF⟩
  | succ k ih =>
    intro n x f f' sd rd md rn mn mw hk hf hf' hn hG hL hN h25 hRF hMF
    obtain ⟨f, rfl⟩ : ∃ q, f = q + 1 := ⟨f - 1, by omega⟩
    obtain ⟨f', rfl⟩ : ∃ q, f' = q + 1 := ⟨f' - 1, by omega⟩
    have hE := hG.1.1
    have hxE := hG.2.1
    have g6 : md 8 0 18 = 0 := hG.1.2.2.2.2.2
    have h2 : rd 5 0 2 = nI E := hG.1.2.2.2.1.1
    have hkl := tkK_lt T E x
    obtain ⟨rd1, a1, a2, a3⟩ := hG.tok
    have h5 : rd1 5 0 5 = nI (tkK T E x) := a2.2.2.2.2.1
    have h22 : md 8 0 22 = nI (rk (tkK T E x)) := a2.2.2.2.2.2.2.1
    have e5 : (nI (tkK T E x) = (0 : Int32)) ↔ tkK T E x = 0 := nI_eq (b := 0) (by omega) (by omega)
    have e22 : (nI (rk (tkK T E x)) = (0 : Int32)) ↔ tkK T E x = 0 := rk_eq (n := 0) hkl (by omega)
    rw [f_X5_readText_L33, h2, if_neg (by rw [nI_ltI (by omega) (by omega)]; omega), a1, xb, h5, ld_step, g_good g6, xb, if_neg i1, h22]
    by_cases z : tkK T E x = 0
    · rw [if_pos (e5.mpr z), if_pos (e22.mpr z)]
      exact Or.inl ⟨sd, rd1, rn, md, mn, mw, rfl, rfl, a2.1.2.2.2.1.2, g6, hL.1, hL.2.1, hRF.tr a3.f, hMF⟩
    · rw [if_neg (fun y => z (e5.mp y)), if_neg (fun y => z (e22.mp y))]
      have hs := stmt_both (rn := rn) (mn := mn) a2 z hL hN h25 (by omega)
      have e0 : (nI n = (0 : Int32)) ↔ n = 0 := nI_eq (b := 0) (by omega) (by omega)
      have hflag : ∀ (g : Int32 → Option (Int32 × SD × SD × (Nat → Int64))), (if nI n = 0 then g 1 else g 0) = g (if n = 0 then 1 else 0) := fun g => by
        by_cases y : n = 0
        · rw [if_pos (e0.mpr y), if_pos y]
        · rw [if_neg (fun w => y (e0.mp w)), if_neg y]
      simp only [xl]
      rw [hflag (fun y8 => x_bind (f_X5_readStatement sd rd1 rn y8) fun q9 => if q9.1 = 0 then some (0, q9.2.1, q9.2.2.1, q9.2.2.2) else x_bind (f_X5_readSemicolon q9.2.2.1) fun q10 => if q10.1 = 0 then some (0, q9.2.1, q10.2, q9.2.2.2) else f_X5_readText_L33 f (nI n + 1) q9.2.1 q10.2 q9.2.2.2)]
      rcases hs with ⟨sd', rd', rn', md', mn', mw', x', b1, b2, b3, b4, b5, b6, b7, b8, b9⟩ | ⟨sd', rd', rn', md', mn', mw', b1, b2, b3, b4, b5⟩
      · rw [b1, xb, b2, xb]
        simp only
        rw [if_neg i1]
        obtain ⟨rd2, c1, c2, c3⟩ := b4.tok
        have hx'E := b4.2.1
        have k5 : rd2 5 0 5 = nI (tkK T E x') := c2.2.2.2.2.1
        have k22 : md' 8 0 22 = nI (rk (tkK T E x')) := c2.2.2.2.2.2.2.1
        have hkl' := tkK_lt T E x'
        have j5 : (nI (tkK T E x') = (4 : Int32)) ↔ tkK T E x' = 4 := nI_eq (b := 4) (by omega) (by omega)
        have j22 : (nI (rk (tkK T E x')) = (3 : Int32)) ↔ tkK T E x' = 4 := rk_eq (n := 4) hkl' (by omega)
        unfold f_X5_readSemicolon
        rw [c1, xb, k5, k22]
        by_cases w : tkK T E x' = 4
        · obtain ⟨md2, mw2, d1, d2, d3⟩ := c2.on (by omega)
          have hx'' := gc_x c2 (by omega)
          rw [if_pos (j5.mpr w), if_pos (j22.mpr w), xb, must_1, xb, d1, xb]
          simp only
          rw [if_neg i1, ra (k := 1)]
          refine ih (n + 1) (tkE T E x') f f' sd' rd2 md2 rn' mn' mw2 (by omega) (by omega) (by omega) (by omega) d2 ?_ ?_ ?_ (hRF.tr (a3.f.tr (b7.tr c3.f))) (hMF.tr (b8.tr d3.f))
          · obtain ⟨q1, q2, q3, q4⟩ := b5
            unfold LSt
            rw [d3.row31]
            exact ⟨q1, q2, q3, fun y => by omega⟩
          · rw [d3.row31]; exact b6
          · rw [d3 _ _ _ (by omega)]; exact b9
        · obtain ⟨rd3, md3, d1, d2, d3, d4, d5⟩ := failU_must c2
          obtain ⟨f', rfl⟩ : ∃ q, f' = q + 1 := ⟨f' - 1, by omega⟩
          rw [if_neg (fun y => w (j5.mp y)), if_neg (fun y => w (j22.mp y)), d1, xb, x_guard_pos (Or.inl rfl), xb, d2, xb, e_on d3.er, xb]
          simp only
          rw [if_pos trivial, ld_er d3.er]
          exact Or.inr ⟨sd', rd3, rn', md3, mn', mw', rfl, rfl, d3, hRF.tr (a3.f.tr (b7.tr (c3.f.tr d4))), hMF.tr (b8.tr d5.f)⟩
      · obtain ⟨f', rfl⟩ : ∃ q, f' = q + 1 := ⟨f' - 1, by omega⟩
        rw [b1, xb, b2, xb]
        simp only
        rw [if_pos trivial, e_must b3.er, xb, e_on b3.er, xb, e_must b3.er, xb, e_on b3.er, xb, ld_er b3.er]
        refine Or.inr ⟨sd', rd', rn', md', mn', mw', rfl, ?_, b3, hRF.tr (a3.f.tr b4), hMF.tr b5⟩
        split <;> rfl
end TXT
end
section
/-! Layer 2: load -/
section LDJ
variable {b : Nat} {cs : CT} {m : SD}
theorem dfR_fr : FRs dfR ∧ nv dfR 6 = 0 ∧ nv dfR 7 = 0 ∧ nv dfR 9 = 0 := by
  have h6 : nv dfR 6 = 0 := dfR_n 6 0 rfl (by omega)
  have h7 : nv dfR 7 = 0 := dfR_n 7 0 rfl (by omega)
  have h9 : nv dfR 9 = 0 := dfR_n 9 0 rfl (by omega)
  have h10 : nv dfR 10 = 0 := dfR_n 10 0 rfl (by omega)
  refine ⟨⟨fun d _ hd => ?_, fun p _ hp => ?_, rfl, by rw [h9, h10]⟩, h6, h7, h9⟩
  · unfold dfR
    constructor
    · rw [if_neg (by omega), if_neg (by omega), if_neg (by omega), if_neg (by omega), if_neg (by omega), if_neg (by omega), if_pos (by omega)]
    · rw [if_neg (by omega), if_neg (by omega), if_neg (by omega), if_neg (by omega), if_neg (by omega), if_neg (by omega), if_neg (by omega)]
  · unfold dfR
    refine ⟨?_, ?_, ?_⟩
    all_goals rw [if_neg (by omega), if_neg (by omega), if_neg (by omega), if_neg (by omega), if_neg (by omega), if_neg (by omega), if_neg (by omega)]
theorem FRs.congr {r r' : RW} (h : FRs r) (hI : Inv r) (a0 : ∀ i, i < 605 → r' i = r i) : FRs r' := by
  have b0 : ∀ i, i < 605 → nv r' i = nv r i := fun i hi => nv_eq (a0 i hi)
  refine ⟨fun d h1 h2 => ?_, fun p h1 h2 => ?_, ?_, ?_⟩
  · rw [b0 6 (by omega)] at h1
    rw [a0 _ (by omega), a0 _ (by omega)]
    exact h.1 d h1 h2
  · rw [b0 7 (by omega)] at h1
    rw [a0 _ (by omega), a0 _ (by omega), a0 _ (by omega)]
    exact h.2.1 p h1 h2
  · rw [a0 _ (by omega)]; exact h.2.2.1
  · rw [b0 _ (by omega), b0 _ (by omega)]; exact h.2.2.2
theorem st_load (hJ : JJ b cs m) (a : Int32) (mn : Nat → Int64) (mw : Int64) : ∃ v cs' m' mn' mw', f_X7_load cs a = some (v, cs') ∧ f_X8_load m mn mw a = some (v, m', mn', mw') ∧ JJ b cs' m' := by
  obtain ⟨m1, e1, r1, s1⟩ := thr m
  have hJ1 := hJ.same s1
  obtain ⟨hI, hR, ⟨f0, c, hH⟩, hD, ⟨⟨n0, t1, t2, t3, t4⟩, t5, t6⟩, hO, hP⟩ := hJ.same s1
  unfold f_X7_load f_X8_load
  rw [xl, e1, t3, t2, show (0 : Int64) = (0 : Int32).toInt64 from rfl, isIn32, xb]
  by_cases z : a < 0
  · rw [if_pos z, if_pos z, if_pos rfl]
    exact ⟨_, _, _, _, _, rfl, rfl, hJ1⟩
  · rw [if_neg z, if_neg z]
    by_cases y : a ≤ nI n0
    · rw [if_pos y, if_neg (i32_lt_le.mpr y), if_neg i1]
      obtain ⟨E, -, hE, rfl⟩ := in_nat (a := 0) (b := n0) (by omega) (i32_lt_le.mp z) y (by omega)
      simp only [xl]
      -- the class's start
      obtain ⟨s0, g1, g2⟩ := dfR_rel (k_xs cs (k_sp cs))
      have h2 : (if (k_rd cs 5 0 1) < nI E then (k_rd cs 5 0 1) else nI E) = nI E := by
        rw [t2, if_neg (by rw [nI_ltI (by omega) (by omega)]; omega)]
      obtain ⟨rd4, hrd4⟩ : ∃ rd4, rd4 = upS (upS (upS (upS (k_rd cs) 5 0 2 (nI E)) 5 0 4 0) 5 0 7 0) 5 0 8 0 := ⟨_, rfl⟩
      have hread : f_X5_readText (k_xs cs (k_sp cs)) (k_rd cs) (k_rn cs) (nI E) = f_X5_readText_L33 fuel 0 s0 rd4 (k_rn cs) := by
        unfold f_X5_readText
        simp only [xl]
        rw [h2, g1, xb, hrd4]
      -- the reference's start
      obtain ⟨m6, hm6⟩ : ∃ m6, m6 = upS (upS (upS (upS m1 8 0 24 (nI E)) 8 0 21 0) 8 0 18 0) 8 0 25 0 := ⟨_, rfl⟩
      obtain ⟨m7, d1, d2, d3⟩ := m_defaults 31 m6
      have c24 : m7 8 0 24 = nI E := by rw [d2 _ _ _ (by omega), hm6]; simp (disch := omega) only [upS_t, upS_hit]
      have c21 : m7 8 0 21 = nI 0 := by rw [d2 _ _ _ (by omega), hm6]; simp (disch := omega) only [upS_t, upS_hit]; rfl
      have c18 : m7 8 0 18 = 0 := by rw [d2 _ _ _ (by omega), hm6]; simp (disch := omega) only [upS_t, upS_hit]
      have c25 : m7 8 0 25 = 0 := by rw [d2 _ _ _ (by omega), hm6, upS_hit]
      have cT : ∀ t, t < E → m7 38 0 t = k_rd cs 20 0 t := fun t ht => by
        rw [d2 _ _ _ (by omega), hm6, upS_k (by omega), upS_k (by omega), upS_k (by omega), upS_k (by omega)]
        exact (t4 t (by omega)).symm
      have cF : MF m1 m7 := fun k j t k1 k2 => by
        rw [d2 k j t (by omega), hm6]
        unfold upS
        rw [if_neg (by omega), if_neg (by omega), if_neg (by omega), if_neg (by omega)]
      obtain ⟨m8, mw8, f1, f2, f3⟩ := m_next (T := k_rd cs 20 0) (E := E) (by omega) (x := 0) (by omega) mw c24 c21 cT
      have hrow8 : ∀ t, t < 605 → m8 31 0 t = dfR t := fun t ht => by rw [f2 _ _ _ (by omega)]; exact d3 t ht
      obtain ⟨q1, q2, q3, q4⟩ := dfR_fr
      have n9 : nv (m8 31 0) 9 = 0 := by rw [← q4]; exact nv_eq (hrow8 9 (by omega))
      have hGS : GS (k_rd cs 20 0) E 0 rd4 m8 mw8 := by
        refine ⟨⟨by omega, ?_, fun t ht => (f2 _ _ _ (by omega)).trans (cT t ht), ⟨?_, ?_⟩, (f2 _ _ _ (by omega)).trans c24, (f2 _ _ _ (by omega)).trans c18⟩, by omega, ?_, f3⟩
        · rw [hrd4]; funext t; rw [upS_k (by omega), upS_k (by omega), upS_k (by omega), upS_k (by omega)]
        · rw [hrd4]; simp (disch := omega) only [upS_t, upS_hit]
        · rw [hrd4]; simp (disch := omega) only [upS_t, upS_hit]
        · rw [hrd4]; simp (disch := omega) only [upS_t, upS_hit]; rfl
      have hLS : LSt 0 s0 m8 := ⟨Inv.congr dfR_inv hrow8, Rel.congr dfR_inv g2 hrow8, FRs.congr q1 dfR_inv hrow8, fun _ => ⟨(nv_eq (hrow8 6 (by omega))).trans q2, (nv_eq (hrow8 7 (by omega))).trans q3⟩⟩
      have hNM : NM (nv (m8 31 0) 9) (k_rn cs) mn := fun f hf => by omega
      have key := text_loop (T := k_rd cs 20 0) (E := E) (rd0 := rd4) (md0 := m8) 900 0 0 fuel fuel s0 rd4 m8 (k_rn cs) mn mw8 (by omega) (by unfold fuel; omega) (by unfold fuel; omega) (by omega) hGS hLS hNM ((f2 _ _ _ (by omega)).trans c25) (RF.rf _) (MF.rf _)
      rw [nI_0] at key
      have hMF8 : MF m1 m8 := cF.tr f2.f
      have rf4 : ∀ k j t, k ≠ 5 → rd4 k j t = k_rd cs k j t := fun k j t hk => by
        rw [hrd4, upS_k hk, upS_k hk, upS_k hk, upS_k hk]
      rw [← hm6, d1, xb, f1, xb]
      simp only
      unfold f_X7_load_c
      rw [hread]
      obtain ⟨dd1, dd2, dd3, dd4, dd5, dd6⟩ := hD
      obtain ⟨hh1, hh2, hh3, hh4, hh5, hh6⟩ := hH
      obtain ⟨no, o1, o2, o3, o4⟩ := hO
      rcases key with ⟨sd', rd', rn', md', mn', mw', k1, k2, k3, k4, k5, k6, k7, k8⟩ | ⟨sd', rd', rn', md', mn', mw', k1, k2, k3, k4, k5⟩
      · have hMF := hMF8.tr k8
        rw [k1, xb, k2]
        simp only [xl]
        rw [if_neg i1]
        -- the reference's end
        unfold ldK
        simp only [xl]
        have v18 : (upS (upS md' 8 0 15 0) 8 0 16 ((upS md' 8 0 15 0) 8 0 18)) 8 0 18 = 0 := by
          simp (disch := omega) only [upS_t]; exact k4
        rw [v18, if_pos (show (0 : Int32) ≤ 0 by decide)]
        have v18' : (upS (upS (upS md' 8 0 15 0) 8 0 16 ((upS md' 8 0 15 0) 8 0 18)) 8 0 17 (-1000005)) 8 0 18 = 0 := by
          rw [upS_t (by omega)]; exact v18
        rw [v18', if_pos (show (0 : Int32) ≤ 0 by decide), m_copies _ (by decide), xb]
        obtain ⟨mE, hmE⟩ : ∃ mE, mE = upS (cpM (upS (upS (upS md' 8 0 15 0) 8 0 16 ((upS md' 8 0 15 0) 8 0 18)) 8 0 17 (-1000005)) 31 30) 8 0 5 0 := ⟨_, rfl⟩
        have er : ∀ t, t < 605 → mE 30 0 t = md' 31 0 t := fun t ht => by
          rw [hmE, upS_k (by omega)]
          unfold cpM
          rw [if_pos ⟨rfl, rfl, ht⟩, upS_k (by omega), upS_k (by omega), upS_k (by omega)]
        have eo : ∀ k j t, ¬ (k = 30 ∧ j = 0 ∧ t < 605) → ¬ (k = 8 ∧ j = 0 ∧ (t = 5 ∨ t = 15 ∨ t = 16 ∨ t = 17)) → mE k j t = md' k j t := fun k j t h1 h2 => by
          rw [hmE]
          have q5 : ∀ s : SD, upS s 8 0 5 0 k j t = s k j t := fun s => by unfold upS; rw [if_neg (by omega)]
          have q6 : ∀ (s : SD) (u : Nat) (v : Int32), (u = 15 ∨ u = 16 ∨ u = 17) → upS s 8 0 u v k j t = s k j t := fun s u v hu => by unfold upS; rw [if_neg (by omega)]
          have q7 : ∀ s : SD, cpM s 31 30 k j t = s k j t := fun s => by unfold cpM; rw [if_neg h1]
          rw [q5, q7, q6 _ _ _ (by omega), q6 _ _ _ (by omega), q6 _ _ _ (by omega)]
        have e5 : mE 8 0 5 = 0 := by rw [hmE, upS_hit]
        have ec : ∀ t, mE 8 0 t = if t = 5 then 0 else (upS (upS (upS md' 8 0 15 0) 8 0 16 ((upS md' 8 0 15 0) 8 0 18)) 8 0 17 (-1000005)) 8 0 t := fun t => by
          rw [hmE]
          by_cases w : t = 5
          · subst w; rw [upS_hit, if_pos rfl]
          · rw [upS_t w, if_neg w]
            unfold cpM
            rw [if_neg (by omega)]
        have e15 : mE 8 0 15 = nI 0 := by rw [ec, if_neg (by omega)]; simp (disch := omega) only [upS_t, upS_hit]; rfl
        have e16 : mE 8 0 16 = 0 := by rw [ec, if_neg (by omega)]; simp (disch := omega) only [upS_t, upS_hit]; exact k4
        have e17 : mE 8 0 17 = -1000005 := by rw [ec, if_neg (by omega), upS_hit]
        rw [← hmE]
        -- the class's end
        unfold f_X7_load_ok f_X1_forgetAll
        simp only [xl, xb]
        generalize hc3 : (kH (kZ (kZ (kJ (kJ (kR (kS (kR cs rd' rn') (k_sp cs) sd') (upS rd' 5 0 1 0) rn') (upS (k_jd cs) 7 0 1 ((upS rd' 5 0 1 0) 5 0 7))) (upS (upS (k_jd cs) 7 0 1 ((upS rd' 5 0 1 0) 5 0 7)) 7 0 2 ((upS rd' 5 0 1 0) 5 0 8))) (k_sp cs, k_sp cs, k_pl cs)) (k_sp cs, k_st cs, k_pl cs)) (upS (k_hd cs) 1 0 2 0) (k_hz cs) : CT) = c3
        have x1 : k_xs c3 = va_up (k_xs cs) (k_sp cs) sd' := by rw [← hc3]
        have x2 : k_rd c3 = upS rd' 5 0 1 0 := by rw [← hc3]
        have x3 : k_st c3 = k_sp cs := by rw [← hc3]
        have x4 : k_sp c3 = k_st cs := by rw [← hc3]
        have x5 : k_pl c3 = k_pl cs := by rw [← hc3]
        have x6 : k_hd c3 = upS (k_hd cs) 1 0 2 0 := by rw [← hc3]
        have x7 : k_hz c3 = k_hz cs := by rw [← hc3]
        have x8 : k_jd c3 = upS (upS (k_jd cs) 7 0 1 ((upS rd' 5 0 1 0) 5 0 7)) 7 0 2 ((upS rd' 5 0 1 0) 5 0 8) := by rw [← hc3]
        have x9 : k_sz c3 = k_sz cs := by rw [← hc3]
        obtain ⟨c4, w1, w2, w3, w4, w5, w6, w7, w8, w9, w10, w11, w12⟩ := forget_both c3
        have xs : k_xs c4 (k_st c4) = sd' := by
          rw [w3, w4, x1, x3]
          exact va_hit _ _ _
        rw [w1, xb]
        refine ⟨_, c4, mE, mn', mw', rfl, ?_, ?_⟩
        · rw [xs, k6.s11, er 9 (by omega)]
        · refine ⟨Inv.congr k5 er, ?_, ⟨f0, 0, hh1, by omega, ?_, ?_, e5, fun k hk => by omega⟩, ⟨?_, fun t q hq => ?_, fun t u q hq hu => ?_, ?_, ?_, fun t q hq => ?_⟩, ⟨⟨0, by omega, ?_, e15, fun t ht => by omega⟩, ?_, ?_⟩, ⟨no, o1, ?_, ?_, fun t ht => ?_⟩, ?_⟩
          · rw [xs]
            exact (Rel.congr k5 k6 er).more (by omega)
          · rw [w6, x6, upS_t (by omega)]; exact hh3
          · rw [w6, x6, upS_hit]; rfl
          · rw [w4, w5, x3, x4]; exact fun u => dd1 u.symm
          · rw [w7, x7] at hq
            rw [w4, w5, x3, x4]
            exact ⟨(dd2 t q hq).2, (dd2 t q hq).1⟩
          · rw [w7, x7] at hq hu
            exact dd3 t u q hq hu
          · rw [w4, w11, x3, x9]; exact dd5
          · rw [w5, w11, x4, x9]; exact dd4
          · rw [w7, x7] at hq
            rw [w11, x9]
            exact dd6 t q hq
          · rw [w8, x2, upS_hit]; rfl
          · rw [w10, x8, upS_t (by omega), upS_hit, upS_t (by omega), k3, e16]
          · rw [w10, x8, upS_t (by omega), upS_hit, upS_t (by omega), k3, if_pos rfl, e17]
          · rw [w10, x8, upS_t (by omega), upS_t (by omega)]; exact o2
          · rw [eo _ _ _ (by omega) (by omega), hMF _ _ _ (by omega) (by omega)]; exact o3
          · rw [w10, x8, upS_k (by omega), upS_k (by omega), eo _ _ _ (by omega) (by omega), hMF _ _ _ (by omega) (by omega)]; exact o4 t ht
          · show k_pl c4 = none ∨ k_pd c4 2 0 5 = -1 ∨ _
            obtain ⟨p1, p2⟩ := w2
            by_cases u : k_pl c3 = none
            · exact Or.inl (p1.trans u)
            · refine Or.inr (Or.inl ?_)
              rw [p2 u, upS_hit]
      · have hMF := hMF8.tr k5
        obtain ⟨k, kk1, kk2, kk3, kk4, kk5⟩ := k3
        rw [k1, xb, k2]
        simp only [xl]
        rw [if_pos trivial]
        have knz : ¬ nI k ≤ (0 : Int32) := fun u => by
          have := (nI_leI (b := 0) (by omega) (by omega)).mp u
          omega
        have kn0 : ¬ nI k = (0 : Int32) := fun u => by
          have := (nI_eq (b := 0) (by omega) (by omega)).mp u
          omega
        unfold ldK
        simp only [xl]
        have v18 : (upS (upS md' 8 0 15 0) 8 0 16 ((upS md' 8 0 15 0) 8 0 18)) 8 0 18 = nI k := by
          simp (disch := omega) only [upS_t]; exact kk4
        have v19 : (upS (upS md' 8 0 15 0) 8 0 16 ((upS md' 8 0 15 0) 8 0 18)) 8 0 19 = md' 8 0 19 := by
          simp (disch := omega) only [upS_t]
        rw [v18, v19, if_neg knz]
        have v18' : (upS (upS (upS md' 8 0 15 0) 8 0 16 ((upS md' 8 0 15 0) 8 0 18)) 8 0 17 (md' 8 0 19)) 8 0 18 = nI k := by
          rw [upS_t (by omega)]; exact v18
        rw [v18', if_neg knz]
        have eo : ∀ k j t, ¬ (k = 8 ∧ j = 0 ∧ (t = 15 ∨ t = 16 ∨ t = 17)) → (upS (upS (upS md' 8 0 15 0) 8 0 16 ((upS md' 8 0 15 0) 8 0 18)) 8 0 17 (md' 8 0 19)) k j t = md' k j t := fun k j t h => by
          unfold upS
          rw [if_neg (by omega), if_neg (by omega), if_neg (by omega)]
        have e15 : (upS (upS (upS md' 8 0 15 0) 8 0 16 ((upS md' 8 0 15 0) 8 0 18)) 8 0 17 (md' 8 0 19)) 8 0 15 = nI 0 := by simp (disch := omega) only [upS_t, upS_hit]; rfl
        have e16 : (upS (upS (upS md' 8 0 15 0) 8 0 16 ((upS md' 8 0 15 0) 8 0 18)) 8 0 17 (md' 8 0 19)) 8 0 16 = nI k := by simp (disch := omega) only [upS_t, upS_hit]; exact kk4
        have e17 : (upS (upS (upS md' 8 0 15 0) 8 0 16 ((upS md' 8 0 15 0) 8 0 18)) 8 0 17 (md' 8 0 19)) 8 0 17 = rd' 5 0 8 := by rw [upS_hit, kk5]
        generalize upS (upS (upS md' 8 0 15 0) 8 0 16 ((upS md' 8 0 15 0) 8 0 18)) 8 0 17 (md' 8 0 19) = mE at *
        have er : mE 30 0 = m1 30 0 := by
          funext t
          rw [eo _ _ _ (by omega), hMF _ _ _ (by omega) (by omega)]
        have em : ∀ k j t, k ≠ 31 → ¬ (k = 8 ∧ j = 0 ∧ 15 ≤ t ∧ t ≤ 25) → mE k j t = m1 k j t := fun k j t h1 h2 => by
          rw [eo _ _ _ (by omega), hMF _ _ _ h1 (by omega)]
        refine ⟨_, _, mE, mn', mw', rfl, rfl, ?_⟩
        refine ⟨by rw [er]; exact hI, ?_, ⟨f0, c, hh1, hh2, hh3, hh4, ?_, fun u hu => ?_⟩, ⟨dd1, dd2, dd3, dd4, dd5, dd6⟩, ⟨⟨0, by omega, ?_, e15, fun t ht => by omega⟩, ?_, ?_⟩, ⟨no, o1, ?_, ?_, fun t ht => ?_⟩, ?_⟩
        · rw [er]
          show Rel b (va_up (k_xs cs) (k_sp cs) sd' (k_st cs)) _
          rw [va_off _ _ dd1]
          exact hR
        · rw [em _ _ _ (by omega) (by omega)]; exact hh5
        · obtain ⟨q, p1, p2, p3⟩ := hh6 u hu
          have ep : prow mE u = prow m1 u := by
            funext i
            exact em _ _ _ (by omega) (by omega)
          refine ⟨q, p1, by rw [ep]; exact p2, ?_⟩
          rw [ep]
          show Rel b (va_up (k_xs cs) (k_sp cs) sd' q) _
          rw [va_off _ _ (dd2 _ _ p1).2]
          exact p3
        · show (upS rd' 5 0 1 0) 5 0 1 = nI 0
          exact upS_hit _ _ _ _ _
        · show (upS (upS (k_jd cs) 7 0 1 ((upS rd' 5 0 1 0) 5 0 7)) 7 0 2 ((upS rd' 5 0 1 0) 5 0 8)) 7 0 1 = _
          rw [upS_t (by omega), upS_hit, upS_t (by omega), kk3, e16]
        · show _ = if (upS (upS (k_jd cs) 7 0 1 ((upS rd' 5 0 1 0) 5 0 7)) 7 0 2 ((upS rd' 5 0 1 0) 5 0 8)) 7 0 1 = 0 then _ else (upS (upS (k_jd cs) 7 0 1 ((upS rd' 5 0 1 0) 5 0 7)) 7 0 2 ((upS rd' 5 0 1 0) 5 0 8)) 7 0 2
          rw [upS_t (show (1 : Nat) ≠ 2 by omega), upS_hit, upS_t (show (7 : Nat) ≠ 1 by omega), kk3, if_neg kn0, upS_hit, upS_t (by omega), e17]
        · show (upS (upS (k_jd cs) 7 0 1 ((upS rd' 5 0 1 0) 5 0 7)) 7 0 2 ((upS rd' 5 0 1 0) 5 0 8)) 7 0 8 = _
          rw [upS_t (by omega), upS_t (by omega)]; exact o2
        · rw [em _ _ _ (by omega) (by omega)]; exact o3
        · show (upS (upS (k_jd cs) 7 0 1 ((upS rd' 5 0 1 0) 5 0 7)) 7 0 2 ((upS rd' 5 0 1 0) 5 0 8)) 26 0 t = _
          rw [upS_k (by omega), upS_k (by omega), em _ _ _ (by omega) (by omega)]; exact o4 t ht
        · rw [er]; exact hP
    · rw [if_neg y, if_pos (i32_le_lt.mp y), if_pos rfl]
      exact ⟨_, _, _, _, _, rfl, rfl, hJ1⟩
end LDJ
end
