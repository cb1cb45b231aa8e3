section
/-! sandbox for layer 2: the forms that the pure functions need, as the parts 10, 11, 12 of whole have them -/
abbrev SD : Type := Nat → Nat → Nat → Int32
def upS (sd : SD) (k j t : Nat) (v : Int32) : SD := fun k' j' t' => if k' = k ∧ j' = j ∧ t' = t then v else sd k' j' t'
abbrev CT : Type := (Nat → SD) × SD × (Nat → Int64) × SD × SD × (Nat → Option Nat) × SD × (Nat × Nat × Option Nat) × (List Nat × Nat)
abbrev MT : Type := SD × (Nat → Int64) × Int64
abbrev k_xs (c : CT) : Nat → SD := c.1
abbrev k_rd (c : CT) : SD := c.2.1
abbrev k_rn (c : CT) : Nat → Int64 := c.2.2.1
abbrev k_pd (c : CT) : SD := c.2.2.2.1
abbrev k_hd (c : CT) : SD := c.2.2.2.2.1
abbrev k_hz (c : CT) : Nat → Option Nat := c.2.2.2.2.2.1
abbrev k_jd (c : CT) : SD := c.2.2.2.2.2.2.1
abbrev k_st (c : CT) : Nat := c.2.2.2.2.2.2.2.1.1
abbrev k_sp (c : CT) : Nat := c.2.2.2.2.2.2.2.1.2.1
abbrev k_pl (c : CT) : Option Nat := c.2.2.2.2.2.2.2.1.2.2
abbrev k_S (c : CT) : List Nat := c.2.2.2.2.2.2.2.2.1
abbrev k_sz (c : CT) : Nat := c.2.2.2.2.2.2.2.2.2
abbrev kS (c : CT) (i : Nat) (sd : SD) : CT := (va_up c.1 i sd, c.2)
abbrev kR (c : CT) (rd : SD) (rn : Nat → Int64) : CT := (c.1, rd, rn, c.2.2.2)
abbrev kP (c : CT) (pd : SD) : CT := (c.1, c.2.1, c.2.2.1, pd, c.2.2.2.2)
abbrev kH (c : CT) (hd : SD) (hz : Nat → Option Nat) : CT := (c.1, c.2.1, c.2.2.1, c.2.2.2.1, hd, hz, c.2.2.2.2.2.2)
abbrev kJ (c : CT) (jd : SD) : CT := (c.1, c.2.1, c.2.2.1, c.2.2.2.1, c.2.2.2.2.1, c.2.2.2.2.2.1, jd, c.2.2.2.2.2.2.2)
abbrev kZ (c : CT) (z : Nat × Nat × Option Nat) : CT := (c.1, c.2.1, c.2.2.1, c.2.2.2.1, c.2.2.2.2.1, c.2.2.2.2.2.1, c.2.2.2.2.2.2.1, z, c.2.2.2.2.2.2.2.2)
abbrev kA (c : CT) (a : List Nat × Nat) : CT := (c.1, c.2.1, c.2.2.1, c.2.2.2.1, c.2.2.2.2.1, c.2.2.2.2.2.1, c.2.2.2.2.2.2.1, c.2.2.2.2.2.2.2.1, a)
def slen : List Nat := [5, 5, 4, 7, 3, 4, 5]
def sbyt : List (List Int32) := [[115, 108, 111, 116, 115], [100, 114, 105, 118, 101], [116, 105, 109, 101], [112, 108, 97, 116, 116, 101, 114], [98, 97, 100], [102, 105, 108, 101], [99, 108, 111, 115, 101]]
def x_let {α β : Type} (a : α) (f : α → β) : β := f a
theorem x_letE {α β : Type} {a : α} {f : α → β} {r : β} (h : x_let a f = r) : ∃ b, b = a ∧ f b = r := ⟨a, rfl, h⟩
def x_bind {α β : Type} (a : Option α) (f : α → Option β) : Option β := match a with
  | some x => f x
  | none => none
theorem x_bindE {α β : Type} {a : Option α} {f : α → Option β} {r : β} (h : x_bind a f = some r) : ∃ x, a = some x ∧ f x = some r := by
  cases a with
  | none => cases h
  | some x => exact ⟨x, rfl, h⟩
theorem x_bind_some {α β : Type} (x : α) (f : α → Option β) : x_bind (some x) f = f x := rfl
noncomputable def x_guard {β : Type} (P : Prop) (a : Option β) : Option β := by
  classical
  exact if P then a else none
theorem x_guard_pos {β : Type} {P : Prop} (h : P) (a : Option β) : x_guard P a = a := by simp [x_guard, h]
theorem x_guardE {β : Type} {P : Prop} {a : Option β} {r : β} (h : x_guard P a = some r) : P ∧ a = some r := by
  by_cases hP : P
  · rw [x_guard_pos hP] at h; exact ⟨hP, h⟩
  · simp [x_guard, hP] at h
theorem x_lt {q : Int32} {n : Nat} (h : vp_in q n) : q.toNatClampNeg < n := Nat.not_le.mp fun z => h (Or.inr z)
theorem x_iteT {β : Type} {P : Prop} [Decidable P] {a b : Option β} {r : β} (h : (if P then a else b) = some r) (hp : P) : a = some r := by rwa [if_pos hp] at h
theorem x_iteF {β : Type} {P : Prop} [Decidable P] {a b : Option β} {r : β} (h : (if P then a else b) = some r) (hp : ¬ P) : b = some r := by rwa [if_neg hp] at h
def fuel : Nat := 20000
def cpS (sd : SD) (k j n : Nat) (f : Nat → Int32) : SD := fun k' j' t' => if k' = k ∧ j' = j ∧ t' < n then f t' else sd k' j' t'
end
section
/-! the pure functions of the methods, by program out of the bytecode -/
noncomputable def f_X0_copyFrom (sd : SD) (so : SD) (j : Nat) (j2 : Nat) : Option SD := x_let (upS sd 0 j 0 (so 0 j2 0)) fun (sd1 : SD) => x_let (upS sd1 0 j 1 (so 0 j2 1)) fun (sd2 : SD) => x_let (upS sd2 0 j 2 (so 0 j2 2)) fun (sd3 : SD) => some (sd3)
noncomputable def f_X1_forgetAll (hd : SD) : Option SD := x_let (upS hd 1 0 2 (0 : Int32)) fun (hd1 : SD) => some (hd1)
noncomputable def f_X4_putTimes (sd : SD) (a1 : Int32) (a2 : Int32) (a3 : Int32) (a4 : Int32) (a5 : Int32) : Option SD := x_let (upS sd 10 0 0 a1) fun (sd1 : SD) => x_let (upS sd1 10 0 1 a2) fun (sd2 : SD) => x_let (upS sd2 10 0 2 a3) fun (sd3 : SD) => x_let (upS sd3 10 0 3 a4) fun (sd4 : SD) => x_let (upS sd4 10 0 4 a5) fun (sd5 : SD) => some (sd5)
noncomputable def f_X4_beginEmpty (sd : SD) : Option SD := x_let (upS sd 4 0 0 (12 : Int32)) fun (sd1 : SD) => x_bind (f_X4_putTimes sd1 (1 : Int32) (2 : Int32) (5 : Int32) (1 : Int32) (3 : Int32)) fun (q2 : SD) => x_let (upS q2 4 0 3 (0 : Int32)) fun (sd3 : SD) => x_let (upS sd3 4 0 4 (0 : Int32)) fun (sd4 : SD) => x_let (upS sd4 4 0 6 (0 : Int32)) fun (sd5 : SD) => x_let (upS sd5 4 0 7 (0 : Int32)) fun (sd6 : SD) => x_let (upS sd6 4 0 9 (0 : Int32)) fun (sd7 : SD) => x_let (upS sd7 4 0 11 (0 : Int32)) fun (sd8 : SD) => x_let (upS sd8 4 0 13 (0 : Int32)) fun (sd9 : SD) => x_let (upS sd9 4 0 14 (0 : Int32)) fun (sd10 : SD) => x_let (upS sd10 4 0 15 (0 : Int32)) fun (sd11 : SD) => x_let (upS sd11 4 0 16 (0 : Int32)) fun (sd12 : SD) => x_let (upS sd12 4 0 17 (0 : Int32)) fun (sd13 : SD) => some (sd13)
noncomputable def f_X3_copyFrom (sd : SD) (so : SD) (j : Nat) (j2 : Nat) : Option SD := x_let (upS sd 3 j 0 (so 3 j2 0)) fun (sd1 : SD) => x_let (upS sd1 3 j 1 (so 3 j2 1)) fun (sd2 : SD) => x_let (upS sd2 3 j 2 (so 3 j2 2)) fun (sd3 : SD) => x_let (upS sd3 3 j 3 (so 3 j2 3)) fun (sd4 : SD) => x_let (upS sd4 3 j 4 (so 3 j2 4)) fun (sd5 : SD) => x_guard ((so 3 j2 5) = 0 ∨ (so 3 j2 5) = 1) <| x_let (upS sd5 3 j 5 (so 3 j2 5)) fun (sd7 : SD) => x_let (cpS sd7 16 j 8 (so 16 j2)) fun (sd8 : SD) => x_let (cpS sd8 17 j 8 (so 17 j2)) fun (sd9 : SD) => x_let (cpS sd9 18 j 10 (so 18 j2)) fun (sd10 : SD) => some (sd10)
noncomputable def f_X6_copyFrom (sd : SD) (so : SD) (j : Nat) (j2 : Nat) : Option SD := x_let (upS sd 6 j 0 (so 6 j2 0)) fun (sd1 : SD) => x_let (upS sd1 6 j 1 (so 6 j2 1)) fun (sd2 : SD) => x_let (upS sd2 6 j 2 (so 6 j2 2)) fun (sd3 : SD) => x_let (upS sd3 6 j 3 (so 6 j2 3)) fun (sd4 : SD) => x_let (upS sd4 6 j 4 (so 6 j2 4)) fun (sd5 : SD) => x_let (upS sd5 6 j 5 (so 6 j2 5)) fun (sd6 : SD) => x_guard ((so 6 j2 6) = 0 ∨ (so 6 j2 6) = 1) <| x_let (upS sd6 6 j 6 (so 6 j2 6)) fun (sd8 : SD) => some (sd8)
noncomputable def f_X4_copyFrom_L126 (so : SD) : Nat → Int32 → SD → Option SD
  | 0, _, _ => none
  | n_126 + 1, v2_126, sd_126 => (if (sd_126 4 0 9) ≤ v2_126 then x_let (cpS sd_126 14 0 20 (so 14 0)) fun (sd8 : SD) => x_let (upS sd8 4 0 11 (so 4 0 11)) fun (sd9 : SD) => x_let (cpS sd9 15 0 16 (so 15 0)) fun (sd10 : SD) => x_let (upS sd10 4 0 13 (so 4 0 13)) fun (sd11 : SD) => x_let (upS sd11 4 0 14 (so 4 0 14)) fun (sd12 : SD) => x_let (upS sd12 4 0 15 (so 4 0 15)) fun (sd13 : SD) => x_let (upS sd13 4 0 16 (so 4 0 16)) fun (sd14 : SD) => x_let (upS sd14 4 0 17 (so 4 0 17)) fun (sd15 : SD) => some (sd15) else x_guard (vp_in v2_126 40) <| x_guard (vp_in v2_126 40) <| x_bind (f_X6_copyFrom sd_126 so ((v2_126).toNatClampNeg) ((v2_126).toNatClampNeg)) fun (q18 : SD) => x_let (v2_126 + (1 : Int32)) fun (x19 : Int32) => f_X4_copyFrom_L126 so n_126 (x19) (q18))
noncomputable def f_X4_copyFrom_L79 (so : SD) : Nat → Int32 → SD → Option SD
  | 0, _, _ => none
  | n_79 + 1, v2_79, sd_79 => (if (sd_79 4 0 6) ≤ v2_79 then x_let (upS sd_79 4 0 7 (so 4 0 7)) fun (sd6 : SD) => x_let (upS sd6 4 0 9 (so 4 0 9)) fun (sd7 : SD) => f_X4_copyFrom_L126 so fuel ((0 : Int32)) (sd7) else x_guard (vp_in v2_79 10) <| x_guard (vp_in v2_79 10) <| x_bind (f_X3_copyFrom sd_79 so ((v2_79).toNatClampNeg) ((v2_79).toNatClampNeg)) fun (q22 : SD) => x_let (v2_79 + (1 : Int32)) fun (x23 : Int32) => f_X4_copyFrom_L79 so n_79 (x23) (q22))
noncomputable def f_X4_copyFrom_L32 (so : SD) : Nat → Int32 → SD → Option SD
  | 0, _, _ => none
  | n_32 + 1, v2_32, sd_32 => (if (sd_32 4 0 3) ≤ v2_32 then x_let (upS sd_32 4 0 4 (so 4 0 4)) fun (sd4 : SD) => x_let (upS sd4 4 0 6 (so 4 0 6)) fun (sd5 : SD) => f_X4_copyFrom_L79 so fuel ((0 : Int32)) (sd5) else x_guard (vp_in v2_32 4) <| x_guard (vp_in v2_32 4) <| x_bind (f_X0_copyFrom sd_32 so ((v2_32).toNatClampNeg) ((v2_32).toNatClampNeg)) fun (q26 : SD) => x_let (v2_32 + (1 : Int32)) fun (x27 : Int32) => f_X4_copyFrom_L32 so n_32 (x27) (q26))
noncomputable def f_X4_copyFrom (sd : SD) (so : SD) : Option SD := x_let (upS sd 4 0 0 (so 4 0 0)) fun (sd1 : SD) => x_let (cpS sd1 10 0 5 (so 10 0)) fun (sd2 : SD) => x_let (upS sd2 4 0 3 (so 4 0 3)) fun (sd3 : SD) => f_X4_copyFrom_L32 so fuel ((0 : Int32)) (sd3)
noncomputable def f_X2_forgetTable (pd : SD) : Option SD := x_let (upS pd 2 0 5 (-1 : Int32)) fun (pd1 : SD) => some (pd1)
noncomputable def f_X4_currentVersion (sd : SD) (a1 : Int32) : Option Nat := x_guard (vp_in a1 20) <| x_guard (vp_in (sd 14 0 (a1).toNatClampNeg) 40) <| some (((sd 14 0 (a1).toNatClampNeg)).toNatClampNeg)
noncomputable def f_X4_driveHolding_L2 (sd : SD) (a1 : Int32) : Nat → Int32 → Option Int32
  | 0, _ => none
  | n_2 + 1, v2_2 => (if (sd 4 0 3) ≤ v2_2 then some ((-1 : Int32)) else x_guard (vp_in v2_2 4) <| (if (sd 0 (v2_2).toNatClampNeg 1) = a1 then some (v2_2) else x_let (v2_2 + (1 : Int32)) fun (x2 : Int32) => f_X4_driveHolding_L2 sd a1 n_2 (x2)))
noncomputable def f_X4_driveHolding (sd : SD) (a1 : Int32) : Option Int32 := f_X4_driveHolding_L2 sd a1 fuel ((0 : Int32))
noncomputable def f_X4_awayPlatters_L4 (sd : SD) (a1 : Int32) : Nat → Int32 → Int32 → Option Int32
  | 0, _, _ => none
  | n_4 + 1, v2_4, v3_4 => (if (sd 4 0 13) ≤ v3_4 then some (v2_4) else x_guard (vp_in v3_4 16) <| x_bind (f_X4_currentVersion sd ((sd 15 0 (v3_4).toNatClampNeg))) fun (q2 : Nat) => x_let ((sd 6 q2 1)) fun (x3 : Int32) => (if v3_4 = a1 then x_let (v3_4 + (1 : Int32)) fun (x4 : Int32) => f_X4_awayPlatters_L4 sd a1 n_4 (v2_4) (x4) else x_bind (f_X4_driveHolding sd x3) fun (q5 : Int32) => (if q5 = (-1 : Int32) then x_let ((v2_4 ||| ((1 : Int32) <<< (x3 &&& 31)))) fun (x7 : Int32) => x_let (v3_4 + (1 : Int32)) fun (x8 : Int32) => f_X4_awayPlatters_L4 sd a1 n_4 (x7) (x8) else x_let (v3_4 + (1 : Int32)) fun (x6 : Int32) => f_X4_awayPlatters_L4 sd a1 n_4 (v2_4) (x6))))
noncomputable def f_X4_awayPlatters (sd : SD) (a1 : Int32) : Option Int32 := f_X4_awayPlatters_L4 sd a1 fuel ((0 : Int32)) ((0 : Int32))
noncomputable def f_X4_driveForAway_L7 (sd : SD) (a1 : Int32) : Nat → Int32 → Int32 → Int32 → Option Int32
  | 0, _, _, _ => none
  | n_7 + 1, v2_7, v3_7, v4_7 => (if (sd 4 0 3) ≤ v4_7 then some (v2_7) else x_guard (vp_in v4_7 4) <| (if (sd 0 (v4_7).toNatClampNeg 1) = (-1 : Int32) then some (v4_7) else (x_let (fun (y3 : Int32) => ((x_let (fun (_u : Unit) => (x_let (v4_7 + (1 : Int32)) fun (x5 : Int32) => f_X4_driveForAway_L7 sd a1 n_7 (v4_7) (y3) (x5) : Option Int32)) fun K4 => (if v2_7 = (-1 : Int32) then K4 (()) else (if v3_7 ≤ y3 then x_let (v4_7 + (1 : Int32)) fun (x6 : Int32) => f_X4_driveForAway_L7 sd a1 n_7 (v2_7) (v3_7) (x6) else K4 (())))) : Option Int32)) fun K2 => (if ((a1 >>> (v4_7 &&& 31)) &&& (1 : Int32)) = 0 then x_guard (vp_in v4_7 4) <| K2 ((sd 0 (v4_7).toNatClampNeg 2)) else K2 ((((sd 4 0 4) + (1 : Int32)) + v4_7))))))
noncomputable def f_X4_driveForAway (sd : SD) (a1 : Int32) : Option Int32 := f_X4_driveForAway_L7 sd a1 fuel ((-1 : Int32)) ((0 : Int32)) ((0 : Int32))
noncomputable def f_X4_driveAfterReading_L4 (sd : SD) (a1 : Int32) : Nat → Int32 → Int32 → Option Int32
  | 0, _, _ => none
  | n_4 + 1, v2_4, v3_4 => (if (sd 4 0 13) ≤ v3_4 then x_bind (f_X4_driveForAway sd v2_4) fun (q1 : Int32) => some (q1) else x_guard (vp_in v3_4 16) <| x_bind (f_X4_currentVersion sd ((sd 15 0 (v3_4).toNatClampNeg))) fun (q3 : Nat) => x_bind (f_X4_driveHolding sd ((sd 6 q3 1))) fun (q4 : Int32) => (if v3_4 = a1 then x_let (v3_4 + (1 : Int32)) fun (x5 : Int32) => f_X4_driveAfterReading_L4 sd a1 n_4 (v2_4) (x5) else (if q4 = (-1 : Int32) then x_let (v3_4 + (1 : Int32)) fun (x6 : Int32) => f_X4_driveAfterReading_L4 sd a1 n_4 (v2_4) (x6) else x_let ((v2_4 ||| ((1 : Int32) <<< (q4 &&& 31)))) fun (x7 : Int32) => x_let (v3_4 + (1 : Int32)) fun (x8 : Int32) => f_X4_driveAfterReading_L4 sd a1 n_4 (x7) (x8))))
noncomputable def f_X4_driveAfterReading (sd : SD) (a1 : Int32) : Option Int32 := f_X4_driveAfterReading_L4 sd a1 fuel ((0 : Int32)) ((0 : Int32))
noncomputable def f_X4_hasDrive (sd : SD) (a1 : Int32) : Option Int32 := (if a1 < 0 then some ((0 : Int32)) else (if (sd 4 0 3) ≤ a1 then some ((0 : Int32)) else some ((1 : Int32))))
noncomputable def f_X2_fillSwap_L54 (sd : SD) (x2 : Int32) (x5 : Int32) (v5_30 : Int32) (x3 : Int32) : Nat → Int32 → SD → Option (Int32 × SD)
  | 0, _, _ => none
  | n_54 + 1, v7_54, pd_54 => (if (sd 4 0 6) ≤ v7_54 then some (v7_54, pd_54) else x_guard (vp_in v7_54 10) <| x_let ((sd 3 (v7_54).toNatClampNeg 0)) fun (x8 : Int32) => x_let ((((if 0 ≤ (x2 - x5) then (x2 - x5) else 0 - (x2 - x5)) + (if 0 ≤ (x5 - x8) then (x5 - x8) else 0 - (x5 - x8))) + (if 0 ≤ (x8 - x2) then (x8 - x2) else 0 - (x8 - x2)))) fun (x9 : Int32) => x_guard (vp_in ((v5_30 * (10 : Int32)) + v7_54) 100) <| x_let (upS pd_54 24 0 (((v5_30 * (10 : Int32)) + v7_54)).toNatClampNeg ((x9 * (sd 10 0 0)) + x3)) fun (pd11 : SD) => x_let (v7_54 + (1 : Int32)) fun (x12 : Int32) => f_X2_fillSwap_L54 sd x2 x5 v5_30 x3 n_54 (x12) (pd11))
noncomputable def f_X2_fillSwap_L30 (sd : SD) (x2 : Int32) (x3 : Int32) : Nat → Int32 → SD → Option SD
  | 0, _, _ => none
  | n_30 + 1, v5_30, pd_30 => (if (sd 4 0 6) ≤ v5_30 then some (pd_30) else x_guard (vp_in v5_30 10) <| x_let ((sd 3 (v5_30).toNatClampNeg 0)) fun (x5 : Int32) => x_bind (f_X2_fillSwap_L54 sd x2 x5 v5_30 x3 fuel ((0 : Int32)) (pd_30)) fun (q6 : (Int32 × SD)) => x_let (v5_30 + (1 : Int32)) fun (x13 : Int32) => f_X2_fillSwap_L30 sd x2 x3 n_30 (x13) (q6.2))
noncomputable def f_X2_fillSwap (sd : SD) (pd : SD) (a2 : Int32) : Option SD := x_guard (vp_in a2 4) <| x_let ((sd 0 (a2).toNatClampNeg 0)) fun (x2 : Int32) => x_let ((((4 : Int32) * (sd 10 0 1)) + (sd 10 0 2))) fun (x3 : Int32) => f_X2_fillSwap_L30 sd x2 x3 fuel ((0 : Int32)) (pd)
noncomputable def f_X2_restAfter_L12 (a2 : Int32) (pd : SD) (a1 : Int32) : Nat → Int32 → Int32 → Option Int32
  | 0, _, _ => none
  | n_12 + 1, v3_12, v4_12 => (if (10 : Int32) ≤ v4_12 then some (v3_12) else (if ((a2 >>> (v4_12 &&& 31)) &&& (1 : Int32)) = 0 then x_let (v4_12 + (1 : Int32)) fun (x1 : Int32) => f_X2_restAfter_L12 a2 pd a1 n_12 (v3_12) (x1) else x_guard (vp_in (((a2 ^^^ ((1 : Int32) <<< (v4_12 &&& 31))) * (10 : Int32)) + v4_12) 10240) <| x_let ((pd 23 0 ((((a2 ^^^ ((1 : Int32) <<< (v4_12 &&& 31))) * (10 : Int32)) + v4_12)).toNatClampNeg)) fun (x3 : Int32) => x_guard (vp_in ((a1 * (10 : Int32)) + v4_12) 100) <| x_let ((if ((pd 24 0 (((a1 * (10 : Int32)) + v4_12)).toNatClampNeg) + x3) < v3_12 then ((pd 24 0 (((a1 * (10 : Int32)) + v4_12)).toNatClampNeg) + x3) else v3_12)) fun (x5 : Int32) => x_let (v4_12 + (1 : Int32)) fun (x6 : Int32) => f_X2_restAfter_L12 a2 pd a1 n_12 (x5) (x6)))
noncomputable def f_X2_restAfter (pd : SD) (a1 : Int32) (a2 : Int32) : Option Int32 := (if a2 = 0 then some ((0 : Int32)) else f_X2_restAfter_L12 a2 pd a1 fuel ((2147483647 : Int32)) ((0 : Int32)))
noncomputable def f_X2_fillRest_L17 (a1 : Int32) (v2_2 : Int32) : Nat → Int32 → SD → Option (Int32 × SD)
  | 0, _, _ => none
  | n_17 + 1, v3_17, pd_17 => (if (10 : Int32) ≤ v3_17 then some (v3_17, pd_17) else (if ((a1 >>> (v3_17 &&& 31)) &&& (1 : Int32)) = 0 then x_let (v3_17 + (1 : Int32)) fun (x3 : Int32) => f_X2_fillRest_L17 a1 v2_2 n_17 (x3) (pd_17) else (if ((v2_2 >>> (v3_17 &&& 31)) &&& (1 : Int32)) = 0 then x_bind (f_X2_restAfter pd_17 v3_17 v2_2) fun (q5 : Int32) => x_guard (vp_in ((v2_2 * (10 : Int32)) + v3_17) 10240) <| x_let (upS pd_17 23 0 (((v2_2 * (10 : Int32)) + v3_17)).toNatClampNeg q5) fun (pd7 : SD) => x_let (v3_17 + (1 : Int32)) fun (x8 : Int32) => f_X2_fillRest_L17 a1 v2_2 n_17 (x8) (pd7) else x_let (v3_17 + (1 : Int32)) fun (x4 : Int32) => f_X2_fillRest_L17 a1 v2_2 n_17 (x4) (pd_17))))
noncomputable def f_X2_fillRest_L2 (a1 : Int32) : Nat → Int32 → SD → Option SD
  | 0, _, _ => none
  | n_2 + 1, v2_2, pd_2 => (if a1 ≤ v2_2 then some (pd_2) else (if (v2_2 &&& (a1 ^^^ (-1 : Int32))) = 0 then x_bind (f_X2_fillRest_L17 a1 v2_2 fuel ((0 : Int32)) (pd_2)) fun (q2 : (Int32 × SD)) => x_let (v2_2 + (1 : Int32)) fun (x9 : Int32) => f_X2_fillRest_L2 a1 n_2 (x9) (q2.2) else x_let (v2_2 + (1 : Int32)) fun (x1 : Int32) => f_X2_fillRest_L2 a1 n_2 (x1) (pd_2)))
noncomputable def f_X2_fillRest (pd : SD) (a1 : Int32) : Option SD := f_X2_fillRest_L2 a1 fuel ((0 : Int32)) (pd)
noncomputable def f_X4_bringMoves (sd : SD) (a1 : Int32) (a2 : Int32) : Option Int32 := x_guard (vp_in a2 4) <| x_let ((sd 0 (a2).toNatClampNeg 0)) fun (x2 : Int32) => x_guard (vp_in a2 4) <| x_let ((sd 0 (a2).toNatClampNeg 1)) fun (x4 : Int32) => x_let ((sd 4 0 14)) fun (x5 : Int32) => (x_let (fun (y7 : Int32) (y8 : Int32) => (x_guard (vp_in a1 10) <| x_let ((sd 3 (a1).toNatClampNeg 0)) fun (x10 : Int32) => some (((y8 + (if 0 ≤ (y7 - x10) then (y7 - x10) else 0 - (y7 - x10))) + (if 0 ≤ (x10 - x2) then (x10 - x2) else 0 - (x10 - x2)))) : Option Int32)) fun K6 => (if x4 = (-1 : Int32) then K6 (x5) ((0 : Int32)) else x_guard (vp_in x4 10) <| x_let ((sd 3 (x4).toNatClampNeg 0)) fun (x12 : Int32) => x_let (((if 0 ≤ (x5 - x2) then (x5 - x2) else 0 - (x5 - x2)) + (if 0 ≤ (x2 - x12) then (x2 - x12) else 0 - (x2 - x12)))) fun (x13 : Int32) => K6 (x12) (x13)))
noncomputable def f_X4_bringTime (sd : SD) (a1 : Int32) (a2 : Int32) : Option Int32 := x_guard (vp_in a2 4) <| x_let ((sd 0 (a2).toNatClampNeg 1)) fun (x2 : Int32) => (if x2 = a1 then some ((0 : Int32)) else (x_let (fun (y4 : Int32) => (x_bind (f_X4_bringMoves sd a1 a2) fun (q5 : Int32) => some ((((q5 * (sd 10 0 0)) + (y4 * (sd 10 0 1))) + (sd 10 0 2))) : Option Int32)) fun K3 => (if x2 = (-1 : Int32) then K3 ((2 : Int32)) else K3 ((4 : Int32)))))
noncomputable def f_X2_leastTime_L61 (pd3 : SD) (a3 : Int32) (sd : SD) (a2 : Int32) : Nat → Int32 → Int32 → Option (Int32 × SD)
  | 0, _, _ => none
  | n_61 + 1, v4_61, v5_61 => (if (10 : Int32) ≤ v5_61 then some (v4_61, pd3) else (if ((a3 >>> (v5_61 &&& 31)) &&& (1 : Int32)) = 0 then x_let (v5_61 + (1 : Int32)) fun (x4 : Int32) => f_X2_leastTime_L61 pd3 a3 sd a2 n_61 (v4_61) (x4) else x_guard (vp_in (((a3 ^^^ ((1 : Int32) <<< (v5_61 &&& 31))) * (10 : Int32)) + v5_61) 10240) <| x_let ((pd3 23 0 ((((a3 ^^^ ((1 : Int32) <<< (v5_61 &&& 31))) * (10 : Int32)) + v5_61)).toNatClampNeg)) fun (x6 : Int32) => x_bind (f_X4_bringTime sd v5_61 a2) fun (q7 : Int32) => x_let ((if (q7 + x6) < v4_61 then (q7 + x6) else v4_61)) fun (x8 : Int32) => x_let (v5_61 + (1 : Int32)) fun (x9 : Int32) => f_X2_leastTime_L61 pd3 a3 sd a2 n_61 (x8) (x9)))
noncomputable def f_X2_leastTime (sd : SD) (pd : SD) (a2 : Int32) (a3 : Int32) : Option (Int32 × SD) := (if a3 = 0 then some ((0 : Int32), pd) else x_bind (f_X4_hasDrive sd a2) fun (q1 : Int32) => (if q1 = 0 then some ((0 : Int32), pd) else (x_let (fun (pd3 : SD) => (f_X2_leastTime_L61 pd3 a3 sd a2 fuel ((2147483647 : Int32)) ((0 : Int32)) : Option (Int32 × SD))) fun K2 => (x_let (fun (_u : Unit) => (x_bind (f_X2_fillSwap sd pd a2) fun (q11 : SD) => x_bind (f_X2_fillRest q11 a3) fun (q12 : SD) => x_let (upS q12 2 0 5 a2) fun (pd13 : SD) => x_let (upS pd13 2 0 6 a3) fun (pd14 : SD) => K2 (pd14) : Option (Int32 × SD))) fun K10 => (if (pd 2 0 5) = a2 then (if (a3 &&& ((pd 2 0 6) ^^^ (-1 : Int32))) = 0 then K2 (pd) else K10 (())) else K10 (()))))))
noncomputable def f_X4_sectorsReadTime (sd : SD) (j1 : Nat) : Option Int32 := some (((sd 10 0 3) * ((sd 6 j1 3) + (sd 6 j1 5))))
noncomputable def f_X4_requestsReadTime_L4 (sd : SD) (a1 : Int32) : Nat → Int32 → Int32 → Option Int32
  | 0, _, _ => none
  | n_4 + 1, v2_4, v3_4 => (if (sd 4 0 13) ≤ v3_4 then some (v2_4) else (if v3_4 = a1 then x_let (v3_4 + (1 : Int32)) fun (x1 : Int32) => f_X4_requestsReadTime_L4 sd a1 n_4 (v2_4) (x1) else x_guard (vp_in v3_4 16) <| x_bind (f_X4_currentVersion sd ((sd 15 0 (v3_4).toNatClampNeg))) fun (q3 : Nat) => x_bind (f_X4_sectorsReadTime sd q3) fun (q4 : Int32) => x_let ((v2_4 + q4)) fun (x5 : Int32) => x_let (v3_4 + (1 : Int32)) fun (x6 : Int32) => f_X4_requestsReadTime_L4 sd a1 n_4 (x5) (x6)))
noncomputable def f_X4_requestsReadTime (sd : SD) (a1 : Int32) : Option Int32 := f_X4_requestsReadTime_L4 sd a1 fuel ((0 : Int32)) ((0 : Int32))
noncomputable def f_X2_timeWithout (sd : SD) (pd : SD) (a2 : Int32) : Option (Int32 × SD) := x_bind (f_X4_awayPlatters sd a2) fun (q1 : Int32) => x_bind (f_X4_driveAfterReading sd a2) fun (q2 : Int32) => x_bind (f_X2_leastTime sd pd q2 q1) fun (q3 : (Int32 × SD)) => x_let (q3.1) fun (x4 : Int32) => x_bind (f_X4_requestsReadTime sd a2) fun (q5 : Int32) => some ((q5 + x4), q3.2)
noncomputable def f_X2_stepTime (sd : SD) (pd : SD) (a2 : Int32) (a3 : Int32) : Option Int32 := (if a2 = (-1 : Int32) then x_bind (f_X4_bringTime sd a3 ((pd 2 0 4))) fun (q2 : Int32) => some (q2) else x_guard (vp_in ((a2 * (10 : Int32)) + a3) 100) <| some ((pd 24 0 (((a2 * (10 : Int32)) + a3)).toNatClampNeg)))
noncomputable def f_X2_lowestNext_L3 (a3 : Int32) (sd : SD) (pd : SD) (a2 : Int32) (a4 : Int32) : Nat → Int32 → Option Int32
  | 0, _ => none
  | n_3 + 1, v5_3 => (if (10 : Int32) ≤ v5_3 then some ((-1 : Int32)) else (if ((a3 >>> (v5_3 &&& 31)) &&& (1 : Int32)) = 0 then x_let (v5_3 + (1 : Int32)) fun (x1 : Int32) => f_X2_lowestNext_L3 a3 sd pd a2 a4 n_3 (x1) else x_bind (f_X2_stepTime sd pd a2 v5_3) fun (q2 : Int32) => x_guard (vp_in (((a3 ^^^ ((1 : Int32) <<< (v5_3 &&& 31))) * (10 : Int32)) + v5_3) 10240) <| (if (q2 + (pd 23 0 ((((a3 ^^^ ((1 : Int32) <<< (v5_3 &&& 31))) * (10 : Int32)) + v5_3)).toNatClampNeg)) = a4 then some (v5_3) else x_let (v5_3 + (1 : Int32)) fun (x4 : Int32) => f_X2_lowestNext_L3 a3 sd pd a2 a4 n_3 (x4))))
noncomputable def f_X2_lowestNext (sd : SD) (pd : SD) (a2 : Int32) (a3 : Int32) (a4 : Int32) : Option Int32 := f_X2_lowestNext_L3 a3 sd pd a2 a4 fuel ((0 : Int32))
noncomputable def f_X2_planOrder_L49 (sd : SD) : Nat → Int32 → Int32 → Int32 → Int32 → SD → Option SD
  | 0, _, _, _, _, _ => none
  | n_49 + 1, v2_49, v3_49, v4_49, v5_49, pd_49 => (if (10 : Int32) ≤ v5_49 then some (pd_49) else (if v2_49 = 0 then some (pd_49) else x_bind (f_X2_lowestNext sd pd_49 v4_49 v2_49 v3_49) fun (q8 : Int32) => (if q8 = (-1 : Int32) then some (pd_49) else x_let ((v2_49 ^^^ ((1 : Int32) <<< (q8 &&& 31)))) fun (x9 : Int32) => x_guard (vp_in ((x9 * (10 : Int32)) + q8) 10240) <| x_let ((pd_49 23 0 (((x9 * (10 : Int32)) + q8)).toNatClampNeg)) fun (x11 : Int32) => x_guard (vp_in v5_49 10) <| x_let (upS pd_49 25 0 (v5_49).toNatClampNeg q8) fun (pd13 : SD) => x_let (upS pd13 2 0 3 ((pd13 2 0 3) + (1 : Int32))) fun (pd14 : SD) => x_let (v5_49 + (1 : Int32)) fun (x15 : Int32) => f_X2_planOrder_L49 sd n_49 (x9) (x11) (q8) (x15) (pd14))))
noncomputable def f_X2_planOrder (sd : SD) (pd : SD) : Option SD := x_bind (f_X4_awayPlatters sd (-1 : Int32)) fun (q1 : Int32) => x_bind (f_X4_driveAfterReading sd (-1 : Int32)) fun (q2 : Int32) => x_let (upS pd 2 0 4 q2) fun (pd3 : SD) => x_let (upS pd3 2 0 3 (0 : Int32)) fun (pd4 : SD) => x_bind (f_X4_hasDrive sd ((pd4 2 0 4))) fun (q5 : Int32) => (if q5 = 0 then some (pd4) else x_bind (f_X2_leastTime sd pd4 ((pd4 2 0 4)) q1) fun (q6 : (Int32 × SD)) => x_let (q6.1) fun (x7 : Int32) => f_X2_planOrder_L49 sd fuel (q1) (x7) ((-1 : Int32)) ((0 : Int32)) (q6.2))
noncomputable def f_X3_begin (sd : SD) (j : Nat) (a1 : Int32) (a2 : Int32) (a3 : Int32) : Option SD := x_let (upS sd 3 j 0 a1) fun (sd1 : SD) => x_let (upS sd1 3 j 1 a2) fun (sd2 : SD) => x_let (upS sd2 3 j 2 a3) fun (sd3 : SD) => x_let (upS sd3 3 j 3 (0 : Int32)) fun (sd4 : SD) => x_let (upS sd4 3 j 4 (0 : Int32)) fun (sd5 : SD) => x_let (upS sd5 3 j 5 (0 : Int32)) fun (sd6 : SD) => x_let (cpS sd6 18 j 10 (fun _ => (0 : Int32))) fun (sd7 : SD) => some (sd7)
noncomputable def f_X3_unused (sd : SD) (j : Nat) : Option Int32 := some (((sd 3 j 1) - (sd 3 j 3)))
noncomputable def f_X3_isBad (sd : SD) (j : Nat) (a1 : Int32) : Option Int32 := (if a1 < 0 then some ((0 : Int32)) else (if a1 < (300 : Int32) then x_guard (vp_in (a1 / (32 : Int32)) 10) <| (if ((((sd 18 j ((a1 / (32 : Int32))).toNatClampNeg)).toUInt32 >>> (((a1 - a1 / (32 : Int32) * (32 : Int32))).toUInt32 &&& Int32.toUInt32 31)).toInt32 &&& (1 : Int32)) = 0 then some ((0 : Int32)) else some ((1 : Int32))) else some ((0 : Int32))))
noncomputable def f_X3_setBad (sd : SD) (j : Nat) (a1 : Int32) : Option SD := (if a1 < 0 then some (sd) else (if (300 : Int32) ≤ a1 then some (sd) else x_guard (vp_in (a1 / (32 : Int32)) 10) <| x_guard (vp_in (a1 / (32 : Int32)) 10) <| x_let (upS sd 18 j ((a1 / (32 : Int32))).toNatClampNeg ((sd 18 j ((a1 / (32 : Int32))).toNatClampNeg) ||| ((1 : Int32) <<< ((a1 - a1 / (32 : Int32) * (32 : Int32)) &&& 31)))) fun (sd3 : SD) => some (sd3)))
noncomputable def f_X3_badAmongNext_L7 (sd : SD) (j : Nat) (a1 : Int32) : Nat → Int32 → Int32 → Option Int32
  | 0, _, _ => none
  | n_7 + 1, v2_7, v3_7 => (if ((sd 3 j 3) + a1) ≤ v3_7 then some (v2_7) else x_bind (f_X3_isBad sd j v3_7) fun (q2 : Int32) => (if q2 = 0 then x_let (v3_7 + (1 : Int32)) fun (x3 : Int32) => f_X3_badAmongNext_L7 sd j a1 n_7 (v2_7) (x3) else x_let (v2_7 + (1 : Int32)) fun (x4 : Int32) => x_let (v3_7 + (1 : Int32)) fun (x5 : Int32) => f_X3_badAmongNext_L7 sd j a1 n_7 (x4) (x5)))
noncomputable def f_X3_badAmongNext (sd : SD) (j : Nat) (a1 : Int32) : Option Int32 := x_let ((sd 3 j 3)) fun (x1 : Int32) => f_X3_badAmongNext_L7 sd j a1 fuel ((0 : Int32)) (x1)
noncomputable def f_X3_canTake (sd : SD) (j : Nat) (a1 : Int32) : Option Int32 := (x_let (fun (_u : Unit) => (x_bind (f_X3_unused sd j) fun (q2 : Int32) => (if q2 < a1 then some ((0 : Int32)) else x_bind (f_X3_badAmongNext sd j a1) fun (q3 : Int32) => (if (sd 3 j 2) < q3 then some ((0 : Int32)) else some ((1 : Int32)))) : Option Int32)) fun K1 => (if (sd 3 j 5) = 0 then (if (sd 3 j 4) < (8 : Int32) then K1 (()) else some ((0 : Int32))) else K1 (())))
noncomputable def f_X3_extendLastSession (sd : SD) (j : Nat) (a1 : Int32) : Option SD := (if (sd 3 j 4) ≤ 0 then some (sd) else (if (8 : Int32) < (sd 3 j 4) then some (sd) else x_guard (vp_in ((sd 3 j 4) - (1 : Int32)) 8) <| x_guard (vp_in ((sd 3 j 4) - (1 : Int32)) 8) <| x_let (upS sd 17 j (((sd 3 j 4) - (1 : Int32))).toNatClampNeg ((sd 17 j (((sd 3 j 4) - (1 : Int32))).toNatClampNeg) + a1)) fun (sd3 : SD) => x_let (upS sd3 3 j 3 ((sd3 3 j 3) + a1)) fun (sd4 : SD) => some (sd4)))
noncomputable def f_X3_takeSectors (sd : SD) (j : Nat) (a1 : Int32) (a2 : Int32) : Option SD := (x_let (fun (sd2 : SD) => (x_let (upS sd2 3 j 2 ((sd2 3 j 2) - a2)) fun (sd3 : SD) => x_bind (f_X3_extendLastSession sd3 j a1) fun (q4 : SD) => some (q4) : Option SD)) fun K1 => (if (sd 3 j 5) = 0 then (if (8 : Int32) ≤ (sd 3 j 4) then K1 (sd) else x_guard (vp_in (sd 3 j 4) 8) <| x_let (upS sd 16 j ((sd 3 j 4)).toNatClampNeg (sd 3 j 3)) fun (sd6 : SD) => x_guard (vp_in (sd6 3 j 4) 8) <| x_let (upS sd6 17 j ((sd6 3 j 4)).toNatClampNeg (0 : Int32)) fun (sd8 : SD) => x_let (upS sd8 3 j 4 ((sd8 3 j 4) + (1 : Int32))) fun (sd9 : SD) => x_let (upS sd9 3 j 5 (1 : Int32)) fun (sd10 : SD) => K1 (sd10)) else K1 (sd)))
noncomputable def f_X3_addLeadOut (sd : SD) (j : Nat) : Option (Int32 × SD) := x_bind (f_X3_unused sd j) fun (q1 : Int32) => x_let ((if q1 < (2 : Int32) then q1 else (2 : Int32))) fun (x2 : Int32) => x_bind (f_X3_extendLastSession sd j x2) fun (q3 : SD) => x_let (upS q3 3 j 5 (0 : Int32)) fun (sd4 : SD) => some (x2, sd4)
noncomputable def f_X3_isClosed (sd : SD) (j : Nat) (a1 : Int32) : Option Int32 := (if (sd 3 j 5) = 0 then some ((1 : Int32)) else (if a1 = ((sd 3 j 4) - (1 : Int32)) then some ((0 : Int32)) else some ((1 : Int32))))
noncomputable def f_X3_longestCleanRun_L9 (sd : SD) (j : Nat) : Nat → Int32 → Int32 → Int32 → Option Int32
  | 0, _, _, _ => none
  | n_9 + 1, v1_9, v2_9, v3_9 => (if (sd 3 j 1) ≤ v3_9 then some (v1_9) else x_bind (f_X3_isBad sd j v3_9) fun (q2 : Int32) => (x_let (fun (y4 : Int32) => (x_let ((if v1_9 < y4 then y4 else v1_9)) fun (x5 : Int32) => x_let (v3_9 + (1 : Int32)) fun (x6 : Int32) => f_X3_longestCleanRun_L9 sd j n_9 (x5) (y4) (x6) : Option Int32)) fun K3 => (if q2 = 0 then K3 ((v2_9 + (1 : Int32))) else K3 ((0 : Int32)))))
noncomputable def f_X3_longestCleanRun (sd : SD) (j : Nat) : Option Int32 := x_let ((sd 3 j 3)) fun (x1 : Int32) => f_X3_longestCleanRun_L9 sd j fuel ((0 : Int32)) ((0 : Int32)) (x1)
noncomputable def f_X4_hasSlot (sd : SD) (a1 : Int32) : Option Int32 := (if a1 < 0 then some ((0 : Int32)) else (if (sd 4 0 0) ≤ a1 then some ((0 : Int32)) else some ((1 : Int32))))
noncomputable def f_X4_hasPlatter (sd : SD) (a1 : Int32) : Option Int32 := (if a1 < 0 then some ((0 : Int32)) else (if (sd 4 0 6) ≤ a1 then some ((0 : Int32)) else some ((1 : Int32))))
noncomputable def f_X4_hasSession (sd : SD) (a1 : Int32) (a2 : Int32) : Option Int32 := x_bind (f_X4_hasPlatter sd a1) fun (q1 : Int32) => (if q1 = 0 then some ((0 : Int32)) else (if a2 < 0 then some ((0 : Int32)) else x_guard (vp_in a1 10) <| (if (sd 3 (a1).toNatClampNeg 4) ≤ a2 then some ((0 : Int32)) else some ((1 : Int32)))))
noncomputable def f_X4_hasSector (sd : SD) (a1 : Int32) (a2 : Int32) : Option Int32 := x_bind (f_X4_hasPlatter sd a1) fun (q1 : Int32) => (if q1 = 0 then some ((0 : Int32)) else (if a2 < 0 then some ((0 : Int32)) else x_guard (vp_in a1 10) <| (if (sd 3 (a1).toNatClampNeg 1) ≤ a2 then some ((0 : Int32)) else some ((1 : Int32)))))
noncomputable def f_X4_hasFile (sd : SD) (a1 : Int32) : Option Int32 := (if a1 < 0 then some ((0 : Int32)) else (if (sd 4 0 11) ≤ a1 then some ((0 : Int32)) else some ((1 : Int32))))
noncomputable def f_X4_hasRequest (sd : SD) (a1 : Int32) : Option Int32 := (if a1 < 0 then some ((0 : Int32)) else (if (sd 4 0 13) ≤ a1 then some ((0 : Int32)) else some ((1 : Int32))))
noncomputable def f_X4_addDrive (sd : SD) (a1 : Int32) : Option SD := (if (4 : Int32) ≤ (sd 4 0 3) then some (sd) else x_guard (vp_in (sd 4 0 3) 4) <| x_let (upS sd 0 ((sd 4 0 3)).toNatClampNeg 0 a1) fun (sd2 : SD) => x_let (upS sd2 0 ((sd 4 0 3)).toNatClampNeg 1 (-1 : Int32)) fun (sd3 : SD) => x_let (upS sd3 0 ((sd 4 0 3)).toNatClampNeg 2 (0 : Int32)) fun (sd4 : SD) => x_let (upS sd4 4 0 3 ((sd4 4 0 3) + (1 : Int32))) fun (sd5 : SD) => some (sd5))
noncomputable def f_X4_addPlatter (sd : SD) (a1 : Int32) (a2 : Int32) (a3 : Int32) : Option SD := (if (10 : Int32) ≤ (sd 4 0 6) then some (sd) else x_guard (vp_in (sd 4 0 6) 10) <| x_bind (f_X3_begin sd (((sd 4 0 6)).toNatClampNeg) a1 a2 a3) fun (q2 : SD) => x_let (upS q2 4 0 6 ((q2 4 0 6) + (1 : Int32))) fun (sd3 : SD) => some (sd3))
noncomputable def f_X4_platterWithHome_L2 (sd : SD) (a1 : Int32) : Nat → Int32 → Option Int32
  | 0, _ => none
  | n_2 + 1, v2_2 => (if (sd 4 0 6) ≤ v2_2 then some ((-1 : Int32)) else x_guard (vp_in v2_2 10) <| (if (sd 3 (v2_2).toNatClampNeg 0) = a1 then some (v2_2) else x_let (v2_2 + (1 : Int32)) fun (x2 : Int32) => f_X4_platterWithHome_L2 sd a1 n_2 (x2)))
noncomputable def f_X4_platterWithHome (sd : SD) (a1 : Int32) : Option Int32 := f_X4_platterWithHome_L2 sd a1 fuel ((0 : Int32))
noncomputable def f_X4_addVersion (sd : SD) (a1 : Int32) (a2 : Int32) (a3 : Int32) : Option SD := (if (40 : Int32) ≤ (sd 4 0 9) then some (sd) else x_bind (f_X4_hasFile sd a1) fun (q1 : Int32) => (if q1 = 0 then some (sd) else x_bind (f_X4_hasPlatter sd a3) fun (q2 : Int32) => (if q2 = 0 then some (sd) else x_guard (vp_in a3 10) <| x_guard (vp_in (sd 4 0 9) 40) <| x_let (upS sd 6 ((sd 4 0 9)).toNatClampNeg 0 a1) fun (sd5 : SD) => x_let (upS sd5 6 ((sd 4 0 9)).toNatClampNeg 1 a3) fun (sd6 : SD) => x_let (upS sd6 6 ((sd 4 0 9)).toNatClampNeg 2 (sd6 3 (a3).toNatClampNeg 3)) fun (sd7 : SD) => x_let (upS sd7 6 ((sd 4 0 9)).toNatClampNeg 3 a2) fun (sd8 : SD) => x_bind (f_X3_badAmongNext sd8 ((a3).toNatClampNeg) a2) fun (q9 : Int32) => x_let (upS sd8 6 ((sd 4 0 9)).toNatClampNeg 5 q9) fun (sd10 : SD) => x_let (upS sd10 6 ((sd 4 0 9)).toNatClampNeg 6 (0 : Int32)) fun (sd11 : SD) => x_bind (f_X3_takeSectors sd11 ((a3).toNatClampNeg) a2 ((sd11 6 ((sd 4 0 9)).toNatClampNeg 5))) fun (q12 : SD) => x_let (upS q12 6 ((sd 4 0 9)).toNatClampNeg 4 ((q12 3 (a3).toNatClampNeg 4) - (1 : Int32))) fun (sd13 : SD) => x_guard (vp_in a1 20) <| x_let (upS sd13 14 0 (a1).toNatClampNeg (sd13 4 0 9)) fun (sd15 : SD) => x_let (upS sd15 4 0 9 ((sd15 4 0 9) + (1 : Int32))) fun (sd16 : SD) => some (sd16))))
noncomputable def f_X6_holds (sd : SD) (j : Nat) (a1 : Int32) (a2 : Int32) : Option Int32 := (if (sd 6 j 1) = a1 then (if a2 < (sd 6 j 2) then some ((0 : Int32)) else (if ((sd 6 j 2) + (sd 6 j 3)) ≤ a2 then some ((0 : Int32)) else some ((1 : Int32)))) else some ((0 : Int32)))
noncomputable def f_X4_versionAt_L2 (sd : SD) (a1 : Int32) (a2 : Int32) : Nat → Int32 → Option Int32
  | 0, _ => none
  | n_2 + 1, v3_2 => (if (sd 4 0 9) ≤ v3_2 then some ((-1 : Int32)) else x_guard (vp_in v3_2 40) <| x_bind (f_X6_holds sd ((v3_2).toNatClampNeg) a1 a2) fun (q2 : Int32) => (if q2 = 0 then x_let (v3_2 + (1 : Int32)) fun (x3 : Int32) => f_X4_versionAt_L2 sd a1 a2 n_2 (x3) else some (v3_2)))
noncomputable def f_X4_versionAt (sd : SD) (a1 : Int32) (a2 : Int32) : Option Int32 := f_X4_versionAt_L2 sd a1 a2 fuel ((0 : Int32))
noncomputable def f_X4_spoil (sd : SD) (a1 : Int32) (a2 : Int32) : Option SD := x_guard (vp_in a1 10) <| x_bind (f_X3_setBad sd ((a1).toNatClampNeg) a2) fun (q2 : SD) => x_let (upS q2 4 0 7 ((q2 4 0 7) + (1 : Int32))) fun (sd3 : SD) => x_bind (f_X4_versionAt sd3 a1 a2) fun (q4 : Int32) => (if q4 = (-1 : Int32) then some (sd3) else x_guard (vp_in q4 40) <| x_let (upS sd3 6 (q4).toNatClampNeg 6 (1 : Int32)) fun (sd6 : SD) => some (sd6))
noncomputable def f_X4_isGood (sd : SD) (j1 : Nat) : Option Int32 := (if (sd 6 j1 6) = 0 then x_guard (vp_in (sd 6 j1 1) 10) <| x_bind (f_X3_isClosed sd (((sd 6 j1 1)).toNatClampNeg) ((sd 6 j1 4))) fun (q2 : Int32) => (if q2 = 0 then some ((0 : Int32)) else some ((1 : Int32))) else some ((0 : Int32)))
noncomputable def f_X4_isReadable (sd : SD) (a1 : Int32) : Option Int32 := x_bind (f_X4_currentVersion sd a1) fun (q1 : Nat) => x_bind (f_X4_isGood sd q1) fun (q2 : Int32) => x_guard (q2 = 0 ∨ q2 = 1) <| some (q2)
noncomputable def f_X4_isCurrent (sd : SD) (a1 : Int32) : Option Int32 := x_guard (vp_in a1 40) <| x_guard (vp_in (sd 6 (a1).toNatClampNeg 0) 20) <| (if (sd 14 0 ((sd 6 (a1).toNatClampNeg 0)).toNatClampNeg) = a1 then some ((1 : Int32)) else some ((0 : Int32)))
noncomputable def f_X4_kindOfSector (sd : SD) (a1 : Int32) (a2 : Int32) : Option Int32 := x_guard (vp_in a1 10) <| (x_let (fun (y3 : Int32) => (x_guard (vp_in a1 10) <| x_bind (f_X3_isBad sd ((a1).toNatClampNeg) a2) fun (q5 : Int32) => (if q5 = 0 then some (y3) else some ((y3 + (10 : Int32)))) : Option Int32)) fun K2 => (if (sd 3 (a1).toNatClampNeg 3) ≤ a2 then K2 ((0 : Int32)) else x_bind (f_X4_versionAt sd a1 a2) fun (q6 : Int32) => (x_let (fun (y8 : Int32) => (K2 (y8) : Option Int32)) fun K7 => (if q6 = (-1 : Int32) then K7 ((3 : Int32)) else x_bind (f_X4_isCurrent sd q6) fun (q9 : Int32) => (if q9 = 0 then K7 ((2 : Int32)) else K7 ((1 : Int32)))))))
noncomputable def f_X4_countStale_L4 (sd : SD) (a1 : Int32) : Nat → Int32 → Int32 → Option Int32
  | 0, _, _ => none
  | n_4 + 1, v2_4, v3_4 => (if (sd 4 0 9) ≤ v3_4 then some (v2_4) else x_guard (vp_in v3_4 40) <| (if (sd 6 (v3_4).toNatClampNeg 1) = a1 then x_bind (f_X4_isCurrent sd v3_4) fun (q3 : Int32) => (if q3 = 0 then x_guard (vp_in v3_4 40) <| x_let ((v2_4 + (sd 6 (v3_4).toNatClampNeg 3))) fun (x6 : Int32) => x_let (v3_4 + (1 : Int32)) fun (x7 : Int32) => f_X4_countStale_L4 sd a1 n_4 (x6) (x7) else x_let (v3_4 + (1 : Int32)) fun (x4 : Int32) => f_X4_countStale_L4 sd a1 n_4 (v2_4) (x4)) else x_let (v3_4 + (1 : Int32)) fun (x2 : Int32) => f_X4_countStale_L4 sd a1 n_4 (v2_4) (x2)))
noncomputable def f_X4_countStale (sd : SD) (a1 : Int32) : Option Int32 := f_X4_countStale_L4 sd a1 fuel ((0 : Int32)) ((0 : Int32))
noncomputable def f_X4_countDamaged_L4 (sd : SD) : Nat → Int32 → Int32 → Option Int32
  | 0, _, _ => none
  | n_4 + 1, v1_4, v2_4 => (if (sd 4 0 9) ≤ v2_4 then some (v1_4) else x_guard (vp_in v2_4 40) <| (if (sd 6 (v2_4).toNatClampNeg 6) = 0 then x_let (v2_4 + (1 : Int32)) fun (x2 : Int32) => f_X4_countDamaged_L4 sd n_4 (v1_4) (x2) else x_let (v1_4 + (1 : Int32)) fun (x3 : Int32) => x_let (v2_4 + (1 : Int32)) fun (x4 : Int32) => f_X4_countDamaged_L4 sd n_4 (x3) (x4)))
noncomputable def f_X4_countDamaged (sd : SD) : Option Int32 := f_X4_countDamaged_L4 sd fuel ((0 : Int32)) ((0 : Int32))
noncomputable def f_X4_countVersions_L4 (sd : SD) (a1 : Int32) : Nat → Int32 → Int32 → Option Int32
  | 0, _, _ => none
  | n_4 + 1, v2_4, v3_4 => (if (sd 4 0 9) ≤ v3_4 then some (v2_4) else x_guard (vp_in v3_4 40) <| (if (sd 6 (v3_4).toNatClampNeg 0) = a1 then x_let (v2_4 + (1 : Int32)) fun (x3 : Int32) => x_let (v3_4 + (1 : Int32)) fun (x4 : Int32) => f_X4_countVersions_L4 sd a1 n_4 (x3) (x4) else x_let (v3_4 + (1 : Int32)) fun (x2 : Int32) => f_X4_countVersions_L4 sd a1 n_4 (v2_4) (x2)))
noncomputable def f_X4_countVersions (sd : SD) (a1 : Int32) : Option Int32 := f_X4_countVersions_L4 sd a1 fuel ((0 : Int32)) ((0 : Int32))
noncomputable def f_X4_countFiles_L4 (sd : SD) (a1 : Int32) : Nat → Int32 → Int32 → Option Int32
  | 0, _, _ => none
  | n_4 + 1, v2_4, v3_4 => (if (sd 4 0 11) ≤ v3_4 then some (v2_4) else x_bind (f_X4_currentVersion sd v3_4) fun (q1 : Nat) => (if (sd 6 q1 1) = a1 then x_let (v2_4 + (1 : Int32)) fun (x3 : Int32) => x_let (v3_4 + (1 : Int32)) fun (x4 : Int32) => f_X4_countFiles_L4 sd a1 n_4 (x3) (x4) else x_let (v3_4 + (1 : Int32)) fun (x2 : Int32) => f_X4_countFiles_L4 sd a1 n_4 (v2_4) (x2)))
noncomputable def f_X4_countFiles (sd : SD) (a1 : Int32) : Option Int32 := f_X4_countFiles_L4 sd a1 fuel ((0 : Int32)) ((0 : Int32))
noncomputable def f_X4_lastGood_L7 (sd : SD) (a1 : Int32) : Nat → Int32 → Int32 → Int32 → Option Int32
  | 0, _, _, _ => none
  | n_7 + 1, v2_7, v3_7, v4_7 => (if (sd 4 0 9) ≤ v4_7 then some (v3_7) else x_guard (vp_in v4_7 40) <| (if (sd 6 (v4_7).toNatClampNeg 0) = a1 then x_guard (vp_in v4_7 40) <| x_bind (f_X4_isGood sd ((v4_7).toNatClampNeg)) fun (q4 : Int32) => (x_let (fun (y6 : Int32) => (x_let (v2_7 + (1 : Int32)) fun (x7 : Int32) => x_let (v4_7 + (1 : Int32)) fun (x8 : Int32) => f_X4_lastGood_L7 sd a1 n_7 (x7) (y6) (x8) : Option Int32)) fun K5 => (if q4 = 0 then K5 (v3_7) else K5 (v2_7))) else x_let (v4_7 + (1 : Int32)) fun (x2 : Int32) => f_X4_lastGood_L7 sd a1 n_7 (v2_7) (v3_7) (x2)))
noncomputable def f_X4_lastGood (sd : SD) (a1 : Int32) : Option Int32 := f_X4_lastGood_L7 sd a1 fuel ((0 : Int32)) ((-1 : Int32)) ((0 : Int32))
noncomputable def f_X4_driveToChoose (sd : SD) (a1 : Int32) : Option Int32 := x_bind (f_X4_driveHolding sd a1) fun (q1 : Int32) => (if q1 = (-1 : Int32) then x_bind (f_X4_driveForAway sd (0 : Int32)) fun (q2 : Int32) => some (q2) else some (q1))
noncomputable def f_X4_distanceToDrive_L5 (sd : SD) (a1 : Int32) : Nat → Int32 → Int32 → Option Int32
  | 0, _, _ => none
  | n_5 + 1, v2_5, v3_5 => (if (sd 4 0 3) ≤ v3_5 then some (v2_5) else x_guard (vp_in v3_5 4) <| x_let ((if (if 0 ≤ (a1 - (sd 0 (v3_5).toNatClampNeg 0)) then (a1 - (sd 0 (v3_5).toNatClampNeg 0)) else 0 - (a1 - (sd 0 (v3_5).toNatClampNeg 0))) < v2_5 then (if 0 ≤ (a1 - (sd 0 (v3_5).toNatClampNeg 0)) then (a1 - (sd 0 (v3_5).toNatClampNeg 0)) else 0 - (a1 - (sd 0 (v3_5).toNatClampNeg 0))) else v2_5)) fun (x2 : Int32) => x_let (v3_5 + (1 : Int32)) fun (x3 : Int32) => f_X4_distanceToDrive_L5 sd a1 n_5 (x2) (x3))
noncomputable def f_X4_distanceToDrive (sd : SD) (a1 : Int32) : Option Int32 := f_X4_distanceToDrive_L5 sd a1 fuel ((24 : Int32)) ((0 : Int32))
noncomputable def f_X4_chosenBringTime (sd : SD) (a1 : Int32) : Option Int32 := x_bind (f_X4_driveToChoose sd a1) fun (q1 : Int32) => (if q1 = (-1 : Int32) then some ((0 : Int32)) else x_bind (f_X4_bringTime sd a1 q1) fun (q2 : Int32) => some (q2))
noncomputable def f_X4_useDrive (sd : SD) (a1 : Int32) : Option SD := x_let (upS sd 4 0 4 ((sd 4 0 4) + (1 : Int32))) fun (sd1 : SD) => x_guard (vp_in a1 4) <| x_let (upS sd1 0 (a1).toNatClampNeg 2 (sd1 4 0 4)) fun (sd3 : SD) => some (sd3)
noncomputable def f_X4_bringInto (sd : SD) (a1 : Int32) (a2 : Int32) : Option SD := x_guard (vp_in a2 4) <| (x_let (fun (sd3 : SD) => (x_bind (f_X4_useDrive sd3 a2) fun (q4 : SD) => some (q4) : Option SD)) fun K2 => (if (sd 0 (a2).toNatClampNeg 1) = a1 then K2 (sd) else x_bind (f_X4_bringTime sd a1 a2) fun (q5 : Int32) => x_let (upS sd 4 0 15 ((sd 4 0 15) + q5)) fun (sd6 : SD) => x_bind (f_X4_bringMoves sd6 a1 a2) fun (q7 : Int32) => x_let (upS sd6 4 0 17 ((sd6 4 0 17) + q7)) fun (sd8 : SD) => x_guard (vp_in a2 4) <| x_let (upS sd8 4 0 14 (sd8 0 (a2).toNatClampNeg 0)) fun (sd10 : SD) => x_guard (vp_in a2 4) <| x_let (upS sd10 0 (a2).toNatClampNeg 1 a1) fun (sd12 : SD) => x_let (upS sd12 4 0 16 ((sd12 4 0 16) + (1 : Int32))) fun (sd13 : SD) => K2 (sd13)))
noncomputable def f_X4_bringToChosen (sd : SD) (a1 : Int32) : Option SD := x_bind (f_X4_driveToChoose sd a1) fun (q1 : Int32) => (if q1 = (-1 : Int32) then some (sd) else x_bind (f_X4_bringInto sd a1 q1) fun (q2 : SD) => some (q2))
noncomputable def f_X4_carryHome (sd : SD) (a1 : Int32) : Option SD := x_guard (vp_in a1 4) <| x_let ((sd 0 (a1).toNatClampNeg 1)) fun (x2 : Int32) => (if x2 = (-1 : Int32) then some (sd) else x_guard (vp_in a1 4) <| x_let ((sd 0 (a1).toNatClampNeg 0)) fun (x4 : Int32) => x_guard (vp_in x2 10) <| x_let ((sd 3 (x2).toNatClampNeg 0)) fun (x6 : Int32) => x_let (((if 0 ≤ ((sd 4 0 14) - x4) then ((sd 4 0 14) - x4) else 0 - ((sd 4 0 14) - x4)) + (if 0 ≤ (x4 - x6) then (x4 - x6) else 0 - (x4 - x6)))) fun (x7 : Int32) => x_let (upS sd 4 0 15 ((sd 4 0 15) + ((x7 * (sd 10 0 0)) + ((2 : Int32) * (sd 10 0 1))))) fun (sd8 : SD) => x_let (upS sd8 4 0 17 ((sd8 4 0 17) + x7)) fun (sd9 : SD) => x_let (upS sd9 4 0 14 x6) fun (sd10 : SD) => x_guard (vp_in a1 4) <| x_let (upS sd10 0 (a1).toNatClampNeg 1 (-1 : Int32)) fun (sd12 : SD) => some (sd12))
noncomputable def f_X4_readFile (sd : SD) (a1 : Int32) : Option SD := x_bind (f_X4_currentVersion sd a1) fun (q1 : Nat) => x_bind (f_X4_bringToChosen sd ((sd 6 q1 1))) fun (q2 : SD) => x_bind (f_X4_sectorsReadTime q2 q1) fun (q3 : Int32) => x_let (upS q2 4 0 15 ((q2 4 0 15) + q3)) fun (sd4 : SD) => some (sd4)
noncomputable def f_X4_writeVersion (sd : SD) (a1 : Int32) (a2 : Int32) (a3 : Int32) : Option SD := x_bind (f_X4_bringToChosen sd a3) fun (q1 : SD) => x_let (upS q1 4 0 15 ((q1 4 0 15) + ((q1 10 0 4) * a2))) fun (sd2 : SD) => x_bind (f_X4_addVersion sd2 a1 a2 a3) fun (q3 : SD) => some (q3)
noncomputable def f_X4_closeInDrive (sd : SD) (a1 : Int32) : Option (Int32 × SD) := x_bind (f_X4_bringToChosen sd a1) fun (q1 : SD) => x_guard (vp_in a1 10) <| x_bind (f_X3_addLeadOut q1 ((a1).toNatClampNeg)) fun (q3 : (Int32 × SD)) => x_let (q3.1) fun (x4 : Int32) => x_let (upS q3.2 4 0 15 ((q3.2 4 0 15) + ((q3.2 10 0 4) * x4))) fun (sd5 : SD) => some (x4, sd5)
noncomputable def f_X4_removeRequest_L19 (x2 : Int32) : Nat → Int32 → SD → Option (Int32 × SD)
  | 0, _, _ => none
  | n_19 + 1, v3_19, sd_19 => (if (sd_19 4 0 13) ≤ v3_19 then some (x2, sd_19) else x_guard (vp_in (v3_19 + (1 : Int32)) 16) <| x_guard (vp_in v3_19 16) <| x_let (upS sd_19 15 0 (v3_19).toNatClampNeg (sd_19 15 0 ((v3_19 + (1 : Int32))).toNatClampNeg)) fun (sd6 : SD) => x_let (v3_19 + (1 : Int32)) fun (x7 : Int32) => f_X4_removeRequest_L19 x2 n_19 (x7) (sd6))
noncomputable def f_X4_removeRequest (sd : SD) (a1 : Int32) : Option (Int32 × SD) := x_guard (vp_in a1 16) <| x_let ((sd 15 0 (a1).toNatClampNeg)) fun (x2 : Int32) => x_let (upS sd 4 0 13 ((sd 4 0 13) - (1 : Int32))) fun (sd3 : SD) => f_X4_removeRequest_L19 x2 fuel (a1) (sd3)
noncomputable def f_X4_readRequestsIn_L2 (a1 : Int32) : Nat → Int32 → SD → Option SD
  | 0, _, _ => none
  | n_2 + 1, v2_2, sd_2 => (if (sd_2 4 0 13) ≤ v2_2 then some (sd_2) else x_guard (vp_in v2_2 16) <| x_bind (f_X4_currentVersion sd_2 ((sd_2 15 0 (v2_2).toNatClampNeg))) fun (q2 : Nat) => x_guard (vp_in a1 4) <| (if (sd_2 6 q2 1) = (sd_2 0 (a1).toNatClampNeg 1) then x_bind (f_X4_sectorsReadTime sd_2 q2) fun (q5 : Int32) => x_let (upS sd_2 4 0 15 ((sd_2 4 0 15) + q5)) fun (sd6 : SD) => x_bind (f_X4_useDrive sd6 a1) fun (q7 : SD) => x_let (v2_2 + (1 : Int32)) fun (x8 : Int32) => f_X4_readRequestsIn_L2 a1 n_2 (x8) (q7) else x_let (v2_2 + (1 : Int32)) fun (x4 : Int32) => f_X4_readRequestsIn_L2 a1 n_2 (x4) (sd_2)))
noncomputable def f_X4_readRequestsIn (sd : SD) (a1 : Int32) : Option SD := f_X4_readRequestsIn_L2 a1 fuel ((0 : Int32)) (sd)
noncomputable def f_X4_readInDrives_L2  : Nat → Int32 → SD → Option SD
  | 0, _, _ => none
  | n_2 + 1, v1_2, sd_2 => (if (sd_2 4 0 3) ≤ v1_2 then some (sd_2) else x_bind (f_X4_readRequestsIn sd_2 v1_2) fun (q1 : SD) => x_let (v1_2 + (1 : Int32)) fun (x2 : Int32) => f_X4_readInDrives_L2  n_2 (x2) (q1))
noncomputable def f_X4_readInDrives (sd : SD) : Option SD := f_X4_readInDrives_L2  fuel ((0 : Int32)) (sd)
noncomputable def f_X5_appendFourBytes_L3 (a1 : Int32) : Nat → Int32 → SD → Option SD
  | 0, _, _ => none
  | n_3 + 1, v2_3, rd_3 => (if v2_3 < 0 then some (rd_3) else (if (900 : Int32) ≤ (rd_3 5 0 1) then some (rd_3) else x_guard (vp_in (rd_3 5 0 1) 900) <| x_let (upS rd_3 20 0 ((rd_3 5 0 1)).toNatClampNeg (((a1 >>> (v2_3 &&& 31))).toInt8.toInt32).toInt8.toInt32) fun (rd2 : SD) => x_let (upS rd2 5 0 1 ((rd2 5 0 1) + (1 : Int32))) fun (rd3 : SD) => x_let (v2_3 + (-8 : Int32)) fun (x4 : Int32) => f_X5_appendFourBytes_L3 a1 n_3 (x4) (rd3)))
noncomputable def f_X5_appendFourBytes (rd : SD) (a1 : Int32) : Option SD := f_X5_appendFourBytes_L3 a1 fuel ((24 : Int32)) (rd)
noncomputable def f_X5_isBetween (rd : SD) (a1 : Int32) (a2 : Int32) (a3 : Int32) : Option Int32 := x_guard (vp_in a1 900) <| (if (rd 20 0 (a1).toNatClampNeg) < a2 then some ((0 : Int32)) else x_guard (vp_in a1 900) <| (if a3 < (rd 20 0 (a1).toNatClampNeg) then some ((0 : Int32)) else some ((1 : Int32))))
noncomputable def f_X5_endOfRun_L0 (a1 : Int32) (a2 : Int32) : Nat → SD → Option (Int32 × SD)
  | 0, _ => none
  | n_0 + 1, rd_0 => (x_let (fun (_u : Unit) => (some (((rd_0 5 0 4) - (rd_0 5 0 3)), rd_0) : Option (Int32 × SD))) fun K1 => (if (rd_0 5 0 2) ≤ (rd_0 5 0 4) then K1 (()) else x_bind (f_X5_isBetween rd_0 ((rd_0 5 0 4)) a1 a2) fun (q2 : Int32) => (if q2 = 0 then K1 (()) else x_let (upS rd_0 5 0 4 ((rd_0 5 0 4) + (1 : Int32))) fun (rd3 : SD) => f_X5_endOfRun_L0 a1 a2 n_0 (rd3))))
noncomputable def f_X5_endOfRun (rd : SD) (a1 : Int32) (a2 : Int32) : Option (Int32 × SD) := f_X5_endOfRun_L0 a1 a2 fuel (rd)
noncomputable def f_X5_nextToken_L8  : Nat → SD → Option SD
  | 0, _ => none
  | n_8 + 1, rd_8 => (x_let (fun (_u : Unit) => (x_let (upS rd_8 5 0 4 (rd_8 5 0 3)) fun (rd3 : SD) => (if (rd3 5 0 3) < (rd3 5 0 2) then x_bind (f_X5_isBetween rd3 ((rd3 5 0 3)) (97 : Int32) (122 : Int32)) fun (q4 : Int32) => (if q4 = 0 then x_bind (f_X5_isBetween rd3 ((rd3 5 0 3)) (48 : Int32) (57 : Int32)) fun (q5 : Int32) => (if q5 = 0 then x_guard (vp_in (rd3 5 0 3) 900) <| (x_let (fun (y8 : Int32) => (x_let (upS rd3 5 0 5 y8) fun (rd9 : SD) => x_let (upS rd9 5 0 4 ((rd9 5 0 4) + (1 : Int32))) fun (rd10 : SD) => some (rd10) : Option SD)) fun K7 => (if (rd3 20 0 ((rd3 5 0 3)).toNatClampNeg) = (59 : Int32) then K7 ((4 : Int32)) else K7 ((1 : Int32)))) else x_bind (f_X5_endOfRun rd3 (48 : Int32) (57 : Int32)) fun (q11 : (Int32 × SD)) => (x_let (fun (y13 : Int32) => (x_let (upS q11.2 5 0 5 y13) fun (rd14 : SD) => some (rd14) : Option SD)) fun K12 => (if (5 : Int32) < q11.1 then K12 ((1 : Int32)) else K12 ((3 : Int32))))) else x_bind (f_X5_endOfRun rd3 (97 : Int32) (122 : Int32)) fun (q15 : (Int32 × SD)) => (x_let (fun (y17 : Int32) => (x_let (upS q15.2 5 0 5 y17) fun (rd18 : SD) => some (rd18) : Option SD)) fun K16 => (if (8 : Int32) < q15.1 then K16 ((1 : Int32)) else K16 ((2 : Int32))))) else x_let (upS rd3 5 0 5 (0 : Int32)) fun (rd19 : SD) => some (rd19)) : Option SD)) fun K2 => (if (rd_8 5 0 2) ≤ (rd_8 5 0 3) then K2 (()) else x_guard (vp_in (rd_8 5 0 3) 900) <| (x_let (fun (_u : Unit) => (x_let (upS rd_8 5 0 3 ((rd_8 5 0 3) + (1 : Int32))) fun (rd22 : SD) => f_X5_nextToken_L8  n_8 (rd22) : Option SD)) fun K21 => (if (rd_8 20 0 ((rd_8 5 0 3)).toNatClampNeg) = (32 : Int32) then K21 (()) else x_guard (vp_in (rd_8 5 0 3) 900) <| (if (rd_8 20 0 ((rd_8 5 0 3)).toNatClampNeg) = (10 : Int32) then K21 (()) else K2 (()))))))
noncomputable def f_X5_nextToken (rd : SD) : Option SD := x_let (upS rd 5 0 3 (rd 5 0 4)) fun (rd1 : SD) => f_X5_nextToken_L8  fuel (rd1)
noncomputable def f_X5_wordIs_L (rd : SD) (n : Nat) : Nat → Int32 → Option Int32
  | 0, _ => none
  | m + 1, i => if nI (slen.getD n 0) ≤ i then some (1 : Int32) else x_guard (vp_in (rd 5 0 3 + i) 900) <| x_guard (vp_in i (slen.getD n 0)) <| if rd 20 0 (rd 5 0 3 + i).toNatClampNeg = (sbyt.getD n []).getD i.toNatClampNeg 0 then f_X5_wordIs_L rd n m (i + 1) else some (0 : Int32)
noncomputable def f_X5_wordIs (rd : SD) (n : Nat) : Option Int32 := if rd 5 0 5 = 2 then (if rd 5 0 4 - rd 5 0 3 = nI (slen.getD n 0) then f_X5_wordIs_L rd n fuel 0 else some (0 : Int32)) else some (0 : Int32)
noncomputable def f_X5_fail (rd : SD) (a1 : Int32) : Option (Int32 × SD) := x_let (upS rd 5 0 7 a1) fun (rd1 : SD) => x_let (upS rd1 5 0 8 (rd1 5 0 3)) fun (rd2 : SD) => some ((0 : Int32), rd2)
noncomputable def f_X5_failUnexpected (rd : SD) : Option (Int32 × SD) := (x_let (fun (y2 : Int32) => (x_bind (f_X5_fail rd y2) fun (q3 : (Int32 × SD)) => x_guard (q3.1 = 0 ∨ q3.1 = 1) <| some (q3.1, q3.2) : Option (Int32 × SD))) fun K1 => (if (rd 5 0 5) = (1 : Int32) then K1 ((1 : Int32)) else K1 ((2 : Int32))))
noncomputable def f_X5_tokenValue_L7 (rd : SD) : Nat → Int32 → Int32 → Option Int32
  | 0, _, _ => none
  | n_7 + 1, v1_7, v2_7 => (if (rd 5 0 4) ≤ v2_7 then some (v1_7) else x_guard (vp_in v2_7 900) <| x_let (((v1_7 * (10 : Int32)) + ((rd 20 0 (v2_7).toNatClampNeg) - (48 : Int32)))) fun (x3 : Int32) => x_let (v2_7 + (1 : Int32)) fun (x4 : Int32) => f_X5_tokenValue_L7 rd n_7 (x3) (x4))
noncomputable def f_X5_tokenValue (rd : SD) : Option Int32 := x_let ((rd 5 0 3)) fun (x1 : Int32) => f_X5_tokenValue_L7 rd fuel ((0 : Int32)) (x1)
noncomputable def f_X5_readNumber (rd : SD) (a1 : Int32) (a2 : Int32) : Option (Int32 × SD) := x_bind (f_X5_nextToken rd) fun (q1 : SD) => (if (q1 5 0 5) = (3 : Int32) then x_bind (f_X5_tokenValue q1) fun (q2 : Int32) => (x_let (fun (_u : Unit) => (x_bind (f_X5_fail q1 (3 : Int32)) fun (q4 : (Int32 × SD)) => some ((-1 : Int32), q4.2) : Option (Int32 × SD))) fun K3 => (if q2 < a1 then K3 (()) else (if q2 ≤ a2 then some (q2, q1) else K3 (())))) else x_bind (f_X5_failUnexpected q1) fun (q5 : (Int32 × SD)) => some ((-1 : Int32), q5.2))
noncomputable def f_X5_readSlots (sd : SD) (rd : SD) : Option (Int32 × SD × SD) := x_bind (f_X5_readNumber rd (4 : Int32) (24 : Int32)) fun (q1 : (Int32 × SD)) => x_let (q1.1) fun (x2 : Int32) => (if x2 = (-1 : Int32) then some ((0 : Int32), sd, q1.2) else x_let (upS sd 4 0 0 x2) fun (sd3 : SD) => some ((1 : Int32), sd3, q1.2))
noncomputable def f_X5_readDrive (sd : SD) (rd : SD) : Option (Int32 × SD × SD) := (if (sd 4 0 3) < (4 : Int32) then x_bind (f_X5_readNumber rd (0 : Int32) (((sd 4 0 0) - (1 : Int32)))) fun (q1 : (Int32 × SD)) => x_let (q1.1) fun (x2 : Int32) => (if x2 = (-1 : Int32) then some ((0 : Int32), sd, q1.2) else x_bind (f_X4_addDrive sd x2) fun (q3 : SD) => some ((1 : Int32), q3, q1.2)) else x_bind (f_X5_fail rd (5 : Int32)) fun (q4 : (Int32 × SD)) => x_guard (q4.1 = 0 ∨ q4.1 = 1) <| some (q4.1, sd, q4.2))
noncomputable def f_X5_readTimes_L2  : Nat → Int32 → SD → SD → Option (Int32 × SD × SD)
  | 0, _, _, _ => none
  | n_2 + 1, v2_2, sd_2, rd_2 => (if (5 : Int32) ≤ v2_2 then some ((1 : Int32), sd_2, rd_2) else x_bind (f_X5_readNumber rd_2 (0 : Int32) (99 : Int32)) fun (q1 : (Int32 × SD)) => x_let (q1.1) fun (x2 : Int32) => (if x2 = (-1 : Int32) then some ((0 : Int32), sd_2, q1.2) else x_guard (vp_in v2_2 5) <| x_let (upS sd_2 10 0 (v2_2).toNatClampNeg x2) fun (sd4 : SD) => x_let (v2_2 + (1 : Int32)) fun (x5 : Int32) => f_X5_readTimes_L2  n_2 (x5) (sd4) (q1.2)))
noncomputable def f_X5_readTimes (sd : SD) (rd : SD) : Option (Int32 × SD × SD) := f_X5_readTimes_L2  fuel ((0 : Int32)) (sd) (rd)
noncomputable def f_X5_readPlatter (sd : SD) (rd : SD) : Option (Int32 × SD × SD) := (if (sd 4 0 6) < (10 : Int32) then x_bind (f_X5_readNumber rd (0 : Int32) (((sd 4 0 0) - (1 : Int32)))) fun (q1 : (Int32 × SD)) => x_let (q1.1) fun (x2 : Int32) => (if x2 = (-1 : Int32) then some ((0 : Int32), sd, q1.2) else x_bind (f_X4_platterWithHome sd x2) fun (q3 : Int32) => (if q3 = (-1 : Int32) then x_bind (f_X5_readNumber (q1.2) (10 : Int32) (300 : Int32)) fun (q4 : (Int32 × SD)) => x_let (q4.1) fun (x5 : Int32) => (if x5 = (-1 : Int32) then some ((0 : Int32), sd, q4.2) else x_bind (f_X5_readNumber (q4.2) (0 : Int32) (9 : Int32)) fun (q6 : (Int32 × SD)) => x_let (q6.1) fun (x7 : Int32) => (if x7 = (-1 : Int32) then some ((0 : Int32), sd, q6.2) else x_bind (f_X4_addPlatter sd x2 x5 x7) fun (q8 : SD) => some ((1 : Int32), q8, q6.2))) else x_bind (f_X5_fail (q1.2) (4 : Int32)) fun (q9 : (Int32 × SD)) => x_guard (q9.1 = 0 ∨ q9.1 = 1) <| some (q9.1, sd, q9.2))) else x_bind (f_X5_fail rd (5 : Int32)) fun (q11 : (Int32 × SD)) => x_guard (q11.1 = 0 ∨ q11.1 = 1) <| some (q11.1, sd, q11.2))
noncomputable def f_X5_readBad (sd : SD) (rd : SD) : Option (Int32 × SD × SD) := (if (sd 4 0 7) < (20 : Int32) then x_bind (f_X5_readNumber rd (0 : Int32) (((sd 4 0 6) - (1 : Int32)))) fun (q1 : (Int32 × SD)) => x_let (q1.1) fun (x2 : Int32) => (if x2 = (-1 : Int32) then some ((0 : Int32), sd, q1.2) else x_guard (vp_in x2 10) <| x_bind (f_X5_readNumber (q1.2) (0 : Int32) (((sd 3 (x2).toNatClampNeg 1) - (1 : Int32)))) fun (q4 : (Int32 × SD)) => x_let (q4.1) fun (x5 : Int32) => (if x5 = (-1 : Int32) then some ((0 : Int32), sd, q4.2) else x_guard (vp_in x2 10) <| x_bind (f_X3_isBad sd ((x2).toNatClampNeg) x5) fun (q7 : Int32) => (if q7 = 0 then x_bind (f_X4_spoil sd x2 x5) fun (q8 : SD) => some ((1 : Int32), q8, q4.2) else x_bind (f_X5_fail (q4.2) (4 : Int32)) fun (q9 : (Int32 × SD)) => x_guard (q9.1 = 0 ∨ q9.1 = 1) <| some (q9.1, sd, q9.2)))) else x_bind (f_X5_fail rd (5 : Int32)) fun (q11 : (Int32 × SD)) => x_guard (q11.1 = 0 ∨ q11.1 = 1) <| some (q11.1, sd, q11.2))
noncomputable def f_X5_isReserved (rd : SD) : Option Int32 := x_bind (f_X5_wordIs rd (0)) fun (q1 : Int32) => (if q1 = 0 then x_bind (f_X5_wordIs rd (1)) fun (q2 : Int32) => (if q2 = 0 then x_bind (f_X5_wordIs rd (2)) fun (q3 : Int32) => (if q3 = 0 then x_bind (f_X5_wordIs rd (3)) fun (q4 : Int32) => (if q4 = 0 then x_bind (f_X5_wordIs rd (4)) fun (q5 : Int32) => (if q5 = 0 then x_bind (f_X5_wordIs rd (5)) fun (q6 : Int32) => (if q6 = 0 then x_bind (f_X5_wordIs rd (6)) fun (q7 : Int32) => (if q7 = 0 then some ((0 : Int32)) else some ((1 : Int32))) else some ((1 : Int32))) else some ((1 : Int32))) else some ((1 : Int32))) else some ((1 : Int32))) else some ((1 : Int32))) else some ((1 : Int32)))
noncomputable def f_X5_wordNumber_L7 (rd : SD) : Nat → Int64 → Int32 → Option Int64
  | 0, _, _ => none
  | n_7 + 1, v1_7, v3_7 => (if (rd 5 0 4) ≤ v3_7 then some (v1_7) else x_guard (vp_in v3_7 900) <| x_let (((v1_7 * (32 : Int64)) + ((((rd 20 0 (v3_7).toNatClampNeg) - (97 : Int32)) + (1 : Int32))).toInt64)) fun (x3 : Int64) => x_let (v3_7 + (1 : Int32)) fun (x4 : Int32) => f_X5_wordNumber_L7 rd n_7 (x3) (x4))
noncomputable def f_X5_wordNumber (rd : SD) : Option Int64 := x_let ((rd 5 0 3)) fun (x1 : Int32) => f_X5_wordNumber_L7 rd fuel ((0 : Int64)) (x1)
noncomputable def f_X5_keepName_L8 (a1 : Int32) (rn : Nat → Int64) (q1 : Int64) : Nat → Int32 → Option (Int32 × (Nat → Int64))
  | 0, _ => none
  | n_8 + 1, v4_8 => (if a1 ≤ v4_8 then x_guard (vp_in a1 20) <| x_let (vp_updL rn (a1).toNatClampNeg q1) fun (rn3 : Nat → Int64) => some ((1 : Int32), rn3) else x_guard (vp_in v4_8 20) <| (if (lg_cmp (rn (v4_8).toNatClampNeg) q1) = 0 then some ((0 : Int32), rn) else x_let (v4_8 + (1 : Int32)) fun (x5 : Int32) => f_X5_keepName_L8 a1 rn q1 n_8 (x5)))
noncomputable def f_X5_keepName (rd : SD) (rn : Nat → Int64) (a1 : Int32) : Option (Int32 × (Nat → Int64)) := x_bind (f_X5_wordNumber rd) fun (q1 : Int64) => f_X5_keepName_L8 a1 rn q1 fuel ((0 : Int32))
noncomputable def f_X5_readNewFile (sd : SD) (rd : SD) (rn : Nat → Int64) : Option (Int32 × SD × SD × (Nat → Int64)) := (if (sd 4 0 11) < (20 : Int32) then x_bind (f_X5_nextToken rd) fun (q1 : SD) => (x_let (fun (_u : Unit) => (x_bind (f_X5_failUnexpected q1) fun (q3 : (Int32 × SD)) => x_guard (q3.1 = 0 ∨ q3.1 = 1) <| some (q3.1, sd, q3.2, rn) : Option (Int32 × SD × SD × (Nat → Int64)))) fun K2 => (if (q1 5 0 5) = (2 : Int32) then x_bind (f_X5_isReserved q1) fun (q5 : Int32) => (if q5 = 0 then x_bind (f_X5_keepName q1 rn ((sd 4 0 11))) fun (q6 : (Int32 × (Nat → Int64))) => (if q6.1 = 0 then x_bind (f_X5_fail q1 (4 : Int32)) fun (q17 : (Int32 × SD)) => x_guard (q17.1 = 0 ∨ q17.1 = 1) <| some (q17.1, sd, q17.2, q6.2) else x_bind (f_X5_readNumber q1 (1 : Int32) (300 : Int32)) fun (q7 : (Int32 × SD)) => x_let (q7.1) fun (x8 : Int32) => (if x8 = (-1 : Int32) then some ((0 : Int32), sd, q7.2, q6.2) else x_bind (f_X5_readNumber (q7.2) (0 : Int32) (((sd 4 0 6) - (1 : Int32)))) fun (q9 : (Int32 × SD)) => x_let (q9.1) fun (x10 : Int32) => (if x10 = (-1 : Int32) then some ((0 : Int32), sd, q9.2, q6.2) else x_guard (vp_in x10 10) <| x_bind (f_X3_canTake sd ((x10).toNatClampNeg) x8) fun (q12 : Int32) => (if q12 = 0 then x_bind (f_X5_fail (q9.2) (6 : Int32)) fun (q15 : (Int32 × SD)) => x_guard (q15.1 = 0 ∨ q15.1 = 1) <| some (q15.1, sd, q15.2, q6.2) else x_let (upS sd 4 0 11 ((sd 4 0 11) + (1 : Int32))) fun (sd13 : SD) => x_bind (f_X4_addVersion sd13 (((sd13 4 0 11) - (1 : Int32))) x8 x10) fun (q14 : SD) => some ((1 : Int32), q14, q9.2, q6.2))))) else K2 (())) else K2 (()))) else x_bind (f_X5_fail rd (5 : Int32)) fun (q19 : (Int32 × SD)) => x_guard (q19.1 = 0 ∨ q19.1 = 1) <| some (q19.1, sd, q19.2, rn))
noncomputable def f_X5_readClose (sd : SD) (rd : SD) : Option (Int32 × SD × SD) := x_bind (f_X5_readNumber rd (0 : Int32) (((sd 4 0 6) - (1 : Int32)))) fun (q1 : (Int32 × SD)) => x_let (q1.1) fun (x2 : Int32) => (if x2 = (-1 : Int32) then some ((0 : Int32), sd, q1.2) else x_guard (vp_in x2 10) <| (if (sd 3 (x2).toNatClampNeg 5) = 0 then x_bind (f_X5_fail (q1.2) (6 : Int32)) fun (q6 : (Int32 × SD)) => x_guard (q6.1 = 0 ∨ q6.1 = 1) <| some (q6.1, sd, q6.2) else x_guard (vp_in x2 10) <| x_bind (f_X3_addLeadOut sd ((x2).toNatClampNeg)) fun (q5 : (Int32 × SD)) => some ((1 : Int32), q5.2, q1.2)))
noncomputable def f_X5_readStatement (sd : SD) (rd : SD) (rn : Nat → Int64) (a1 : Int32) : Option (Int32 × SD × SD × (Nat → Int64)) := x_bind (f_X5_wordIs rd (0)) fun (q1 : Int32) => (if q1 = 0 then x_bind (f_X5_wordIs rd (1)) fun (q2 : Int32) => (if q2 = 0 then x_bind (f_X5_wordIs rd (2)) fun (q3 : Int32) => (if q3 = 0 then x_bind (f_X5_wordIs rd (3)) fun (q4 : Int32) => (if q4 = 0 then x_bind (f_X5_wordIs rd (4)) fun (q5 : Int32) => (if q5 = 0 then x_bind (f_X5_wordIs rd (5)) fun (q6 : Int32) => (if q6 = 0 then x_bind (f_X5_wordIs rd (6)) fun (q7 : Int32) => (if q7 = 0 then x_bind (f_X5_failUnexpected rd) fun (q8 : (Int32 × SD)) => x_guard (q8.1 = 0 ∨ q8.1 = 1) <| some (q8.1, sd, q8.2, rn) else x_bind (f_X5_readClose sd rd) fun (q10 : (Int32 × SD × SD)) => x_guard (q10.1 = 0 ∨ q10.1 = 1) <| some (q10.1, q10.2.1, q10.2.2, rn)) else x_bind (f_X5_readNewFile sd rd rn) fun (q12 : (Int32 × SD × SD × (Nat → Int64))) => x_guard (q12.1 = 0 ∨ q12.1 = 1) <| some (q12.1, q12.2.1, q12.2.2.1, q12.2.2.2)) else x_bind (f_X5_readBad sd rd) fun (q14 : (Int32 × SD × SD)) => x_guard (q14.1 = 0 ∨ q14.1 = 1) <| some (q14.1, q14.2.1, q14.2.2, rn)) else x_bind (f_X5_readPlatter sd rd) fun (q16 : (Int32 × SD × SD)) => x_guard (q16.1 = 0 ∨ q16.1 = 1) <| some (q16.1, q16.2.1, q16.2.2, rn)) else x_bind (f_X5_readTimes sd rd) fun (q18 : (Int32 × SD × SD)) => x_guard (q18.1 = 0 ∨ q18.1 = 1) <| some (q18.1, q18.2.1, q18.2.2, rn)) else x_bind (f_X5_readDrive sd rd) fun (q20 : (Int32 × SD × SD)) => x_guard (q20.1 = 0 ∨ q20.1 = 1) <| some (q20.1, q20.2.1, q20.2.2, rn)) else (if a1 = 0 then x_bind (f_X5_fail rd (5 : Int32)) fun (q22 : (Int32 × SD)) => x_guard (q22.1 = 0 ∨ q22.1 = 1) <| some (q22.1, sd, q22.2, rn) else x_bind (f_X5_readSlots sd rd) fun (q24 : (Int32 × SD × SD)) => x_guard (q24.1 = 0 ∨ q24.1 = 1) <| some (q24.1, q24.2.1, q24.2.2, rn)))
noncomputable def f_X5_readSemicolon (rd : SD) : Option (Int32 × SD) := x_bind (f_X5_nextToken rd) fun (q1 : SD) => (if (q1 5 0 5) = (4 : Int32) then some ((1 : Int32), q1) else x_bind (f_X5_failUnexpected q1) fun (q2 : (Int32 × SD)) => x_guard (q2.1 = 0 ∨ q2.1 = 1) <| some (q2.1, q2.2))
noncomputable def f_X5_readText_L33  : Nat → Int32 → SD → SD → (Nat → Int64) → Option (Int32 × SD × SD × (Nat → Int64))
  | 0, _, _, _, _ => none
  | n_33 + 1, v3_33, sd_33, rd_33, rn_33 => (if (rd_33 5 0 2) < v3_33 then some ((0 : Int32), sd_33, rd_33, rn_33) else x_bind (f_X5_nextToken rd_33) fun (q6 : SD) => (if (q6 5 0 5) = 0 then some ((1 : Int32), sd_33, q6, rn_33) else (x_let (fun (y8 : Int32) => (x_bind (f_X5_readStatement sd_33 q6 rn_33 y8) fun (q9 : (Int32 × SD × SD × (Nat → Int64))) => (if q9.1 = 0 then some ((0 : Int32), q9.2.1, q9.2.2.1, q9.2.2.2) else x_bind (f_X5_readSemicolon (q9.2.2.1)) fun (q10 : (Int32 × SD)) => (if q10.1 = 0 then some ((0 : Int32), q9.2.1, q10.2, q9.2.2.2) else x_let (v3_33 + (1 : Int32)) fun (x11 : Int32) => f_X5_readText_L33  n_33 (x11) (q9.2.1) (q10.2) (q9.2.2.2))) : Option (Int32 × SD × SD × (Nat → Int64)))) fun K7 => (if v3_33 = 0 then K7 ((1 : Int32)) else K7 ((0 : Int32))))))
noncomputable def f_X5_readText (sd : SD) (rd : SD) (rn : Nat → Int64) (a1 : Int32) : Option (Int32 × SD × SD × (Nat → Int64)) := x_let (upS rd 5 0 2 (if (rd 5 0 1) < a1 then (rd 5 0 1) else a1)) fun (rd1 : SD) => x_let (upS rd1 5 0 4 (0 : Int32)) fun (rd2 : SD) => x_let (upS rd2 5 0 7 (0 : Int32)) fun (rd3 : SD) => x_let (upS rd3 5 0 8 (0 : Int32)) fun (rd4 : SD) => x_bind (f_X4_beginEmpty sd) fun (q5 : SD) => f_X5_readText_L33  fuel ((0 : Int32)) (q5) (rd4) (rn)
noncomputable def f_X8_defaults_L21 (k0 : Nat) : Nat → Int32 → SD → Option SD
  | 0, _, _ => none
  | n_21 + 1, v1_21, md_21 => (if (4 : Int32) ≤ v1_21 then x_let (upS md_21 k0 0 0 (12 : Int32)) fun (md1 : SD) => x_let (upS md1 k0 0 1 (1 : Int32)) fun (md2 : SD) => x_let (upS md2 k0 0 2 (2 : Int32)) fun (md3 : SD) => x_let (upS md3 k0 0 3 (5 : Int32)) fun (md4 : SD) => x_let (upS md4 k0 0 4 (1 : Int32)) fun (md5 : SD) => x_let (upS md5 k0 0 5 (3 : Int32)) fun (md6 : SD) => some (md6) else x_guard (vp_in ((21 : Int32) + v1_21) 605) <| x_let (upS md_21 k0 0 (((21 : Int32) + v1_21)).toNatClampNeg (-1 : Int32)) fun (md8 : SD) => x_let (v1_21 + (1 : Int32)) fun (x9 : Int32) => f_X8_defaults_L21 k0 n_21 (x9) (md8))
noncomputable def f_X8_defaults_L2 (k0 : Nat) : Nat → Int32 → SD → Option SD
  | 0, _, _ => none
  | n_2 + 1, v1_2, md_2 => (if (605 : Int32) ≤ v1_2 then f_X8_defaults_L21 k0 fuel ((0 : Int32)) (md_2) else x_guard (vp_in v1_2 605) <| x_let (upS md_2 k0 0 (v1_2).toNatClampNeg (0 : Int32)) fun (md11 : SD) => x_let (v1_2 + (1 : Int32)) fun (x12 : Int32) => f_X8_defaults_L2 k0 n_2 (x12) (md11))
noncomputable def f_X8_defaults (md : SD) (k0 : Nat) : Option SD := f_X8_defaults_L2 k0 fuel ((0 : Int32)) (md)
noncomputable def f_X8_isIn (a0 : Int64) (a2 : Int64) (a4 : Int64) : Option Int32 := (if (lg_cmp a0 a2) < 0 then some ((0 : Int32)) else (if 0 < (lg_cmp a0 a4) then some ((0 : Int32)) else some ((1 : Int32))))
noncomputable def f_X8_far (a0 : Int32) (a1 : Int32) : Option Int32 := (if a1 ≤ a0 then some ((a0 - a1)) else some ((a1 - a0)))
noncomputable def f_X8_copies_L2 (k1 : Nat) (k0 : Nat) : Nat → Int32 → SD → Option SD
  | 0, _, _ => none
  | n_2 + 1, v2_2, md_2 => (if (605 : Int32) ≤ v2_2 then some (md_2) else x_guard (vp_in v2_2 605) <| x_guard (vp_in v2_2 605) <| x_let (upS md_2 k1 0 (v2_2).toNatClampNeg (md_2 k0 0 (v2_2).toNatClampNeg)) fun (md3 : SD) => x_let (v2_2 + (1 : Int32)) fun (x4 : Int32) => f_X8_copies_L2 k1 k0 n_2 (x4) (md3))
noncomputable def f_X8_copies (md : SD) (k0 : Nat) (k1 : Nat) : Option SD := f_X8_copies_L2 k1 k0 fuel ((0 : Int32)) (md)
noncomputable def f_X8_remembers_L52  : Nat → Int32 → SD → Option SD
  | 0, _, _ => none
  | n_52 + 1, v1_52, md_52 => (if (605 : Int32) ≤ v1_52 then x_let (upS md_52 8 0 5 ((md_52 8 0 5) + (1 : Int32))) fun (md1 : SD) => some (md1) else x_guard (vp_in v1_52 605) <| x_guard (vp_in (((605 : Int32) * (md_52 8 0 5)) + v1_52) 9680) <| x_let (upS md_52 33 0 ((((605 : Int32) * (md_52 8 0 5)) + v1_52)).toNatClampNeg (md_52 30 0 (v1_52).toNatClampNeg)) fun (md4 : SD) => x_let (v1_52 + (1 : Int32)) fun (x5 : Int32) => f_X8_remembers_L52  n_52 (x5) (md4))
noncomputable def f_X8_remembers_L52b  : Nat → Int32 → SD → Option SD
  | 0, _, _ => none
  | n_52 + 1, v1_52, md_52 => (if (605 : Int32) ≤ v1_52 then x_let (upS md_52 8 0 5 ((md_52 8 0 5) + (1 : Int32))) fun (md7 : SD) => some (md7) else x_guard (vp_in v1_52 605) <| x_guard (vp_in (((605 : Int32) * (md_52 8 0 5)) + v1_52) 9680) <| x_let (upS md_52 33 0 ((((605 : Int32) * (md_52 8 0 5)) + v1_52)).toNatClampNeg (md_52 30 0 (v1_52).toNatClampNeg)) fun (md10 : SD) => x_let (v1_52 + (1 : Int32)) fun (x11 : Int32) => f_X8_remembers_L52b  n_52 (x11) (md10))
noncomputable def f_X8_remembers_L11  : Nat → Int32 → SD → Option SD
  | 0, _, _ => none
  | n_11 + 1, v1_11, md_11 => (if (9075 : Int32) ≤ v1_11 then x_let (upS md_11 8 0 5 ((md_11 8 0 5) - (1 : Int32))) fun (md6 : SD) => f_X8_remembers_L52b  fuel ((0 : Int32)) (md6) else x_guard (vp_in (v1_11 + (605 : Int32)) 9680) <| x_guard (vp_in v1_11 9680) <| x_let (upS md_11 33 0 (v1_11).toNatClampNeg (md_11 33 0 ((v1_11 + (605 : Int32))).toNatClampNeg)) fun (md14 : SD) => x_let (v1_11 + (1 : Int32)) fun (x15 : Int32) => f_X8_remembers_L11  n_11 (x15) (md14))
noncomputable def f_X8_remembers (md : SD) : Option SD := (if (md 8 0 5) = (16 : Int32) then f_X8_remembers_L11  fuel ((0 : Int32)) (md) else f_X8_remembers_L52  fuel ((0 : Int32)) (md))
noncomputable def f_X8_isPlatter (md : SD) (a1 : Int32) : Option Int32 := x_bind (f_X8_isIn ((a1).toInt64) (0 : Int64) ((((md 30 0 7) - (1 : Int32))).toInt64)) fun (q1 : Int32) => x_guard (q1 = 0 ∨ q1 = 1) <| some (q1)
noncomputable def f_X8_isDrive (md : SD) (a1 : Int32) : Option Int32 := x_bind (f_X8_isIn ((a1).toInt64) (0 : Int64) ((((md 30 0 6) - (1 : Int32))).toInt64)) fun (q1 : Int32) => x_guard (q1 = 0 ∨ q1 = 1) <| some (q1)
noncomputable def f_X8_isSlot (md : SD) (a1 : Int32) : Option Int32 := x_bind (f_X8_isIn ((a1).toInt64) (0 : Int64) ((((md 30 0 0) - (1 : Int32))).toInt64)) fun (q1 : Int32) => x_guard (q1 = 0 ∨ q1 = 1) <| some (q1)
noncomputable def f_X8_isFile (md : SD) (a1 : Int32) : Option Int32 := x_bind (f_X8_isIn ((a1).toInt64) (0 : Int64) ((((md 30 0 9) - (1 : Int32))).toInt64)) fun (q1 : Int32) => x_guard (q1 = 0 ∨ q1 = 1) <| some (q1)
noncomputable def f_X8_isSector (md : SD) (a1 : Int32) (a2 : Int32) : Option Int32 := x_bind (f_X8_isPlatter md a1) fun (q1 : Int32) => (if q1 = 0 then some ((0 : Int32)) else x_guard (vp_in ((39 : Int32) + a1) 605) <| x_bind (f_X8_isIn ((a2).toInt64) (0 : Int64) ((((md 30 0 (((39 : Int32) + a1)).toNatClampNeg) - (1 : Int32))).toInt64)) fun (q3 : Int32) => (if q3 = 0 then some ((0 : Int32)) else some ((1 : Int32))))
noncomputable def f_X8_isRequest (md : SD) (a1 : Int32) : Option Int32 := x_bind (f_X8_isIn ((a1).toInt64) (0 : Int64) ((((md 30 0 16) - (1 : Int32))).toInt64)) fun (q1 : Int32) => x_guard (q1 = 0 ∨ q1 = 1) <| some (q1)
noncomputable def f_X8_isBad_L2 (md : SD) (k0 : Nat) (a1 : Int32) (a2 : Int32) : Nat → Int32 → Option Int32
  | 0, _ => none
  | n_2 + 1, v3_2 => (if (md k0 0 8) ≤ v3_2 then some ((0 : Int32)) else x_guard (vp_in ((249 : Int32) + v3_2) 605) <| (if (md k0 0 (((249 : Int32) + v3_2)).toNatClampNeg) = a1 then x_guard (vp_in ((269 : Int32) + v3_2) 605) <| (if (md k0 0 (((269 : Int32) + v3_2)).toNatClampNeg) = a2 then some ((1 : Int32)) else x_let (v3_2 + (1 : Int32)) fun (x4 : Int32) => f_X8_isBad_L2 md k0 a1 a2 n_2 (x4)) else x_let (v3_2 + (1 : Int32)) fun (x2 : Int32) => f_X8_isBad_L2 md k0 a1 a2 n_2 (x2)))
noncomputable def f_X8_isBad (md : SD) (k0 : Nat) (a1 : Int32) (a2 : Int32) : Option Int32 := f_X8_isBad_L2 md k0 a1 a2 fuel ((0 : Int32))
noncomputable def f_X8_badsIn_L6 (md : SD) (k0 : Nat) (a1 : Int32) (a2 : Int32) (a3 : Int32) : Nat → Int32 → Int32 → Option Int32
  | 0, _, _ => none
  | n_6 + 1, v4_6, v5_6 => (if (md k0 0 8) ≤ v5_6 then some (v4_6) else x_guard (vp_in ((249 : Int32) + v5_6) 605) <| (x_let (fun (y3 : Int32) => (x_let ((v4_6 + y3)) fun (x4 : Int32) => x_let (v5_6 + (1 : Int32)) fun (x5 : Int32) => f_X8_badsIn_L6 md k0 a1 a2 a3 n_6 (x4) (x5) : Option Int32)) fun K2 => (x_let (fun (_u : Unit) => (K2 ((0 : Int32)) : Option Int32)) fun K6 => (if (md k0 0 (((249 : Int32) + v5_6)).toNatClampNeg) = a1 then x_guard (vp_in ((269 : Int32) + v5_6) 605) <| x_bind (f_X8_isIn (((md k0 0 (((269 : Int32) + v5_6)).toNatClampNeg)).toInt64) ((a2).toInt64) ((((a2 + a3) - (1 : Int32))).toInt64)) fun (q8 : Int32) => (if q8 = 0 then K6 (()) else K2 ((1 : Int32))) else K6 (())))))
noncomputable def f_X8_badsIn (md : SD) (k0 : Nat) (a1 : Int32) (a2 : Int32) (a3 : Int32) : Option Int32 := f_X8_badsIn_L6 md k0 a1 a2 a3 fuel ((0 : Int32)) ((0 : Int32))
noncomputable def f_X8_canWrite (md : SD) (k0 : Nat) (a1 : Int32) (a2 : Int32) : Option Int32 := x_guard (vp_in ((79 : Int32) + a1) 605) <| (x_let (fun (_u : Unit) => (x_guard (vp_in ((59 : Int32) + a1) 605) <| x_let ((md k0 0 (((59 : Int32) + a1)).toNatClampNeg)) fun (x4 : Int32) => x_guard (vp_in ((39 : Int32) + a1) 605) <| (if ((md k0 0 (((39 : Int32) + a1)).toNatClampNeg) - x4) < a2 then some ((0 : Int32)) else x_bind (f_X8_badsIn md k0 a1 x4 a2) fun (q6 : Int32) => x_guard (vp_in ((49 : Int32) + a1) 605) <| (if (md k0 0 (((49 : Int32) + a1)).toNatClampNeg) < q6 then some ((0 : Int32)) else some ((1 : Int32)))) : Option Int32)) fun K2 => (if (md k0 0 (((79 : Int32) + a1)).toNatClampNeg) = 0 then x_guard (vp_in ((69 : Int32) + a1) 605) <| (if (md k0 0 (((69 : Int32) + a1)).toNatClampNeg) = (8 : Int32) then some ((0 : Int32)) else K2 (())) else K2 (())))
noncomputable def f_X8_writesVersion (md : SD) (k0 : Nat) (a1 : Int32) (a2 : Int32) (a3 : Int32) : Option SD := x_guard (vp_in ((59 : Int32) + a2) 605) <| x_let ((md k0 0 (((59 : Int32) + a2)).toNatClampNeg)) fun (x2 : Int32) => x_guard (vp_in ((79 : Int32) + a2) 605) <| (x_let (fun (md5 : SD) => (x_guard (vp_in ((69 : Int32) + a2) 605) <| x_let (((md5 k0 0 (((69 : Int32) + a2)).toNatClampNeg) - (1 : Int32))) fun (x7 : Int32) => x_bind (f_X8_badsIn md5 k0 a2 x2 a3) fun (q8 : Int32) => x_let ((md5 k0 0 10)) fun (x9 : Int32) => x_let (upS md5 k0 0 10 ((md5 k0 0 10) + (1 : Int32))) fun (md10 : SD) => x_guard (vp_in ((309 : Int32) + x9) 605) <| x_let (upS md10 k0 0 (((309 : Int32) + x9)).toNatClampNeg a1) fun (md12 : SD) => x_guard (vp_in ((349 : Int32) + x9) 605) <| x_let (upS md12 k0 0 (((349 : Int32) + x9)).toNatClampNeg a2) fun (md14 : SD) => x_guard (vp_in ((389 : Int32) + x9) 605) <| x_let (upS md14 k0 0 (((389 : Int32) + x9)).toNatClampNeg x2) fun (md16 : SD) => x_guard (vp_in ((429 : Int32) + x9) 605) <| x_let (upS md16 k0 0 (((429 : Int32) + x9)).toNatClampNeg a3) fun (md18 : SD) => x_guard (vp_in ((469 : Int32) + x9) 605) <| x_let (upS md18 k0 0 (((469 : Int32) + x9)).toNatClampNeg x7) fun (md20 : SD) => x_guard (vp_in ((509 : Int32) + x9) 605) <| x_let (upS md20 k0 0 (((509 : Int32) + x9)).toNatClampNeg q8) fun (md22 : SD) => x_guard (vp_in ((549 : Int32) + x9) 605) <| x_let (upS md22 k0 0 (((549 : Int32) + x9)).toNatClampNeg (0 : Int32)) fun (md24 : SD) => x_guard (vp_in ((289 : Int32) + a1) 605) <| x_let (upS md24 k0 0 (((289 : Int32) + a1)).toNatClampNeg x9) fun (md26 : SD) => x_guard (vp_in ((49 : Int32) + a2) 605) <| x_guard (vp_in ((49 : Int32) + a2) 605) <| x_let (upS md26 k0 0 (((49 : Int32) + a2)).toNatClampNeg ((md26 k0 0 (((49 : Int32) + a2)).toNatClampNeg) - q8)) fun (md29 : SD) => x_guard (vp_in ((59 : Int32) + a2) 605) <| x_guard (vp_in ((59 : Int32) + a2) 605) <| x_let (upS md29 k0 0 (((59 : Int32) + a2)).toNatClampNeg ((md29 k0 0 (((59 : Int32) + a2)).toNatClampNeg) + a3)) fun (md32 : SD) => x_guard (vp_in (((169 : Int32) + ((8 : Int32) * a2)) + x7) 605) <| x_guard (vp_in (((169 : Int32) + ((8 : Int32) * a2)) + x7) 605) <| x_let (upS md32 k0 0 ((((169 : Int32) + ((8 : Int32) * a2)) + x7)).toNatClampNeg ((md32 k0 0 ((((169 : Int32) + ((8 : Int32) * a2)) + x7)).toNatClampNeg) + a3)) fun (md35 : SD) => some (md35) : Option SD)) fun K4 => (if (md k0 0 (((79 : Int32) + a2)).toNatClampNeg) = 0 then x_guard (vp_in ((69 : Int32) + a2) 605) <| x_guard (vp_in (((89 : Int32) + ((8 : Int32) * a2)) + (md k0 0 (((69 : Int32) + a2)).toNatClampNeg)) 605) <| x_let (upS md k0 0 ((((89 : Int32) + ((8 : Int32) * a2)) + (md k0 0 (((69 : Int32) + a2)).toNatClampNeg))).toNatClampNeg x2) fun (md38 : SD) => x_guard (vp_in ((69 : Int32) + a2) 605) <| x_guard (vp_in (((169 : Int32) + ((8 : Int32) * a2)) + (md38 k0 0 (((69 : Int32) + a2)).toNatClampNeg)) 605) <| x_let (upS md38 k0 0 ((((169 : Int32) + ((8 : Int32) * a2)) + (md38 k0 0 (((69 : Int32) + a2)).toNatClampNeg))).toNatClampNeg (0 : Int32)) fun (md41 : SD) => x_guard (vp_in ((69 : Int32) + a2) 605) <| x_guard (vp_in ((69 : Int32) + a2) 605) <| x_let (upS md41 k0 0 (((69 : Int32) + a2)).toNatClampNeg ((md41 k0 0 (((69 : Int32) + a2)).toNatClampNeg) + (1 : Int32))) fun (md44 : SD) => x_guard (vp_in ((79 : Int32) + a2) 605) <| x_let (upS md44 k0 0 (((79 : Int32) + a2)).toNatClampNeg (1 : Int32)) fun (md46 : SD) => K4 (md46) else K4 (md)))
noncomputable def f_X8_leadOut (md : SD) (k0 : Nat) (a1 : Int32) : Option Int32 := x_guard (vp_in ((39 : Int32) + a1) 605) <| x_guard (vp_in ((59 : Int32) + a1) 605) <| some ((if ((md k0 0 (((39 : Int32) + a1)).toNatClampNeg) - (md k0 0 (((59 : Int32) + a1)).toNatClampNeg)) < (2 : Int32) then ((md k0 0 (((39 : Int32) + a1)).toNatClampNeg) - (md k0 0 (((59 : Int32) + a1)).toNatClampNeg)) else (2 : Int32)))
noncomputable def f_X8_closes (md : SD) (k0 : Nat) (a1 : Int32) : Option SD := x_bind (f_X8_leadOut md k0 a1) fun (q1 : Int32) => x_guard (vp_in ((59 : Int32) + a1) 605) <| x_guard (vp_in ((59 : Int32) + a1) 605) <| x_let (upS md k0 0 (((59 : Int32) + a1)).toNatClampNeg ((md k0 0 (((59 : Int32) + a1)).toNatClampNeg) + q1)) fun (md4 : SD) => x_guard (vp_in ((69 : Int32) + a1) 605) <| x_guard (vp_in ((((169 : Int32) + ((8 : Int32) * a1)) + (md4 k0 0 (((69 : Int32) + a1)).toNatClampNeg)) - (1 : Int32)) 605) <| x_guard (vp_in ((((169 : Int32) + ((8 : Int32) * a1)) + (md4 k0 0 (((69 : Int32) + a1)).toNatClampNeg)) - (1 : Int32)) 605) <| x_let (upS md4 k0 0 (((((169 : Int32) + ((8 : Int32) * a1)) + (md4 k0 0 (((69 : Int32) + a1)).toNatClampNeg)) - (1 : Int32))).toNatClampNeg ((md4 k0 0 (((((169 : Int32) + ((8 : Int32) * a1)) + (md4 k0 0 (((69 : Int32) + a1)).toNatClampNeg)) - (1 : Int32))).toNatClampNeg) + q1)) fun (md8 : SD) => x_guard (vp_in ((79 : Int32) + a1) 605) <| x_let (upS md8 k0 0 (((79 : Int32) + a1)).toNatClampNeg (0 : Int32)) fun (md10 : SD) => some (md10)
noncomputable def f_X8_versionAt_L2 (md : SD) (k0 : Nat) (a1 : Int32) (a2 : Int32) : Nat → Int32 → Option Int32
  | 0, _ => none
  | n_2 + 1, v3_2 => (if (md k0 0 10) ≤ v3_2 then some ((-1 : Int32)) else x_guard (vp_in ((349 : Int32) + v3_2) 605) <| (if (md k0 0 (((349 : Int32) + v3_2)).toNatClampNeg) = a1 then x_guard (vp_in ((389 : Int32) + v3_2) 605) <| x_guard (vp_in ((389 : Int32) + v3_2) 605) <| x_guard (vp_in ((429 : Int32) + v3_2) 605) <| x_bind (f_X8_isIn ((a2).toInt64) (((md k0 0 (((389 : Int32) + v3_2)).toNatClampNeg)).toInt64) (((((md k0 0 (((389 : Int32) + v3_2)).toNatClampNeg) + (md k0 0 (((429 : Int32) + v3_2)).toNatClampNeg)) - (1 : Int32))).toInt64)) fun (q6 : Int32) => (if q6 = 0 then x_let (v3_2 + (1 : Int32)) fun (x7 : Int32) => f_X8_versionAt_L2 md k0 a1 a2 n_2 (x7) else some (v3_2)) else x_let (v3_2 + (1 : Int32)) fun (x2 : Int32) => f_X8_versionAt_L2 md k0 a1 a2 n_2 (x2)))
noncomputable def f_X8_versionAt (md : SD) (k0 : Nat) (a1 : Int32) (a2 : Int32) : Option Int32 := f_X8_versionAt_L2 md k0 a1 a2 fuel ((0 : Int32))
noncomputable def f_X8_marks (md : SD) (k0 : Nat) (a1 : Int32) (a2 : Int32) : Option SD := x_guard (vp_in ((249 : Int32) + (md k0 0 8)) 605) <| x_let (upS md k0 0 (((249 : Int32) + (md k0 0 8))).toNatClampNeg a1) fun (md2 : SD) => x_guard (vp_in ((269 : Int32) + (md2 k0 0 8)) 605) <| x_let (upS md2 k0 0 (((269 : Int32) + (md2 k0 0 8))).toNatClampNeg a2) fun (md4 : SD) => x_let (upS md4 k0 0 8 ((md4 k0 0 8) + (1 : Int32))) fun (md5 : SD) => x_bind (f_X8_versionAt md5 k0 a1 a2) fun (q6 : Int32) => (if q6 = (-1 : Int32) then some (md5) else x_guard (vp_in ((549 : Int32) + q6) 605) <| x_let (upS md5 k0 0 (((549 : Int32) + q6)).toNatClampNeg (1 : Int32)) fun (md8 : SD) => some (md8))
noncomputable def f_X8_isCurrent (md : SD) (a1 : Int32) : Option Int32 := x_guard (vp_in ((309 : Int32) + a1) 605) <| x_guard (vp_in ((289 : Int32) + (md 30 0 (((309 : Int32) + a1)).toNatClampNeg)) 605) <| (if (md 30 0 (((289 : Int32) + (md 30 0 (((309 : Int32) + a1)).toNatClampNeg))).toNatClampNeg) = a1 then some ((1 : Int32)) else some ((0 : Int32)))
noncomputable def f_X8_isClosed (md : SD) (a1 : Int32) : Option Int32 := x_guard (vp_in ((349 : Int32) + a1) 605) <| x_let ((md 30 0 (((349 : Int32) + a1)).toNatClampNeg)) fun (x2 : Int32) => x_guard (vp_in ((79 : Int32) + x2) 605) <| (if (md 30 0 (((79 : Int32) + x2)).toNatClampNeg) = 0 then some ((1 : Int32)) else x_guard (vp_in ((469 : Int32) + a1) 605) <| x_guard (vp_in ((69 : Int32) + x2) 605) <| (if ((md 30 0 (((69 : Int32) + x2)).toNatClampNeg) - (1 : Int32)) ≤ (md 30 0 (((469 : Int32) + a1)).toNatClampNeg) then some ((0 : Int32)) else some ((1 : Int32))))
noncomputable def f_X8_isGood (md : SD) (a1 : Int32) : Option Int32 := x_guard (vp_in ((549 : Int32) + a1) 605) <| (if (md 30 0 (((549 : Int32) + a1)).toNatClampNeg) = 0 then x_bind (f_X8_isClosed md a1) fun (q2 : Int32) => (if q2 = 0 then some ((0 : Int32)) else some ((1 : Int32))) else some ((0 : Int32)))
noncomputable def f_X8_version (md : SD) (a1 : Int32) : Option Int32 := x_guard (vp_in ((289 : Int32) + a1) 605) <| some ((md 30 0 (((289 : Int32) + a1)).toNatClampNeg))
noncomputable def f_X8_isReadable (md : SD) (a1 : Int32) : Option Int32 := x_bind (f_X8_version md a1) fun (q1 : Int32) => x_bind (f_X8_isGood md q1) fun (q2 : Int32) => x_guard (q2 = 0 ∨ q2 = 1) <| some (q2)
noncomputable def f_X8_platterOf (md : SD) (a1 : Int32) : Option Int32 := x_bind (f_X8_version md a1) fun (q1 : Int32) => x_guard (vp_in ((349 : Int32) + q1) 605) <| some ((md 30 0 (((349 : Int32) + q1)).toNatClampNeg))
noncomputable def f_X8_inDrive_L2 (md : SD) (a1 : Int32) : Nat → Int32 → Option Int32
  | 0, _ => none
  | n_2 + 1, v2_2 => (if (md 30 0 6) ≤ v2_2 then some ((-1 : Int32)) else x_guard (vp_in ((21 : Int32) + v2_2) 605) <| (if (md 30 0 (((21 : Int32) + v2_2)).toNatClampNeg) = a1 then some (v2_2) else x_let (v2_2 + (1 : Int32)) fun (x2 : Int32) => f_X8_inDrive_L2 md a1 n_2 (x2)))
noncomputable def f_X8_inDrive (md : SD) (a1 : Int32) : Option Int32 := f_X8_inDrive_L2 md a1 fuel ((0 : Int32))
noncomputable def f_X8_goes (md : SD) (a1 : Int32) : Option SD := x_bind (f_X8_far ((md 30 0 11)) a1) fun (q1 : Int32) => x_let (upS md 30 0 14 ((md 30 0 14) + q1)) fun (md2 : SD) => x_let (upS md2 30 0 12 ((md2 30 0 12) + (q1 * (md2 30 0 1)))) fun (md3 : SD) => x_let (upS md3 30 0 11 a1) fun (md4 : SD) => some (md4)
noncomputable def f_X8_grips (md : SD) : Option SD := x_let (upS md 30 0 12 ((md 30 0 12) + (md 30 0 2))) fun (md1 : SD) => some (md1)
noncomputable def f_X8_empties (md : SD) (a1 : Int32) : Option SD := x_guard (vp_in ((17 : Int32) + a1) 605) <| x_bind (f_X8_goes md ((md 30 0 (((17 : Int32) + a1)).toNatClampNeg))) fun (q2 : SD) => x_bind (f_X8_grips q2) fun (q3 : SD) => x_guard (vp_in ((21 : Int32) + a1) 605) <| x_guard (vp_in ((29 : Int32) + (q3 30 0 (((21 : Int32) + a1)).toNatClampNeg)) 605) <| x_bind (f_X8_goes q3 ((q3 30 0 (((29 : Int32) + (q3 30 0 (((21 : Int32) + a1)).toNatClampNeg))).toNatClampNeg))) fun (q6 : SD) => x_bind (f_X8_grips q6) fun (q7 : SD) => x_guard (vp_in ((21 : Int32) + a1) 605) <| x_let (upS q7 30 0 (((21 : Int32) + a1)).toNatClampNeg (-1 : Int32)) fun (md9 : SD) => some (md9)
noncomputable def f_X8_uses (md : SD) (a1 : Int32) : Option SD := x_let (upS md 30 0 15 ((md 30 0 15) + (1 : Int32))) fun (md1 : SD) => x_guard (vp_in ((25 : Int32) + a1) 605) <| x_let (upS md1 30 0 (((25 : Int32) + a1)).toNatClampNeg (md1 30 0 15)) fun (md3 : SD) => some (md3)
noncomputable def f_X8_brings (md : SD) (a1 : Int32) (a2 : Int32) : Option SD := x_guard (vp_in ((21 : Int32) + a2) 605) <| (x_let (fun (md3 : SD) => (x_guard (vp_in ((29 : Int32) + a1) 605) <| x_bind (f_X8_goes md3 ((md3 30 0 (((29 : Int32) + a1)).toNatClampNeg))) fun (q5 : SD) => x_bind (f_X8_grips q5) fun (q6 : SD) => x_guard (vp_in ((17 : Int32) + a2) 605) <| x_bind (f_X8_goes q6 ((q6 30 0 (((17 : Int32) + a2)).toNatClampNeg))) fun (q8 : SD) => x_bind (f_X8_grips q8) fun (q9 : SD) => x_guard (vp_in ((21 : Int32) + a2) 605) <| x_let (upS q9 30 0 (((21 : Int32) + a2)).toNatClampNeg a1) fun (md11 : SD) => x_let (upS md11 30 0 12 ((md11 30 0 12) + (md11 30 0 3))) fun (md12 : SD) => x_let (upS md12 30 0 13 ((md12 30 0 13) + (1 : Int32))) fun (md13 : SD) => x_bind (f_X8_uses md13 a2) fun (q14 : SD) => some (q14) : Option SD)) fun K2 => (if (md 30 0 (((21 : Int32) + a2)).toNatClampNeg) = (-1 : Int32) then K2 (md) else x_bind (f_X8_empties md a2) fun (q15 : SD) => K2 (q15)))
noncomputable def f_X8_freeDrive_L48 (md : SD) : Nat → Int32 → Int32 → Option Int32
  | 0, _, _ => none
  | n_48 + 1, v1_48, v2_48 => (if (md 30 0 6) ≤ v2_48 then some (v1_48) else x_guard (vp_in ((25 : Int32) + v2_48) 605) <| x_guard (vp_in ((25 : Int32) + v1_48) 605) <| (if (md 30 0 (((25 : Int32) + v1_48)).toNatClampNeg) ≤ (md 30 0 (((25 : Int32) + v2_48)).toNatClampNeg) then x_let (v2_48 + (1 : Int32)) fun (x4 : Int32) => f_X8_freeDrive_L48 md n_48 (v1_48) (x4) else x_let (v2_48 + (1 : Int32)) fun (x5 : Int32) => f_X8_freeDrive_L48 md n_48 (v2_48) (x5)))
noncomputable def f_X8_freeDrive_L12 (md : SD) : Nat → Int32 → Int32 → Option Int32
  | 0, _, _ => none
  | n_12 + 1, v1_12, v2_12 => (if v2_12 < 0 then (if v1_12 = (-1 : Int32) then f_X8_freeDrive_L48 md fuel ((0 : Int32)) ((1 : Int32)) else some (v1_12)) else x_guard (vp_in ((21 : Int32) + v2_12) 605) <| (if (md 30 0 (((21 : Int32) + v2_12)).toNatClampNeg) = (-1 : Int32) then x_let (v2_12 + (-1 : Int32)) fun (x8 : Int32) => f_X8_freeDrive_L12 md n_12 (v2_12) (x8) else x_let (v2_12 + (-1 : Int32)) fun (x7 : Int32) => f_X8_freeDrive_L12 md n_12 (v1_12) (x7)))
noncomputable def f_X8_freeDrive (md : SD) : Option Int32 := x_let (((md 30 0 6) - (1 : Int32))) fun (x1 : Int32) => f_X8_freeDrive_L12 md fuel ((-1 : Int32)) (x1)
noncomputable def f_X8_chosen (md : SD) (a1 : Int32) : Option Int32 := x_bind (f_X8_inDrive md a1) fun (q1 : Int32) => (if q1 = (-1 : Int32) then x_bind (f_X8_freeDrive md) fun (q2 : Int32) => some (q2) else some (q1))
noncomputable def f_X8_mounts (md : SD) (a1 : Int32) : Option (Int32 × SD) := x_bind (f_X8_chosen md a1) fun (q1 : Int32) => x_bind (f_X8_inDrive md a1) fun (q2 : Int32) => (x_let (fun (md4 : SD) => (x_bind (f_X8_uses md4 q1) fun (q5 : SD) => some (q1, q5) : Option (Int32 × SD))) fun K3 => (if q2 = (-1 : Int32) then x_bind (f_X8_brings md a1 q1) fun (q6 : SD) => K3 (q6) else K3 (md)))
noncomputable def f_X8_reads (md : SD) (a1 : Int32) : Option SD := x_bind (f_X8_platterOf md a1) fun (q1 : Int32) => x_bind (f_X8_mounts md q1) fun (q2 : (Int32 × SD)) => x_bind (f_X8_version (q2.2) a1) fun (q3 : Int32) => x_guard (vp_in ((429 : Int32) + q3) 605) <| x_guard (vp_in ((509 : Int32) + q3) 605) <| x_let (upS q2.2 30 0 12 ((q2.2 30 0 12) + ((q2.2 30 0 4) * ((q2.2 30 0 (((429 : Int32) + q3)).toNatClampNeg) + (q2.2 30 0 (((509 : Int32) + q3)).toNatClampNeg))))) fun (md6 : SD) => some (md6)
noncomputable def f_X8_tries (md : SD) : Option SD := x_bind (f_X8_copies md (30) (32)) fun (q1 : SD) => x_let (upS q1 8 0 6 (q1 30 0 12)) fun (md2 : SD) => some (md2)
noncomputable def f_X8_takesBack (md : SD) : Option (Int32 × SD) := x_let (((md 30 0 12) - (md 8 0 6))) fun (x1 : Int32) => x_bind (f_X8_copies md (32) (30)) fun (q2 : SD) => some (x1, q2)
noncomputable def f_X8_bringTime (md : SD) (a1 : Int32) (a2 : Int32) : Option (Int32 × SD) := x_bind (f_X8_tries md) fun (q1 : SD) => x_bind (f_X8_brings q1 a1 a2) fun (q2 : SD) => x_bind (f_X8_takesBack q2) fun (q3 : (Int32 × SD)) => some (q3.1, q3.2)
noncomputable def f_X8_timeFor (md : SD) (a1 : Int32) : Option (Int32 × SD) := x_bind (f_X8_inDrive md a1) fun (q1 : Int32) => (if q1 = (-1 : Int32) then x_bind (f_X8_freeDrive md) fun (q2 : Int32) => x_bind (f_X8_bringTime md a1 q2) fun (q3 : (Int32 × SD)) => some (q3.1, q3.2) else some ((0 : Int32), md))
noncomputable def f_X8_findsWanted_L22 (md_7 : SD) (v1_7 : Int32) : Nat → Int32 → Int32 → Option (Int32 × Int32)
  | 0, _, _ => none
  | n_22 + 1, v2_22, v3_22 => (if (md_7 30 0 16) ≤ v3_22 then some (v2_22, v3_22) else (x_let (fun (y4 : Int32) => (x_let (v3_22 + (1 : Int32)) fun (x5 : Int32) => f_X8_findsWanted_L22 md_7 v1_7 n_22 (y4) (x5) : Option (Int32 × Int32))) fun K3 => (x_let (fun (_u : Unit) => (K3 ((1 : Int32)) : Option (Int32 × Int32))) fun K6 => (if v2_22 = 0 then x_guard (vp_in ((589 : Int32) + v3_22) 605) <| x_bind (f_X8_platterOf md_7 ((md_7 30 0 (((589 : Int32) + v3_22)).toNatClampNeg))) fun (q8 : Int32) => (if q8 = v1_7 then K6 (()) else K3 ((0 : Int32))) else K6 (())))))
noncomputable def f_X8_findsWanted_L7  : Nat → Int32 → SD → Option SD
  | 0, _, _ => none
  | n_7 + 1, v1_7, md_7 => (if (md_7 30 0 7) ≤ v1_7 then some (md_7) else x_bind (f_X8_findsWanted_L22 md_7 v1_7 fuel ((0 : Int32)) ((0 : Int32))) fun (q2 : (Int32 × Int32)) => (if q2.1 = 0 then x_let (v1_7 + (1 : Int32)) fun (x9 : Int32) => f_X8_findsWanted_L7  n_7 (x9) (md_7) else x_bind (f_X8_inDrive md_7 v1_7) fun (q10 : Int32) => (if q10 = (-1 : Int32) then x_guard (vp_in (md_7 8 0 10) 10) <| x_let (upS md_7 34 0 ((md_7 8 0 10)).toNatClampNeg v1_7) fun (md12 : SD) => x_let (upS md12 8 0 10 ((md12 8 0 10) + (1 : Int32))) fun (md13 : SD) => x_let (v1_7 + (1 : Int32)) fun (x14 : Int32) => f_X8_findsWanted_L7  n_7 (x14) (md13) else x_let (v1_7 + (1 : Int32)) fun (x15 : Int32) => f_X8_findsWanted_L7  n_7 (x15) (md_7))))
noncomputable def f_X8_findsWanted (md : SD) : Option SD := x_let (upS md 8 0 10 (0 : Int32)) fun (md1 : SD) => f_X8_findsWanted_L7  fuel ((0 : Int32)) (md1)
noncomputable def f_X8_homeOf (md : SD) (a1 : Int32) : Option Int32 := x_guard (vp_in a1 10) <| x_guard (vp_in ((29 : Int32) + (md 34 0 (a1).toNatClampNeg)) 605) <| some ((md 30 0 (((29 : Int32) + (md 34 0 (a1).toNatClampNeg))).toNatClampNeg))
noncomputable def f_X8_between (md : SD) (a1 : Int32) (a2 : Int32) (a3 : Int32) : Option Int32 := x_bind (f_X8_homeOf md a1) fun (q1 : Int32) => x_bind (f_X8_far a3 q1) fun (q2 : Int32) => x_bind (f_X8_homeOf md a1) fun (q3 : Int32) => x_bind (f_X8_homeOf md a2) fun (q4 : Int32) => x_bind (f_X8_far q3 q4) fun (q5 : Int32) => x_bind (f_X8_homeOf md a2) fun (q6 : Int32) => x_bind (f_X8_far q6 a3) fun (q7 : Int32) => some (((q2 + q5) + q7))
noncomputable def f_X8_findsRest_L37 (md_14 : SD) (v2_2 : Int32) (v3_14 : Int32) (a1 : Int32) : Nat → Int32 → Int32 → Option (Int32 × Int32)
  | 0, _, _ => none
  | n_37 + 1, v4_37, v5_37 => (if (md_14 8 0 10) ≤ v5_37 then some (v4_37, v5_37) else (if ((v2_2 >>> (v5_37 &&& 31)) &&& (1 : Int32)) = 0 then x_let (v5_37 + (1 : Int32)) fun (x11 : Int32) => f_X8_findsRest_L37 md_14 v2_2 v3_14 a1 n_37 (v4_37) (x11) else x_bind (f_X8_between md_14 v3_14 v5_37 a1) fun (q5 : Int32) => x_guard (vp_in (((10 : Int32) * (v2_2 - ((1 : Int32) <<< (v5_37 &&& 31)))) + v5_37) 10240) <| x_let ((q5 + (md_14 36 0 ((((10 : Int32) * (v2_2 - ((1 : Int32) <<< (v5_37 &&& 31)))) + v5_37)).toNatClampNeg))) fun (x7 : Int32) => (x_let (fun (y9 : Int32) => (x_let (v5_37 + (1 : Int32)) fun (x10 : Int32) => f_X8_findsRest_L37 md_14 v2_2 v3_14 a1 n_37 (y9) (x10) : Option (Int32 × Int32))) fun K8 => (if v4_37 ≤ x7 then K8 (v4_37) else K8 (x7)))))
noncomputable def f_X8_findsRest_L14 (v2_2 : Int32) (a1 : Int32) : Nat → Int32 → SD → Option (Int32 × SD)
  | 0, _, _ => none
  | n_14 + 1, v3_14, md_14 => (if (md_14 8 0 10) ≤ v3_14 then some (v3_14, md_14) else (x_let (fun (y3 : Int32) => (x_bind (f_X8_findsRest_L37 md_14 v2_2 v3_14 a1 fuel (y3) ((0 : Int32))) fun (q4 : (Int32 × Int32)) => x_guard (vp_in (((10 : Int32) * v2_2) + v3_14) 10240) <| x_let (upS md_14 36 0 ((((10 : Int32) * v2_2) + v3_14)).toNatClampNeg q4.1) fun (md13 : SD) => x_let (v3_14 + (1 : Int32)) fun (x14 : Int32) => f_X8_findsRest_L14 v2_2 a1 n_14 (x14) (md13) : Option (Int32 × SD))) fun K2 => (if v2_2 = 0 then K2 ((0 : Int32)) else K2 ((1000000000 : Int32)))))
noncomputable def f_X8_findsRest_L2 (a1 : Int32) : Nat → Int32 → SD → Option SD
  | 0, _, _ => none
  | n_2 + 1, v2_2, md_2 => (if ((1 : Int32) <<< ((md_2 8 0 10) &&& 31)) ≤ v2_2 then some (md_2) else x_bind (f_X8_findsRest_L14 v2_2 a1 fuel ((0 : Int32)) (md_2)) fun (q1 : (Int32 × SD)) => x_let (v2_2 + (1 : Int32)) fun (x15 : Int32) => f_X8_findsRest_L2 a1 n_2 (x15) (q1.2))
noncomputable def f_X8_findsRest (md : SD) (a1 : Int32) : Option SD := f_X8_findsRest_L2 a1 fuel ((0 : Int32)) (md)
noncomputable def f_X8_firstWay (md : SD) (a1 : Int32) (a2 : Int32) : Option Int32 := x_guard (vp_in ((17 : Int32) + a2) 605) <| x_let ((md 30 0 (((17 : Int32) + a2)).toNatClampNeg)) fun (x2 : Int32) => x_let ((md 30 0 11)) fun (x3 : Int32) => x_guard (vp_in ((21 : Int32) + a2) 605) <| (x_let (fun (y6 : Int32) (y7 : Int32) => (x_bind (f_X8_homeOf md a1) fun (q8 : Int32) => x_bind (f_X8_far y7 q8) fun (q9 : Int32) => x_bind (f_X8_homeOf md a1) fun (q10 : Int32) => x_bind (f_X8_far q10 x2) fun (q11 : Int32) => some (((y6 + q9) + q11)) : Option Int32)) fun K5 => (if (md 30 0 (((21 : Int32) + a2)).toNatClampNeg) = (-1 : Int32) then K5 ((0 : Int32)) (x3) else x_guard (vp_in ((21 : Int32) + a2) 605) <| x_guard (vp_in ((29 : Int32) + (md 30 0 (((21 : Int32) + a2)).toNatClampNeg)) 605) <| x_let ((md 30 0 (((29 : Int32) + (md 30 0 (((21 : Int32) + a2)).toNatClampNeg))).toNatClampNeg)) fun (x14 : Int32) => x_bind (f_X8_far x3 x2) fun (q15 : Int32) => x_bind (f_X8_far x2 x14) fun (q16 : Int32) => x_let ((q15 + q16)) fun (x17 : Int32) => K5 (x17) (x14)))
noncomputable def f_X8_findsOrder_L46 (md_27 : SD) (v3_27 : Int32) (v4_27 : Int32) (a1 : Int32) (x2 : Int32) : Nat → Int32 → Int32 → Int32 → Option (Int32 × Int32 × Int32)
  | 0, _, _, _ => none
  | n_46 + 1, v5_46, v6_46, v7_46 => (if (md_27 8 0 10) ≤ v7_46 then some (v5_46, v6_46, v7_46) else (if ((v3_27 >>> (v7_46 &&& 31)) &&& (1 : Int32)) = 0 then x_let (v7_46 + (1 : Int32)) fun (x16 : Int32) => f_X8_findsOrder_L46 md_27 v3_27 v4_27 a1 x2 n_46 (v5_46) (v6_46) (x16) else (x_let (fun (y7 : Int32) => (x_guard (vp_in (((10 : Int32) * (v3_27 - ((1 : Int32) <<< (v7_46 &&& 31)))) + v7_46) 10240) <| x_let (((md_27 30 0 1) * (y7 + (md_27 36 0 ((((10 : Int32) * (v3_27 - ((1 : Int32) <<< (v7_46 &&& 31)))) + v7_46)).toNatClampNeg)))) fun (x9 : Int32) => (x_let (fun (_u : Unit) => (x_let (v7_46 + (1 : Int32)) fun (x11 : Int32) => f_X8_findsOrder_L46 md_27 v3_27 v4_27 a1 x2 n_46 (v7_46) (x9) (x11) : Option (Int32 × Int32 × Int32))) fun K10 => (if v5_46 = (-1 : Int32) then K10 (()) else (if x9 < v6_46 then K10 (()) else x_let (v7_46 + (1 : Int32)) fun (x12 : Int32) => f_X8_findsOrder_L46 md_27 v3_27 v4_27 a1 x2 n_46 (v5_46) (v6_46) (x12)))) : Option (Int32 × Int32 × Int32))) fun K6 => (if v4_27 = 0 then x_bind (f_X8_firstWay md_27 v7_46 a1) fun (q15 : Int32) => K6 (q15) else x_guard (vp_in (v4_27 - (1 : Int32)) 10) <| x_bind (f_X8_between md_27 ((md_27 35 0 ((v4_27 - (1 : Int32))).toNatClampNeg)) v7_46 x2) fun (q14 : Int32) => K6 (q14)))))
noncomputable def f_X8_findsOrder_L27 (a1 : Int32) (x2 : Int32) : Nat → Int32 → Int32 → SD → Option SD
  | 0, _, _, _ => none
  | n_27 + 1, v3_27, v4_27, md_27 => (if (md_27 8 0 10) ≤ v4_27 then some (md_27) else x_bind (f_X8_findsOrder_L46 md_27 v3_27 v4_27 a1 x2 fuel ((-1 : Int32)) ((1000000000 : Int32)) ((0 : Int32))) fun (q5 : (Int32 × Int32 × Int32)) => x_guard (vp_in v4_27 10) <| x_let (upS md_27 35 0 (v4_27).toNatClampNeg q5.1) fun (md18 : SD) => x_let ((v3_27 - ((1 : Int32) <<< (q5.1 &&& 31)))) fun (x19 : Int32) => x_let (v4_27 + (1 : Int32)) fun (x20 : Int32) => f_X8_findsOrder_L27 a1 x2 n_27 (x19) (x20) (md18))
noncomputable def f_X8_findsOrder (md : SD) (a1 : Int32) : Option SD := x_guard (vp_in ((17 : Int32) + a1) 605) <| x_let ((md 30 0 (((17 : Int32) + a1)).toNatClampNeg)) fun (x2 : Int32) => x_bind (f_X8_findsRest md x2) fun (q3 : SD) => x_let ((((1 : Int32) <<< ((q3 8 0 10) &&& 31)) - (1 : Int32))) fun (x4 : Int32) => f_X8_findsOrder_L27 a1 x2 fuel (x4) ((0 : Int32)) (q3)
noncomputable def f_X8_readsFrom_L2 (a1 : Int32) : Nat → Int32 → SD → Option SD
  | 0, _, _ => none
  | n_2 + 1, v2_2, md_2 => (if (md_2 30 0 16) ≤ v2_2 then some (md_2) else x_guard (vp_in ((589 : Int32) + v2_2) 605) <| x_bind (f_X8_platterOf md_2 ((md_2 30 0 (((589 : Int32) + v2_2)).toNatClampNeg))) fun (q2 : Int32) => (if q2 = a1 then x_guard (vp_in ((589 : Int32) + v2_2) 605) <| x_bind (f_X8_reads md_2 ((md_2 30 0 (((589 : Int32) + v2_2)).toNatClampNeg))) fun (q5 : SD) => x_let (v2_2 + (1 : Int32)) fun (x6 : Int32) => f_X8_readsFrom_L2 a1 n_2 (x6) (q5) else x_let (v2_2 + (1 : Int32)) fun (x3 : Int32) => f_X8_readsFrom_L2 a1 n_2 (x3) (md_2)))
noncomputable def f_X8_readsFrom (md : SD) (a1 : Int32) : Option SD := f_X8_readsFrom_L2 a1 fuel ((0 : Int32)) (md)
noncomputable def f_X8_serves_L68 (q6 : Int32) : Nat → Int32 → SD → Option (Int32 × SD)
  | 0, _, _ => none
  | n_68 + 1, v2_68, md_68 => (if (md_68 8 0 10) ≤ v2_68 then some (v2_68, md_68) else x_guard (vp_in v2_68 10) <| x_guard (vp_in (md_68 35 0 (v2_68).toNatClampNeg) 10) <| x_bind (f_X8_brings md_68 ((md_68 34 0 ((md_68 35 0 (v2_68).toNatClampNeg)).toNatClampNeg)) q6) fun (q11 : SD) => x_guard (vp_in v2_68 10) <| x_guard (vp_in (q11 35 0 (v2_68).toNatClampNeg) 10) <| x_bind (f_X8_readsFrom q11 ((q11 34 0 ((q11 35 0 (v2_68).toNatClampNeg)).toNatClampNeg))) fun (q14 : SD) => x_let (v2_68 + (1 : Int32)) fun (x15 : Int32) => f_X8_serves_L68 q6 n_68 (x15) (q14))
noncomputable def f_X8_serves_L6  : Nat → Int32 → SD → Option SD
  | 0, _, _ => none
  | n_6 + 1, v1_6, md_6 => (if (md_6 30 0 6) ≤ v1_6 then (x_let (fun (y3 : Int32) (md4 : SD) => (x_let (upS md4 30 0 16 (0 : Int32)) fun (md5 : SD) => some (md5) : Option SD)) fun K2 => (if (md_6 8 0 10) ≤ 0 then K2 (v1_6) (md_6) else x_bind (f_X8_freeDrive md_6) fun (q6 : Int32) => x_bind (f_X8_findsOrder md_6 q6) fun (q7 : SD) => x_bind (f_X8_serves_L68 q6 fuel ((0 : Int32)) (q7)) fun (q8 : (Int32 × SD)) => K2 (q6) (q8.2))) else x_guard (vp_in ((21 : Int32) + v1_6) 605) <| (if (md_6 30 0 (((21 : Int32) + v1_6)).toNatClampNeg) = (-1 : Int32) then x_let (v1_6 + (1 : Int32)) fun (x17 : Int32) => f_X8_serves_L6  n_6 (x17) (md_6) else x_guard (vp_in ((21 : Int32) + v1_6) 605) <| x_bind (f_X8_readsFrom md_6 ((md_6 30 0 (((21 : Int32) + v1_6)).toNatClampNeg))) fun (q19 : SD) => x_let (v1_6 + (1 : Int32)) fun (x20 : Int32) => f_X8_serves_L6  n_6 (x20) (q19)))
noncomputable def f_X8_serves (md : SD) : Option SD := x_bind (f_X8_findsWanted md) fun (q1 : SD) => f_X8_serves_L6  fuel ((0 : Int32)) (q1)
noncomputable def f_X8_areReadable_L4 (md : SD) : Nat → Int32 → Int32 → Option Int32
  | 0, _, _ => none
  | n_4 + 1, v1_4, v2_4 => (if (md 30 0 16) ≤ v2_4 then x_guard (v1_4 = 0 ∨ v1_4 = 1) <| some (v1_4) else (x_let (fun (y3 : Int32) => (x_let (v2_4 + (1 : Int32)) fun (x4 : Int32) => f_X8_areReadable_L4 md n_4 (y3) (x4) : Option Int32)) fun K2 => (x_let (fun (_u : Unit) => (K2 ((0 : Int32)) : Option Int32)) fun K5 => (if v1_4 = 0 then K5 (()) else x_guard (vp_in ((589 : Int32) + v2_4) 605) <| x_bind (f_X8_isReadable md ((md 30 0 (((589 : Int32) + v2_4)).toNatClampNeg))) fun (q7 : Int32) => (if q7 = 0 then K5 (()) else K2 ((1 : Int32)))))))
noncomputable def f_X8_areReadable (md : SD) : Option Int32 := f_X8_areReadable_L4 md fuel ((1 : Int32)) ((0 : Int32))
noncomputable def f_X8_whyNotServed (md : SD) (a1 : Int32) : Option Int32 := (if a1 ≤ (md 30 0 16) then (if (md 30 0 6) = 0 then some ((-1000007 : Int32)) else x_bind (f_X8_areReadable md) fun (q1 : Int32) => (if q1 = 0 then some ((-1000008 : Int32)) else some ((0 : Int32)))) else some ((-1000005 : Int32)))
noncomputable def f_X8_servingTime (md : SD) : Option (Int32 × SD) := x_bind (f_X8_tries md) fun (q1 : SD) => x_bind (f_X8_serves q1) fun (q2 : SD) => x_bind (f_X8_takesBack q2) fun (q3 : (Int32 × SD)) => some (q3.1, q3.2)
noncomputable def f_X8_homeSlot (md : SD) (a1 : Int32) : Option (Int32 × SD) := x_let (upS md 8 0 0 (0 : Int32)) fun (md1 : SD) => x_bind (f_X8_isPlatter md1 a1) fun (q2 : Int32) => (if q2 = 0 then some ((-1000001 : Int32), md1) else x_guard (vp_in ((29 : Int32) + a1) 605) <| some ((md1 30 0 (((29 : Int32) + a1)).toNatClampNeg), md1))
noncomputable def f_X8_platterInSlot_L18 (md1 : SD) (a1 : Int32) : Nat → Int32 → Option (Int32 × SD)
  | 0, _ => none
  | n_18 + 1, v2_18 => (if (md1 30 0 7) ≤ v2_18 then some ((-1000005 : Int32), md1) else x_guard (vp_in ((29 : Int32) + v2_18) 605) <| (if (md1 30 0 (((29 : Int32) + v2_18)).toNatClampNeg) = a1 then x_bind (f_X8_inDrive md1 v2_18) fun (q5 : Int32) => (if q5 = (-1 : Int32) then some (v2_18, md1) else x_let (v2_18 + (1 : Int32)) fun (x6 : Int32) => f_X8_platterInSlot_L18 md1 a1 n_18 (x6)) else x_let (v2_18 + (1 : Int32)) fun (x4 : Int32) => f_X8_platterInSlot_L18 md1 a1 n_18 (x4)))
noncomputable def f_X8_platterInSlot (md : SD) (a1 : Int32) : Option (Int32 × SD) := x_let (upS md 8 0 0 (0 : Int32)) fun (md1 : SD) => x_bind (f_X8_isSlot md1 a1) fun (q2 : Int32) => (if q2 = 0 then some ((-1000001 : Int32), md1) else f_X8_platterInSlot_L18 md1 a1 fuel ((0 : Int32)))
noncomputable def f_X8_found (a0 : Int32) : Option Int32 := (if a0 = (-1 : Int32) then some ((-1000005 : Int32)) else some (a0))
noncomputable def f_X8_driveOf (md : SD) (a1 : Int32) : Option (Int32 × SD) := x_let (upS md 8 0 0 (0 : Int32)) fun (md1 : SD) => x_bind (f_X8_isPlatter md1 a1) fun (q2 : Int32) => (if q2 = 0 then some ((-1000001 : Int32), md1) else x_bind (f_X8_inDrive md1 a1) fun (q3 : Int32) => x_bind (f_X8_found q3) fun (q4 : Int32) => some (q4, md1))
noncomputable def f_X8_platterInDrive (md : SD) (a1 : Int32) : Option (Int32 × SD) := x_let (upS md 8 0 0 (0 : Int32)) fun (md1 : SD) => x_bind (f_X8_isDrive md1 a1) fun (q2 : Int32) => (if q2 = 0 then some ((-1000001 : Int32), md1) else x_guard (vp_in ((21 : Int32) + a1) 605) <| x_bind (f_X8_found ((md1 30 0 (((21 : Int32) + a1)).toNatClampNeg))) fun (q4 : Int32) => some (q4, md1))
noncomputable def f_X8_pickerPosition (md : SD) : Option (Int32 × SD) := x_let (upS md 8 0 0 (0 : Int32)) fun (md1 : SD) => some ((md1 30 0 11), md1)
noncomputable def f_X8_clock (md : SD) : Option (Int32 × SD) := x_let (upS md 8 0 0 (0 : Int32)) fun (md1 : SD) => some ((md1 30 0 12), md1)
noncomputable def f_X8_exchanges (md : SD) : Option (Int32 × SD) := x_let (upS md 8 0 0 (0 : Int32)) fun (md1 : SD) => some ((md1 30 0 13), md1)
noncomputable def f_X8_travel (md : SD) : Option (Int32 × SD) := x_let (upS md 8 0 0 (0 : Int32)) fun (md1 : SD) => some ((md1 30 0 14), md1)
noncomputable def f_X8_chosenDrive (md : SD) (a1 : Int32) : Option (Int32 × SD) := x_let (upS md 8 0 0 (0 : Int32)) fun (md1 : SD) => x_bind (f_X8_isPlatter md1 a1) fun (q2 : Int32) => (if q2 = 0 then some ((-1000001 : Int32), md1) else (if (md1 30 0 6) = 0 then some ((-1000007 : Int32), md1) else x_bind (f_X8_chosen md1 a1) fun (q3 : Int32) => some (q3, md1)))
noncomputable def f_X8_mountTime (md : SD) (a1 : Int32) : Option (Int32 × SD) := x_let (upS md 8 0 0 (0 : Int32)) fun (md1 : SD) => x_bind (f_X8_isPlatter md1 a1) fun (q2 : Int32) => (if q2 = 0 then some ((-1000001 : Int32), md1) else (if (md1 30 0 6) = 0 then some ((-1000007 : Int32), md1) else x_bind (f_X8_timeFor md1 a1) fun (q3 : (Int32 × SD)) => some (q3.1, q3.2)))
noncomputable def f_X8_mountTimeIn (md : SD) (a1 : Int32) (a2 : Int32) : Option (Int32 × SD) := x_let (upS md 8 0 0 (0 : Int32)) fun (md1 : SD) => x_bind (f_X8_isPlatter md1 a1) fun (q2 : Int32) => (if q2 = 0 then some ((-1000001 : Int32), md1) else x_bind (f_X8_isDrive md1 a2) fun (q3 : Int32) => (if q3 = 0 then some ((-1000001 : Int32), md1) else x_bind (f_X8_inDrive md1 a1) fun (q4 : Int32) => (if q4 = a2 then some ((0 : Int32), md1) else (if q4 = (-1 : Int32) then x_bind (f_X8_bringTime md1 a1 a2) fun (q5 : (Int32 × SD)) => some (q5.1, q5.2) else some ((-1000005 : Int32), md1)))))
noncomputable def f_X8_free (md : SD) (a1 : Int32) : Option Int32 := x_guard (vp_in ((39 : Int32) + a1) 605) <| x_guard (vp_in ((59 : Int32) + a1) 605) <| some (((md 30 0 (((39 : Int32) + a1)).toNatClampNeg) - (md 30 0 (((59 : Int32) + a1)).toNatClampNeg)))
noncomputable def f_X8_freeSectors (md : SD) (a1 : Int32) : Option (Int32 × SD) := x_let (upS md 8 0 0 (0 : Int32)) fun (md1 : SD) => x_bind (f_X8_isPlatter md1 a1) fun (q2 : Int32) => (if q2 = 0 then some ((-1000001 : Int32), md1) else x_bind (f_X8_free md1 a1) fun (q3 : Int32) => some (q3, md1))
noncomputable def f_X8_sessionCount (md : SD) (a1 : Int32) : Option (Int32 × SD) := x_let (upS md 8 0 0 (0 : Int32)) fun (md1 : SD) => x_bind (f_X8_isPlatter md1 a1) fun (q2 : Int32) => (if q2 = 0 then some ((-1000001 : Int32), md1) else x_guard (vp_in ((69 : Int32) + a1) 605) <| some ((md1 30 0 (((69 : Int32) + a1)).toNatClampNeg), md1))
noncomputable def f_X8_hasOpenSession (md : SD) (a1 : Int32) : Option (Int32 × SD) := x_let (upS md 8 0 0 (0 : Int32)) fun (md1 : SD) => x_bind (f_X8_isPlatter md1 a1) fun (q2 : Int32) => (if q2 = 0 then some ((-1000001 : Int32), md1) else x_guard (vp_in ((79 : Int32) + a1) 605) <| some ((md1 30 0 (((79 : Int32) + a1)).toNatClampNeg), md1))
noncomputable def f_X8_isSession (md : SD) (a1 : Int32) (a2 : Int32) : Option Int32 := x_bind (f_X8_isPlatter md a1) fun (q1 : Int32) => (if q1 = 0 then some ((0 : Int32)) else x_guard (vp_in ((69 : Int32) + a1) 605) <| x_bind (f_X8_isIn ((a2).toInt64) (0 : Int64) ((((md 30 0 (((69 : Int32) + a1)).toNatClampNeg) - (1 : Int32))).toInt64)) fun (q3 : Int32) => (if q3 = 0 then some ((0 : Int32)) else some ((1 : Int32))))
noncomputable def f_X8_sessionStart (md : SD) (a1 : Int32) (a2 : Int32) : Option (Int32 × SD) := x_let (upS md 8 0 0 (0 : Int32)) fun (md1 : SD) => x_bind (f_X8_isSession md1 a1 a2) fun (q2 : Int32) => (if q2 = 0 then some ((-1000001 : Int32), md1) else x_guard (vp_in (((89 : Int32) + ((8 : Int32) * a1)) + a2) 605) <| some ((md1 30 0 ((((89 : Int32) + ((8 : Int32) * a1)) + a2)).toNatClampNeg), md1))
noncomputable def f_X8_sessionSize (md : SD) (a1 : Int32) (a2 : Int32) : Option (Int32 × SD) := x_let (upS md 8 0 0 (0 : Int32)) fun (md1 : SD) => x_bind (f_X8_isSession md1 a1 a2) fun (q2 : Int32) => (if q2 = 0 then some ((-1000001 : Int32), md1) else x_guard (vp_in (((169 : Int32) + ((8 : Int32) * a1)) + a2) 605) <| some ((md1 30 0 ((((169 : Int32) + ((8 : Int32) * a1)) + a2)).toNatClampNeg), md1))
noncomputable def f_X8_sparesLeft (md : SD) (a1 : Int32) : Option (Int32 × SD) := x_let (upS md 8 0 0 (0 : Int32)) fun (md1 : SD) => x_bind (f_X8_isPlatter md1 a1) fun (q2 : Int32) => (if q2 = 0 then some ((-1000001 : Int32), md1) else x_guard (vp_in ((49 : Int32) + a1) 605) <| some ((md1 30 0 (((49 : Int32) + a1)).toNatClampNeg), md1))
noncomputable def f_X8_staleSectors_L20 (md1 : SD) (a1 : Int32) : Nat → Int32 → Int32 → Option (Int32 × SD)
  | 0, _, _ => none
  | n_20 + 1, v2_20, v3_20 => (if (md1 30 0 10) ≤ v3_20 then some (v2_20, md1) else x_guard (vp_in ((349 : Int32) + v3_20) 605) <| (x_let (fun (y5 : Int32) => (x_let ((v2_20 + y5)) fun (x6 : Int32) => x_let (v3_20 + (1 : Int32)) fun (x7 : Int32) => f_X8_staleSectors_L20 md1 a1 n_20 (x6) (x7) : Option (Int32 × SD))) fun K4 => (x_let (fun (_u : Unit) => (K4 ((0 : Int32)) : Option (Int32 × SD))) fun K8 => (if (md1 30 0 (((349 : Int32) + v3_20)).toNatClampNeg) = a1 then x_bind (f_X8_isCurrent md1 v3_20) fun (q9 : Int32) => (if q9 = 0 then x_guard (vp_in ((429 : Int32) + v3_20) 605) <| K4 ((md1 30 0 (((429 : Int32) + v3_20)).toNatClampNeg)) else K8 (())) else K8 (())))))
noncomputable def f_X8_staleSectors (md : SD) (a1 : Int32) : Option (Int32 × SD) := x_let (upS md 8 0 0 (0 : Int32)) fun (md1 : SD) => x_bind (f_X8_isPlatter md1 a1) fun (q2 : Int32) => (if q2 = 0 then some ((-1000001 : Int32), md1) else f_X8_staleSectors_L20 md1 a1 fuel ((0 : Int32)) ((0 : Int32)))
noncomputable def f_X8_sectorKind (md : SD) (a1 : Int32) (a2 : Int32) : Option (Int32 × SD) := x_let (upS md 8 0 0 (0 : Int32)) fun (md1 : SD) => x_bind (f_X8_isSector md1 a1 a2) fun (q2 : Int32) => (if q2 = 0 then some ((-1000001 : Int32), md1) else x_bind (f_X8_versionAt md1 (30) a1 a2) fun (q3 : Int32) => x_guard (vp_in ((59 : Int32) + a1) 605) <| (x_let (fun (y6 : Int32) => (x_bind (f_X8_isBad md1 (30) a1 a2) fun (q7 : Int32) => (if q7 = 0 then some ((y6 + (0 : Int32)), md1) else some ((y6 + (10 : Int32)), md1)) : Option (Int32 × SD))) fun K5 => (if a2 < (md1 30 0 (((59 : Int32) + a1)).toNatClampNeg) then (if q3 = (-1 : Int32) then K5 ((3 : Int32)) else x_bind (f_X8_isCurrent md1 q3) fun (q8 : Int32) => (if q8 = 0 then K5 ((2 : Int32)) else K5 ((1 : Int32)))) else K5 ((0 : Int32)))))
def fbits (x : UInt32) : Int32 := x.toInt32
noncomputable def f_X8_fillBits (md : SD) (a1 : Int32) : Option (Int32 × SD) := x_let (upS md 8 0 0 (0 : Int32)) fun (md1 : SD) => x_bind (f_X8_isPlatter md1 a1) fun (q2 : Int32) => (if q2 = 0 then some ((-1000001 : Int32), md1) else x_guard (vp_in ((59 : Int32) + a1) 605) <| x_guard (vp_in ((39 : Int32) + a1) 605) <| x_guard (vf_n32 (FP.fdiv (FP.i2f (md1 30 0 (((59 : Int32) + a1)).toNatClampNeg)) (FP.i2f (md1 30 0 (((39 : Int32) + a1)).toNatClampNeg)))) <| x_guard (FP.fcmp (FP.fdiv (FP.i2f (md1 30 0 (((59 : Int32) + a1)).toNatClampNeg)) (FP.i2f (md1 30 0 (((39 : Int32) + a1)).toNatClampNeg))) (FP.fdiv (FP.i2f (md1 30 0 (((59 : Int32) + a1)).toNatClampNeg)) (FP.i2f (md1 30 0 (((39 : Int32) + a1)).toNatClampNeg))) = some .eq) <| x_let (fbits (FP.fdiv (FP.i2f (md1 30 0 (((59 : Int32) + a1)).toNatClampNeg)) (FP.i2f (md1 30 0 (((39 : Int32) + a1)).toNatClampNeg)))) fun (x7 : Int32) => some (x7, md1))
noncomputable def f_X8_cleanRun_L31 (a1 : Int32) (md1 : SD) : Nat → Int32 → Int32 → Int32 → Option (Int32 × SD)
  | 0, _, _, _ => none
  | n_31 + 1, v2_31, v3_31, v4_31 => x_guard (vp_in ((39 : Int32) + a1) 605) <| (if (md1 30 0 (((39 : Int32) + a1)).toNatClampNeg) ≤ v4_31 then some (v2_31, md1) else x_bind (f_X8_isBad md1 (30) a1 v4_31) fun (q6 : Int32) => (x_let (fun (y8 : Int32) => ((x_let (fun (y10 : Int32) => (x_let (v4_31 + (1 : Int32)) fun (x11 : Int32) => f_X8_cleanRun_L31 a1 md1 n_31 (y10) (y8) (x11) : Option (Int32 × SD))) fun K9 => (if y8 ≤ v2_31 then K9 (v2_31) else K9 (y8))) : Option (Int32 × SD))) fun K7 => (if q6 = 0 then K7 ((v3_31 + (1 : Int32))) else K7 ((0 : Int32)))))
noncomputable def f_X8_cleanRun (md : SD) (a1 : Int32) : Option (Int32 × SD) := x_let (upS md 8 0 0 (0 : Int32)) fun (md1 : SD) => x_bind (f_X8_isPlatter md1 a1) fun (q2 : Int32) => (if q2 = 0 then some ((-1000001 : Int32), md1) else x_guard (vp_in ((59 : Int32) + a1) 605) <| x_let ((md1 30 0 (((59 : Int32) + a1)).toNatClampNeg)) fun (x4 : Int32) => f_X8_cleanRun_L31 a1 md1 fuel ((0 : Int32)) ((0 : Int32)) (x4))
noncomputable def f_X8_bestPlatter_L41 (a1 : Int32) : Nat → Int32 → Int32 → Int32 → SD → Option (Int32 × SD)
  | 0, _, _, _, _ => none
  | n_41 + 1, v2_41, v3_41, v4_41, md_41 => (if (md_41 30 0 7) ≤ v4_41 then some (v2_41, md_41) else x_bind (f_X8_canWrite md_41 (30) v4_41 a1) fun (q3 : Int32) => (if q3 = 0 then x_let (v4_41 + (1 : Int32)) fun (x14 : Int32) => f_X8_bestPlatter_L41 a1 n_41 (v2_41) (v3_41) (x14) (md_41) else x_bind (f_X8_timeFor md_41 v4_41) fun (q4 : (Int32 × SD)) => x_let (q4.1) fun (x5 : Int32) => (x_let (fun (y7 : Int32) => ((if y7 = 0 then x_let (v4_41 + (1 : Int32)) fun (x9 : Int32) => f_X8_bestPlatter_L41 a1 n_41 (v2_41) (v3_41) (x9) (q4.2) else x_let (v4_41 + (1 : Int32)) fun (x8 : Int32) => f_X8_bestPlatter_L41 a1 n_41 (v4_41) (x5) (x8) (q4.2)) : Option (Int32 × SD))) fun K6 => (x_let (fun (_u : Unit) => (K6 ((1 : Int32)) : Option (Int32 × SD))) fun K10 => (if v2_41 < 0 then K10 (()) else (if x5 < v3_41 then K10 (()) else (x_let (fun (_u : Unit) => (K6 ((0 : Int32)) : Option (Int32 × SD))) fun K11 => (if x5 = v3_41 then x_bind (f_X8_free (q4.2) v4_41) fun (q12 : Int32) => x_bind (f_X8_free (q4.2) v2_41) fun (q13 : Int32) => (if q13 ≤ q12 then K11 (()) else K10 (())) else K11 (())))))))))
noncomputable def f_X8_bestPlatter (md : SD) (a1 : Int32) : Option (Int32 × SD) := x_let (upS md 8 0 0 (0 : Int32)) fun (md1 : SD) => x_bind (f_X8_isIn ((a1).toInt64) (1 : Int64) (300 : Int64)) fun (q2 : Int32) => (if q2 = 0 then some ((-1000002 : Int32), md1) else (if (md1 30 0 6) = 0 then some ((-1000007 : Int32), md1) else f_X8_bestPlatter_L41 a1 fuel ((-1000005 : Int32)) ((0 : Int32)) ((0 : Int32)) (md1)))
noncomputable def f_X8_versionCount_L20 (md1 : SD) (a1 : Int32) : Nat → Int32 → Int32 → Option (Int32 × SD)
  | 0, _, _ => none
  | n_20 + 1, v2_20, v3_20 => (if (md1 30 0 10) ≤ v3_20 then some (v2_20, md1) else x_guard (vp_in ((309 : Int32) + v3_20) 605) <| (x_let (fun (y5 : Int32) => (x_let ((v2_20 + y5)) fun (x6 : Int32) => x_let (v3_20 + (1 : Int32)) fun (x7 : Int32) => f_X8_versionCount_L20 md1 a1 n_20 (x6) (x7) : Option (Int32 × SD))) fun K4 => (if (md1 30 0 (((309 : Int32) + v3_20)).toNatClampNeg) = a1 then K4 ((1 : Int32)) else K4 ((0 : Int32)))))
noncomputable def f_X8_versionCount (md : SD) (a1 : Int32) : Option (Int32 × SD) := x_let (upS md 8 0 0 (0 : Int32)) fun (md1 : SD) => x_bind (f_X8_isFile md1 a1) fun (q2 : Int32) => (if q2 = 0 then some ((-1000001 : Int32), md1) else f_X8_versionCount_L20 md1 a1 fuel ((0 : Int32)) ((0 : Int32)))
noncomputable def f_X8_ofVersion (md : SD) (a1 : Int32) (a2 : Int32) : Option (Int32 × SD) := x_let (upS md 8 0 0 (0 : Int32)) fun (md1 : SD) => x_bind (f_X8_isFile md1 a1) fun (q2 : Int32) => (if q2 = 0 then some ((-1000001 : Int32), md1) else x_bind (f_X8_version md1 a1) fun (q3 : Int32) => x_guard (vp_in (a2 + q3) 605) <| some ((md1 30 0 ((a2 + q3)).toNatClampNeg), md1))
noncomputable def f_X8_filePlatter (md : SD) (a1 : Int32) : Option (Int32 × SD) := x_bind (f_X8_ofVersion md a1 (349 : Int32)) fun (q1 : (Int32 × SD)) => some (q1.1, q1.2)
noncomputable def f_X8_fileStart (md : SD) (a1 : Int32) : Option (Int32 × SD) := x_bind (f_X8_ofVersion md a1 (389 : Int32)) fun (q1 : (Int32 × SD)) => some (q1.1, q1.2)
noncomputable def f_X8_fileSize (md : SD) (a1 : Int32) : Option (Int32 × SD) := x_bind (f_X8_ofVersion md a1 (429 : Int32)) fun (q1 : (Int32 × SD)) => some (q1.1, q1.2)
noncomputable def f_X8_fileSession (md : SD) (a1 : Int32) : Option (Int32 × SD) := x_bind (f_X8_ofVersion md a1 (469 : Int32)) fun (q1 : (Int32 × SD)) => some (q1.1, q1.2)
noncomputable def f_X8_remappedSectors (md : SD) (a1 : Int32) : Option (Int32 × SD) := x_bind (f_X8_ofVersion md a1 (509 : Int32)) fun (q1 : (Int32 × SD)) => some (q1.1, q1.2)
noncomputable def f_X8_fileState (md : SD) (a1 : Int32) : Option (Int32 × SD) := x_let (upS md 8 0 0 (0 : Int32)) fun (md1 : SD) => x_bind (f_X8_isFile md1 a1) fun (q2 : Int32) => (if q2 = 0 then some ((-1000001 : Int32), md1) else x_bind (f_X8_version md1 a1) fun (q3 : Int32) => x_guard (vp_in ((549 : Int32) + q3) 605) <| (if (md1 30 0 (((549 : Int32) + q3)).toNatClampNeg) = (1 : Int32) then some ((1 : Int32), md1) else x_bind (f_X8_version md1 a1) fun (q5 : Int32) => x_bind (f_X8_isClosed md1 q5) fun (q6 : Int32) => (if q6 = 0 then some ((2 : Int32), md1) else some ((0 : Int32), md1))))
noncomputable def f_X8_whyNotRead (md : SD) (a1 : Int32) : Option Int32 := x_bind (f_X8_isFile md a1) fun (q1 : Int32) => (if q1 = 0 then some ((-1000001 : Int32)) else (if (md 30 0 6) = 0 then some ((-1000007 : Int32)) else x_bind (f_X8_isReadable md a1) fun (q2 : Int32) => (if q2 = 0 then some ((-1000008 : Int32)) else some ((0 : Int32)))))
noncomputable def f_X8_readTime (md : SD) (a1 : Int32) : Option (Int32 × SD) := x_let (upS md 8 0 0 (0 : Int32)) fun (md1 : SD) => x_bind (f_X8_whyNotRead md1 a1) fun (q2 : Int32) => (if q2 = 0 then x_bind (f_X8_tries md1) fun (q3 : SD) => x_bind (f_X8_reads q3 a1) fun (q4 : SD) => x_bind (f_X8_takesBack q4) fun (q5 : (Int32 × SD)) => some (q5.1, q5.2) else some (q2, md1))
noncomputable def f_X8_lastGoodVersion_L24 (md1 : SD) (a1 : Int32) : Nat → Int32 → Int32 → Int32 → Option (Int32 × SD)
  | 0, _, _, _ => none
  | n_24 + 1, v2_24, v3_24, v4_24 => (if (md1 30 0 10) ≤ v4_24 then some (v2_24, md1) else x_guard (vp_in ((309 : Int32) + v4_24) 605) <| (if (md1 30 0 (((309 : Int32) + v4_24)).toNatClampNeg) = a1 then x_bind (f_X8_isGood md1 v4_24) fun (q4 : Int32) => (x_let (fun (y6 : Int32) => (x_let (v3_24 + (1 : Int32)) fun (x7 : Int32) => x_let (v4_24 + (1 : Int32)) fun (x8 : Int32) => f_X8_lastGoodVersion_L24 md1 a1 n_24 (y6) (x7) (x8) : Option (Int32 × SD))) fun K5 => (if q4 = 0 then K5 (v2_24) else K5 (v3_24))) else x_let (v4_24 + (1 : Int32)) fun (x9 : Int32) => f_X8_lastGoodVersion_L24 md1 a1 n_24 (v2_24) (v3_24) (x9)))
noncomputable def f_X8_lastGoodVersion (md : SD) (a1 : Int32) : Option (Int32 × SD) := x_let (upS md 8 0 0 (0 : Int32)) fun (md1 : SD) => x_bind (f_X8_isFile md1 a1) fun (q2 : Int32) => (if q2 = 0 then some ((-1000001 : Int32), md1) else f_X8_lastGoodVersion_L24 md1 a1 fuel ((-1000005 : Int32)) ((0 : Int32)) ((0 : Int32)))
noncomputable def f_X8_fileOfSector (md : SD) (a1 : Int32) (a2 : Int32) : Option (Int32 × SD) := x_let (upS md 8 0 0 (0 : Int32)) fun (md1 : SD) => x_bind (f_X8_isSector md1 a1 a2) fun (q2 : Int32) => (if q2 = 0 then some ((-1000001 : Int32), md1) else x_bind (f_X8_versionAt md1 (30) a1 a2) fun (q3 : Int32) => (if q3 = (-1 : Int32) then some ((-1000005 : Int32), md1) else x_guard (vp_in ((309 : Int32) + q3) 605) <| some ((md1 30 0 (((309 : Int32) + q3)).toNatClampNeg), md1)))
noncomputable def f_X8_filesOn_L20 (md1 : SD) (a1 : Int32) : Nat → Int32 → Int32 → Option (Int32 × SD)
  | 0, _, _ => none
  | n_20 + 1, v2_20, v3_20 => (if (md1 30 0 9) ≤ v3_20 then some (v2_20, md1) else x_bind (f_X8_platterOf md1 v3_20) fun (q3 : Int32) => (x_let (fun (y5 : Int32) => (x_let ((v2_20 + y5)) fun (x6 : Int32) => x_let (v3_20 + (1 : Int32)) fun (x7 : Int32) => f_X8_filesOn_L20 md1 a1 n_20 (x6) (x7) : Option (Int32 × SD))) fun K4 => (if q3 = a1 then K4 ((1 : Int32)) else K4 ((0 : Int32)))))
noncomputable def f_X8_filesOn (md : SD) (a1 : Int32) : Option (Int32 × SD) := x_let (upS md 8 0 0 (0 : Int32)) fun (md1 : SD) => x_bind (f_X8_isPlatter md1 a1) fun (q2 : Int32) => (if q2 = 0 then some ((-1000001 : Int32), md1) else f_X8_filesOn_L20 md1 a1 fuel ((0 : Int32)) ((0 : Int32)))
noncomputable def f_X8_took (md : SD) (a1 : Int32) : Option Int32 := some (((md 30 0 12) - a1))
noncomputable def f_X8_mount (md : SD) (a1 : Int32) : Option (Int32 × SD) := x_let (upS md 8 0 0 (0 : Int32)) fun (md1 : SD) => x_bind (f_X8_isPlatter md1 a1) fun (q2 : Int32) => (if q2 = 0 then some ((-1000001 : Int32), md1) else (if (md1 30 0 6) = 0 then some ((-1000007 : Int32), md1) else x_bind (f_X8_remembers md1) fun (q3 : SD) => x_let ((q3 30 0 12)) fun (x4 : Int32) => x_bind (f_X8_mounts q3 a1) fun (q5 : (Int32 × SD)) => x_bind (f_X8_took (q5.2) x4) fun (q6 : Int32) => some (q6, q5.2)))
noncomputable def f_X8_eject (md : SD) (a1 : Int32) : Option (Int32 × SD) := x_let (upS md 8 0 0 (0 : Int32)) fun (md1 : SD) => x_bind (f_X8_isDrive md1 a1) fun (q2 : Int32) => (if q2 = 0 then some ((-1000001 : Int32), md1) else x_guard (vp_in ((21 : Int32) + a1) 605) <| (if (md1 30 0 (((21 : Int32) + a1)).toNatClampNeg) = (-1 : Int32) then some ((-1000005 : Int32), md1) else x_bind (f_X8_remembers md1) fun (q4 : SD) => x_let ((q4 30 0 12)) fun (x5 : Int32) => x_bind (f_X8_empties q4 a1) fun (q6 : SD) => x_bind (f_X8_took q6 x5) fun (q7 : Int32) => some (q7, q6)))
noncomputable def f_X8_read (md : SD) (a1 : Int32) : Option (Int32 × SD) := x_let (upS md 8 0 0 (0 : Int32)) fun (md1 : SD) => x_bind (f_X8_whyNotRead md1 a1) fun (q2 : Int32) => (if q2 = 0 then x_bind (f_X8_remembers md1) fun (q3 : SD) => x_let ((q3 30 0 12)) fun (x4 : Int32) => x_bind (f_X8_reads q3 a1) fun (q5 : SD) => x_bind (f_X8_took q5 x4) fun (q6 : Int32) => some (q6, q5) else some (q2, md1))
noncomputable def f_X8_whyNotWritten (md : SD) (a1 : Int32) (a2 : Int32) (a3 : Int32) : Option Int32 := x_bind (f_X8_isPlatter md a2) fun (q1 : Int32) => (if q1 = 0 then some ((-1000001 : Int32)) else x_bind (f_X8_isIn ((a1).toInt64) (1 : Int64) (300 : Int64)) fun (q2 : Int32) => (if q2 = 0 then some ((-1000002 : Int32)) else (if a3 = 0 then (if (md 30 0 6) = 0 then some ((-1000007 : Int32)) else x_bind (f_X8_canWrite md (30) a2 a1) fun (q3 : Int32) => (if q3 = 0 then some ((-1000008 : Int32)) else some ((0 : Int32)))) else some ((-1000003 : Int32)))))
noncomputable def f_X8_writesOn (md : SD) (a1 : Int32) (a2 : Int32) (a3 : Int32) : Option SD := x_bind (f_X8_mounts md a3) fun (q1 : (Int32 × SD)) => x_let (upS q1.2 30 0 12 ((q1.2 30 0 12) + ((q1.2 30 0 5) * a2))) fun (md2 : SD) => x_bind (f_X8_writesVersion md2 (30) a1 a3 a2) fun (q3 : SD) => some (q3)
noncomputable def f_X8_write (md : SD) (a1 : Int32) (a2 : Int32) (a3 : Int32) : Option (Int32 × SD) := x_let (upS md 8 0 0 (0 : Int32)) fun (md1 : SD) => x_bind (f_X8_isFile md1 a1) fun (q2 : Int32) => (if q2 = 0 then some ((-1000001 : Int32), md1) else (x_let (fun (y4 : Int32) => (x_bind (f_X8_whyNotWritten md1 a2 a3 y4) fun (q5 : Int32) => (if q5 = 0 then x_bind (f_X8_remembers md1) fun (q6 : SD) => x_let ((q6 30 0 12)) fun (x7 : Int32) => x_bind (f_X8_writesOn q6 a1 a2 a3) fun (q8 : SD) => x_bind (f_X8_took q8 x7) fun (q9 : Int32) => some (q9, q8) else some (q5, md1)) : Option (Int32 × SD))) fun K3 => (if (md1 30 0 10) = (40 : Int32) then K3 ((1 : Int32)) else K3 ((0 : Int32)))))
noncomputable def f_X8_create (md : SD) (a1 : Int32) (a2 : Int32) : Option (Int32 × SD) := x_let (upS md 8 0 0 (0 : Int32)) fun (md1 : SD) => (x_let (fun (y3 : Int32) => (x_bind (f_X8_whyNotWritten md1 a1 a2 y3) fun (q4 : Int32) => (if q4 = 0 then x_bind (f_X8_remembers md1) fun (q5 : SD) => x_let ((q5 30 0 9)) fun (x6 : Int32) => x_let (upS q5 30 0 9 ((q5 30 0 9) + (1 : Int32))) fun (md7 : SD) => x_bind (f_X8_writesOn md7 x6 a1 a2) fun (q8 : SD) => some (x6, q8) else some (q4, md1)) : Option (Int32 × SD))) fun K2 => (x_let (fun (_u : Unit) => (K2 ((1 : Int32)) : Option (Int32 × SD))) fun K9 => (if (md1 30 0 9) = (20 : Int32) then K9 (()) else (if (md1 30 0 10) = (40 : Int32) then K9 (()) else K2 ((0 : Int32))))))
noncomputable def f_X8_closeSession (md : SD) (a1 : Int32) : Option (Int32 × SD) := x_let (upS md 8 0 0 (0 : Int32)) fun (md1 : SD) => x_bind (f_X8_isPlatter md1 a1) fun (q2 : Int32) => (if q2 = 0 then some ((-1000001 : Int32), md1) else x_guard (vp_in ((79 : Int32) + a1) 605) <| (if (md1 30 0 (((79 : Int32) + a1)).toNatClampNeg) = 0 then some ((-1000005 : Int32), md1) else (if (md1 30 0 6) = 0 then some ((-1000007 : Int32), md1) else x_bind (f_X8_remembers md1) fun (q4 : SD) => x_bind (f_X8_mounts q4 a1) fun (q5 : (Int32 × SD)) => x_bind (f_X8_leadOut (q5.2) (30) a1) fun (q6 : Int32) => x_let (upS q5.2 30 0 12 ((q5.2 30 0 12) + ((q5.2 30 0 5) * q6))) fun (md7 : SD) => x_bind (f_X8_closes md7 (30) a1) fun (q8 : SD) => some (q6, q8))))
noncomputable def f_X8_markBad_L66 (q5 : SD) : Nat → Int32 → Int32 → Option (Int32 × SD)
  | 0, _, _ => none
  | n_66 + 1, v3_66, v4_66 => (if (q5 30 0 10) ≤ v4_66 then some (v3_66, q5) else x_guard (vp_in ((549 : Int32) + v4_66) 605) <| x_let ((v3_66 + (q5 30 0 (((549 : Int32) + v4_66)).toNatClampNeg))) fun (x7 : Int32) => x_let (v4_66 + (1 : Int32)) fun (x8 : Int32) => f_X8_markBad_L66 q5 n_66 (x7) (x8))
noncomputable def f_X8_markBad (md : SD) (a1 : Int32) (a2 : Int32) : Option (Int32 × SD) := x_let (upS md 8 0 0 (0 : Int32)) fun (md1 : SD) => x_bind (f_X8_isSector md1 a1 a2) fun (q2 : Int32) => (if q2 = 0 then some ((-1000001 : Int32), md1) else x_bind (f_X8_isBad md1 (30) a1 a2) fun (q3 : Int32) => (if q3 = 0 then (if (md1 30 0 8) = (20 : Int32) then some ((-1000003 : Int32), md1) else x_bind (f_X8_remembers md1) fun (q4 : SD) => x_bind (f_X8_marks q4 (30) a1 a2) fun (q5 : SD) => f_X8_markBad_L66 q5 fuel ((0 : Int32)) ((0 : Int32))) else some ((-1000004 : Int32), md1)))
noncomputable def f_X8_homeAt_L2 (md : SD) (k0 : Nat) (a1 : Int32) : Nat → Int32 → Option Int32
  | 0, _ => none
  | n_2 + 1, v2_2 => (if (md k0 0 7) ≤ v2_2 then some ((-1 : Int32)) else x_guard (vp_in ((29 : Int32) + v2_2) 605) <| (if (md k0 0 (((29 : Int32) + v2_2)).toNatClampNeg) = a1 then some (v2_2) else x_let (v2_2 + (1 : Int32)) fun (x2 : Int32) => f_X8_homeAt_L2 md k0 a1 n_2 (x2)))
noncomputable def f_X8_homeAt (md : SD) (k0 : Nat) (a1 : Int32) : Option Int32 := f_X8_homeAt_L2 md k0 a1 fuel ((0 : Int32))
noncomputable def f_X8_moveHome (md : SD) (a1 : Int32) (a2 : Int32) : Option (Int32 × SD) := x_let (upS md 8 0 0 (0 : Int32)) fun (md1 : SD) => x_bind (f_X8_isPlatter md1 a1) fun (q2 : Int32) => (if q2 = 0 then some ((-1000001 : Int32), md1) else x_bind (f_X8_isSlot md1 a2) fun (q3 : Int32) => (if q3 = 0 then some ((-1000001 : Int32), md1) else x_guard (vp_in ((29 : Int32) + a1) 605) <| (if (md1 30 0 (((29 : Int32) + a1)).toNatClampNeg) = a2 then some ((-1000004 : Int32), md1) else x_bind (f_X8_inDrive md1 a1) fun (q5 : Int32) => (if q5 = (-1 : Int32) then x_bind (f_X8_homeAt md1 (30) a2) fun (q6 : Int32) => (if q6 = (-1 : Int32) then x_bind (f_X8_remembers md1) fun (q7 : SD) => x_guard (vp_in ((29 : Int32) + a1) 605) <| x_let ((q7 30 0 (((29 : Int32) + a1)).toNatClampNeg)) fun (x9 : Int32) => x_guard (vp_in ((29 : Int32) + a1) 605) <| x_let (upS q7 30 0 (((29 : Int32) + a1)).toNatClampNeg a2) fun (md11 : SD) => some (x9, md11) else some ((-1000003 : Int32), md1)) else some ((-1000005 : Int32), md1)))))
noncomputable def f_X8_setTimes (md : SD) (a1 : Int32) (a2 : Int32) (a3 : Int32) (a4 : Int32) (a5 : Int32) : Option (Int32 × SD) := x_let (upS md 8 0 0 (0 : Int32)) fun (md1 : SD) => x_bind (f_X8_isIn ((a1).toInt64) (0 : Int64) (99 : Int64)) fun (q2 : Int32) => (if q2 = 0 then some ((-1000002 : Int32), md1) else x_bind (f_X8_isIn ((a2).toInt64) (0 : Int64) (99 : Int64)) fun (q3 : Int32) => (if q3 = 0 then some ((-1000002 : Int32), md1) else x_bind (f_X8_isIn ((a3).toInt64) (0 : Int64) (99 : Int64)) fun (q4 : Int32) => (if q4 = 0 then some ((-1000002 : Int32), md1) else x_bind (f_X8_isIn ((a4).toInt64) (0 : Int64) (99 : Int64)) fun (q5 : Int32) => (if q5 = 0 then some ((-1000002 : Int32), md1) else x_bind (f_X8_isIn ((a5).toInt64) (0 : Int64) (99 : Int64)) fun (q6 : Int32) => (if q6 = 0 then some ((-1000002 : Int32), md1) else (x_let (fun (_u : Unit) => (x_bind (f_X8_remembers md1) fun (q8 : SD) => x_let ((((((q8 30 0 1) + (q8 30 0 2)) + (q8 30 0 3)) + (q8 30 0 4)) + (q8 30 0 5))) fun (x9 : Int32) => x_let (upS q8 30 0 1 a1) fun (md10 : SD) => x_let (upS md10 30 0 2 a2) fun (md11 : SD) => x_let (upS md11 30 0 3 a3) fun (md12 : SD) => x_let (upS md12 30 0 4 a4) fun (md13 : SD) => x_let (upS md13 30 0 5 a5) fun (md14 : SD) => some (x9, md14) : Option (Int32 × SD))) fun K7 => (if (md1 30 0 1) = a1 then (if (md1 30 0 2) = a2 then (if (md1 30 0 3) = a3 then (if (md1 30 0 4) = a4 then (if (md1 30 0 5) = a5 then some ((-1000004 : Int32), md1) else K7 (())) else K7 (())) else K7 (())) else K7 (())) else K7 (()))))))))
noncomputable def f_X8_request (md : SD) (a1 : Int32) : Option (Int32 × SD) := x_let (upS md 8 0 0 (0 : Int32)) fun (md1 : SD) => x_bind (f_X8_isFile md1 a1) fun (q2 : Int32) => (if q2 = 0 then some ((-1000001 : Int32), md1) else x_bind (f_X8_isReadable md1 a1) fun (q3 : Int32) => (if q3 = 0 then some ((-1000008 : Int32), md1) else (if (md1 30 0 16) = (16 : Int32) then some ((-1000003 : Int32), md1) else x_bind (f_X8_remembers md1) fun (q4 : SD) => x_guard (vp_in ((589 : Int32) + (q4 30 0 16)) 605) <| x_let (upS q4 30 0 (((589 : Int32) + (q4 30 0 16))).toNatClampNeg a1) fun (md6 : SD) => x_let (upS md6 30 0 16 ((md6 30 0 16) + (1 : Int32))) fun (md7 : SD) => some ((md7 30 0 16), md7))))
noncomputable def f_X8_drops_L13  : Nat → Int32 → SD → Option SD
  | 0, _, _ => none
  | n_13 + 1, v2_13, md_13 => (if (md_13 30 0 16) ≤ v2_13 then some (md_13) else x_guard (vp_in (((589 : Int32) + v2_13) + (1 : Int32)) 605) <| x_guard (vp_in ((589 : Int32) + v2_13) 605) <| x_let (upS md_13 30 0 (((589 : Int32) + v2_13)).toNatClampNeg (md_13 30 0 ((((589 : Int32) + v2_13) + (1 : Int32))).toNatClampNeg)) fun (md4 : SD) => x_let (v2_13 + (1 : Int32)) fun (x5 : Int32) => f_X8_drops_L13  n_13 (x5) (md4))
noncomputable def f_X8_drops (md : SD) (a1 : Int32) : Option SD := x_let (upS md 30 0 16 ((md 30 0 16) - (1 : Int32))) fun (md1 : SD) => f_X8_drops_L13  fuel (a1) (md1)
noncomputable def f_X8_dropRequest (md : SD) (a1 : Int32) : Option (Int32 × SD) := x_let (upS md 8 0 0 (0 : Int32)) fun (md1 : SD) => x_bind (f_X8_isRequest md1 a1) fun (q2 : Int32) => (if q2 = 0 then some ((-1000001 : Int32), md1) else x_bind (f_X8_remembers md1) fun (q3 : SD) => x_guard (vp_in ((589 : Int32) + a1) 605) <| x_let ((q3 30 0 (((589 : Int32) + a1)).toNatClampNeg)) fun (x5 : Int32) => x_bind (f_X8_drops q3 a1) fun (q6 : SD) => some (x5, q6))
noncomputable def f_X8_serveBatch (md : SD) : Option (Int32 × SD) := x_let (upS md 8 0 0 (0 : Int32)) fun (md1 : SD) => x_bind (f_X8_whyNotServed md1 (1 : Int32)) fun (q2 : Int32) => (if q2 = 0 then x_bind (f_X8_remembers md1) fun (q3 : SD) => x_let ((q3 30 0 12)) fun (x4 : Int32) => x_bind (f_X8_serves q3) fun (q5 : SD) => x_bind (f_X8_took q5 x4) fun (q6 : Int32) => some (q6, q5) else some (q2, md1))
noncomputable def f_X8_undo_L27  : Nat → Int32 → SD → Option (Int32 × SD)
  | 0, _, _ => none
  | n_27 + 1, v1_27, md_27 => (if (605 : Int32) ≤ v1_27 then some ((md_27 8 0 5), md_27) else x_guard (vp_in (((605 : Int32) * (md_27 8 0 5)) + v1_27) 9680) <| x_guard (vp_in v1_27 605) <| x_let (upS md_27 30 0 (v1_27).toNatClampNeg (md_27 33 0 ((((605 : Int32) * (md_27 8 0 5)) + v1_27)).toNatClampNeg)) fun (md5 : SD) => x_let (v1_27 + (1 : Int32)) fun (x6 : Int32) => f_X8_undo_L27  n_27 (x6) (md5))
noncomputable def f_X8_undo (md : SD) : Option (Int32 × SD) := x_let (upS md 8 0 0 (0 : Int32)) fun (md1 : SD) => (if (md1 8 0 5) = 0 then some ((-1000005 : Int32), md1) else x_let (upS md1 8 0 5 ((md1 8 0 5) - (1 : Int32))) fun (md2 : SD) => f_X8_undo_L27  fuel ((0 : Int32)) (md2))
noncomputable def f_X8_requestedFile (md : SD) (a1 : Int32) : Option (Int32 × SD) := x_let (upS md 8 0 0 (0 : Int32)) fun (md1 : SD) => x_bind (f_X8_isRequest md1 a1) fun (q2 : Int32) => (if q2 = 0 then some ((-1000001 : Int32), md1) else x_guard (vp_in ((589 : Int32) + a1) 605) <| some ((md1 30 0 (((589 : Int32) + a1)).toNatClampNeg), md1))
noncomputable def f_X8_batchTime (md : SD) : Option (Int32 × SD) := x_let (upS md 8 0 0 (0 : Int32)) fun (md1 : SD) => x_bind (f_X8_whyNotServed md1 (1 : Int32)) fun (q2 : Int32) => (if q2 = 0 then x_bind (f_X8_servingTime md1) fun (q3 : (Int32 × SD)) => some (q3.1, q3.2) else some (q2, md1))
noncomputable def f_X8_batchExchanges (md : SD) : Option (Int32 × SD) := x_let (upS md 8 0 0 (0 : Int32)) fun (md1 : SD) => x_bind (f_X8_whyNotServed md1 (1 : Int32)) fun (q2 : Int32) => (if q2 = 0 then x_bind (f_X8_findsWanted md1) fun (q3 : SD) => some ((q3 8 0 10), q3) else some (q2, md1))
noncomputable def f_X8_batchPlatter (md : SD) (a1 : Int32) : Option (Int32 × SD) := x_let (upS md 8 0 0 (0 : Int32)) fun (md1 : SD) => x_bind (f_X8_whyNotServed md1 (1 : Int32)) fun (q2 : Int32) => (if q2 = 0 then x_bind (f_X8_servingTime md1) fun (q3 : (Int32 × SD)) => x_bind (f_X8_isIn ((a1).toInt64) (0 : Int64) ((((q3.2 8 0 10) - (1 : Int32))).toInt64)) fun (q4 : Int32) => (if q4 = 0 then some ((-1000001 : Int32), q3.2) else x_guard (vp_in a1 10) <| x_guard (vp_in (q3.2 35 0 (a1).toNatClampNeg) 10) <| some ((q3.2 34 0 ((q3.2 35 0 (a1).toNatClampNeg)).toNatClampNeg), q3.2)) else some (q2, md1))
noncomputable def f_X8_oneByOneTime_L23  : Nat → Int32 → SD → Option (Int32 × SD)
  | 0, _, _ => none
  | n_23 + 1, v2_23, md_23 => (if (md_23 30 0 16) ≤ v2_23 then x_bind (f_X8_takesBack md_23) fun (q4 : (Int32 × SD)) => some (q4.1, q4.2) else x_guard (vp_in ((589 : Int32) + v2_23) 605) <| x_bind (f_X8_reads md_23 ((md_23 30 0 (((589 : Int32) + v2_23)).toNatClampNeg))) fun (q6 : SD) => x_let (v2_23 + (1 : Int32)) fun (x7 : Int32) => f_X8_oneByOneTime_L23  n_23 (x7) (q6))
noncomputable def f_X8_oneByOneTime (md : SD) : Option (Int32 × SD) := x_let (upS md 8 0 0 (0 : Int32)) fun (md1 : SD) => x_bind (f_X8_whyNotServed md1 (1 : Int32)) fun (q2 : Int32) => (if q2 = 0 then x_bind (f_X8_tries md1) fun (q3 : SD) => f_X8_oneByOneTime_L23  fuel ((0 : Int32)) (q3) else some (q2, md1))
noncomputable def f_X8_leastTimeWithoutOne_L22  : Nat → Int32 → Int32 → SD → Option (Int32 × SD)
  | 0, _, _, _ => none
  | n_22 + 1, v2_22, v3_22, md_22 => (if (md_22 30 0 16) ≤ v3_22 then some (v2_22, md_22) else x_bind (f_X8_tries md_22) fun (q3 : SD) => x_bind (f_X8_drops q3 v3_22) fun (q4 : SD) => x_bind (f_X8_serves q4) fun (q5 : SD) => x_bind (f_X8_takesBack q5) fun (q6 : (Int32 × SD)) => x_let (q6.1) fun (x7 : Int32) => (x_let (fun (y9 : Int32) => (x_let (v3_22 + (1 : Int32)) fun (x10 : Int32) => f_X8_leastTimeWithoutOne_L22  n_22 (y9) (x10) (q6.2) : Option (Int32 × SD))) fun K8 => (if v2_22 ≤ x7 then K8 (v2_22) else K8 (x7))))
noncomputable def f_X8_leastTimeWithoutOne (md : SD) : Option (Int32 × SD) := x_let (upS md 8 0 0 (0 : Int32)) fun (md1 : SD) => x_bind (f_X8_whyNotServed md1 (2 : Int32)) fun (q2 : Int32) => (if q2 = 0 then f_X8_leastTimeWithoutOne_L22  fuel ((1000000000 : Int32)) ((0 : Int32)) (md1) else some (q2, md1))
noncomputable def f_X8_nearest_L5 (md : SD) (a1 : Int32) : Nat → Int32 → Int32 → Option Int32
  | 0, _, _ => none
  | n_5 + 1, v2_5, v3_5 => (if (md 30 0 6) ≤ v3_5 then some (v2_5) else x_guard (vp_in ((17 : Int32) + v3_5) 605) <| x_bind (f_X8_far a1 ((md 30 0 (((17 : Int32) + v3_5)).toNatClampNeg))) fun (q2 : Int32) => x_let ((if q2 < v2_5 then q2 else v2_5)) fun (x3 : Int32) => x_let (v3_5 + (1 : Int32)) fun (x4 : Int32) => f_X8_nearest_L5 md a1 n_5 (x3) (x4))
noncomputable def f_X8_nearest (md : SD) (a1 : Int32) : Option Int32 := f_X8_nearest_L5 md a1 fuel ((1000000000 : Int32)) ((0 : Int32))
noncomputable def f_X8_nearestHome_L33 (md1 : SD) (a1 : Int32) : Nat → Int32 → Int32 → Option (Int32 × SD)
  | 0, _, _ => none
  | n_33 + 1, v2_33, v3_33 => (if (md1 30 0 0) ≤ v3_33 then some (v2_33, md1) else x_bind (f_X8_homeAt md1 (30) v3_33) fun (q3 : Int32) => (x_let (fun (_u : Unit) => ((x_let (fun (_u : Unit) => (x_let (v3_33 + (1 : Int32)) fun (x6 : Int32) => f_X8_nearestHome_L33 md1 a1 n_33 (v3_33) (x6) : Option (Int32 × SD))) fun K5 => (if v2_33 = (-1 : Int32) then K5 (()) else x_bind (f_X8_nearest md1 v3_33) fun (q7 : Int32) => x_bind (f_X8_nearest md1 v2_33) fun (q8 : Int32) => (if q8 ≤ q7 then x_let (v3_33 + (1 : Int32)) fun (x9 : Int32) => f_X8_nearestHome_L33 md1 a1 n_33 (v2_33) (x9) else K5 (())))) : Option (Int32 × SD))) fun K4 => (if q3 = (-1 : Int32) then K4 (()) else (if q3 = a1 then K4 (()) else x_let (v3_33 + (1 : Int32)) fun (x10 : Int32) => f_X8_nearestHome_L33 md1 a1 n_33 (v2_33) (x10)))))
noncomputable def f_X8_nearestHome (md : SD) (a1 : Int32) : Option (Int32 × SD) := x_let (upS md 8 0 0 (0 : Int32)) fun (md1 : SD) => x_bind (f_X8_isPlatter md1 a1) fun (q2 : Int32) => (if q2 = 0 then some ((-1000001 : Int32), md1) else (if (md1 30 0 6) = 0 then some ((-1000007 : Int32), md1) else f_X8_nearestHome_L33 md1 a1 fuel ((-1 : Int32)) ((0 : Int32))))
noncomputable def f_X8_puts (md : SD) (a1 : Int32) : Option SD := x_guard (vp_in (md 8 0 12) 600) <| x_let (upS md 37 0 ((md 8 0 12)).toNatClampNeg ((a1).toInt8.toInt32).toInt8.toInt32) fun (md2 : SD) => x_let (upS md2 8 0 12 ((md2 8 0 12) + (1 : Int32))) fun (md3 : SD) => some (md3)
noncomputable def f_X8_digits_L20 (a1 : Int32) : Nat → Int32 → SD → Option SD
  | 0, _, _ => none
  | n_20 + 1, v3_20, md_20 => (if v3_20 ≤ 0 then some (md_20) else x_guard (¬ v3_20 = 0) <| x_bind (f_X8_puts md_20 (((48 : Int32) + ((a1 / v3_20) - (a1 / v3_20) / (10 : Int32) * (10 : Int32))))) fun (q3 : SD) => x_let ((v3_20 / (10 : Int32))) fun (x4 : Int32) => f_X8_digits_L20 a1 n_20 (x4) (q3))
noncomputable def f_X8_digits_L2 (a1 : Int32) (md : SD) : Nat → Int32 → Option SD
  | 0, _ => none
  | n_2 + 1, v2_2 => x_guard (¬ v2_2 = 0) <| (if (a1 / v2_2) ≤ (9 : Int32) then f_X8_digits_L20 a1 fuel (v2_2) (md) else x_let ((v2_2 * (10 : Int32))) fun (x5 : Int32) => f_X8_digits_L2 a1 md n_2 (x5))
noncomputable def f_X8_digits (md : SD) (a1 : Int32) : Option SD := f_X8_digits_L2 a1 md fuel ((1 : Int32))
noncomputable def f_X8_writeCatalogue_L12  : Nat → Int32 → SD → Option (Int32 × SD)
  | 0, _, _ => none
  | n_12 + 1, v1_12, md_12 => (if (md_12 30 0 9) ≤ v1_12 then some ((md_12 8 0 12), md_12) else x_bind (f_X8_digits md_12 v1_12) fun (q3 : SD) => x_bind (f_X8_puts q3 (58 : Int32)) fun (q4 : SD) => x_bind (f_X8_platterOf q4 v1_12) fun (q5 : Int32) => x_bind (f_X8_digits q4 q5) fun (q6 : SD) => x_bind (f_X8_puts q6 (44 : Int32)) fun (q7 : SD) => x_bind (f_X8_version q7 v1_12) fun (q8 : Int32) => x_guard (vp_in ((389 : Int32) + q8) 605) <| x_bind (f_X8_digits q7 ((q7 30 0 (((389 : Int32) + q8)).toNatClampNeg))) fun (q10 : SD) => x_bind (f_X8_puts q10 (44 : Int32)) fun (q11 : SD) => x_bind (f_X8_version q11 v1_12) fun (q12 : Int32) => x_guard (vp_in ((429 : Int32) + q12) 605) <| x_bind (f_X8_digits q11 ((q11 30 0 (((429 : Int32) + q12)).toNatClampNeg))) fun (q14 : SD) => x_bind (f_X8_isReadable q14 v1_12) fun (q15 : Int32) => (x_let (fun (md17 : SD) => (x_bind (f_X8_puts md17 (59 : Int32)) fun (q18 : SD) => x_let (v1_12 + (1 : Int32)) fun (x19 : Int32) => f_X8_writeCatalogue_L12  n_12 (x19) (q18) : Option (Int32 × SD))) fun K16 => (if q15 = 0 then K16 (q14) else x_bind (f_X8_puts q14 (42 : Int32)) fun (q20 : SD) => K16 (q20))))
noncomputable def f_X8_writeCatalogue (md : SD) : Option (Int32 × SD) := x_let (upS md 8 0 0 (0 : Int32)) fun (md1 : SD) => x_let (upS md1 8 0 12 (0 : Int32)) fun (md2 : SD) => f_X8_writeCatalogue_L12  fuel ((0 : Int32)) (md2)
noncomputable def f_X8_outputByte (md : SD) (a1 : Int32) : Option (Int32 × SD) := x_let (upS md 8 0 0 (0 : Int32)) fun (md1 : SD) => x_bind (f_X8_isIn ((a1).toInt64) (0 : Int64) ((((md1 8 0 12) - (1 : Int32))).toInt64)) fun (q2 : Int32) => (if q2 = 0 then some ((-1000001 : Int32), md1) else x_guard (vp_in a1 600) <| some ((md1 37 0 (a1).toNatClampNeg), md1))
noncomputable def f_X8_feeds_L3 (a1 : Int32) : Nat → Int32 → SD → Option SD
  | 0, _, _ => none
  | n_3 + 1, v2_3, md_3 => (if v2_3 < 0 then some (md_3) else x_guard (vp_in (md_3 8 0 15) 900) <| x_let (upS md_3 38 0 ((md_3 8 0 15)).toNatClampNeg (((a1 >>> (v2_3 &&& 31))).toInt8.toInt32).toInt8.toInt32) fun (md2 : SD) => x_let (upS md2 8 0 15 ((md2 8 0 15) + (1 : Int32))) fun (md3 : SD) => x_let (v2_3 + (-8 : Int32)) fun (x4 : Int32) => f_X8_feeds_L3 a1 n_3 (x4) (md3))
noncomputable def f_X8_feeds (md : SD) (a1 : Int32) : Option SD := f_X8_feeds_L3 a1 fuel ((24 : Int32)) (md)
noncomputable def f_X8_feed (md : SD) (a1 : Int32) (a2 : Int32) (a3 : Int32) (a4 : Int32) (a5 : Int32) : Option (Int32 × SD) := x_let (upS md 8 0 0 (0 : Int32)) fun (md1 : SD) => (if ((md1 8 0 15) + (20 : Int32)) ≤ (900 : Int32) then x_bind (f_X8_feeds md1 a1) fun (q2 : SD) => x_bind (f_X8_feeds q2 a2) fun (q3 : SD) => x_bind (f_X8_feeds q3 a3) fun (q4 : SD) => x_bind (f_X8_feeds q4 a4) fun (q5 : SD) => x_bind (f_X8_feeds q5 a5) fun (q6 : SD) => some ((q6 8 0 15), q6) else some ((-1000003 : Int32), md1))
noncomputable def f_X8_isOf (md : SD) (a1 : Int32) (a2 : Int32) (a3 : Int32) : Option Int32 := (if (md 8 0 24) ≤ a1 then some ((0 : Int32)) else x_guard (vp_in a1 900) <| x_bind (f_X8_isIn (((md 38 0 (a1).toNatClampNeg)).toInt64) ((a2).toInt64) ((a3).toInt64)) fun (q2 : Int32) => (if q2 = 0 then some ((0 : Int32)) else some ((1 : Int32))))
noncomputable def f_X8_next_L254  : Nat → SD → Option (SD)
  | 0, _ => none
  | n_254 + 1, md_254 => x_bind (f_X8_isOf md_254 ((md_254 8 0 21)) (48 : Int32) (57 : Int32)) fun (q15 : Int32) => (if q15 = 0 then some (md_254) else (x_let (fun (y17 : Int32) => (x_let (upS md_254 8 0 23 y17) fun (md18 : SD) => x_let (upS md18 8 0 21 ((md18 8 0 21) + (1 : Int32))) fun (md19 : SD) => f_X8_next_L254  n_254 (md19) : Option (SD))) fun K16 => (if (5 : Int32) ≤ ((md_254 8 0 21) - (md_254 8 0 20)) then K16 ((md_254 8 0 23)) else x_guard (vp_in (md_254 8 0 21) 900) <| K16 (((((10 : Int32) * (md_254 8 0 23)) + (md_254 38 0 ((md_254 8 0 21)).toNatClampNeg)) - (48 : Int32))))))
noncomputable def f_X8_next_L127  : Nat → SD → Int64 → Option (SD × Int64)
  | 0, _, _ => none
  | n_127 + 1, md_127, mw_127 => x_bind (f_X8_isOf md_127 ((md_127 8 0 21)) (97 : Int32) (122 : Int32)) fun (q27 : Int32) => (if q27 = 0 then some (md_127, mw_127) else (x_let (fun (y29 : Int64) => (x_let (y29) fun (mw30 : Int64) => x_let (upS md_127 8 0 21 ((md_127 8 0 21) + (1 : Int32))) fun (md31 : SD) => f_X8_next_L127  n_127 (md31) (mw30) : Option (SD × Int64))) fun K28 => (if (8 : Int32) ≤ ((md_127 8 0 21) - (md_127 8 0 20)) then K28 ((0 : Int64)) else x_guard (vp_in (md_127 8 0 21) 900) <| K28 (((((27 : Int64) * mw_127) + ((md_127 38 0 ((md_127 8 0 21)).toNatClampNeg)).toInt64) - (96 : Int64))))))
noncomputable def f_X8_next_L8 (mw : Int64) : Nat → SD → Option (SD × Int64)
  | 0, _ => none
  | n_8 + 1, md_8 => x_bind (f_X8_isOf md_8 ((md_8 8 0 20)) (32 : Int32) (32 : Int32)) fun (q2 : Int32) => (x_let (fun (_u : Unit) => (x_let (upS md_8 8 0 20 ((md_8 8 0 20) + (1 : Int32))) fun (md4 : SD) => f_X8_next_L8 mw n_8 (md4) : Option (SD × Int64))) fun K3 => (if q2 = 0 then x_bind (f_X8_isOf md_8 ((md_8 8 0 20)) (10 : Int32) (10 : Int32)) fun (q5 : Int32) => (if q5 = 0 then x_let (upS md_8 8 0 21 ((md_8 8 0 20) + (1 : Int32))) fun (md6 : SD) => (x_let (fun (y8 : Int32) => (x_let (upS md6 8 0 22 y8) fun (md9 : SD) => x_bind (f_X8_isOf md9 ((md9 8 0 20)) (97 : Int32) (122 : Int32)) fun (q10 : Int32) => (if q10 = 0 then x_bind (f_X8_isOf md9 ((md9 8 0 20)) (48 : Int32) (57 : Int32)) fun (q11 : Int32) => (if q11 = 0 then some (md9, mw) else x_let (upS md9 8 0 23 (0 : Int32)) fun (md12 : SD) => x_let (upS md12 8 0 21 (md12 8 0 20)) fun (md13 : SD) => x_bind (f_X8_next_L254  fuel (md13)) fun (q14 : (SD)) => (x_let (fun (y22 : Int32) => (x_let (upS q14 8 0 22 y22) fun (md23 : SD) => some (md23, mw) : Option (SD × Int64))) fun K21 => (if ((q14 8 0 21) - (q14 8 0 20)) ≤ (5 : Int32) then K21 ((2 : Int32)) else K21 ((4 : Int32))))) else x_let ((0 : Int64)) fun (mw24 : Int64) => x_let (upS md9 8 0 21 (md9 8 0 20)) fun (md25 : SD) => x_bind (f_X8_next_L127  fuel (md25) (mw24)) fun (q26 : (SD × Int64)) => (x_let (fun (y34 : Int32) => (x_let (upS q26.1 8 0 22 y34) fun (md35 : SD) => some (md35, q26.2) : Option (SD × Int64))) fun K33 => (if ((q26.1 8 0 21) - (q26.1 8 0 20)) ≤ (8 : Int32) then K33 ((1 : Int32)) else K33 ((4 : Int32))))) : Option (SD × Int64))) fun K7 => (if (md6 8 0 20) < (md6 8 0 24) then x_guard (vp_in (md6 8 0 20) 900) <| (if (md6 38 0 ((md6 8 0 20)).toNatClampNeg) = (59 : Int32) then K7 ((3 : Int32)) else K7 ((4 : Int32))) else K7 ((0 : Int32)))) else K3 (())) else K3 (())))
noncomputable def f_X8_next (md : SD) (mw : Int64) : Option (SD × Int64) := x_let (upS md 8 0 20 (md 8 0 21)) fun (md1 : SD) => f_X8_next_L8 mw fuel (md1)
noncomputable def f_X8_good (md : SD) : Option Int32 := (if (md 8 0 18) = 0 then some ((1 : Int32)) else some ((0 : Int32)))
noncomputable def f_X8_must (md : SD) (a1 : Int32) (a2 : Int32) : Option SD := (if a1 = 0 then (if (md 8 0 18) ≤ 0 then (x_let (fun (y2 : Int32) => (x_let (upS md 8 0 18 y2) fun (md3 : SD) => x_let (upS md3 8 0 19 (md3 8 0 20)) fun (md4 : SD) => some (md4) : Option SD)) fun K1 => (x_let (fun (_u : Unit) => (K1 (a2) : Option SD)) fun K5 => (if a2 = (2 : Int32) then (if (md 8 0 22) = (4 : Int32) then K1 ((1 : Int32)) else K5 (())) else K5 (())))) else some (md)) else some (md))
noncomputable def f_X8_goesOn (md : SD) (mw : Int64) : Option (SD × Int64) := x_bind (f_X8_good md) fun (q1 : Int32) => (if q1 = 0 then some (md, mw) else x_bind (f_X8_next md mw) fun (q2 : (SD × Int64)) => some (q2.1, q2.2))
noncomputable def f_X8_isWord (md : SD) (mw : Int64) (a1 : Int64) : Option Int32 := x_bind (f_X8_good md) fun (q1 : Int32) => (if q1 = 0 then some ((0 : Int32)) else (if (md 8 0 22) = (1 : Int32) then (if (lg_cmp mw a1) = 0 then some ((1 : Int32)) else some ((0 : Int32))) else some ((0 : Int32))))
noncomputable def f_X8_isReserved (md : SD) (mw : Int64) : Option Int32 := x_bind (f_X8_isWord md mw (10345069 : Int64)) fun (q1 : Int32) => (if q1 = 0 then x_bind (f_X8_isWord md mw (2487218 : Int64)) fun (q2 : Int32) => (if q2 = 0 then x_bind (f_X8_isWord md mw (400577 : Int64)) fun (q3 : Int32) => (if q3 = 0 then x_bind (f_X8_isWord md mw (6371854542 : Int64)) fun (q4 : Int32) => (if q4 = 0 then x_bind (f_X8_isWord md mw (1489 : Int64)) fun (q5 : Int32) => (if q5 = 0 then x_bind (f_X8_isWord md mw (124988 : Int64)) fun (q6 : Int32) => (if q6 = 0 then x_bind (f_X8_isWord md mw (1841972 : Int64)) fun (q7 : Int32) => (if q7 = 0 then some ((0 : Int32)) else some ((1 : Int32))) else some ((1 : Int32))) else some ((1 : Int32))) else some ((1 : Int32))) else some ((1 : Int32))) else some ((1 : Int32))) else some ((1 : Int32)))
noncomputable def f_X8_sees (md : SD) (a1 : Int32) (a2 : Int32) : Option (Int32 × SD) := (x_let (fun (y2 : Int32) => (x_bind (f_X8_must md y2 (2 : Int32)) fun (q3 : SD) => x_bind (f_X8_isIn (((q3 8 0 23)).toInt64) ((a1).toInt64) ((a2).toInt64)) fun (q4 : Int32) => x_bind (f_X8_must q3 q4 (3 : Int32)) fun (q5 : SD) => x_bind (f_X8_good q5) fun (q6 : Int32) => (if q6 = 0 then some ((0 : Int32), q5) else some ((q5 8 0 23), q5)) : Option (Int32 × SD))) fun K1 => (if (md 8 0 22) = (2 : Int32) then K1 ((1 : Int32)) else K1 ((0 : Int32))))
noncomputable def f_X8_takes (md : SD) (mw : Int64) (a1 : Int32) (a2 : Int32) : Option (Int32 × SD × Int64) := x_bind (f_X8_sees md a1 a2) fun (q1 : (Int32 × SD)) => x_let (q1.1) fun (x2 : Int32) => x_bind (f_X8_goesOn (q1.2) mw) fun (q3 : (SD × Int64)) => some (x2, q3.1, q3.2)
noncomputable def f_X8_slotsLine (md : SD) (mw : Int64) : Option (SD × Int64) := (x_let (fun (y2 : Int32) => (x_bind (f_X8_must md y2 (5 : Int32)) fun (q3 : SD) => x_bind (f_X8_goesOn q3 mw) fun (q4 : (SD × Int64)) => x_bind (f_X8_takes (q4.1) (q4.2) (4 : Int32) (24 : Int32)) fun (q5 : (Int32 × SD × Int64)) => x_let (upS q5.2.1 31 0 0 q5.1) fun (md6 : SD) => some (md6, q5.2.2) : Option (SD × Int64))) fun K1 => (if (md 8 0 25) = 0 then K1 ((1 : Int32)) else K1 ((0 : Int32))))
noncomputable def f_X8_driveLine (md : SD) (mw : Int64) : Option (SD × Int64) := (x_let (fun (y2 : Int32) => (x_bind (f_X8_must md y2 (5 : Int32)) fun (q3 : SD) => x_bind (f_X8_goesOn q3 mw) fun (q4 : (SD × Int64)) => x_bind (f_X8_takes (q4.1) (q4.2) (0 : Int32) (((q4.1 31 0 0) - (1 : Int32)))) fun (q5 : (Int32 × SD × Int64)) => x_let (q5.1) fun (x6 : Int32) => x_bind (f_X8_good (q5.2.1)) fun (q7 : Int32) => (if q7 = 0 then some (q5.2.1, q5.2.2) else x_guard (vp_in ((17 : Int32) + (q5.2.1 31 0 6)) 605) <| x_let (upS q5.2.1 31 0 (((17 : Int32) + (q5.2.1 31 0 6))).toNatClampNeg x6) fun (md9 : SD) => x_let (upS md9 31 0 6 ((md9 31 0 6) + (1 : Int32))) fun (md10 : SD) => some (md10, q5.2.2)) : Option (SD × Int64))) fun K1 => (if (4 : Int32) ≤ (md 31 0 6) then K1 ((0 : Int32)) else K1 ((1 : Int32))))
noncomputable def f_X8_timeLine_L6  : Nat → Int32 → SD → Int64 → Option (SD × Int64)
  | 0, _, _, _ => none
  | n_6 + 1, v1_6, md_6, mw_6 => (if (5 : Int32) ≤ v1_6 then some (md_6, mw_6) else x_bind (f_X8_takes md_6 mw_6 (0 : Int32) (99 : Int32)) fun (q2 : (Int32 × SD × Int64)) => x_guard (vp_in ((1 : Int32) + v1_6) 605) <| x_let (upS q2.2.1 31 0 (((1 : Int32) + v1_6)).toNatClampNeg q2.1) fun (md4 : SD) => x_let (v1_6 + (1 : Int32)) fun (x5 : Int32) => f_X8_timeLine_L6  n_6 (x5) (md4) (q2.2.2))
noncomputable def f_X8_timeLine (md : SD) (mw : Int64) : Option (SD × Int64) := x_bind (f_X8_goesOn md mw) fun (q1 : (SD × Int64)) => f_X8_timeLine_L6  fuel ((0 : Int32)) (q1.1) (q1.2)
noncomputable def f_X8_platterLine (md : SD) (mw : Int64) : Option (SD × Int64) := (x_let (fun (y2 : Int32) => (x_bind (f_X8_must md y2 (5 : Int32)) fun (q3 : SD) => x_bind (f_X8_goesOn q3 mw) fun (q4 : (SD × Int64)) => x_bind (f_X8_sees (q4.1) (0 : Int32) (((q4.1 31 0 0) - (1 : Int32)))) fun (q5 : (Int32 × SD)) => x_let (q5.1) fun (x6 : Int32) => x_bind (f_X8_homeAt (q5.2) (31) x6) fun (q7 : Int32) => (x_let (fun (y9 : Int32) => (x_bind (f_X8_must (q5.2) y9 (4 : Int32)) fun (q10 : SD) => x_bind (f_X8_goesOn q10 (q4.2)) fun (q11 : (SD × Int64)) => x_bind (f_X8_takes (q11.1) (q11.2) (10 : Int32) (300 : Int32)) fun (q12 : (Int32 × SD × Int64)) => x_let (q12.1) fun (x13 : Int32) => x_bind (f_X8_takes (q12.2.1) (q12.2.2) (0 : Int32) (9 : Int32)) fun (q14 : (Int32 × SD × Int64)) => x_let (q14.1) fun (x15 : Int32) => x_bind (f_X8_good (q14.2.1)) fun (q16 : Int32) => (if q16 = 0 then some (q14.2.1, q14.2.2) else x_let ((q14.2.1 31 0 7)) fun (x17 : Int32) => x_let (upS q14.2.1 31 0 7 ((q14.2.1 31 0 7) + (1 : Int32))) fun (md18 : SD) => x_guard (vp_in ((29 : Int32) + x17) 605) <| x_let (upS md18 31 0 (((29 : Int32) + x17)).toNatClampNeg x6) fun (md20 : SD) => x_guard (vp_in ((39 : Int32) + x17) 605) <| x_let (upS md20 31 0 (((39 : Int32) + x17)).toNatClampNeg x13) fun (md22 : SD) => x_guard (vp_in ((49 : Int32) + x17) 605) <| x_let (upS md22 31 0 (((49 : Int32) + x17)).toNatClampNeg x15) fun (md24 : SD) => some (md24, q14.2.2)) : Option (SD × Int64))) fun K8 => (if q7 = (-1 : Int32) then K8 ((1 : Int32)) else K8 ((0 : Int32)))) : Option (SD × Int64))) fun K1 => (if (10 : Int32) ≤ (md 31 0 7) then K1 ((0 : Int32)) else K1 ((1 : Int32))))
noncomputable def f_X8_badLine (md : SD) (mw : Int64) : Option (SD × Int64) := (x_let (fun (y2 : Int32) => (x_bind (f_X8_must md y2 (5 : Int32)) fun (q3 : SD) => x_bind (f_X8_goesOn q3 mw) fun (q4 : (SD × Int64)) => x_bind (f_X8_takes (q4.1) (q4.2) (0 : Int32) (((q4.1 31 0 7) - (1 : Int32)))) fun (q5 : (Int32 × SD × Int64)) => x_let (q5.1) fun (x6 : Int32) => x_bind (f_X8_good (q5.2.1)) fun (q7 : Int32) => (x_let (fun (y9 : Int32) => (x_bind (f_X8_sees (q5.2.1) (0 : Int32) y9) fun (q10 : (Int32 × SD)) => x_let (q10.1) fun (x11 : Int32) => x_bind (f_X8_good (q10.2)) fun (q12 : Int32) => (x_let (fun (y14 : Int32) => (x_bind (f_X8_must (q10.2) y14 (4 : Int32)) fun (q15 : SD) => x_bind (f_X8_good q15) fun (q16 : Int32) => (x_let (fun (md18 : SD) => (x_bind (f_X8_goesOn md18 (q5.2.2)) fun (q19 : (SD × Int64)) => some (q19.1, q19.2) : Option (SD × Int64))) fun K17 => (if q16 = 0 then K17 (q15) else x_bind (f_X8_marks q15 (31) x6 x11) fun (q20 : SD) => K17 (q20))) : Option (SD × Int64))) fun K13 => (x_let (fun (_u : Unit) => (K13 ((0 : Int32)) : Option (SD × Int64))) fun K21 => (if q12 = 0 then K21 (()) else x_bind (f_X8_isBad (q10.2) (31) x6 x11) fun (q22 : Int32) => (if q22 = 0 then K13 ((1 : Int32)) else K21 (()))))) : Option (SD × Int64))) fun K8 => (if q7 = 0 then K8 ((0 : Int32)) else x_guard (vp_in ((39 : Int32) + x6) 605) <| K8 (((q5.2.1 31 0 (((39 : Int32) + x6)).toNatClampNeg) - (1 : Int32))))) : Option (SD × Int64))) fun K1 => (if (20 : Int32) ≤ (md 31 0 8) then K1 ((0 : Int32)) else K1 ((1 : Int32))))
noncomputable def f_X8_fileLine_L53 (q4 : (SD × Int64)) (mn : Nat → Int64) : Nat → Int32 → SD → Option (SD × (Nat → Int64) × Int64)
  | 0, _, _ => none
  | n_53 + 1, v1_53, md_53 => (x_let (fun (_u : Unit) => (x_let (q4.2) fun (x9 : Int64) => x_bind (f_X8_goesOn md_53 (q4.2)) fun (q10 : (SD × Int64)) => x_bind (f_X8_takes (q10.1) (q10.2) (1 : Int32) (300 : Int32)) fun (q11 : (Int32 × SD × Int64)) => x_let (q11.1) fun (x12 : Int32) => x_bind (f_X8_sees (q11.2.1) (0 : Int32) (((q11.2.1 31 0 7) - (1 : Int32)))) fun (q13 : (Int32 × SD)) => x_let (q13.1) fun (x14 : Int32) => x_bind (f_X8_good (q13.2)) fun (q15 : Int32) => (x_let (fun (y17 : Int32) => (x_bind (f_X8_must (q13.2) y17 (6 : Int32)) fun (q18 : SD) => x_bind (f_X8_good q18) fun (q19 : Int32) => (x_let (fun (md21 : SD) (mn22 : Nat → Int64) => (x_bind (f_X8_goesOn md21 (q11.2.2)) fun (q23 : (SD × Int64)) => some (q23.1, mn22, q23.2) : Option (SD × (Nat → Int64) × Int64))) fun K20 => (if q19 = 0 then K20 (q18) (mn) else x_guard (vp_in (q18 31 0 9) 20) <| x_let (vp_updL mn ((q18 31 0 9)).toNatClampNeg x9) fun (mn25 : Nat → Int64) => x_let (upS q18 31 0 9 ((q18 31 0 9) + (1 : Int32))) fun (md26 : SD) => x_bind (f_X8_writesVersion md26 (31) (((md26 31 0 9) - (1 : Int32))) x14 x12) fun (q27 : SD) => K20 (q27) (mn25))) : Option (SD × (Nat → Int64) × Int64))) fun K16 => (x_let (fun (_u : Unit) => (K16 ((0 : Int32)) : Option (SD × (Nat → Int64) × Int64))) fun K28 => (if q15 = 0 then K28 (()) else x_bind (f_X8_canWrite (q13.2) (31) x14 x12) fun (q29 : Int32) => (if q29 = 0 then K28 (()) else K16 ((1 : Int32)))))) : Option (SD × (Nat → Int64) × Int64))) fun K8 => (if (md_53 31 0 9) ≤ v1_53 then K8 (()) else x_bind (f_X8_good md_53) fun (q30 : Int32) => (if q30 = 0 then K8 (()) else x_guard (vp_in v1_53 20) <| (x_let (fun (y33 : Int32) => (x_bind (f_X8_must md_53 y33 (4 : Int32)) fun (q34 : SD) => x_let (v1_53 + (1 : Int32)) fun (x35 : Int32) => f_X8_fileLine_L53 q4 mn n_53 (x35) (q34) : Option (SD × (Nat → Int64) × Int64))) fun K32 => (if (lg_cmp (mn (v1_53).toNatClampNeg) q4.2) = 0 then K32 ((0 : Int32)) else K32 ((1 : Int32)))))))
noncomputable def f_X8_fileLine (md : SD) (mn : Nat → Int64) (mw : Int64) : Option (SD × (Nat → Int64) × Int64) := (x_let (fun (y2 : Int32) => (x_bind (f_X8_must md y2 (5 : Int32)) fun (q3 : SD) => x_bind (f_X8_goesOn q3 mw) fun (q4 : (SD × Int64)) => (x_let (fun (y6 : Int32) => (x_bind (f_X8_must (q4.1) y6 (2 : Int32)) fun (q7 : SD) => f_X8_fileLine_L53 q4 mn fuel ((0 : Int32)) (q7) : Option (SD × (Nat → Int64) × Int64))) fun K5 => (x_let (fun (_u : Unit) => (K5 ((0 : Int32)) : Option (SD × (Nat → Int64) × Int64))) fun K36 => (if (q4.1 8 0 22) = (1 : Int32) then x_bind (f_X8_isReserved (q4.1) (q4.2)) fun (q37 : Int32) => (if q37 = 0 then K5 ((1 : Int32)) else K36 (())) else K36 (())))) : Option (SD × (Nat → Int64) × Int64))) fun K1 => (if (20 : Int32) ≤ (md 31 0 9) then K1 ((0 : Int32)) else K1 ((1 : Int32))))
noncomputable def f_X8_closeLine (md : SD) (mw : Int64) : Option (SD × Int64) := x_bind (f_X8_goesOn md mw) fun (q1 : (SD × Int64)) => x_bind (f_X8_sees (q1.1) (0 : Int32) (((q1.1 31 0 7) - (1 : Int32)))) fun (q2 : (Int32 × SD)) => x_let (q2.1) fun (x3 : Int32) => x_bind (f_X8_good (q2.2)) fun (q4 : Int32) => (x_let (fun (y6 : Int32) => (x_bind (f_X8_must (q2.2) y6 (6 : Int32)) fun (q7 : SD) => x_bind (f_X8_good q7) fun (q8 : Int32) => (x_let (fun (md10 : SD) => (x_bind (f_X8_goesOn md10 (q1.2)) fun (q11 : (SD × Int64)) => some (q11.1, q11.2) : Option (SD × Int64))) fun K9 => (if q8 = 0 then K9 (q7) else x_bind (f_X8_closes q7 (31) x3) fun (q12 : SD) => K9 (q12))) : Option (SD × Int64))) fun K5 => (x_let (fun (_u : Unit) => (K5 ((0 : Int32)) : Option (SD × Int64))) fun K13 => (if q4 = 0 then K13 (()) else x_guard (vp_in ((79 : Int32) + x3) 605) <| (if (q2.2 31 0 (((79 : Int32) + x3)).toNatClampNeg) = (1 : Int32) then K5 ((1 : Int32)) else K13 (())))))
noncomputable def f_X8_line (md : SD) (mn : Nat → Int64) (mw : Int64) : Option (SD × (Nat → Int64) × Int64) := x_bind (f_X8_isWord md mw (10345069 : Int64)) fun (q1 : Int32) => (x_let (fun (md3 : SD) (mn4 : Nat → Int64) (mw5 : Int64) => (x_let (upS md3 8 0 25 ((md3 8 0 25) + (1 : Int32))) fun (md6 : SD) => some (md6, mn4, mw5) : Option (SD × (Nat → Int64) × Int64))) fun K2 => (if q1 = 0 then x_bind (f_X8_isWord md mw (2487218 : Int64)) fun (q7 : Int32) => (if q7 = 0 then x_bind (f_X8_isWord md mw (400577 : Int64)) fun (q8 : Int32) => (if q8 = 0 then x_bind (f_X8_isWord md mw (6371854542 : Int64)) fun (q9 : Int32) => (if q9 = 0 then x_bind (f_X8_isWord md mw (1489 : Int64)) fun (q10 : Int32) => (if q10 = 0 then x_bind (f_X8_isWord md mw (124988 : Int64)) fun (q11 : Int32) => (if q11 = 0 then x_bind (f_X8_isWord md mw (1841972 : Int64)) fun (q12 : Int32) => x_bind (f_X8_must md q12 (2 : Int32)) fun (q13 : SD) => x_bind (f_X8_good q13) fun (q14 : Int32) => (if q14 = 0 then K2 (q13) (mn) (mw) else x_bind (f_X8_closeLine q13 mw) fun (q15 : (SD × Int64)) => K2 (q15.1) (mn) (q15.2)) else x_bind (f_X8_fileLine md mn mw) fun (q16 : (SD × (Nat → Int64) × Int64)) => K2 (q16.1) (q16.2.1) (q16.2.2)) else x_bind (f_X8_badLine md mw) fun (q17 : (SD × Int64)) => K2 (q17.1) (mn) (q17.2)) else x_bind (f_X8_platterLine md mw) fun (q18 : (SD × Int64)) => K2 (q18.1) (mn) (q18.2)) else x_bind (f_X8_timeLine md mw) fun (q19 : (SD × Int64)) => K2 (q19.1) (mn) (q19.2)) else x_bind (f_X8_driveLine md mw) fun (q20 : (SD × Int64)) => K2 (q20.1) (mn) (q20.2)) else x_bind (f_X8_slotsLine md mw) fun (q21 : (SD × Int64)) => K2 (q21.1) (mn) (q21.2)))
noncomputable def f_X8_load_L53  : Nat → SD → (Nat → Int64) → Int64 → Option (Int32 × SD × (Nat → Int64) × Int64)
  | 0, _, _, _ => none
  | n_53 + 1, md_53, mn_53, mw_53 => x_bind (f_X8_good md_53) fun (q9 : Int32) => (x_let (fun (_u : Unit) => (x_let (upS md_53 8 0 15 (0 : Int32)) fun (md11 : SD) => x_let (upS md11 8 0 16 (md11 8 0 18)) fun (md12 : SD) => (x_let (fun (y14 : Int32) => (x_let (upS md12 8 0 17 y14) fun (md15 : SD) => (if (md15 8 0 18) ≤ 0 then x_bind (f_X8_copies md15 (31) (30)) fun (q16 : SD) => x_let (upS q16 8 0 5 (0 : Int32)) fun (md17 : SD) => some ((md17 30 0 9), md17, mn_53, mw_53) else some ((-1000006 : Int32), md15, mn_53, mw_53)) : Option (Int32 × SD × (Nat → Int64) × Int64))) fun K13 => (if (md12 8 0 18) ≤ 0 then K13 ((-1000005 : Int32)) else K13 ((md12 8 0 19)))) : Option (Int32 × SD × (Nat → Int64) × Int64))) fun K10 => (if q9 = 0 then K10 (()) else (if (md_53 8 0 22) = 0 then K10 (()) else x_bind (f_X8_line md_53 mn_53 mw_53) fun (q18 : (SD × (Nat → Int64) × Int64)) => (x_let (fun (y20 : Int32) => (x_bind (f_X8_must (q18.1) y20 (2 : Int32)) fun (q21 : SD) => x_bind (f_X8_goesOn q21 (q18.2.2)) fun (q22 : (SD × Int64)) => f_X8_load_L53  n_53 (q22.1) (q18.2.1) (q22.2) : Option (Int32 × SD × (Nat → Int64) × Int64))) fun K19 => (if (q18.1 8 0 22) = (3 : Int32) then K19 ((1 : Int32)) else K19 ((0 : Int32)))))))
noncomputable def f_X8_load (md : SD) (mn : Nat → Int64) (mw : Int64) (a1 : Int32) : Option (Int32 × SD × (Nat → Int64) × Int64) := x_let (upS md 8 0 0 (0 : Int32)) fun (md1 : SD) => x_bind (f_X8_isIn ((a1).toInt64) (0 : Int64) (((md1 8 0 15)).toInt64)) fun (q2 : Int32) => (if q2 = 0 then some ((-1000002 : Int32), md1, mn, mw) else x_let (upS md1 8 0 24 a1) fun (md3 : SD) => x_let (upS md3 8 0 21 (0 : Int32)) fun (md4 : SD) => x_let (upS md4 8 0 18 (0 : Int32)) fun (md5 : SD) => x_let (upS md5 8 0 25 (0 : Int32)) fun (md6 : SD) => x_bind (f_X8_defaults md6 (31)) fun (q7 : SD) => x_bind (f_X8_next q7 mw) fun (q8 : (SD × Int64)) => f_X8_load_L53  fuel (q8.1) (mn) (q8.2))
noncomputable def f_X8_errorKind (md : SD) : Option (Int32 × SD) := x_let (upS md 8 0 0 (0 : Int32)) fun (md1 : SD) => some ((md1 8 0 16), md1)
noncomputable def f_X8_errorPosition (md : SD) : Option (Int32 × SD) := x_let (upS md 8 0 0 (0 : Int32)) fun (md1 : SD) => some ((md1 8 0 17), md1)
end
section
/-! the pure functions of the jukebox itself -/
/-- a State is made: its block is the next 91 cells -/
noncomputable def f_newState (cs : CT) : Option CT := x_bind (f_X4_beginEmpty (fun _ _ _ => 0)) fun (sd : SD) => some (kA (kS cs (k_sz cs) sd) (k_S cs ++ [k_sz cs], k_sz cs + 91))
noncomputable def f_X1_keep_c (cs : CT) (q : Nat) : Option CT := x_guard (k_st cs ≠ q) <| x_bind (f_X4_copyFrom (k_xs cs q) (k_xs cs (k_st cs))) fun (sd : SD) => x_let (kS cs q sd) fun (c1 : CT) => if (16 : Int32) ≤ k_hd c1 1 0 2 then some (kH c1 (upS (k_hd c1) 1 0 1 ((k_hd c1 1 0 1 + 1) - (k_hd c1 1 0 1 + 1) / 16 * 16)) (k_hz c1)) else some (kH c1 (upS (k_hd c1) 1 0 2 (k_hd c1 1 0 2 + 1)) (k_hz c1))
noncomputable def f_X1_keep (cs : CT) : Option CT := x_let ((k_hd cs 1 0 1 + k_hd cs 1 0 2) - (k_hd cs 1 0 1 + k_hd cs 1 0 2) / 16 * 16) fun (p : Int32) => x_guard (vp_in p 16) <| match k_hz cs p.toNatClampNeg with
  | some q => f_X1_keep_c cs q
  | none => x_bind (f_newState cs) fun (c1 : CT) => x_let (kH c1 (k_hd c1) (va_up (k_hz c1) p.toNatClampNeg (some (k_sz cs)))) fun (c2 : CT) => f_X1_keep_c c2 (k_sz cs)
noncomputable def f_X1_goBack (cs : CT) : Option (Nat × CT) := if k_hd cs 1 0 2 = 0 then some (k_st cs, cs) else x_let (kH cs (upS (k_hd cs) 1 0 2 (k_hd cs 1 0 2 - 1)) (k_hz cs)) fun (c1 : CT) => x_let ((k_hd c1 1 0 1 + k_hd c1 1 0 2) - (k_hd c1 1 0 1 + k_hd c1 1 0 2) / 16 * 16) fun (p : Int32) => x_guard (vp_in p 16) <| x_let (kH c1 (k_hd c1) (va_up (k_hz c1) p.toNatClampNeg (some (k_st cs)))) fun (c2 : CT) => match k_hz c1 p.toNatClampNeg with
  | some q => some (q, c2)
  | none => some (k_st cs, c2)
noncomputable def f_X7_feed (rd : SD) (a1 : Int32) (a2 : Int32) (a3 : Int32) (a4 : Int32) (a5 : Int32) : Option (Int32 × SD) := (if ((rd 5 0 1) + (20 : Int32)) ≤ (900 : Int32) then x_bind (f_X5_appendFourBytes (rd) a1) fun (q1 : SD) => x_bind (f_X5_appendFourBytes q1 a2) fun (q2 : SD) => x_bind (f_X5_appendFourBytes q2 a3) fun (q3 : SD) => x_bind (f_X5_appendFourBytes q3 a4) fun (q4 : SD) => x_bind (f_X5_appendFourBytes q4 a5) fun (q5 : SD) => some ((q5 5 0 1), q5) else some ((-1000003 : Int32), rd))
noncomputable def f_X7_forgetPlan (cs : CT) : Option CT := match k_pl cs with
  | none => some cs
  | some _ => x_bind (f_X2_forgetTable (k_pd cs)) fun (pd : SD) => some (kP cs pd)
noncomputable def f_X7_load_ok (cs : CT) : Option (Int32 × CT) := x_let (k_st cs) fun (old : Nat) => x_let (kZ cs (k_sp cs, k_sp cs, k_pl cs)) fun (c1 : CT) => x_let (kZ c1 (k_st c1, old, k_pl c1)) fun (c2 : CT) => x_bind (f_X1_forgetAll (k_hd c2)) fun (hd : SD) => x_let (kH c2 hd (k_hz c2)) fun (c3 : CT) => x_bind (f_X7_forgetPlan c3) fun (c4 : CT) => some ((k_xs c4 (k_st c4)) 4 0 11, c4)
noncomputable def f_X7_load_c (cs : CT) (a1 : Int32) : Option (Int32 × CT) := x_bind (f_X5_readText (k_xs cs (k_sp cs)) (k_rd cs) (k_rn cs) a1) fun (q : Int32 × SD × SD × (Nat → Int64)) => x_let (kS (kR cs q.2.2.1 q.2.2.2) (k_sp cs) q.2.1) fun (c1 : CT) => x_let (kR c1 (upS (k_rd c1) 5 0 1 0) (k_rn c1)) fun (c2 : CT) => x_let (kJ c2 (upS (k_jd c2) 7 0 1 (k_rd c2 5 0 7))) fun (c3 : CT) => x_let (kJ c3 (upS (k_jd c3) 7 0 2 (k_rd c3 5 0 8))) fun (c4 : CT) => if q.1 = 0 then some ((-1000006 : Int32), c4) else f_X7_load_ok c4
noncomputable def f_X7_load (cs : CT) (a1 : Int32) : Option (Int32 × CT) := if a1 < 0 then some ((-1000002 : Int32), cs) else if a1 ≤ k_rd cs 5 0 1 then f_X7_load_c cs a1 else some ((-1000002 : Int32), cs)
noncomputable def f_X7_errorKind (jd : SD) : Option Int32 := some ((jd 7 0 1))
noncomputable def f_X7_errorPosition (jd : SD) : Option Int32 := (if (jd 7 0 1) = 0 then some ((-1000005 : Int32)) else some ((jd 7 0 2)))
noncomputable def f_X7_homeSlot (sd : SD) (a1 : Int32) : Option Int32 := x_bind (f_X4_hasPlatter (sd) a1) fun (q1 : Int32) => (if q1 = 0 then some ((-1000001 : Int32)) else x_guard (vp_in a1 10) <| some ((sd 3 (a1).toNatClampNeg 0)))
noncomputable def f_X7_platterInSlot (sd : SD) (a1 : Int32) : Option Int32 := x_bind (f_X4_hasSlot (sd) a1) fun (q1 : Int32) => (if q1 = 0 then some ((-1000001 : Int32)) else x_bind (f_X4_platterWithHome (sd) a1) fun (q2 : Int32) => (if q2 = (-1 : Int32) then some ((-1000005 : Int32)) else x_bind (f_X4_driveHolding (sd) q2) fun (q3 : Int32) => (if q3 = (-1 : Int32) then some (q2) else some ((-1000005 : Int32)))))
noncomputable def f_X7_foundOrNot (a0 : Int32) : Option Int32 := (if a0 = (-1 : Int32) then some ((-1000005 : Int32)) else some (a0))
noncomputable def f_X7_driveOf (sd : SD) (a1 : Int32) : Option Int32 := x_bind (f_X4_hasPlatter (sd) a1) fun (q1 : Int32) => (if q1 = 0 then some ((-1000001 : Int32)) else x_bind (f_X4_driveHolding (sd) a1) fun (q2 : Int32) => x_bind (f_X7_foundOrNot q2) fun (q3 : Int32) => some (q3))
noncomputable def f_X7_platterInDrive (sd : SD) (a1 : Int32) : Option Int32 := x_bind (f_X4_hasDrive (sd) a1) fun (q1 : Int32) => (if q1 = 0 then some ((-1000001 : Int32)) else x_guard (vp_in a1 4) <| x_bind (f_X7_foundOrNot ((sd 0 (a1).toNatClampNeg 1))) fun (q3 : Int32) => some (q3))
noncomputable def f_X7_pickerPosition (sd : SD) : Option Int32 := some ((sd 4 0 14))
noncomputable def f_X7_clock (sd : SD) : Option Int32 := some ((sd 4 0 15))
noncomputable def f_X7_exchanges (sd : SD) : Option Int32 := some ((sd 4 0 16))
noncomputable def f_X7_travel (sd : SD) : Option Int32 := some ((sd 4 0 17))
noncomputable def f_X7_mountProblem (sd : SD) (a1 : Int32) : Option Int32 := x_bind (f_X4_hasPlatter (sd) a1) fun (q1 : Int32) => (if q1 = 0 then some ((-1000001 : Int32)) else (if (sd 4 0 3) = 0 then some ((-1000007 : Int32)) else some ((0 : Int32))))
noncomputable def f_X7_chosenDrive (sd : SD) (a1 : Int32) : Option Int32 := x_bind (f_X7_mountProblem (sd) a1) fun (q1 : Int32) => (if q1 = 0 then x_bind (f_X4_driveToChoose (sd) a1) fun (q2 : Int32) => some (q2) else some (q1))
noncomputable def f_X7_mountTime (sd : SD) (a1 : Int32) : Option Int32 := x_bind (f_X7_mountProblem (sd) a1) fun (q1 : Int32) => (if q1 = 0 then x_bind (f_X4_chosenBringTime (sd) a1) fun (q2 : Int32) => some (q2) else some (q1))
noncomputable def f_X7_mountTimeIn (sd : SD) (a1 : Int32) (a2 : Int32) : Option Int32 := x_bind (f_X4_hasPlatter (sd) a1) fun (q1 : Int32) => (if q1 = 0 then some ((-1000001 : Int32)) else x_bind (f_X4_hasDrive (sd) a2) fun (q2 : Int32) => (if q2 = 0 then some ((-1000001 : Int32)) else x_bind (f_X4_driveHolding (sd) a1) fun (q3 : Int32) => (x_let (fun (_u : Unit) => (x_bind (f_X4_bringTime (sd) a1 a2) fun (q5 : Int32) => some (q5) : Option Int32)) fun K4 => (if q3 = (-1 : Int32) then K4 (()) else (if q3 = a2 then K4 (()) else some ((-1000005 : Int32)))))))
noncomputable def f_X7_freeSectors (sd : SD) (a1 : Int32) : Option Int32 := x_bind (f_X4_hasPlatter (sd) a1) fun (q1 : Int32) => (if q1 = 0 then some ((-1000001 : Int32)) else x_guard (vp_in a1 10) <| x_bind (f_X3_unused (sd) ((a1).toNatClampNeg)) fun (q3 : Int32) => some (q3))
noncomputable def f_X7_sessionCount (sd : SD) (a1 : Int32) : Option Int32 := x_bind (f_X4_hasPlatter (sd) a1) fun (q1 : Int32) => (if q1 = 0 then some ((-1000001 : Int32)) else x_guard (vp_in a1 10) <| some ((sd 3 (a1).toNatClampNeg 4)))
noncomputable def f_X7_hasOpenSession (sd : SD) (a1 : Int32) : Option Int32 := x_bind (f_X4_hasPlatter (sd) a1) fun (q1 : Int32) => (if q1 = 0 then some ((-1000001 : Int32)) else x_guard (vp_in a1 10) <| (if (sd 3 (a1).toNatClampNeg 5) = 0 then some ((0 : Int32)) else some ((1 : Int32))))
noncomputable def f_X7_sessionStart (sd : SD) (a1 : Int32) (a2 : Int32) : Option Int32 := x_bind (f_X4_hasSession (sd) a1 a2) fun (q1 : Int32) => (if q1 = 0 then some ((-1000001 : Int32)) else x_guard (vp_in a1 10) <| x_guard (vp_in a2 8) <| some ((sd 16 (a1).toNatClampNeg (a2).toNatClampNeg)))
noncomputable def f_X7_sessionSize (sd : SD) (a1 : Int32) (a2 : Int32) : Option Int32 := x_bind (f_X4_hasSession (sd) a1 a2) fun (q1 : Int32) => (if q1 = 0 then some ((-1000001 : Int32)) else x_guard (vp_in a1 10) <| x_guard (vp_in a2 8) <| some ((sd 17 (a1).toNatClampNeg (a2).toNatClampNeg)))
noncomputable def f_X7_sparesLeft (sd : SD) (a1 : Int32) : Option Int32 := x_bind (f_X4_hasPlatter (sd) a1) fun (q1 : Int32) => (if q1 = 0 then some ((-1000001 : Int32)) else x_guard (vp_in a1 10) <| some ((sd 3 (a1).toNatClampNeg 2)))
noncomputable def f_X7_staleSectors (sd : SD) (a1 : Int32) : Option Int32 := x_bind (f_X4_hasPlatter (sd) a1) fun (q1 : Int32) => (if q1 = 0 then some ((-1000001 : Int32)) else x_bind (f_X4_countStale (sd) a1) fun (q2 : Int32) => some (q2))
noncomputable def f_X7_sectorKind (sd : SD) (a1 : Int32) (a2 : Int32) : Option Int32 := x_bind (f_X4_hasSector (sd) a1 a2) fun (q1 : Int32) => (if q1 = 0 then some ((-1000001 : Int32)) else x_bind (f_X4_kindOfSector (sd) a1 a2) fun (q2 : Int32) => some (q2))
noncomputable def f_X7_bitsOfShare_L17 (a0 : Int32) (a1 : Int32) : Nat → Int32 → Option Int32
  | 0, _ => none
  | n_17 + 1, v4_17 => (x_let (fun (_u : Unit) => (x_let (((a0).toInt64 <<< ((v4_17).toInt64 &&& 63))) fun (x2 : Int64) => x_guard (¬ (a1).toInt64 = 0) <| x_let ((x2 / (a1).toInt64)) fun (x4 : Int64) => x_guard (¬ (a1).toInt64 = 0) <| (x_let (fun (y7 : Int64) => (x_let (((150 : Int32) - v4_17)) fun (x8 : Int32) => some (((x8 <<< ((23 : Int32) &&& 31)) + ((y7 - (8388608 : Int64))).toInt32)) : Option Int32)) fun K6 => (if (lg_cmp ((2 : Int64) * (x2 - x2 / (a1).toInt64 * (a1).toInt64)) (a1).toInt64) < 0 then K6 (x4) else x_let ((x4 + (1 : Int64))) fun (x9 : Int64) => K6 (x9))) : Option Int32)) fun K1 => (if (40 : Int32) ≤ v4_17 then K1 (()) else x_guard (¬ (a1).toInt64 = 0) <| (if 0 ≤ (lg_cmp (((a0).toInt64 <<< ((v4_17).toInt64 &&& 63)) / (a1).toInt64) (8388608 : Int64)) then K1 (()) else x_let (v4_17 + (1 : Int32)) fun (x11 : Int32) => f_X7_bitsOfShare_L17 a0 a1 n_17 (x11))))
noncomputable def f_X7_bitsOfShare (a0 : Int32) (a1 : Int32) : Option Int32 := (if a0 ≤ 0 then some ((0 : Int32)) else (if 0 < a1 then f_X7_bitsOfShare_L17 a0 a1 fuel ((0 : Int32)) else some ((0 : Int32))))
noncomputable def f_X7_fillBits (sd : SD) (a1 : Int32) : Option Int32 := x_bind (f_X4_hasPlatter (sd) a1) fun (q1 : Int32) => (if q1 = 0 then some ((-1000001 : Int32)) else x_guard (vp_in a1 10) <| x_bind (f_X7_bitsOfShare ((sd 3 (a1).toNatClampNeg 3)) ((sd 3 (a1).toNatClampNeg 1))) fun (q3 : Int32) => some (q3))
noncomputable def f_X7_cleanRun (sd : SD) (a1 : Int32) : Option Int32 := x_bind (f_X4_hasPlatter (sd) a1) fun (q1 : Int32) => (if q1 = 0 then some ((-1000001 : Int32)) else x_guard (vp_in a1 10) <| x_bind (f_X3_longestCleanRun (sd) ((a1).toNatClampNeg)) fun (q3 : Int32) => some (q3))
noncomputable def f_X7_isSize (a0 : Int32) : Option Int32 := (if a0 < (1 : Int32) then some ((0 : Int32)) else (if (300 : Int32) < a0 then some ((0 : Int32)) else some ((1 : Int32))))
noncomputable def f_X7_bestPlatter_L33 (sd_of_cs : SD) (a1 : Int32) : Nat → Int32 → Int32 → Int32 → Int32 → Option Int32
  | 0, _, _, _, _ => none
  | n_33 + 1, v2_33, v3_33, v4_33, v5_33 => (if (sd_of_cs 4 0 6) ≤ v5_33 then x_bind (f_X7_foundOrNot v2_33) fun (q2 : Int32) => some (q2) else x_guard (vp_in v5_33 10) <| x_bind (f_X3_canTake (sd_of_cs) ((v5_33).toNatClampNeg) a1) fun (q4 : Int32) => (if q4 = 0 then x_let (v5_33 + (1 : Int32)) fun (x5 : Int32) => f_X7_bestPlatter_L33 sd_of_cs a1 n_33 (v2_33) (v3_33) (v4_33) (x5) else x_bind (f_X4_chosenBringTime (sd_of_cs) v5_33) fun (q6 : Int32) => x_bind (f_X3_unused (sd_of_cs) ((v5_33).toNatClampNeg)) fun (q7 : Int32) => (x_let (fun (_u : Unit) => (x_let (v5_33 + (1 : Int32)) fun (x9 : Int32) => f_X7_bestPlatter_L33 sd_of_cs a1 n_33 (v5_33) (q6) (q7) (x9) : Option Int32)) fun K8 => (if v2_33 = (-1 : Int32) then K8 (()) else (if q6 < v3_33 then K8 (()) else (if q6 = v3_33 then (if v4_33 ≤ q7 then x_let (v5_33 + (1 : Int32)) fun (x11 : Int32) => f_X7_bestPlatter_L33 sd_of_cs a1 n_33 (v2_33) (v3_33) (v4_33) (x11) else K8 (())) else x_let (v5_33 + (1 : Int32)) fun (x10 : Int32) => f_X7_bestPlatter_L33 sd_of_cs a1 n_33 (v2_33) (v3_33) (v4_33) (x10)))))))
noncomputable def f_X7_bestPlatter (sd : SD) (a1 : Int32) : Option Int32 := x_bind (f_X7_isSize a1) fun (q1 : Int32) => (if q1 = 0 then some ((-1000002 : Int32)) else (if (sd 4 0 3) = 0 then some ((-1000007 : Int32)) else f_X7_bestPlatter_L33 sd a1 fuel ((-1 : Int32)) ((0 : Int32)) ((0 : Int32)) ((0 : Int32))))
noncomputable def f_X7_versionCount (sd : SD) (a1 : Int32) : Option Int32 := x_bind (f_X4_hasFile (sd) a1) fun (q1 : Int32) => (if q1 = 0 then some ((-1000001 : Int32)) else x_bind (f_X4_countVersions (sd) a1) fun (q2 : Int32) => some (q2))
noncomputable def f_X7_filePlatter (sd : SD) (a1 : Int32) : Option Int32 := x_bind (f_X4_hasFile (sd) a1) fun (q1 : Int32) => (if q1 = 0 then some ((-1000001 : Int32)) else x_bind (f_X4_currentVersion (sd) a1) fun (q2 : Nat) => some ((sd 6 q2 1)))
noncomputable def f_X7_fileStart (sd : SD) (a1 : Int32) : Option Int32 := x_bind (f_X4_hasFile (sd) a1) fun (q1 : Int32) => (if q1 = 0 then some ((-1000001 : Int32)) else x_bind (f_X4_currentVersion (sd) a1) fun (q2 : Nat) => some ((sd 6 q2 2)))
noncomputable def f_X7_fileSize (sd : SD) (a1 : Int32) : Option Int32 := x_bind (f_X4_hasFile (sd) a1) fun (q1 : Int32) => (if q1 = 0 then some ((-1000001 : Int32)) else x_bind (f_X4_currentVersion (sd) a1) fun (q2 : Nat) => some ((sd 6 q2 3)))
noncomputable def f_X7_fileSession (sd : SD) (a1 : Int32) : Option Int32 := x_bind (f_X4_hasFile (sd) a1) fun (q1 : Int32) => (if q1 = 0 then some ((-1000001 : Int32)) else x_bind (f_X4_currentVersion (sd) a1) fun (q2 : Nat) => some ((sd 6 q2 4)))
noncomputable def f_X7_remappedSectors (sd : SD) (a1 : Int32) : Option Int32 := x_bind (f_X4_hasFile (sd) a1) fun (q1 : Int32) => (if q1 = 0 then some ((-1000001 : Int32)) else x_bind (f_X4_currentVersion (sd) a1) fun (q2 : Nat) => some ((sd 6 q2 5)))
noncomputable def f_X7_fileState (sd : SD) (a1 : Int32) : Option Int32 := x_bind (f_X4_hasFile (sd) a1) fun (q1 : Int32) => (if q1 = 0 then some ((-1000001 : Int32)) else x_bind (f_X4_currentVersion (sd) a1) fun (q2 : Nat) => (if (sd 6 q2 6) = 0 then x_bind (f_X4_isReadable (sd) a1) fun (q3 : Int32) => (if q3 = 0 then some ((2 : Int32)) else some ((0 : Int32))) else some ((1 : Int32))))
noncomputable def f_X7_readProblem (sd : SD) (a1 : Int32) : Option Int32 := x_bind (f_X4_hasFile (sd) a1) fun (q1 : Int32) => (if q1 = 0 then some ((-1000001 : Int32)) else (if (sd 4 0 3) = 0 then some ((-1000007 : Int32)) else x_bind (f_X4_isReadable (sd) a1) fun (q2 : Int32) => (if q2 = 0 then some ((-1000008 : Int32)) else some ((0 : Int32)))))
noncomputable def f_X7_readTime (sd : SD) (a1 : Int32) : Option Int32 := x_bind (f_X7_readProblem (sd) a1) fun (q1 : Int32) => (if q1 = 0 then x_bind (f_X4_currentVersion (sd) a1) fun (q2 : Nat) => x_bind (f_X4_chosenBringTime (sd) ((sd 6 q2 1))) fun (q3 : Int32) => x_bind (f_X4_sectorsReadTime (sd) q2) fun (q4 : Int32) => some ((q3 + q4)) else some (q1))
noncomputable def f_X7_lastGoodVersion (sd : SD) (a1 : Int32) : Option Int32 := x_bind (f_X4_hasFile (sd) a1) fun (q1 : Int32) => (if q1 = 0 then some ((-1000001 : Int32)) else x_bind (f_X4_lastGood (sd) a1) fun (q2 : Int32) => x_bind (f_X7_foundOrNot q2) fun (q3 : Int32) => some (q3))
noncomputable def f_X7_fileOfSector (sd : SD) (a1 : Int32) (a2 : Int32) : Option Int32 := x_bind (f_X4_hasSector (sd) a1 a2) fun (q1 : Int32) => (if q1 = 0 then some ((-1000001 : Int32)) else x_bind (f_X4_versionAt (sd) a1 a2) fun (q2 : Int32) => (if q2 = (-1 : Int32) then some ((-1000005 : Int32)) else x_guard (vp_in q2 40) <| some ((sd 6 (q2).toNatClampNeg 0))))
noncomputable def f_X7_filesOn (sd : SD) (a1 : Int32) : Option Int32 := x_bind (f_X4_hasPlatter (sd) a1) fun (q1 : Int32) => (if q1 = 0 then some ((-1000001 : Int32)) else x_bind (f_X4_countFiles (sd) a1) fun (q2 : Int32) => some (q2))
noncomputable def f_X7_remember (cs : CT) : Option CT := x_bind (f_X1_keep cs) fun (c1 : CT) => f_X7_forgetPlan c1
noncomputable def f_X7_mount (cs : CT) (a1 : Int32) : Option (Int32 × CT) := x_bind (f_X7_mountProblem ((k_xs cs (k_st cs))) a1) fun (q1 : Int32) => (if q1 = 0 then x_bind (f_X7_remember cs) fun (q2 : CT) => x_let (((k_xs q2 (k_st q2)) 4 0 15)) fun (x3 : Int32) => x_bind (f_X4_bringToChosen ((k_xs q2 (k_st q2))) a1) fun (q4 : SD) => some (((q4 4 0 15) - x3), (kS q2 (k_st q2) q4)) else some (q1, cs))
noncomputable def f_X7_eject (cs : CT) (a1 : Int32) : Option (Int32 × CT) := x_bind (f_X4_hasDrive ((k_xs cs (k_st cs))) a1) fun (q1 : Int32) => (if q1 = 0 then some ((-1000001 : Int32), cs) else x_guard (vp_in a1 4) <| (if ((k_xs cs (k_st cs)) 0 (a1).toNatClampNeg 1) = (-1 : Int32) then some ((-1000005 : Int32), cs) else x_bind (f_X7_remember cs) fun (q3 : CT) => x_let (((k_xs q3 (k_st q3)) 4 0 15)) fun (x4 : Int32) => x_bind (f_X4_carryHome ((k_xs q3 (k_st q3))) a1) fun (q5 : SD) => some (((q5 4 0 15) - x4), (kS q3 (k_st q3) q5))))
noncomputable def f_X7_read (cs : CT) (a1 : Int32) : Option (Int32 × CT) := x_bind (f_X7_readProblem ((k_xs cs (k_st cs))) a1) fun (q1 : Int32) => (if q1 = 0 then x_bind (f_X7_remember cs) fun (q2 : CT) => x_let (((k_xs q2 (k_st q2)) 4 0 15)) fun (x3 : Int32) => x_bind (f_X4_readFile ((k_xs q2 (k_st q2))) a1) fun (q4 : SD) => some (((q4 4 0 15) - x3), (kS q2 (k_st q2) q4)) else some (q1, cs))
noncomputable def f_X7_writeProblem (sd : SD) (a1 : Int32) (a2 : Int32) : Option Int32 := (if (sd 4 0 9) < (40 : Int32) then (if (sd 4 0 3) = 0 then some ((-1000007 : Int32)) else x_guard (vp_in a2 10) <| x_bind (f_X3_canTake (sd) ((a2).toNatClampNeg) a1) fun (q2 : Int32) => (if q2 = 0 then some ((-1000008 : Int32)) else some ((0 : Int32)))) else some ((-1000003 : Int32)))
noncomputable def f_X7_write (cs : CT) (a1 : Int32) (a2 : Int32) (a3 : Int32) : Option (Int32 × CT) := x_bind (f_X4_hasFile ((k_xs cs (k_st cs))) a1) fun (q1 : Int32) => (if q1 = 0 then some ((-1000001 : Int32), cs) else x_bind (f_X4_hasPlatter ((k_xs cs (k_st cs))) a3) fun (q2 : Int32) => (if q2 = 0 then some ((-1000001 : Int32), cs) else x_bind (f_X7_isSize a2) fun (q3 : Int32) => (if q3 = 0 then some ((-1000002 : Int32), cs) else x_bind (f_X7_writeProblem ((k_xs cs (k_st cs))) a2 a3) fun (q4 : Int32) => (if q4 = 0 then x_bind (f_X7_remember cs) fun (q5 : CT) => x_let (((k_xs q5 (k_st q5)) 4 0 15)) fun (x6 : Int32) => x_bind (f_X4_writeVersion ((k_xs q5 (k_st q5))) a1 a2 a3) fun (q7 : SD) => some (((q7 4 0 15) - x6), (kS q5 (k_st q5) q7)) else some (q4, cs)))))
noncomputable def f_X7_create (cs : CT) (a1 : Int32) (a2 : Int32) : Option (Int32 × CT) := x_bind (f_X4_hasPlatter ((k_xs cs (k_st cs))) a2) fun (q1 : Int32) => (if q1 = 0 then some ((-1000001 : Int32), cs) else x_bind (f_X7_isSize a1) fun (q2 : Int32) => (if q2 = 0 then some ((-1000002 : Int32), cs) else (if ((k_xs cs (k_st cs)) 4 0 11) < (20 : Int32) then x_bind (f_X7_writeProblem ((k_xs cs (k_st cs))) a1 a2) fun (q3 : Int32) => (if q3 = 0 then x_bind (f_X7_remember cs) fun (q4 : CT) => x_let (((k_xs q4 (k_st q4)) 4 0 11)) fun (x5 : Int32) => x_let (upS (k_xs q4 (k_st q4)) 4 0 11 (((k_xs q4 (k_st q4)) 4 0 11) + (1 : Int32))) fun (sd6 : SD) => x_bind (f_X4_writeVersion sd6 x5 a1 a2) fun (q7 : SD) => some (x5, (kS q4 (k_st q4) q7)) else some (q3, cs)) else some ((-1000003 : Int32), cs))))
noncomputable def f_X7_closeSession (cs : CT) (a1 : Int32) : Option (Int32 × CT) := x_bind (f_X4_hasPlatter ((k_xs cs (k_st cs))) a1) fun (q1 : Int32) => (if q1 = 0 then some ((-1000001 : Int32), cs) else x_guard (vp_in a1 10) <| (if ((k_xs cs (k_st cs)) 3 (a1).toNatClampNeg 5) = 0 then some ((-1000005 : Int32), cs) else (if ((k_xs cs (k_st cs)) 4 0 3) = 0 then some ((-1000007 : Int32), cs) else x_bind (f_X7_remember cs) fun (q3 : CT) => x_bind (f_X4_closeInDrive ((k_xs q3 (k_st q3))) a1) fun (q4 : (Int32 × SD)) => some (q4.1, (kS q3 (k_st q3) q4.2)))))
noncomputable def f_X7_markBad (cs : CT) (a1 : Int32) (a2 : Int32) : Option (Int32 × CT) := x_bind (f_X4_hasSector ((k_xs cs (k_st cs))) a1 a2) fun (q1 : Int32) => (if q1 = 0 then some ((-1000001 : Int32), cs) else x_guard (vp_in a1 10) <| x_bind (f_X3_isBad ((k_xs cs (k_st cs))) ((a1).toNatClampNeg) a2) fun (q3 : Int32) => (if q3 = 0 then (if ((k_xs cs (k_st cs)) 4 0 7) < (20 : Int32) then x_bind (f_X7_remember cs) fun (q4 : CT) => x_bind (f_X4_spoil ((k_xs q4 (k_st q4))) a1 a2) fun (q5 : SD) => x_bind (f_X4_countDamaged q5) fun (q6 : Int32) => some (q6, (kS q4 (k_st q4) q5)) else some ((-1000003 : Int32), cs)) else some ((-1000004 : Int32), cs)))
noncomputable def f_X7_moveHome (cs : CT) (a1 : Int32) (a2 : Int32) : Option (Int32 × CT) := x_bind (f_X4_hasPlatter ((k_xs cs (k_st cs))) a1) fun (q1 : Int32) => (if q1 = 0 then some ((-1000001 : Int32), cs) else x_bind (f_X4_hasSlot ((k_xs cs (k_st cs))) a2) fun (q2 : Int32) => (if q2 = 0 then some ((-1000001 : Int32), cs) else x_guard (vp_in a1 10) <| x_let (((k_xs cs (k_st cs)) 3 (a1).toNatClampNeg 0)) fun (x4 : Int32) => (if x4 = a2 then some ((-1000004 : Int32), cs) else x_bind (f_X4_driveHolding ((k_xs cs (k_st cs))) a1) fun (q5 : Int32) => (if q5 = (-1 : Int32) then x_bind (f_X4_platterWithHome ((k_xs cs (k_st cs))) a2) fun (q6 : Int32) => (if q6 = (-1 : Int32) then x_bind (f_X7_remember cs) fun (q7 : CT) => x_guard (vp_in a1 10) <| x_let (upS (k_xs q7 (k_st q7)) 3 (a1).toNatClampNeg 0 a2) fun (sd9 : SD) => some (x4, (kS q7 (k_st q7) sd9)) else some ((-1000003 : Int32), cs)) else some ((-1000005 : Int32), cs)))))
noncomputable def f_X7_isTime (a0 : Int32) : Option Int32 := (if a0 < 0 then some ((0 : Int32)) else (if (99 : Int32) < a0 then some ((0 : Int32)) else some ((1 : Int32))))
noncomputable def f_X7_setTimes (cs : CT) (a1 : Int32) (a2 : Int32) (a3 : Int32) (a4 : Int32) (a5 : Int32) : Option (Int32 × CT) := x_bind (f_X7_isTime a1) fun (q1 : Int32) => (if q1 = 0 then some ((-1000002 : Int32), cs) else x_bind (f_X7_isTime a2) fun (q2 : Int32) => (if q2 = 0 then some ((-1000002 : Int32), cs) else x_bind (f_X7_isTime a3) fun (q3 : Int32) => (if q3 = 0 then some ((-1000002 : Int32), cs) else x_bind (f_X7_isTime a4) fun (q4 : Int32) => (if q4 = 0 then some ((-1000002 : Int32), cs) else x_bind (f_X7_isTime a5) fun (q5 : Int32) => (if q5 = 0 then some ((-1000002 : Int32), cs) else (x_let (fun (_u : Unit) => (x_bind (f_X7_remember cs) fun (q7 : CT) => x_let (((((((k_xs q7 (k_st q7)) 10 0 0) + ((k_xs q7 (k_st q7)) 10 0 1)) + ((k_xs q7 (k_st q7)) 10 0 2)) + ((k_xs q7 (k_st q7)) 10 0 3)) + ((k_xs q7 (k_st q7)) 10 0 4))) fun (x8 : Int32) => x_bind (f_X4_putTimes ((k_xs q7 (k_st q7))) a1 a2 a3 a4 a5) fun (q9 : SD) => some (x8, (kS q7 (k_st q7) q9)) : Option (Int32 × CT))) fun K6 => (if ((k_xs cs (k_st cs)) 10 0 0) = a1 then (if ((k_xs cs (k_st cs)) 10 0 1) = a2 then (if ((k_xs cs (k_st cs)) 10 0 2) = a3 then (if ((k_xs cs (k_st cs)) 10 0 3) = a4 then (if ((k_xs cs (k_st cs)) 10 0 4) = a5 then some ((-1000004 : Int32), cs) else K6 (())) else K6 (())) else K6 (())) else K6 (())) else K6 (()))))))))
noncomputable def f_X7_request (cs : CT) (a1 : Int32) : Option (Int32 × CT) := x_bind (f_X4_hasFile ((k_xs cs (k_st cs))) a1) fun (q1 : Int32) => (if q1 = 0 then some ((-1000001 : Int32), cs) else x_bind (f_X4_isReadable ((k_xs cs (k_st cs))) a1) fun (q2 : Int32) => (if q2 = 0 then some ((-1000008 : Int32), cs) else (if ((k_xs cs (k_st cs)) 4 0 13) < (16 : Int32) then x_bind (f_X7_remember cs) fun (q3 : CT) => x_guard (vp_in ((k_xs q3 (k_st q3)) 4 0 13) 16) <| x_let (upS (k_xs q3 (k_st q3)) 15 0 (((k_xs q3 (k_st q3)) 4 0 13)).toNatClampNeg a1) fun (sd5 : SD) => x_let (upS sd5 4 0 13 ((sd5 4 0 13) + (1 : Int32))) fun (sd6 : SD) => some ((sd6 4 0 13), (kS q3 (k_st q3) sd6)) else some ((-1000003 : Int32), cs))))
noncomputable def f_X7_dropRequest (cs : CT) (a1 : Int32) : Option (Int32 × CT) := x_bind (f_X4_hasRequest ((k_xs cs (k_st cs))) a1) fun (q1 : Int32) => (if q1 = 0 then some ((-1000001 : Int32), cs) else x_bind (f_X7_remember cs) fun (q2 : CT) => x_bind (f_X4_removeRequest ((k_xs q2 (k_st q2))) a1) fun (q3 : (Int32 × SD)) => some (q3.1, (kS q2 (k_st q2) q3.2)))
noncomputable def f_X7_batchProblem_L29 (sd_of_cs : SD) : Nat → Int32 → Option Int32
  | 0, _ => none
  | n_29 + 1, v2_29 => (if (sd_of_cs 4 0 13) ≤ v2_29 then some ((0 : Int32)) else x_guard (vp_in v2_29 16) <| x_bind (f_X4_isReadable (sd_of_cs) ((sd_of_cs 15 0 (v2_29).toNatClampNeg))) fun (q2 : Int32) => (if q2 = 0 then some ((-1000008 : Int32)) else x_let (v2_29 + (1 : Int32)) fun (x3 : Int32) => f_X7_batchProblem_L29 sd_of_cs n_29 (x3)))
noncomputable def f_X7_batchProblem (sd : SD) (a1 : Int32) : Option Int32 := (if a1 ≤ (sd 4 0 13) then (if (sd 4 0 3) = 0 then some ((-1000007 : Int32)) else f_X7_batchProblem_L29 sd fuel ((0 : Int32))) else some ((-1000005 : Int32)))
/-- the planner's cells as they are made -/
def pd0 : SD := upS (upS (fun _ _ _ => 0) 2 0 4 (-1)) 2 0 5 (-1)
noncomputable def f_X7_readyPlanner (cs : CT) : Option (Nat × CT) := match k_pl cs with
  | some pi => some (pi, cs)
  | none => some (k_sz cs, kA (kP (kZ cs (k_st cs, k_sp cs, some (k_sz cs))) pd0) (k_S cs, k_sz cs + 4))
noncomputable def f_X7_planBatch (cs : CT) : Option (Int32 × CT) := x_bind (f_X7_batchProblem (k_xs cs (k_st cs)) 1) fun (p : Int32) => if p = 0 then x_bind (f_X7_readyPlanner cs) fun (r : Nat × CT) => x_bind (f_X2_planOrder (k_xs r.2 (k_st r.2)) (k_pd r.2)) fun (pd : SD) => some (p, kP r.2 pd) else some (p, cs)
noncomputable def f_X7_serveBatch_L (pd : SD) : Nat → SD → Int32 → Option SD
  | 0, _, _ => none
  | n + 1, sd, v => if pd 2 0 3 ≤ v then some sd else x_guard (vp_in v 10) <| x_bind (f_X4_bringInto sd (pd 25 0 v.toNatClampNeg) (pd 2 0 4)) fun (s1 : SD) => x_bind (f_X4_readRequestsIn s1 (pd 2 0 4)) fun (s2 : SD) => x_let (v + 1) fun (v5 : Int32) => f_X7_serveBatch_L pd n s2 v5
noncomputable def f_X7_serveBatch (cs : CT) : Option (Int32 × CT) := x_bind (f_X7_planBatch cs) fun (b : Int32 × CT) => if b.1 = 0 then x_bind (f_X7_remember b.2) fun (c1 : CT) => x_let ((k_xs c1 (k_st c1)) 4 0 15) fun (t0 : Int32) => x_bind (k_pl c1) fun (_ : Nat) => x_bind (f_X4_readInDrives (k_xs c1 (k_st c1))) fun (s1 : SD) => x_bind (f_X7_serveBatch_L (k_pd c1) fuel s1 0) fun (s2 : SD) => x_let (upS s2 4 0 13 0) fun (s3 : SD) => some (s3 4 0 15 - t0, kS c1 (k_st c1) s3) else some (b.1, b.2)
noncomputable def f_X7_undo (cs : CT) : Option (Int32 × CT) := if k_hd cs 1 0 2 = 0 then some ((-1000005 : Int32), cs) else x_bind (f_X1_goBack cs) fun (q : Nat × CT) => x_let (kZ q.2 (q.1, k_sp q.2, k_pl q.2)) fun (c1 : CT) => x_bind (f_X7_forgetPlan c1) fun (c2 : CT) => some (k_hd c2 1 0 2, c2)
noncomputable def f_X7_requestedFile (sd : SD) (a1 : Int32) : Option Int32 := x_bind (f_X4_hasRequest (sd) a1) fun (q1 : Int32) => (if q1 = 0 then some ((-1000001 : Int32)) else x_guard (vp_in a1 16) <| some ((sd 15 0 (a1).toNatClampNeg)))
noncomputable def f_X7_batchTime (cs : CT) : Option (Int32 × CT) := x_bind (f_X7_batchProblem (k_xs cs (k_st cs)) 1) fun (p : Int32) => if p = 0 then x_bind (f_X7_readyPlanner cs) fun (r : Nat × CT) => x_bind (f_X2_timeWithout (k_xs r.2 (k_st r.2)) (k_pd r.2) (-1)) fun (t : Int32 × SD) => some (t.1, kP r.2 t.2) else some (p, cs)
noncomputable def f_X7_batchExchanges (cs : CT) : Option (Int32 × CT) := x_bind (f_X7_planBatch cs) fun (b : Int32 × CT) => if b.1 = 0 then x_bind (k_pl b.2) fun (_ : Nat) => some (k_pd b.2 2 0 3, b.2) else some (b.1, b.2)
noncomputable def f_X7_batchPlatter (cs : CT) (a1 : Int32) : Option (Int32 × CT) := x_bind (f_X7_planBatch cs) fun (b : Int32 × CT) => if b.1 = 0 then x_bind (k_pl b.2) fun (_ : Nat) => if a1 < 0 then some ((-1000001 : Int32), b.2) else if a1 < k_pd b.2 2 0 3 then x_guard (vp_in a1 10) <| some (k_pd b.2 25 0 a1.toNatClampNeg, b.2) else some ((-1000001 : Int32), b.2) else some (b.1, b.2)
noncomputable def f_X7_oneByOneTime_L (sd : SD) : Nat → SD → Int32 → Option SD
  | 0, _, _ => none
  | n + 1, so, v => if sd 4 0 13 ≤ v then some so else x_guard (vp_in v 16) <| x_bind (f_X4_readFile so (sd 15 0 v.toNatClampNeg)) fun (s1 : SD) => x_let (v + 1) fun (v5 : Int32) => f_X7_oneByOneTime_L sd n s1 v5
noncomputable def f_X7_oneByOneTime (cs : CT) : Option (Int32 × CT) := x_bind (f_X7_batchProblem (k_xs cs (k_st cs)) 1) fun (p : Int32) => if p = 0 then x_guard (k_st cs ≠ k_sp cs) <| x_bind (f_X4_copyFrom (k_xs cs (k_sp cs)) (k_xs cs (k_st cs))) fun (s1 : SD) => x_bind (f_X7_oneByOneTime_L (k_xs cs (k_st cs)) fuel s1 0) fun (s2 : SD) => some (s2 4 0 15 - (k_xs cs (k_st cs)) 4 0 15, kS cs (k_sp cs) s2) else some (p, cs)
noncomputable def f_X7_leastTimeWithoutOne_L (sd : SD) : Nat → SD → Int32 → Int32 → Option (Int32 × SD)
  | 0, _, _, _ => none
  | n + 1, pd, v3, v4 => if sd 4 0 13 ≤ v4 then some (v3, pd) else x_bind (f_X2_timeWithout sd pd v4) fun (t : Int32 × SD) => x_let (v4 + 1) fun (v5 : Int32) => f_X7_leastTimeWithoutOne_L sd n t.2 (if t.1 < v3 then t.1 else v3) v5
noncomputable def f_X7_leastTimeWithoutOne (cs : CT) : Option (Int32 × CT) := x_bind (f_X7_batchProblem (k_xs cs (k_st cs)) 2) fun (p : Int32) => if p = 0 then x_bind (f_X7_readyPlanner cs) fun (r : Nat × CT) => x_bind (f_X7_leastTimeWithoutOne_L (k_xs r.2 (k_st r.2)) fuel (k_pd r.2) 2147483647 0) fun (t : Int32 × SD) => some (t.1, kP r.2 t.2) else some (p, cs)
noncomputable def f_X7_nearestHome_L20 (sd_of_cs : SD) (a1 : Int32) : Nat → Int32 → Int32 → Int32 → Option Int32
  | 0, _, _, _ => none
  | n_20 + 1, v3_20, v4_20, v5_20 => (if (sd_of_cs 4 0 0) ≤ v5_20 then x_bind (f_X7_foundOrNot v3_20) fun (q2 : Int32) => some (q2) else x_bind (f_X4_platterWithHome (sd_of_cs) v5_20) fun (q3 : Int32) => x_bind (f_X4_distanceToDrive (sd_of_cs) v5_20) fun (q4 : Int32) => (x_let (fun (_u : Unit) => ((x_let (fun (_u : Unit) => (x_let (v5_20 + (1 : Int32)) fun (x7 : Int32) => f_X7_nearestHome_L20 sd_of_cs a1 n_20 (v5_20) (q4) (x7) : Option Int32)) fun K6 => (if v3_20 = (-1 : Int32) then K6 (()) else (if v4_20 ≤ q4 then x_let (v5_20 + (1 : Int32)) fun (x8 : Int32) => f_X7_nearestHome_L20 sd_of_cs a1 n_20 (v3_20) (v4_20) (x8) else K6 (())))) : Option Int32)) fun K5 => (if q3 = (-1 : Int32) then K5 (()) else (if q3 = a1 then K5 (()) else x_let (v5_20 + (1 : Int32)) fun (x9 : Int32) => f_X7_nearestHome_L20 sd_of_cs a1 n_20 (v3_20) (v4_20) (x9)))))
noncomputable def f_X7_nearestHome (sd : SD) (a1 : Int32) : Option Int32 := x_bind (f_X7_mountProblem (sd) a1) fun (q1 : Int32) => (if q1 = 0 then f_X7_nearestHome_L20 sd a1 fuel ((-1 : Int32)) ((0 : Int32)) ((0 : Int32)) else some (q1))
noncomputable def f_X7_putByte (jd : SD) (a1 : Int32) : Option SD := (if (280 : Int32) ≤ (jd 7 0 8) then some (jd) else x_guard (vp_in (jd 7 0 8) 280) <| x_let (upS jd 26 0 ((jd 7 0 8)).toNatClampNeg ((a1).toInt8.toInt32).toInt8.toInt32) fun (jd2 : SD) => x_let (upS jd2 7 0 8 ((jd2 7 0 8) + (1 : Int32))) fun (jd3 : SD) => some (jd3))
noncomputable def f_X7_putNumber (jd : SD) (a1 : Int32) : Option SD := (x_let (fun (jd2 : SD) => ((x_let (fun (jd4 : SD) => (x_bind (f_X7_putByte jd4 (((48 : Int32) + (a1 - a1 / (10 : Int32) * (10 : Int32))))) fun (q5 : SD) => some (q5) : Option SD)) fun K3 => (if a1 < (10 : Int32) then K3 (jd2) else x_bind (f_X7_putByte jd2 (((48 : Int32) + ((a1 / (10 : Int32)) - (a1 / (10 : Int32)) / (10 : Int32) * (10 : Int32))))) fun (q6 : SD) => K3 (q6))) : Option SD)) fun K1 => (if a1 < (100 : Int32) then K1 (jd) else x_bind (f_X7_putByte (jd) (((48 : Int32) + ((a1 / (100 : Int32)) - (a1 / (100 : Int32)) / (10 : Int32) * (10 : Int32))))) fun (q7 : SD) => K1 (q7)))
noncomputable def f_X7_writeCatalogue_L7 (sd_of_cs : SD) : Nat → Int32 → SD → Option (Int32 × SD)
  | 0, _, _ => none
  | n_7 + 1, v1_7, jd_7 => (if (sd_of_cs 4 0 11) ≤ v1_7 then some ((jd_7 7 0 8), jd_7) else x_bind (f_X4_currentVersion (sd_of_cs) v1_7) fun (q2 : Nat) => x_bind (f_X7_putNumber jd_7 v1_7) fun (q3 : SD) => x_bind (f_X7_putByte q3 (58 : Int32)) fun (q4 : SD) => x_bind (f_X7_putNumber q4 ((sd_of_cs 6 q2 1))) fun (q5 : SD) => x_bind (f_X7_putByte q5 (44 : Int32)) fun (q6 : SD) => x_bind (f_X7_putNumber q6 ((sd_of_cs 6 q2 2))) fun (q7 : SD) => x_bind (f_X7_putByte q7 (44 : Int32)) fun (q8 : SD) => x_bind (f_X7_putNumber q8 ((sd_of_cs 6 q2 3))) fun (q9 : SD) => x_bind (f_X4_isReadable (sd_of_cs) v1_7) fun (q10 : Int32) => (x_let (fun (jd12 : SD) => (x_bind (f_X7_putByte jd12 (59 : Int32)) fun (q13 : SD) => x_let (v1_7 + (1 : Int32)) fun (x14 : Int32) => f_X7_writeCatalogue_L7 sd_of_cs n_7 (x14) (q13) : Option (Int32 × SD))) fun K11 => (if q10 = 0 then K11 (q9) else x_bind (f_X7_putByte q9 (42 : Int32)) fun (q15 : SD) => K11 (q15))))
noncomputable def f_X7_writeCatalogue (sd : SD) (jd : SD) : Option (Int32 × SD) := x_let (upS jd 7 0 8 (0 : Int32)) fun (jd1 : SD) => f_X7_writeCatalogue_L7 sd fuel ((0 : Int32)) (jd1)
noncomputable def f_X7_outputByte (jd : SD) (a1 : Int32) : Option Int32 := (if a1 < 0 then some ((-1000001 : Int32)) else (if a1 < (jd 7 0 8) then x_guard (vp_in a1 280) <| some ((jd 26 0 (a1).toNatClampNeg)) else some ((-1000001 : Int32))))
end
section
/-! Layer 2: the class's pure functions against the reference's. Base: numbers, forms, searches, loops -/
theorem xl {α β : Type} (a : α) (f : α → β) : x_let a f = f a := rfl
theorem xg {β : Type} (a : Option β) : x_guard True a = a := x_guard_pos trivial a
theorem xb {α β : Type} (x : α) (f : α → Option β) : x_bind (some x) f = f x := rfl
theorem vin {n N : Nat} (h : n < 2 ^ 31) : vp_in (nI n) N ↔ n < N := by
  have h0 := nI_pos h
  unfold vp_in
  rw [nI_clamp h]
  exact ⟨fun z => Nat.not_le.mp (fun y => z (Or.inr y)), fun z y => y.elim h0 (fun y => absurd y (Nat.not_le.mpr z))⟩
theorem vinT {n N : Nat} (h : n < N) (hN : N < 2 ^ 31) : vp_in (nI n) N = True := eq_true (vp_in_nI h hN)
theorem m1neg : (-1 : Int32) < 0 := by decide
theorem nm1 {n : Nat} (h : n < 2 ^ 31) : nI n = -1 ↔ False := ⟨fun z => nI_pos h (by rw [z]; exact m1neg), False.elim⟩
theorem m1n {n : Nat} (h : n < 2 ^ 31) : -1 = nI n ↔ False := ⟨fun z => nI_pos h (by rw [← z]; exact m1neg), False.elim⟩
theorem nneg {n : Nat} (h : n < 2 ^ 31) : nI n < 0 ↔ False := ⟨nI_pos h, False.elim⟩
theorem npos {n : Nat} (h : n < 2 ^ 31) : 0 ≤ nI n ↔ True := ⟨fun _ => trivial, fun _ => nI_pos' h⟩
theorem la (k n : Nat) : (no_index (OfNat.ofNat k) : Int32) + nI n = nI (OfNat.ofNat k + n) := nI_add k n
theorem ra (k n : Nat) : nI n + (no_index (OfNat.ofNat k) : Int32) = nI (n + OfNat.ofNat k) := nI_add n k
theorem lm (k n : Nat) : (no_index (OfNat.ofNat k) : Int32) * nI n = nI (OfNat.ofNat k * n) := pk_mul k n
theorem rmu (k n : Nat) : nI n * (no_index (OfNat.ofNat k) : Int32) = nI (n * OfNat.ofNat k) := pk_mul n k
theorem rsu {k n : Nat} (h : OfNat.ofNat k ≤ n) : nI n - (no_index (OfNat.ofNat k) : Int32) = nI (n - OfNat.ofNat k) := pk_sub h
theorem lsu {k n : Nat} (h : n ≤ OfNat.ofNat k) : (no_index (OfNat.ofNat k) : Int32) - nI n = nI (OfNat.ofNat k - n) := pk_sub h
theorem rdi {k n : Nat} (hn : n < 2 ^ 31) (h0 : 0 < (OfNat.ofNat k : Nat)) (hk : (OfNat.ofNat k : Nat) < 2 ^ 31) : nI n / (no_index (OfNat.ofNat k) : Int32) = nI (n / OfNat.ofNat k) := pk_div hn h0 hk
theorem lle {k n : Nat} (hk : (OfNat.ofNat k : Nat) < 2 ^ 31) (hn : n < 2 ^ 31) : (no_index (OfNat.ofNat k) : Int32) ≤ nI n ↔ OfNat.ofNat k ≤ n := nI_leI hk hn
theorem rle {k n : Nat} (hk : (OfNat.ofNat k : Nat) < 2 ^ 31) (hn : n < 2 ^ 31) : nI n ≤ (no_index (OfNat.ofNat k) : Int32) ↔ n ≤ OfNat.ofNat k := nI_leI hn hk
theorem llt {k n : Nat} (hk : (OfNat.ofNat k : Nat) < 2 ^ 31) (hn : n < 2 ^ 31) : (no_index (OfNat.ofNat k) : Int32) < nI n ↔ OfNat.ofNat k < n := nI_ltI hk hn
theorem rlt {k n : Nat} (hk : (OfNat.ofNat k : Nat) < 2 ^ 31) (hn : n < 2 ^ 31) : nI n < (no_index (OfNat.ofNat k) : Int32) ↔ n < OfNat.ofNat k := nI_ltI hn hk
theorem leq {k n : Nat} (hk : (OfNat.ofNat k : Nat) < 2 ^ 31) (hn : n < 2 ^ 31) : (no_index (OfNat.ofNat k) : Int32) = nI n ↔ OfNat.ofNat k = n := nI_eq hk hn
theorem req {k n : Nat} (hk : (OfNat.ofNat k : Nat) < 2 ^ 31) (hn : n < 2 ^ 31) : nI n = (no_index (OfNat.ofNat k) : Int32) ↔ n = OfNat.ofNat k := nI_eq hn hk
theorem li (k : Nat) : (OfNat.ofNat k : Int32) = nI (OfNat.ofNat k) := rfl
theorem i01 : ((0 : Int32) = 1) = False := by decide
theorem i10 : ((1 : Int32) = 0) = False := by decide
theorem i32_lt_le {x y : Int32} : ¬ x < y ↔ y ≤ x := Int32.not_lt
theorem i32_le_lt {x y : Int32} : ¬ x ≤ y ↔ y < x := Int32.not_le
/-! ranges -/
noncomputable def hasV (x : Int32) (n : Nat) : Int32 := if x < 0 then 0 else if nI n ≤ x then 0 else 1
theorem hasV_in {j n : Nat} (h : j < n) (hn : n < 2 ^ 31) : hasV (nI j) n = 1 := by
  unfold hasV
  rw [if_neg (nI_pos (by omega)), if_neg (nI_ge h hn)]
theorem hasV_cases (x : Int32) {n : Nat} (hn : n < 2 ^ 31) : hasV x n = 0 ∨ (hasV x n = 1 ∧ ∃ j, j < n ∧ x = nI j) := by
  rcases pk_ix x hn with h | h | ⟨j, hj, rfl⟩
  · left; unfold hasV; rw [if_pos h]
  · left; unfold hasV
    by_cases h0 : x < 0
    · rw [if_pos h0]
    · rw [if_neg h0, if_pos h]
  · exact Or.inr ⟨hasV_in hj hn, j, hj, rfl⟩
theorem hasV_01 (x : Int32) (n : Nat) : (hasV x n = 0 ∨ hasV x n = 1) = True := by
  unfold hasV
  split
  · simp
  · split <;> simp
theorem isIn64 (u v w : Int64) : f_X8_isIn u v w = some (if u < v then 0 else if w < u then 0 else 1) := by
  have key : ∀ x y : Int64, (lg_cmp x y < 0 ↔ x < y) ∧ (0 < lg_cmp x y ↔ y < x) := by
    intro x y
    unfold lg_cmp
    rcases Int.lt_trichotomy x.toInt y.toInt with h | h | h
    · have h1 : x < y := Int64.lt_iff_toInt_lt.mpr h
      have h2 : ¬ (x > y) := fun z => by have := Int64.lt_iff_toInt_lt.mp z; omega
      have h3 : ¬ (x = y) := fun z => by rw [z] at h; omega
      rw [if_neg h2, if_neg h3]
      exact ⟨⟨fun _ => h1, fun _ => by decide⟩, ⟨fun z => absurd z (by decide), fun z => absurd z h2⟩⟩
    · have h3 : x = y := Int64.toInt_inj.mp h
      subst h3
      have h2 : ¬ (x > x) := fun z => by have := Int64.lt_iff_toInt_lt.mp z; omega
      rw [if_neg h2, if_pos rfl]
      exact ⟨⟨fun z => absurd z (by decide), fun z => absurd z h2⟩, ⟨fun z => absurd z (by decide), fun z => absurd z h2⟩⟩
    · have h1 : x > y := Int64.lt_iff_toInt_lt.mpr h
      have h2 : ¬ (x < y) := fun z => by have := Int64.lt_iff_toInt_lt.mp z; omega
      rw [if_pos h1]
      exact ⟨⟨fun z => absurd z (by decide), fun z => absurd z h2⟩, ⟨fun _ => h1, fun _ => by decide⟩⟩
  unfold f_X8_isIn
  simp only [(key u v).1, (key u w).2]
  split
  · rfl
  · split <;> rfl
theorem isIn32 (x a b : Int32) : f_X8_isIn x.toInt64 a.toInt64 b.toInt64 = some (if x < a then 0 else if b < x then 0 else 1) := by
  rw [isIn64]
  simp only [Int32.toInt64_lt]
theorem nI_m1 {n : Nat} (hn : n < 2 ^ 31) (x : Int32) : nI n - 1 < x ↔ nI n ≤ x := by
  rw [Int32.lt_iff_toInt_lt, Int32.le_iff_toInt_le, nI_toInt hn]
  have h1 : (nI n - 1).toInt = (n : Int) - 1 := by
    have := pk_sub_toInt (a := n) (b := 1)
    rcases n with _ | n
    · decide
    · rw [nI_pred, nI_toInt (by omega)]
      omega
  rw [h1]
  omega
theorem isIn0 (x : Int32) {n : Nat} (hn : n < 2 ^ 31) : f_X8_isIn x.toInt64 (0 : Int64) (nI n - 1).toInt64 = some (hasV x n) := by
  have h : (0 : Int64) = (0 : Int32).toInt64 := by decide
  rw [h, isIn32]
  simp only [nI_m1 hn]
  rfl
theorem isInR {s a b : Nat} (hs : s < 2 ^ 30) (ha : a < 2 ^ 30) (hb : b < 2 ^ 30) : f_X8_isIn (nI s).toInt64 (nI a).toInt64 (nI a + nI b - 1).toInt64 = some (if a ≤ s ∧ s < a + b then 1 else 0) := by
  rw [isIn32, nI_add]
  simp only [nI_m1 (show a + b < 2 ^ 31 by omega), nI_ltI (show s < 2 ^ 31 by omega) (show a < 2 ^ 31 by omega), nI_leI (show a + b < 2 ^ 31 by omega) (show s < 2 ^ 31 by omega)]
  by_cases h : s < a
  · rw [if_pos h, if_neg (by omega)]
  · rw [if_neg h]
    by_cases g : a + b ≤ s
    · rw [if_pos g, if_neg (by omega)]
    · rw [if_neg g, if_pos (by omega)]
theorem isInT (x : Int32) : f_X8_isIn x.toInt64 (0 : Int64) (99 : Int64) = some (hasV x 100) := by
  have h : (0 : Int64) = (0 : Int32).toInt64 := by decide
  have g : (99 : Int64) = (nI 100 - 1 : Int32).toInt64 := by decide
  rw [g]
  exact isIn0 x (by decide)
/-- a size from 1 to 300 -/
noncomputable def szV (x : Int32) : Int32 := if x < 1 then 0 else if 300 < x then 0 else 1
theorem isInS (x : Int32) : f_X8_isIn x.toInt64 (1 : Int64) (300 : Int64) = some (szV x) := by
  have h : (1 : Int64) = (1 : Int32).toInt64 := by decide
  have g : (300 : Int64) = (300 : Int32).toInt64 := by decide
  rw [h, g, isIn32]
  rfl
theorem szV_in {n : Nat} (h0 : 0 < n) (h : n ≤ 300) : szV (nI n) = 1 := by
  unfold szV
  rw [if_neg (by rw [rlt (by decide) (by omega)]; exact Nat.not_lt.mpr h0), if_neg (by rw [llt (by decide) (by omega)]; exact Nat.not_lt.mpr h)]
theorem szV_cases (x : Int32) : szV x = 0 ∨ (szV x = 1 ∧ ∃ n, 0 < n ∧ n ≤ 300 ∧ x = nI n) := by
  by_cases h : x < 1
  · left; unfold szV; rw [if_pos h]
  · by_cases g : (300 : Int32) < x
    · left; unfold szV; rw [if_neg h, if_pos g]
    · right
      have h1 := i32_lt_le.mp h
      have g1 := i32_lt_le.mp g
      rw [Int32.le_iff_toInt_le] at h1 g1
      have e1 : (1 : Int32).toInt = 1 := by decide
      have e3 : (300 : Int32).toInt = 300 := by decide
      rw [e1] at h1
      rw [e3] at g1
      have h0 : ¬ x < 0 := by
        rw [Int32.lt_iff_toInt_lt]
        have : (0 : Int32).toInt = 0 := by decide
        omega
      obtain ⟨j, hj, rfl⟩ := nI_of h0
      rw [nI_toInt hj] at h1 g1
      exact ⟨szV_in (by omega) (by omega), j, by omega, by omega, rfl⟩
/-! searches -/
/-- the first of n numbers from d on with the property, or -1 -/
def fst (P : Nat → Bool) : Nat → Nat → Int32
  | 0, _ => -1
  | n + 1, d => if P d = true then nI d else fst P n (d + 1)
theorem fst_congr {P Q : Nat → Bool} : ∀ {n d : Nat}, (∀ e, d ≤ e → e < d + n → P e = Q e) → fst P n d = fst Q n d
  | 0, _, _ => rfl
  | n + 1, d, h => by
    unfold fst
    rw [h d (Nat.le_refl _) (by omega), fst_congr (n := n) (d := d + 1) (fun e h1 h2 => h e (by omega) (by omega))]
theorem fst_congr0 {P Q : Nat → Bool} {n : Nat} (h : ∀ e, e < n → P e = Q e) : fst P n 0 = fst Q n 0 := fst_congr (fun e _ h2 => h e (by omega))
theorem fst_cases {P : Nat → Bool} : ∀ {n d : Nat}, (fst P n d = -1 ∧ ∀ e, d ≤ e → e < d + n → P e = false) ∨ ∃ e, d ≤ e ∧ e < d + n ∧ fst P n d = nI e ∧ P e = true ∧ ∀ f, d ≤ f → f < e → P f = false
  | 0, d => Or.inl ⟨rfl, fun e h1 h2 => by omega⟩
  | n + 1, d => by
    unfold fst
    by_cases hp : P d = true
    · rw [if_pos hp]
      exact Or.inr ⟨d, Nat.le_refl _, by omega, rfl, hp, fun f h1 h2 => by omega⟩
    · rw [if_neg hp]
      have hp : P d = false := by simpa using hp
      rcases fst_cases (P := P) (n := n) (d := d + 1) with ⟨h1, h2⟩ | ⟨e, h1, h2, h3, h4, h5⟩
      · refine Or.inl ⟨h1, fun e h3 h4 => ?_⟩
        by_cases he : e = d
        · rw [he]; exact hp
        · exact h2 e (by omega) (by omega)
      · refine Or.inr ⟨e, by omega, by omega, h3, h4, fun f h6 h7 => ?_⟩
        by_cases hf : f = d
        · rw [hf]; exact hp
        · exact h5 f (by omega) h7
theorem fst_cases0 {P : Nat → Bool} {n : Nat} : (fst P n 0 = -1 ∧ ∀ e, e < n → P e = false) ∨ ∃ e, e < n ∧ fst P n 0 = nI e ∧ P e = true ∧ ∀ f, f < e → P f = false := by
  rcases fst_cases (P := P) (n := n) (d := 0) with ⟨h1, h2⟩ | ⟨e, h1, h2, h3, h4, h5⟩
  · exact Or.inl ⟨h1, fun e h => h2 e (Nat.zero_le _) (by omega)⟩
  · exact Or.inr ⟨e, by omega, h3, h4, fun f h => h5 f (Nat.zero_le _) h⟩
/-- a search loop is a search -/
theorem srch {L : Nat → Int32 → Option Int32} {P : Nat → Bool} {N : Nat} (hN : N < 2 ^ 30) (he : ∀ n, L (n + 1) (nI N) = some (-1)) (hs : ∀ n d, d < N → L (n + 1) (nI d) = if P d = true then some (nI d) else L n (nI (d + 1))) : ∀ (k d n : Nat), d + k = N → k < n → L n (nI d) = some (fst P k d) := by
  intro k
  induction k with
  | zero =>
    intro d n h1 h2
    obtain ⟨n, rfl⟩ : ∃ m, n = m + 1 := ⟨n - 1, by omega⟩
    have : d = N := by omega
    rw [this, he]
    rfl
  | succ k ih =>
    intro d n h1 h2
    obtain ⟨n, rfl⟩ : ∃ m, n = m + 1 := ⟨n - 1, by omega⟩
    rw [hs n d (by omega), fst]
    split
    · rfl
    · exact ih (d + 1) n (by omega) (by omega)
theorem srch0 {L : Nat → Int32 → Option Int32} {P : Nat → Bool} {N : Nat} (hN : N < 10000) (he : ∀ n, L (n + 1) (nI N) = some (-1)) (hs : ∀ n d, d < N → L (n + 1) (nI d) = if P d = true then some (nI d) else L n (nI (d + 1))) : L fuel 0 = some (fst P N 0) := by
  have h := srch (by omega) he hs N 0 fuel (by omega) (by unfold fuel; omega)
  rw [nI_0] at h
  exact h
/-- a counting loop -/
def itr {σ : Type} (f : Nat → σ → σ) : Nat → Nat → σ → σ
  | 0, _, s => s
  | n + 1, d, s => itr f n (d + 1) (f d s)
theorem itr_congr {σ : Type} {f g : Nat → σ → σ} : ∀ {n d : Nat} {s : σ}, (∀ e s, d ≤ e → e < d + n → f e s = g e s) → itr f n d s = itr g n d s
  | 0, _, _, _ => rfl
  | n + 1, d, s, h => by
    unfold itr
    rw [h d s (Nat.le_refl _) (by omega)]
    exact itr_congr (fun e s h1 h2 => h e s (by omega) (by omega))
theorem loopN {σ ρ : Type} {L : Nat → Int32 → σ → Option ρ} {N : Nat} {f : Nat → σ → σ} {I : Nat → σ → Prop} {fin : σ → Option ρ} (he : ∀ n s, I N s → L (n + 1) (nI N) s = fin s) (hs : ∀ n d s, d < N → I d s → L (n + 1) (nI d) s = L n (nI (d + 1)) (f d s) ∧ I (d + 1) (f d s)) : ∀ (k d n : Nat) (s : σ), I d s → d + k = N → k < n → L n (nI d) s = fin (itr f k d s) ∧ I N (itr f k d s) := by
  intro k
  induction k with
  | zero =>
    intro d n s hI h1 h2
    obtain ⟨n, rfl⟩ : ∃ m, n = m + 1 := ⟨n - 1, by omega⟩
    have : d = N := by omega
    subst this
    exact ⟨he n s hI, hI⟩
  | succ k ih =>
    intro d n s hI h1 h2
    obtain ⟨n, rfl⟩ : ∃ m, n = m + 1 := ⟨n - 1, by omega⟩
    obtain ⟨h3, h4⟩ := hs n d s (by omega) hI
    rw [h3, itr]
    exact ih (d + 1) n _ h4 (by omega) (by omega)
theorem loop0 {σ ρ : Type} {L : Nat → Int32 → σ → Option ρ} {N : Nat} (f : Nat → σ → σ) (I : Nat → σ → Prop) (fin : σ → Option ρ) (hN : N < 10000) (he : ∀ n s, I N s → L (n + 1) (nI N) s = fin s) (hs : ∀ n d s, d < N → I d s → L (n + 1) (nI d) s = L n (nI (d + 1)) (f d s) ∧ I (d + 1) (f d s)) (s : σ) (h0 : I 0 s) : L fuel 0 s = fin (itr f N 0 s) ∧ I N (itr f N 0 s) := by
  have h := loopN he hs N 0 fuel s h0 (by omega) (by unfold fuel; omega)
  rw [nI_0] at h
  exact h
/-! cells -/
theorem upS_hit (s : SD) (k j t : Nat) (v : Int32) : upS s k j t v k j t = v := by simp [upS]
theorem upS_k {s : SD} {k j t : Nat} {v : Int32} {k' j' t' : Nat} (h : k' ≠ k) : upS s k j t v k' j' t' = s k' j' t' := by simp [upS, h]
theorem upS_j {s : SD} {k j t : Nat} {v : Int32} {k' j' t' : Nat} (h : j' ≠ j) : upS s k j t v k' j' t' = s k' j' t' := by simp [upS, h]
theorem upS_t {s : SD} {k j t : Nat} {v : Int32} {k' j' t' : Nat} (h : t' ≠ t) : upS s k j t v k' j' t' = s k' j' t' := by simp [upS, h]
abbrev RW : Type := Nat → Int32
def rup (r : RW) (i : Nat) (v : Int32) : RW := fun q => if q = i then v else r q
theorem rup_hit (r : RW) (i : Nat) (v : Int32) : rup r i v i = v := by simp [rup]
theorem rup_ne {r : RW} {i q : Nat} {v : Int32} (h : q ≠ i) : rup r i v q = r q := by simp [rup, h]
theorem row_up (m : SD) (k i : Nat) (v : Int32) : upS m k 0 i v k 0 = rup (m k 0) i v := by
  funext q
  simp [upS, rup]
theorem row_ne (m : SD) {k k' : Nat} (j i : Nat) (v : Int32) (h : k' ≠ k) : upS m k j i v k' = m k' := by
  funext a b
  simp [upS, h]
def nv (r : RW) (i : Nat) : Nat := (r i).toNatClampNeg
theorem nv_of {r : RW} {i n : Nat} (h : r i = nI n) (hn : n < 2 ^ 31) : nv r i = n := by
  unfold nv
  rw [h, nI_clamp hn]
end
section
/-! Layer 2: what a row of the reference holds, and how a State of the class stands to it -/
def isN (r : RW) (i m : Nat) : Prop := r i = nI (nv r i) ∧ nv r i ≤ m
def I_cnt (r : RW) : Prop := isN r 0 24 ∧ 4 ≤ nv r 0 ∧ isN r 6 4 ∧ isN r 7 10 ∧ isN r 8 20 ∧ isN r 9 20 ∧ isN r 10 40 ∧ isN r 16 16
def I_tim (r : RW) : Prop := isN r 1 99 ∧ isN r 2 99 ∧ isN r 3 99 ∧ isN r 4 99 ∧ isN r 5 99
def I_pick (r : RW) : Prop := isN r 11 23 ∧ nv r 11 < nv r 0
def I_drv (r : RW) : Prop := ∀ d, d < nv r 6 → (isN r (17 + d) 23 ∧ nv r (17 + d) < nv r 0) ∧ (r (21 + d) = -1 ∨ (isN r (21 + d) 9 ∧ nv r (21 + d) < nv r 7))
def I_drd (r : RW) : Prop := ∀ d e, d < nv r 6 → e < nv r 6 → r (21 + d) = r (21 + e) → d = e ∨ r (21 + d) = -1
def I_plt (r : RW) : Prop := ∀ p, p < nv r 7 → (isN r (29 + p) 23 ∧ nv r (29 + p) < nv r 0) ∧ (isN r (39 + p) 300 ∧ 10 ≤ nv r (39 + p)) ∧ isN r (49 + p) 9 ∧ (isN r (59 + p) 300 ∧ nv r (59 + p) ≤ nv r (39 + p)) ∧ isN r (69 + p) 8 ∧ isN r (79 + p) 1 ∧ (nv r (79 + p) = 1 → 0 < nv r (69 + p))
def I_hom (r : RW) : Prop := ∀ p q, p < nv r 7 → q < nv r 7 → r (29 + p) = r (29 + q) → p = q
def I_bad (r : RW) : Prop := ∀ k, k < nv r 8 → (isN r (249 + k) 9 ∧ nv r (249 + k) < nv r 7) ∧ isN r (269 + k) 299 ∧ nv r (269 + k) < nv r (39 + nv r (249 + k))
def I_bdd (r : RW) : Prop := ∀ k l, k < nv r 8 → l < nv r 8 → r (249 + k) = r (249 + l) → r (269 + k) = r (269 + l) → k = l
def I_cur (r : RW) : Prop := ∀ f, f < nv r 9 → isN r (289 + f) 39 ∧ nv r (289 + f) < nv r 10
def I_ver (r : RW) : Prop := ∀ v, v < nv r 10 → (isN r (309 + v) 19 ∧ nv r (309 + v) < nv r 9) ∧ (isN r (349 + v) 9 ∧ nv r (349 + v) < nv r 7) ∧ isN r (389 + v) 300 ∧ isN r (429 + v) 300 ∧ nv r (389 + v) + nv r (429 + v) ≤ nv r (59 + nv r (349 + v)) ∧ (isN r (469 + v) 7 ∧ nv r (469 + v) < nv r (69 + nv r (349 + v))) ∧ isN r (509 + v) 9 ∧ isN r (549 + v) 1
def I_req (r : RW) : Prop := ∀ q, q < nv r 16 → isN r (589 + q) 19 ∧ nv r (589 + q) < nv r 9
/-- the row is a jukebox -/
def Inv (r : RW) : Prop := I_cnt r ∧ I_tim r ∧ I_pick r ∧ I_drv r ∧ I_drd r ∧ I_plt r ∧ I_hom r ∧ I_bad r ∧ I_bdd r ∧ I_cur r ∧ I_ver r ∧ I_req r
theorem isN.e {r : RW} {i m : Nat} (h : isN r i m) : r i = nI (nv r i) := h.1
theorem isN.l {r : RW} {i m : Nat} (h : isN r i m) : nv r i ≤ m := h.2
section INV
variable {r : RW}
theorem Inv.c0 (h : Inv r) : r 0 = nI (nv r 0) := h.1.1.1
theorem Inv.l0 (h : Inv r) : 4 ≤ nv r 0 ∧ nv r 0 ≤ 24 := ⟨h.1.2.1, h.1.1.2⟩
theorem Inv.c6 (h : Inv r) : r 6 = nI (nv r 6) := h.1.2.2.1.1
theorem Inv.l6 (h : Inv r) : nv r 6 ≤ 4 := h.1.2.2.1.2
theorem Inv.c7 (h : Inv r) : r 7 = nI (nv r 7) := h.1.2.2.2.1.1
theorem Inv.l7 (h : Inv r) : nv r 7 ≤ 10 := h.1.2.2.2.1.2
theorem Inv.c8 (h : Inv r) : r 8 = nI (nv r 8) := h.1.2.2.2.2.1.1
theorem Inv.l8 (h : Inv r) : nv r 8 ≤ 20 := h.1.2.2.2.2.1.2
theorem Inv.c9 (h : Inv r) : r 9 = nI (nv r 9) := h.1.2.2.2.2.2.1.1
theorem Inv.l9 (h : Inv r) : nv r 9 ≤ 20 := h.1.2.2.2.2.2.1.2
theorem Inv.c10 (h : Inv r) : r 10 = nI (nv r 10) := h.1.2.2.2.2.2.2.1.1
theorem Inv.l10 (h : Inv r) : nv r 10 ≤ 40 := h.1.2.2.2.2.2.2.1.2
theorem Inv.c16 (h : Inv r) : r 16 = nI (nv r 16) := h.1.2.2.2.2.2.2.2.1
theorem Inv.l16 (h : Inv r) : nv r 16 ≤ 16 := h.1.2.2.2.2.2.2.2.2
theorem Inv.tim (h : Inv r) : I_tim r := h.2.1
theorem Inv.pick (h : Inv r) : I_pick r := h.2.2.1
theorem Inv.drv (h : Inv r) : I_drv r := h.2.2.2.1
theorem Inv.drd (h : Inv r) : I_drd r := h.2.2.2.2.1
theorem Inv.plt (h : Inv r) : I_plt r := h.2.2.2.2.2.1
theorem Inv.hom (h : Inv r) : I_hom r := h.2.2.2.2.2.2.1
theorem Inv.bad (h : Inv r) : I_bad r := h.2.2.2.2.2.2.2.1
theorem Inv.bdd (h : Inv r) : I_bdd r := h.2.2.2.2.2.2.2.2.1
theorem Inv.cur (h : Inv r) : I_cur r := h.2.2.2.2.2.2.2.2.2.1
theorem Inv.ver (h : Inv r) : I_ver r := h.2.2.2.2.2.2.2.2.2.2.1
theorem Inv.req (h : Inv r) : I_req r := h.2.2.2.2.2.2.2.2.2.2.2
end INV
def ns (sd : SD) (k j t : Nat) : Nat := (sd k j t).toNatClampNeg
/-- the class's bit of a sector, and the reference's entry -/
def bdc (sd : SD) (p s : Nat) : Bool := (sd 18 p (s / 32)).toBitVec.getLsbD (s % 32)
def bdm (r : RW) (p s : Nat) : Prop := ∃ k, k < nv r 8 ∧ r (249 + k) = nI p ∧ r (269 + k) = nI s
def R_sc (sd : SD) (r : RW) : Prop := sd 4 0 0 = r 0 ∧ sd 4 0 3 = r 6 ∧ sd 4 0 6 = r 7 ∧ sd 4 0 7 = r 8 ∧ sd 4 0 9 = r 10 ∧ sd 4 0 11 = r 9 ∧ sd 4 0 13 = r 16 ∧ sd 4 0 14 = r 11 ∧ sd 4 0 15 = r 12 ∧ sd 4 0 16 = r 13 ∧ sd 4 0 17 = r 14
def R_tm (sd : SD) (r : RW) : Prop := sd 10 0 0 = r 1 ∧ sd 10 0 1 = r 2 ∧ sd 10 0 2 = r 3 ∧ sd 10 0 3 = r 4 ∧ sd 10 0 4 = r 5
def R_dr (sd : SD) (r : RW) : Prop := ∀ d, d < nv r 6 → sd 0 d 0 = r (17 + d) ∧ sd 0 d 1 = r (21 + d)
def R_us (b : Nat) (sd : SD) (r : RW) : Prop := (sd 4 0 4 = nI (ns sd 4 0 4) ∧ ns sd 4 0 4 ≤ b) ∧ isN r 15 b ∧ (∀ d, d < nv r 6 → (sd 0 d 2 = nI (ns sd 0 d 2) ∧ ns sd 0 d 2 ≤ ns sd 4 0 4) ∧ isN r (25 + d) (nv r 15)) ∧ ∀ d e, d < nv r 6 → e < nv r 6 → (ns sd 0 d 2 < ns sd 0 e 2 ↔ nv r (25 + d) < nv r (25 + e))
def R_pl (sd : SD) (r : RW) : Prop := ∀ p, p < nv r 7 → sd 3 p 0 = r (29 + p) ∧ sd 3 p 1 = r (39 + p) ∧ sd 3 p 2 = r (49 + p) ∧ sd 3 p 3 = r (59 + p) ∧ sd 3 p 4 = r (69 + p) ∧ sd 3 p 5 = r (79 + p)
def R_se (sd : SD) (r : RW) : Prop := ∀ p s, p < nv r 7 → s < nv r (69 + p) → sd 16 p s = r (89 + 8 * p + s) ∧ sd 17 p s = r (169 + 8 * p + s)
def R_bd (sd : SD) (r : RW) : Prop := ∀ p s, p < nv r 7 → s < 300 → (bdc sd p s = true ↔ bdm r p s)
def R_cu (sd : SD) (r : RW) : Prop := ∀ f, f < nv r 9 → sd 14 0 f = r (289 + f)
def R_ve (sd : SD) (r : RW) : Prop := ∀ v, v < nv r 10 → sd 6 v 0 = r (309 + v) ∧ sd 6 v 1 = r (349 + v) ∧ sd 6 v 2 = r (389 + v) ∧ sd 6 v 3 = r (429 + v) ∧ sd 6 v 4 = r (469 + v) ∧ sd 6 v 5 = r (509 + v) ∧ sd 6 v 6 = r (549 + v)
def R_rq (sd : SD) (r : RW) : Prop := ∀ q, q < nv r 16 → sd 15 0 q = r (589 + q)
/-- a State of the class is the row; the numbers of uses are at most b -/
def Rel (b : Nat) (sd : SD) (r : RW) : Prop := R_sc sd r ∧ R_tm sd r ∧ R_dr sd r ∧ R_us b sd r ∧ R_pl sd r ∧ R_se sd r ∧ R_bd sd r ∧ R_cu sd r ∧ R_ve sd r ∧ R_rq sd r
section REL
variable {b : Nat} {sd : SD} {r : RW}
theorem Rel.sc (h : Rel b sd r) : R_sc sd r := h.1
theorem Rel.s0 (h : Rel b sd r) : sd 4 0 0 = r 0 := h.1.1
theorem Rel.s3 (h : Rel b sd r) : sd 4 0 3 = r 6 := h.1.2.1
theorem Rel.s6 (h : Rel b sd r) : sd 4 0 6 = r 7 := h.1.2.2.1
theorem Rel.s7 (h : Rel b sd r) : sd 4 0 7 = r 8 := h.1.2.2.2.1
theorem Rel.s9 (h : Rel b sd r) : sd 4 0 9 = r 10 := h.1.2.2.2.2.1
theorem Rel.s11 (h : Rel b sd r) : sd 4 0 11 = r 9 := h.1.2.2.2.2.2.1
theorem Rel.s13 (h : Rel b sd r) : sd 4 0 13 = r 16 := h.1.2.2.2.2.2.2.1
theorem Rel.s14 (h : Rel b sd r) : sd 4 0 14 = r 11 := h.1.2.2.2.2.2.2.2.1
theorem Rel.s15 (h : Rel b sd r) : sd 4 0 15 = r 12 := h.1.2.2.2.2.2.2.2.2.1
theorem Rel.s16 (h : Rel b sd r) : sd 4 0 16 = r 13 := h.1.2.2.2.2.2.2.2.2.2.1
theorem Rel.s17 (h : Rel b sd r) : sd 4 0 17 = r 14 := h.1.2.2.2.2.2.2.2.2.2.2
theorem Rel.tm (h : Rel b sd r) : R_tm sd r := h.2.1
theorem Rel.dr (h : Rel b sd r) : R_dr sd r := h.2.2.1
theorem Rel.us (h : Rel b sd r) : R_us b sd r := h.2.2.2.1
theorem Rel.pl (h : Rel b sd r) : R_pl sd r := h.2.2.2.2.1
theorem Rel.se (h : Rel b sd r) : R_se sd r := h.2.2.2.2.2.1
theorem Rel.bd (h : Rel b sd r) : R_bd sd r := h.2.2.2.2.2.2.1
theorem Rel.cu (h : Rel b sd r) : R_cu sd r := h.2.2.2.2.2.2.2.1
theorem Rel.ve (h : Rel b sd r) : R_ve sd r := h.2.2.2.2.2.2.2.2.1
theorem Rel.rq (h : Rel b sd r) : R_rq sd r := h.2.2.2.2.2.2.2.2.2
end REL
/-- cells of the reference that no later call reads before it writes them -/
def scr (k t : Nat) : Prop := (k = 8 ∧ (t = 0 ∨ t = 6 ∨ t = 10)) ∨ k = 32 ∨ k = 34 ∨ k = 35 ∨ k = 36
def MSame (m m' : SD) : Prop := ∀ k j t, ¬ scr k t → m' k j t = m k j t
theorem MSame.rf (m : SD) : MSame m m := fun _ _ _ _ => rfl
theorem MSame.tr {a b c : SD} (h : MSame a b) (g : MSame b c) : MSame a c := fun k j t n => (g k j t n).trans (h k j t n)
theorem MSame.up {m m' : SD} (h : MSame m m') {k j t : Nat} {v : Int32} (hs : scr k t) : MSame m (upS m' k j t v) := fun k' j' t' n => by
  unfold upS
  split
  · rename_i z
    obtain ⟨rfl, rfl, rfl⟩ := z
    exact absurd hs n
  · exact h k' j' t' n
theorem MSame.row {m m' : SD} (h : MSame m m') : m' 30 0 = m 30 0 := by
  funext t
  exact h 30 0 t (by unfold scr; omega)
/-- both answer alike, and the reference is as it was -/
def Ans (m : SD) (x : Option Int32) (y : Option (Int32 × SD)) : Prop := ∃ v m', x = some v ∧ y = some (v, m') ∧ MSame m m'
theorem thr (m : SD) : ∃ m1, upS m 8 0 0 0 = m1 ∧ m1 30 0 = m 30 0 ∧ MSame m m1 := ⟨_, rfl, (MSame.up (MSame.rf m) (Or.inl ⟨rfl, Or.inl rfl⟩)).row, MSame.up (MSame.rf m) (Or.inl ⟨rfl, Or.inl rfl⟩)⟩
end
section
/-! Layer 2: tests and searches of both sides -/
section Q1
variable {b : Nat} {sd md : SD} {r : RW} {k0 : Nat}
theorem hasE (a : Int32) (n : Nat) : (if a < 0 then some (0 : Int32) else if nI n ≤ a then some (0 : Int32) else some (1 : Int32)) = some (hasV a n) := by
  unfold hasV
  split
  · rfl
  · split <;> rfl
theorem c_hasSlot (hI : Inv r) (hR : Rel b sd r) (a : Int32) : f_X4_hasSlot sd a = some (hasV a (nv r 0)) := by
  unfold f_X4_hasSlot
  rw [hR.s0, hI.c0]
  exact hasE _ _
theorem c_hasDrive (hI : Inv r) (hR : Rel b sd r) (a : Int32) : f_X4_hasDrive sd a = some (hasV a (nv r 6)) := by
  unfold f_X4_hasDrive
  rw [hR.s3, hI.c6]
  exact hasE _ _
theorem c_hasPlatter (hI : Inv r) (hR : Rel b sd r) (a : Int32) : f_X4_hasPlatter sd a = some (hasV a (nv r 7)) := by
  unfold f_X4_hasPlatter
  rw [hR.s6, hI.c7]
  exact hasE _ _
theorem c_hasFile (hI : Inv r) (hR : Rel b sd r) (a : Int32) : f_X4_hasFile sd a = some (hasV a (nv r 9)) := by
  unfold f_X4_hasFile
  rw [hR.s11, hI.c9]
  exact hasE _ _
theorem c_hasRequest (hI : Inv r) (hR : Rel b sd r) (a : Int32) : f_X4_hasRequest sd a = some (hasV a (nv r 16)) := by
  unfold f_X4_hasRequest
  rw [hR.s13, hI.c16]
  exact hasE _ _
theorem m_isPlatter (hr : md 30 0 = r) (hI : Inv r) (a : Int32) : f_X8_isPlatter md a = some (hasV a (nv r 7)) := by
  have := hI.l7
  unfold f_X8_isPlatter
  rw [hr, hI.c7, isIn0 a (by omega), xb]
  simp only [hasV_01, xg]
theorem m_isDrive (hr : md 30 0 = r) (hI : Inv r) (a : Int32) : f_X8_isDrive md a = some (hasV a (nv r 6)) := by
  have := hI.l6
  unfold f_X8_isDrive
  rw [hr, hI.c6, isIn0 a (by omega), xb]
  simp only [hasV_01, xg]
theorem m_isSlot (hr : md 30 0 = r) (hI : Inv r) (a : Int32) : f_X8_isSlot md a = some (hasV a (nv r 0)) := by
  have := hI.l0
  unfold f_X8_isSlot
  rw [hr, hI.c0, isIn0 a (by omega), xb]
  simp only [hasV_01, xg]
theorem m_isFile (hr : md 30 0 = r) (hI : Inv r) (a : Int32) : f_X8_isFile md a = some (hasV a (nv r 9)) := by
  have := hI.l9
  unfold f_X8_isFile
  rw [hr, hI.c9, isIn0 a (by omega), xb]
  simp only [hasV_01, xg]
theorem m_isRequest (hr : md 30 0 = r) (hI : Inv r) (a : Int32) : f_X8_isRequest md a = some (hasV a (nv r 16)) := by
  have := hI.l16
  unfold f_X8_isRequest
  rw [hr, hI.c16, isIn0 a (by omega), xb]
  simp only [hasV_01, xg]
theorem hasV_2 (x : Int32) (n : Nat) : (if hasV x n = 0 then some (0 : Int32) else some (1 : Int32)) = some (hasV x n) := by
  unfold hasV
  split
  · rfl
  · split <;> rfl
theorem c_hasSession (hI : Inv r) (hR : Rel b sd r) {p : Nat} (hp : p < nv r 7) (a : Int32) : f_X4_hasSession sd (nI p) a = some (hasV a (nv r (69 + p))) := by
  have l7 := hI.l7
  unfold f_X4_hasSession
  rw [c_hasPlatter hI hR, xb, hasV_in hp (by omega)]
  simp (disch := omega) only [xl, xg, xb, vinT, nI_clamp, la, ra, lm, rmu, rsu, nI_add, pk_mul, nm1, m1n, nneg, npos, lle, rle, llt, rlt, leq, req, nI_leI, nI_ltI, nI_eq, if_pos, if_neg, if_true, if_false, i01, i10, (hR.pl p hp).2.2.2.2.1, (hI.plt p hp).2.2.2.2.1.e]
  exact hasE _ _
theorem c_hasSector (hI : Inv r) (hR : Rel b sd r) {p : Nat} (hp : p < nv r 7) (a : Int32) : f_X4_hasSector sd (nI p) a = some (hasV a (nv r (39 + p))) := by
  have l7 := hI.l7
  unfold f_X4_hasSector
  rw [c_hasPlatter hI hR, xb, hasV_in hp (by omega)]
  simp (disch := omega) only [xl, xg, xb, vinT, nI_clamp, la, ra, lm, rmu, rsu, nI_add, pk_mul, nm1, m1n, nneg, npos, lle, rle, llt, rlt, leq, req, nI_leI, nI_ltI, nI_eq, if_pos, if_neg, if_true, if_false, i01, i10, (hR.pl p hp).2.1, (hI.plt p hp).2.1.1.e]
  exact hasE _ _
theorem m_isSession (hr : md 30 0 = r) (hI : Inv r) {p : Nat} (hp : p < nv r 7) (a : Int32) : f_X8_isSession md (nI p) a = some (hasV a (nv r (69 + p))) := by
  have l7 := hI.l7
  have l := (hI.plt p hp).2.2.2.2.1.l
  unfold f_X8_isSession
  rw [m_isPlatter hr hI, xb, hasV_in hp (by omega), hr]
  simp (disch := omega) only [xl, xg, xb, vinT, nI_clamp, la, ra, lm, rmu, rsu, nI_add, pk_mul, nm1, m1n, nneg, npos, lle, rle, llt, rlt, leq, req, nI_leI, nI_ltI, nI_eq, if_pos, if_neg, if_true, if_false, i01, i10, (hI.plt p hp).2.2.2.2.1.e, isIn0]
  exact hasV_2 _ _
theorem m_isSector (hr : md 30 0 = r) (hI : Inv r) {p : Nat} (hp : p < nv r 7) (a : Int32) : f_X8_isSector md (nI p) a = some (hasV a (nv r (39 + p))) := by
  have l7 := hI.l7
  have l := (hI.plt p hp).2.1.1.l
  unfold f_X8_isSector
  rw [m_isPlatter hr hI, xb, hasV_in hp (by omega), hr]
  simp (disch := omega) only [xl, xg, xb, vinT, nI_clamp, la, ra, lm, rmu, rsu, nI_add, pk_mul, nm1, m1n, nneg, npos, lle, rle, llt, rlt, leq, req, nI_leI, nI_ltI, nI_eq, if_pos, if_neg, if_true, if_false, i01, i10, (hI.plt p hp).2.1.1.e, isIn0]
  exact hasV_2 _ _
/-- where a platter is -/
abbrev holdQ (r : RW) (a : Int32) : Int32 := fst (fun d => decide (r (21 + d) = a)) (nv r 6) 0
theorem c_driveHolding (hI : Inv r) (hR : Rel b sd r) (a : Int32) : f_X4_driveHolding sd a = some (holdQ r a) := by
  have l6 := hI.l6
  unfold f_X4_driveHolding
  refine srch0 (L := fun n v => f_X4_driveHolding_L2 sd a n v) (by omega) (fun n => ?_) (fun n d hd => ?_)
  · show f_X4_driveHolding_L2 sd a (n + 1) (nI (nv r 6)) = _
    rw [f_X4_driveHolding_L2, hR.s3, hI.c6]
    exact if_pos (nI_le (Nat.le_refl _) (by omega))
  · show f_X4_driveHolding_L2 sd a (n + 1) (nI d) = _
    rw [f_X4_driveHolding_L2, hR.s3, hI.c6]
    simp (disch := omega) only [xl, xg, xb, vinT, nI_clamp, la, ra, lm, rmu, rsu, nI_add, pk_mul, nm1, m1n, nneg, npos, lle, rle, llt, rlt, leq, req, nI_leI, nI_ltI, nI_eq, if_pos, if_neg, if_true, if_false, i01, i10, (hR.dr d hd).2, decide_eq_true_eq]
theorem m_inDrive (hr : md 30 0 = r) (hI : Inv r) (a : Int32) : f_X8_inDrive md a = some (holdQ r a) := by
  have l6 := hI.l6
  unfold f_X8_inDrive
  refine srch0 (L := fun n v => f_X8_inDrive_L2 md a n v) (by omega) (fun n => ?_) (fun n d hd => ?_)
  · show f_X8_inDrive_L2 md a (n + 1) (nI (nv r 6)) = _
    rw [f_X8_inDrive_L2, hr, hI.c6]
    exact if_pos (nI_le (Nat.le_refl _) (by omega))
  · show f_X8_inDrive_L2 md a (n + 1) (nI d) = _
    rw [f_X8_inDrive_L2, hr, hI.c6]
    simp (disch := omega) only [xl, xg, xb, vinT, nI_clamp, la, ra, lm, rmu, rsu, nI_add, pk_mul, nm1, m1n, nneg, npos, lle, rle, llt, rlt, leq, req, nI_leI, nI_ltI, nI_eq, if_pos, if_neg, if_true, if_false, i01, i10, decide_eq_true_eq]
abbrev homeQ (r : RW) (a : Int32) : Int32 := fst (fun p => decide (r (29 + p) = a)) (nv r 7) 0
theorem c_platterWithHome (hI : Inv r) (hR : Rel b sd r) (a : Int32) : f_X4_platterWithHome sd a = some (homeQ r a) := by
  have l7 := hI.l7
  unfold f_X4_platterWithHome
  refine srch0 (L := fun n v => f_X4_platterWithHome_L2 sd a n v) (by omega) (fun n => ?_) (fun n d hd => ?_)
  · show f_X4_platterWithHome_L2 sd a (n + 1) (nI (nv r 7)) = _
    rw [f_X4_platterWithHome_L2, hR.s6, hI.c7]
    exact if_pos (nI_le (Nat.le_refl _) (by omega))
  · show f_X4_platterWithHome_L2 sd a (n + 1) (nI d) = _
    rw [f_X4_platterWithHome_L2, hR.s6, hI.c7]
    simp (disch := omega) only [xl, xg, xb, vinT, nI_clamp, la, ra, lm, rmu, rsu, nI_add, pk_mul, nm1, m1n, nneg, npos, lle, rle, llt, rlt, leq, req, nI_leI, nI_ltI, nI_eq, if_pos, if_neg, if_true, if_false, i01, i10, (hR.pl d hd).1, decide_eq_true_eq]
theorem m_homeAt (hr : md k0 0 = r) (hI : Inv r) (a : Int32) : f_X8_homeAt md k0 a = some (homeQ r a) := by
  have l7 := hI.l7
  unfold f_X8_homeAt
  refine srch0 (L := fun n v => f_X8_homeAt_L2 md k0 a n v) (by omega) (fun n => ?_) (fun n d hd => ?_)
  · show f_X8_homeAt_L2 md k0 a (n + 1) (nI (nv r 7)) = _
    rw [f_X8_homeAt_L2, hr, hI.c7]
    exact if_pos (nI_le (Nat.le_refl _) (by omega))
  · show f_X8_homeAt_L2 md k0 a (n + 1) (nI d) = _
    rw [f_X8_homeAt_L2, hr, hI.c7]
    simp (disch := omega) only [xl, xg, xb, vinT, nI_clamp, la, ra, lm, rmu, rsu, nI_add, pk_mul, nm1, m1n, nneg, npos, lle, rle, llt, rlt, leq, req, nI_leI, nI_ltI, nI_eq, if_pos, if_neg, if_true, if_false, i01, i10, decide_eq_true_eq]
abbrev verQ (r : RW) (p s : Nat) : Int32 := fst (fun v => decide (r (349 + v) = nI p ∧ nv r (389 + v) ≤ s ∧ s < nv r (389 + v) + nv r (429 + v))) (nv r 10) 0
theorem c_versionAt (hI : Inv r) (hR : Rel b sd r) {p s : Nat} (hs : s < 300) : f_X4_versionAt sd (nI p) (nI s) = some (verQ r p s) := by
  have l10 := hI.l10
  unfold f_X4_versionAt
  refine srch0 (L := fun n v => f_X4_versionAt_L2 sd (nI p) (nI s) n v) (by omega) (fun n => ?_) (fun n d hd => ?_)
  · show f_X4_versionAt_L2 sd (nI p) (nI s) (n + 1) (nI (nv r 10)) = _
    rw [f_X4_versionAt_L2, hR.s9, hI.c10]
    exact if_pos (nI_le (Nat.le_refl _) (by omega))
  · show f_X4_versionAt_L2 sd (nI p) (nI s) (n + 1) (nI d) = _
    have v := hI.ver d hd
    have l2 := v.2.2.1.l
    have l3 := v.2.2.2.1.l
    rw [f_X4_versionAt_L2, hR.s9, hI.c10]
    unfold f_X6_holds
    simp (disch := omega) only [xl, xg, xb, vinT, nI_clamp, la, ra, lm, rmu, rsu, nI_add, pk_mul, nm1, m1n, nneg, npos, lle, rle, llt, rlt, leq, req, nI_leI, nI_ltI, nI_eq, if_pos, if_neg, if_true, if_false, i01, i10, (hR.ve d hd).2.1, (hR.ve d hd).2.2.1, (hR.ve d hd).2.2.2.1, v.2.2.1.e, v.2.2.2.1.e, decide_eq_true_eq]
    by_cases h1 : r (349 + d) = nI p
    · by_cases h2 : nv r (389 + d) ≤ s
      · by_cases h3 : s < nv r (389 + d) + nv r (429 + d)
        · simp [h1, h2, h3, Nat.not_lt.mpr h2, Nat.not_le.mpr h3, xb]
        · simp [h1, h2, h3, Nat.not_lt.mpr h2, Nat.not_lt.mp h3, xb]
      · simp [h1, h2, Nat.not_le.mp h2, xb]
    · simp [h1, xb]
theorem m_versionAt (hr : md k0 0 = r) (hI : Inv r) {p s : Nat} (hs : s < 300) : f_X8_versionAt md k0 (nI p) (nI s) = some (verQ r p s) := by
  have l10 := hI.l10
  unfold f_X8_versionAt
  refine srch0 (L := fun n v => f_X8_versionAt_L2 md k0 (nI p) (nI s) n v) (by omega) (fun n => ?_) (fun n d hd => ?_)
  · show f_X8_versionAt_L2 md k0 (nI p) (nI s) (n + 1) (nI (nv r 10)) = _
    rw [f_X8_versionAt_L2, hr, hI.c10]
    exact if_pos (nI_le (Nat.le_refl _) (by omega))
  · show f_X8_versionAt_L2 md k0 (nI p) (nI s) (n + 1) (nI d) = _
    have v := hI.ver d hd
    have l2 := v.2.2.1.l
    have l3 := v.2.2.2.1.l
    rw [f_X8_versionAt_L2, hr, hI.c10]
    simp (disch := omega) only [xl, xg, xb, vinT, nI_clamp, la, ra, if_neg, nI_leI, v.2.2.1.e, v.2.2.2.1.e, isInR, decide_eq_true_eq]
    by_cases h1 : r (349 + d) = nI p
    · by_cases h2 : nv r (389 + d) ≤ s ∧ s < nv r (389 + d) + nv r (429 + d)
      · simp [h1, h2]
      · simp [h1, h2]
    · simp [h1]
theorem verQ_cases (r : RW) (p s : Nat) : (verQ r p s = -1 ∧ ∀ v, v < nv r 10 → ¬ (r (349 + v) = nI p ∧ nv r (389 + v) ≤ s ∧ s < nv r (389 + v) + nv r (429 + v))) ∨ ∃ v, v < nv r 10 ∧ verQ r p s = nI v ∧ r (349 + v) = nI p ∧ nv r (389 + v) ≤ s ∧ s < nv r (389 + v) + nv r (429 + v) := by
  rcases fst_cases0 (P := fun v => decide (r (349 + v) = nI p ∧ nv r (389 + v) ≤ s ∧ s < nv r (389 + v) + nv r (429 + v))) (n := nv r 10) with ⟨h1, h2⟩ | ⟨e, h1, h2, h3, h4⟩
  · exact Or.inl ⟨h1, fun v hv => of_decide_eq_false (h2 v hv)⟩
  · exact Or.inr ⟨e, h1, h2, of_decide_eq_true h3⟩
theorem holdQ_cases (r : RW) (a : Int32) : (holdQ r a = -1 ∧ ∀ d, d < nv r 6 → r (21 + d) ≠ a) ∨ ∃ d, d < nv r 6 ∧ holdQ r a = nI d ∧ r (21 + d) = a := by
  rcases fst_cases0 (P := fun d => decide (r (21 + d) = a)) (n := nv r 6) with ⟨h1, h2⟩ | ⟨e, h1, h2, h3, h4⟩
  · exact Or.inl ⟨h1, fun v hv => of_decide_eq_false (h2 v hv)⟩
  · exact Or.inr ⟨e, h1, h2, of_decide_eq_true h3⟩
theorem homeQ_cases (r : RW) (a : Int32) : (homeQ r a = -1 ∧ ∀ d, d < nv r 7 → r (29 + d) ≠ a) ∨ ∃ d, d < nv r 7 ∧ homeQ r a = nI d ∧ r (29 + d) = a := by
  rcases fst_cases0 (P := fun d => decide (r (29 + d) = a)) (n := nv r 7) with ⟨h1, h2⟩ | ⟨e, h1, h2, h3, h4⟩
  · exact Or.inl ⟨h1, fun v hv => of_decide_eq_false (h2 v hv)⟩
  · exact Or.inr ⟨e, h1, h2, of_decide_eq_true h3⟩
end Q1
end
