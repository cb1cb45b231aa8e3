/-! Layer 2: fillBits: the class's whole numbers against the division of floats -/
def enN (p w : Nat) : Nat := FP.Core.div FP.Core.b32 (FP.Core.fromInt FP.Core.b32 p) (FP.Core.fromInt FP.Core.b32 w)
def shv (p w : Nat) : Nat := if 8388608 ≤ p * 2 ^ (23 + w.log2 - p.log2) / w then 23 + w.log2 - p.log2 else 24 + w.log2 - p.log2
def ckv (p w v : Nat) : Bool := Nat.ble 8388608 (p * 2 ^ v / w) && Nat.blt (p * 2 ^ v / w) 16777216 && Nat.blt (p * 2 ^ (v - 1) / w) 8388608 && Nat.ble v 40 && Nat.ble 1 v && Nat.beq (enN p w) ((150 - v) * 8388608 + (p * 2 ^ v / w + (if Nat.blt (2 * (p * 2 ^ v % w)) w then 0 else 1) - 8388608))
def ckf (p w : Nat) : Bool := Nat.beq p 0 || ckv p w (shv p w)
def ckw (w : Nat) : Bool := (List.range (w + 1)).all fun p => ckf p w
theorem ckw_1 : (List.range 90).all (fun i => ckw (10 + i)) = true := by decide +kernel
theorem ckw_2 : (List.range 50).all (fun i => ckw (100 + i)) = true := by decide +kernel
theorem ckw_3 : (List.range 40).all (fun i => ckw (150 + i)) = true := by decide +kernel
theorem ckw_4 : (List.range 30).all (fun i => ckw (190 + i)) = true := by decide +kernel
theorem ckw_5 : (List.range 25).all (fun i => ckw (220 + i)) = true := by decide +kernel
theorem ckw_6 : (List.range 20).all (fun i => ckw (245 + i)) = true := by decide +kernel
theorem ckw_7 : (List.range 20).all (fun i => ckw (265 + i)) = true := by decide +kernel
theorem ckw_8 : (List.range 16).all (fun i => ckw (285 + i)) = true := by decide +kernel
theorem ckw_0 : (List.range 291).all (fun i => Nat.beq (enN 0 (10 + i)) 0) = true := by decide +kernel
theorem ckw_9 : (List.range 301).all (fun i => Nat.blt (FP.Core.fromInt FP.Core.b32 (i : Nat)) 4294967296) = true := by decide +kernel
