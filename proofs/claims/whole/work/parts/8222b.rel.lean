/-! Layer 2: what a row of the reference holds, and how a State of the class stands to it -/
def isN (r : RW) (i m : Nat) : Prop := r i = nI (nv r i) ∧ nv r i ≤ m
def I_cnt (r : RW) : Prop := isN r 0 24 ∧ 4 ≤ nv r 0 ∧ isN r 6 4 ∧ isN r 7 10 ∧ isN r 8 20 ∧ isN r 9 20 ∧ isN r 10 40 ∧ isN r 16 16
def I_tim (r : RW) : Prop := isN r 1 99 ∧ isN r 2 99 ∧ isN r 3 99 ∧ isN r 4 99 ∧ isN r 5 99
def I_pick (r : RW) : Prop := isN r 11 23 ∧ nv r 11 < nv r 0
def I_drv (r : RW) : Prop := ∀ d, d < nv r 6 → (isN r (17 + d) 23 ∧ nv r (17 + d) < nv r 0) ∧ (r (21 + d) = -1 ∨ (isN r (21 + d) 9 ∧ nv r (21 + d) < nv r 7))
def I_drd (r : RW) : Prop := ∀ d e, d < nv r 6 → e < nv r 6 → r (21 + d) = r (21 + e) → d = e ∨ r (21 + d) = -1
def I_plt (r : RW) : Prop := ∀ p, p < nv r 7 → (isN r (29 + p) 23 ∧ nv r (29 + p) < nv r 0) ∧ (isN r (39 + p) 300 ∧ 10 ≤ nv r (39 + p)) ∧ isN r (49 + p) 9 ∧ (isN r (59 + p) 300 ∧ nv r (59 + p) ≤ nv r (39 + p)) ∧ isN r (69 + p) 8 ∧ isN r (79 + p) 1 ∧ (nv r (79 + p) = 1 → 0 < nv r (69 + p))
def I_hom (r : RW) : Prop := ∀ p q, p < nv r 7 → q < nv r 7 → r (29 + p) = r (29 + q) → p = q
def I_bad (r : RW) : Prop := ∀ k, k < nv r 8 → (isN r (249 + k) 9 ∧ nv r (249 + k) < nv r 7) ∧ isN r (269 + k) 299 ∧ nv r (269 + k) < nv r (39 + nv r (249 + k))
def I_bdd (r : RW) : Prop := ∀ k l, k < nv r 8 → l < nv r 8 → r (249 + k) = r (249 + l) → r (269 + k) = r (269 + l) → k = l
def I_cur (F : Nat) (r : RW) : Prop := ∀ f, f < F → isN r (289 + f) 39 ∧ nv r (289 + f) < nv r 10
def I_ver (F : Nat) (r : RW) : Prop := ∀ v, v < nv r 10 → (isN r (309 + v) 19 ∧ nv r (309 + v) < F) ∧ (isN r (349 + v) 9 ∧ nv r (349 + v) < nv r 7) ∧ isN r (389 + v) 300 ∧ isN r (429 + v) 300 ∧ nv r (389 + v) + nv r (429 + v) ≤ nv r (59 + nv r (349 + v)) ∧ (isN r (469 + v) 7 ∧ nv r (469 + v) < nv r (69 + nv r (349 + v))) ∧ isN r (509 + v) 9 ∧ isN r (549 + v) 1
def I_req (F : Nat) (r : RW) : Prop := ∀ q, q < nv r 16 → isN r (589 + q) 19 ∧ nv r (589 + q) < F
/-- the row is a jukebox; F files have a version -/
def InvF (F : Nat) (r : RW) : Prop := I_cnt r ∧ I_tim r ∧ I_pick r ∧ I_drv r ∧ I_drd r ∧ I_plt r ∧ I_hom r ∧ I_bad r ∧ I_bdd r ∧ I_cur F r ∧ I_ver F r ∧ I_req F r ∧ F ≤ 20
abbrev Inv (r : RW) : Prop := InvF (nv r 9) r
theorem isN.e {r : RW} {i m : Nat} (h : isN r i m) : r i = nI (nv r i) := h.1
theorem isN.l {r : RW} {i m : Nat} (h : isN r i m) : nv r i ≤ m := h.2
section INV
variable {r : RW} {F : Nat}
theorem InvF.c0 (h : InvF F r) : r 0 = nI (nv r 0) := h.1.1.1
theorem InvF.l0 (h : InvF F r) : 4 ≤ nv r 0 ∧ nv r 0 ≤ 24 := ⟨h.1.2.1, h.1.1.2⟩
theorem InvF.c6 (h : InvF F r) : r 6 = nI (nv r 6) := h.1.2.2.1.1
theorem InvF.l6 (h : InvF F r) : nv r 6 ≤ 4 := h.1.2.2.1.2
theorem InvF.c7 (h : InvF F r) : r 7 = nI (nv r 7) := h.1.2.2.2.1.1
theorem InvF.l7 (h : InvF F r) : nv r 7 ≤ 10 := h.1.2.2.2.1.2
theorem InvF.c8 (h : InvF F r) : r 8 = nI (nv r 8) := h.1.2.2.2.2.1.1
theorem InvF.l8 (h : InvF F r) : nv r 8 ≤ 20 := h.1.2.2.2.2.1.2
theorem InvF.c9 (h : InvF F r) : r 9 = nI (nv r 9) := h.1.2.2.2.2.2.1.1
theorem InvF.l9 (h : InvF F r) : nv r 9 ≤ 20 := h.1.2.2.2.2.2.1.2
theorem InvF.c10 (h : InvF F r) : r 10 = nI (nv r 10) := h.1.2.2.2.2.2.2.1.1
theorem InvF.l10 (h : InvF F r) : nv r 10 ≤ 40 := h.1.2.2.2.2.2.2.1.2
theorem InvF.c16 (h : InvF F r) : r 16 = nI (nv r 16) := h.1.2.2.2.2.2.2.2.1
theorem InvF.l16 (h : InvF F r) : nv r 16 ≤ 16 := h.1.2.2.2.2.2.2.2.2
theorem InvF.tim (h : InvF F r) : I_tim r := h.2.1
theorem InvF.pick (h : InvF F r) : I_pick r := h.2.2.1
theorem InvF.drv (h : InvF F r) : I_drv r := h.2.2.2.1
theorem InvF.drd (h : InvF F r) : I_drd r := h.2.2.2.2.1
theorem InvF.plt (h : InvF F r) : I_plt r := h.2.2.2.2.2.1
theorem InvF.hom (h : InvF F r) : I_hom r := h.2.2.2.2.2.2.1
theorem InvF.bad (h : InvF F r) : I_bad r := h.2.2.2.2.2.2.2.1
theorem InvF.bdd (h : InvF F r) : I_bdd r := h.2.2.2.2.2.2.2.2.1
theorem InvF.cur (h : InvF F r) : I_cur F r := h.2.2.2.2.2.2.2.2.2.1
theorem InvF.ver (h : InvF F r) : I_ver F r := h.2.2.2.2.2.2.2.2.2.2.1
theorem InvF.req (h : InvF F r) : I_req F r := h.2.2.2.2.2.2.2.2.2.2.2.1
theorem InvF.lF (h : InvF F r) : F ≤ 20 := h.2.2.2.2.2.2.2.2.2.2.2.2
end INV
def ns (sd : SD) (k j t : Nat) : Nat := (sd k j t).toNatClampNeg
/-- the class's bit of a sector, and the reference's entry -/
def bdc (sd : SD) (p s : Nat) : Bool := (sd 18 p (s / 32)).toBitVec.getLsbD (s % 32)
def bdm (r : RW) (p s : Nat) : Prop := ∃ k, k < nv r 8 ∧ r (249 + k) = nI p ∧ r (269 + k) = nI s
def R_sc (sd : SD) (r : RW) : Prop := sd 4 0 0 = r 0 ∧ sd 4 0 3 = r 6 ∧ sd 4 0 6 = r 7 ∧ sd 4 0 7 = r 8 ∧ sd 4 0 9 = r 10 ∧ sd 4 0 11 = r 9 ∧ sd 4 0 13 = r 16 ∧ sd 4 0 14 = r 11 ∧ sd 4 0 15 = r 12 ∧ sd 4 0 16 = r 13 ∧ sd 4 0 17 = r 14
def R_tm (sd : SD) (r : RW) : Prop := sd 10 0 0 = r 1 ∧ sd 10 0 1 = r 2 ∧ sd 10 0 2 = r 3 ∧ sd 10 0 3 = r 4 ∧ sd 10 0 4 = r 5
def R_dr (sd : SD) (r : RW) : Prop := ∀ d, d < nv r 6 → sd 0 d 0 = r (17 + d) ∧ sd 0 d 1 = r (21 + d)
def R_us (b : Nat) (sd : SD) (r : RW) : Prop := (sd 4 0 4 = nI (ns sd 4 0 4) ∧ ns sd 4 0 4 ≤ b) ∧ isN r 15 b ∧ (∀ d, d < nv r 6 → (sd 0 d 2 = nI (ns sd 0 d 2) ∧ ns sd 0 d 2 ≤ ns sd 4 0 4) ∧ isN r (25 + d) (nv r 15)) ∧ ∀ d e, d < nv r 6 → e < nv r 6 → (ns sd 0 d 2 < ns sd 0 e 2 ↔ nv r (25 + d) < nv r (25 + e))
def R_pl (sd : SD) (r : RW) : Prop := ∀ p, p < nv r 7 → sd 3 p 0 = r (29 + p) ∧ sd 3 p 1 = r (39 + p) ∧ sd 3 p 2 = r (49 + p) ∧ sd 3 p 3 = r (59 + p) ∧ sd 3 p 4 = r (69 + p) ∧ sd 3 p 5 = r (79 + p)
def R_se (sd : SD) (r : RW) : Prop := ∀ p s, p < nv r 7 → s < nv r (69 + p) → sd 16 p s = r (89 + 8 * p + s) ∧ sd 17 p s = r (169 + 8 * p + s)
def R_bd (sd : SD) (r : RW) : Prop := ∀ p s, p < nv r 7 → s < 300 → (bdc sd p s = true ↔ bdm r p s)
def R_cu (F : Nat) (sd : SD) (r : RW) : Prop := ∀ f, f < F → sd 14 0 f = r (289 + f)
def R_ve (sd : SD) (r : RW) : Prop := ∀ v, v < nv r 10 → sd 6 v 0 = r (309 + v) ∧ sd 6 v 1 = r (349 + v) ∧ sd 6 v 2 = r (389 + v) ∧ sd 6 v 3 = r (429 + v) ∧ sd 6 v 4 = r (469 + v) ∧ sd 6 v 5 = r (509 + v) ∧ sd 6 v 6 = r (549 + v)
def R_rq (sd : SD) (r : RW) : Prop := ∀ q, q < nv r 16 → sd 15 0 q = r (589 + q)
/-- a State of the class is the row; the numbers of uses are at most b -/
def RelF (F b : Nat) (sd : SD) (r : RW) : Prop := R_sc sd r ∧ R_tm sd r ∧ R_dr sd r ∧ R_us b sd r ∧ R_pl sd r ∧ R_se sd r ∧ R_bd sd r ∧ R_cu F sd r ∧ R_ve sd r ∧ R_rq sd r
abbrev Rel (b : Nat) (sd : SD) (r : RW) : Prop := RelF (nv r 9) b sd r
section REL
variable {F b : Nat} {sd : SD} {r : RW}
theorem RelF.sc (h : RelF F b sd r) : R_sc sd r := h.1
theorem RelF.s0 (h : RelF F b sd r) : sd 4 0 0 = r 0 := h.1.1
theorem RelF.s3 (h : RelF F b sd r) : sd 4 0 3 = r 6 := h.1.2.1
theorem RelF.s6 (h : RelF F b sd r) : sd 4 0 6 = r 7 := h.1.2.2.1
theorem RelF.s7 (h : RelF F b sd r) : sd 4 0 7 = r 8 := h.1.2.2.2.1
theorem RelF.s9 (h : RelF F b sd r) : sd 4 0 9 = r 10 := h.1.2.2.2.2.1
theorem RelF.s11 (h : RelF F b sd r) : sd 4 0 11 = r 9 := h.1.2.2.2.2.2.1
theorem RelF.s13 (h : RelF F b sd r) : sd 4 0 13 = r 16 := h.1.2.2.2.2.2.2.1
theorem RelF.s14 (h : RelF F b sd r) : sd 4 0 14 = r 11 := h.1.2.2.2.2.2.2.2.1
theorem RelF.s15 (h : RelF F b sd r) : sd 4 0 15 = r 12 := h.1.2.2.2.2.2.2.2.2.1
theorem RelF.s16 (h : RelF F b sd r) : sd 4 0 16 = r 13 := h.1.2.2.2.2.2.2.2.2.2.1
theorem RelF.s17 (h : RelF F b sd r) : sd 4 0 17 = r 14 := h.1.2.2.2.2.2.2.2.2.2.2
theorem RelF.tm (h : RelF F b sd r) : R_tm sd r := h.2.1
theorem RelF.dr (h : RelF F b sd r) : R_dr sd r := h.2.2.1
theorem RelF.us (h : RelF F b sd r) : R_us b sd r := h.2.2.2.1
theorem RelF.pl (h : RelF F b sd r) : R_pl sd r := h.2.2.2.2.1
theorem RelF.se (h : RelF F b sd r) : R_se sd r := h.2.2.2.2.2.1
theorem RelF.bd (h : RelF F b sd r) : R_bd sd r := h.2.2.2.2.2.2.1
theorem RelF.cu (h : RelF F b sd r) : R_cu F sd r := h.2.2.2.2.2.2.2.1
theorem RelF.ve (h : RelF F b sd r) : R_ve sd r := h.2.2.2.2.2.2.2.2.1
theorem RelF.rq (h : RelF F b sd r) : R_rq sd r := h.2.2.2.2.2.2.2.2.2
end REL
/-- cells of the reference that no later call reads before it writes them -/
def scr (k t : Nat) : Prop := (k = 8 ∧ (t = 0 ∨ t = 6 ∨ t = 10)) ∨ k = 32 ∨ k = 34 ∨ k = 35 ∨ k = 36
def MSame (m m' : SD) : Prop := ∀ k j t, ¬ scr k t → m' k j t = m k j t
theorem MSame.rf (m : SD) : MSame m m := fun _ _ _ _ => rfl
theorem MSame.tr {a b c : SD} (h : MSame a b) (g : MSame b c) : MSame a c := fun k j t n => (g k j t n).trans (h k j t n)
theorem MSame.up {m m' : SD} (h : MSame m m') {k j t : Nat} {v : Int32} (hs : scr k t) : MSame m (upS m' k j t v) := fun k' j' t' n => by
  unfold upS
  split
  · rename_i z
    obtain ⟨rfl, rfl, rfl⟩ := z
    exact absurd hs n
  · exact h k' j' t' n
theorem MSame.row {m m' : SD} (h : MSame m m') : m' 30 0 = m 30 0 := by
  funext t
  exact h 30 0 t (by unfold scr; omega)
/-- both answer alike, and the reference is as it was -/
def Ans (m : SD) (x : Option Int32) (y : Option (Int32 × SD)) : Prop := ∃ v m', x = some v ∧ y = some (v, m') ∧ MSame m m'
theorem thr (m : SD) : ∃ m1, upS m 8 0 0 0 = m1 ∧ m1 30 0 = m 30 0 ∧ MSame m m1 := ⟨_, rfl, (MSame.up (MSame.rf m) (Or.inl ⟨rfl, Or.inl rfl⟩)).row, MSame.up (MSame.rf m) (Or.inl ⟨rfl, Or.inl rfl⟩)⟩
