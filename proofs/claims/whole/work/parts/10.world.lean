/-! The world: every cell of the class and of the reference, by names. A name is (owner's first address i, kind k, number j); its address is i + off k j. All whole numbers of a cell are read from functions. -/
abbrev vwCl : List vw_C := [(RX0, TX0, 3), (RX1, TX1, 3), (RX2, TX2, 6), (RX3, TX3, 9), (RX4, TX4, 18), (RX5, TX5, 9), (RX6, TX6, 7), (RX7, TX7, 9), (RX8, TX8, 27)]
abbrev SD : Type := Nat → Nat → Nat → Int32
def upS (sd : SD) (k j t : Nat) (v : Int32) : SD := fun k' j' t' => if k' = k ∧ j' = j ∧ t' = t then v else sd k' j' t'
abbrev CT : Type := (Nat → SD) × SD × (Nat → Int64) × SD × SD × (Nat → Option Nat) × SD × (Nat × Nat × Option Nat) × (List Nat × Nat)
abbrev MT : Type := SD × (Nat → Int64) × Int64
abbrev WT : Type := CT × MT
abbrev GT : Type := Nat × va_G × (Nat → ClassId) × (Nat → Nat) × (Nat → Nat) × Nat
abbrev gD (g : GT) : va_G := g.2.1
abbrev gy (g : GT) : Nat → ClassId := g.2.2.1
abbrev gk (g : GT) : Nat → Nat := g.2.2.2.1
abbrev gv (g : GT) : Nat → Nat := g.2.2.2.2.1
/-- what exists: 0 States alone, 1 the jukebox with its reader and history too, 2 the reference too -/
abbrev gf (g : GT) : Nat := g.2.2.2.2.2
abbrev k_xs (c : CT) : Nat → SD := c.1
abbrev k_rd (c : CT) : SD := c.2.1
abbrev k_rn (c : CT) : Nat → Int64 := c.2.2.1
abbrev k_pd (c : CT) : SD := c.2.2.2.1
abbrev k_hd (c : CT) : SD := c.2.2.2.2.1
abbrev k_hz (c : CT) : Nat → Option Nat := c.2.2.2.2.2.1
abbrev k_jd (c : CT) : SD := c.2.2.2.2.2.2.1
abbrev k_st (c : CT) : Nat := c.2.2.2.2.2.2.2.1.1
abbrev k_sp (c : CT) : Nat := c.2.2.2.2.2.2.2.1.2.1
abbrev k_pl (c : CT) : Option Nat := c.2.2.2.2.2.2.2.1.2.2
abbrev k_S (c : CT) : List Nat := c.2.2.2.2.2.2.2.2.1
abbrev k_sz (c : CT) : Nat := c.2.2.2.2.2.2.2.2.2
abbrev kS (c : CT) (i : Nat) (sd : SD) : CT := (va_up c.1 i sd, c.2)
abbrev kR (c : CT) (rd : SD) (rn : Nat → Int64) : CT := (c.1, rd, rn, c.2.2.2)
abbrev kP (c : CT) (pd : SD) : CT := (c.1, c.2.1, c.2.2.1, pd, c.2.2.2.2)
abbrev kH (c : CT) (hd : SD) (hz : Nat → Option Nat) : CT := (c.1, c.2.1, c.2.2.1, c.2.2.2.1, hd, hz, c.2.2.2.2.2.2)
abbrev kJ (c : CT) (jd : SD) : CT := (c.1, c.2.1, c.2.2.1, c.2.2.2.1, c.2.2.2.2.1, c.2.2.2.2.2.1, jd, c.2.2.2.2.2.2.2)
abbrev kZ (c : CT) (z : Nat × Nat × Option Nat) : CT := (c.1, c.2.1, c.2.2.1, c.2.2.2.1, c.2.2.2.2.1, c.2.2.2.2.2.1, c.2.2.2.2.2.2.1, z, c.2.2.2.2.2.2.2.2)
abbrev kA (c : CT) (a : List Nat × Nat) : CT := (c.1, c.2.1, c.2.2.1, c.2.2.2.1, c.2.2.2.2.1, c.2.2.2.2.2.1, c.2.2.2.2.2.2.1, c.2.2.2.2.2.2.2.1, a)
abbrev wS (w : WT) (i : Nat) (sd : SD) : WT := (kS w.1 i sd, w.2)
abbrev wR (w : WT) (rd : SD) (rn : Nat → Int64) : WT := (kR w.1 rd rn, w.2)
abbrev wP (w : WT) (pd : SD) : WT := (kP w.1 pd, w.2)
abbrev wH (w : WT) (hd : SD) (hz : Nat → Option Nat) : WT := (kH w.1 hd hz, w.2)
abbrev wM (w : WT) (md : SD) (mn : Nat → Int64) (mw : Int64) : WT := (w.1, (md, mn, mw))
/-- the group of a kind: 0 a State's, 1 the reader's, 2 the history's, 3 the planner's, 4 the jukebox's own, 5 the reference's -/
def grp (k : Nat) : Nat := if k = 0 ∨ k = 3 ∨ k = 4 ∨ k = 6 ∨ (10 ≤ k ∧ k ≤ 18) then 0 else if k = 5 ∨ k = 20 ∨ k = 21 then 1 else if k = 1 ∨ k = 22 then 2 else if k = 2 ∨ (23 ≤ k ∧ k ≤ 25) then 3 else if k = 7 ∨ k = 26 then 4 else 5
def jn (k : Nat) : Nat := if k = 0 then 4 else if k = 3 ∨ k = 16 ∨ k = 17 ∨ k = 18 then 10 else if k = 6 then 40 else if k = 9 ∨ k = 19 ∨ (27 ≤ k ∧ k ≤ 29) ∨ 40 ≤ k then 0 else 1
def off (k j : Nat) : Nat := match k with
  | 0 => 7 + j
  | 3 => 11 + 4 * j
  | 6 => 51 + j
  | 10 => 1
  | 11 => 2
  | 12 => 3
  | 13 => 4
  | 14 => 5
  | 15 => 6
  | 16 => 12 + 4 * j
  | 17 => 13 + 4 * j
  | 18 => 14 + 4 * j
  | 20 => 1
  | 21 => 2
  | 22 => 1
  | 23 => 1
  | 24 => 2
  | 25 => 3
  | 26 => 188
  | 30 => 1
  | 31 => 2
  | 32 => 3
  | 33 => 4
  | 34 => 5
  | 35 => 6
  | 36 => 7
  | 37 => 8
  | 38 => 9
  | 39 => 10
  | _ => 0
def adr (i k j : Nat) : Nat := i + off k j
/-- the lengths of the arrays -/
def aln (k : Nat) : Nat := match k with
  | 10 => 5
  | 11 => 4
  | 12 => 10
  | 13 => 40
  | 14 => 20
  | 15 => 16
  | 16 => 8
  | 17 => 8
  | 18 => 10
  | 20 => 900
  | 21 => 20
  | 22 => 16
  | 23 => 10240
  | 24 => 100
  | 25 => 10
  | 26 => 280
  | 30 => 605
  | 31 => 605
  | 32 => 605
  | 33 => 9680
  | 34 => 10
  | 35 => 10
  | 36 => 10240
  | 37 => 600
  | 38 => 900
  | 39 => 20
  | _ => 0
/-- the element type of an array, by its place in tyl -/
def aty (k : Nat) : Nat := match k with
  | 20 => 0
  | 26 => 0
  | 37 => 0
  | 38 => 0
  | 21 => 2
  | 39 => 2
  | 11 => 3
  | 12 => 4
  | 13 => 5
  | 22 => 6
  | _ => 1
abbrev tyl (cy : Nat → ClassId) : List (ClassId × FieldType) := [(cy 0, .byte), (cy 1, .int), (cy 2, .long), (cy 3, .object RX0), (cy 4, .object RX3), (cy 5, .object RX6), (cy 6, .object RX4)]
def nf (k : Nat) : Nat := match k with
  | 0 => 3
  | 1 => 3
  | 2 => 6
  | 3 => 9
  | 4 => 18
  | 5 => 9
  | 6 => 7
  | 7 => 9
  | 8 => 27
  | _ => 0
/-- which names exist -/
def own_ (fl : Nat) (o : Nat) (S : List Nat) (pl : Option Nat) (i g : Nat) : Prop := match g with
  | 0 => i ∈ S
  | 1 => 1 ≤ fl ∧ i = o + 1
  | 2 => 1 ≤ fl ∧ i = o + 186
  | 3 => pl = some i
  | 4 => 1 ≤ fl ∧ i = o
  | _ => 2 ≤ fl ∧ i = o + 189
def dm (fl : Nat) (o : Nat) (S : List Nat) (pl : Option Nat) (i k j : Nat) : Prop := own_ fl o S pl i (grp k) ∧ j < jn k
/-- the whole numbers of a cell -/
def wints (w : WT) (i k j t : Nat) : Int32 := match grp k with
  | 0 => k_xs w.1 i k j t
  | 1 => k_rd w.1 k j t
  | 2 => k_hd w.1 k j t
  | 3 => k_pd w.1 k j t
  | 4 => k_jd w.1 k j t
  | _ => w.2.1 k j t
/-- fields that are no whole number and may change -/
def zt (w : WT) (k t : Nat) : Option Value := match k, t with
  | 7, 3 => some (.ref (adr (k_st w.1) 4 0))
  | 7, 4 => some (.ref (adr (k_sp w.1) 4 0))
  | 7, 6 => some (va_rf ((k_pl w.1).map (fun q => adr q 2 0)))
  | 8, 26 => some (.long w.2.2.2)
  | _, _ => none
/-- fields that hold an object which is made with their own: how far its owner is, its kind and number -/
def rt (k j t : Nat) : Option (Nat × Nat × Nat) := match k, t with
  | 1, 0 => some (0, 22, 0)
  | 2, 0 => some (0, 23, 0)
  | 2, 1 => some (0, 24, 0)
  | 2, 2 => some (0, 25, 0)
  | 3, 6 => some (0, 16, j)
  | 3, 7 => some (0, 17, j)
  | 3, 8 => some (0, 18, j)
  | 4, 1 => some (0, 10, 0)
  | 4, 2 => some (0, 11, 0)
  | 4, 5 => some (0, 12, 0)
  | 4, 8 => some (0, 13, 0)
  | 4, 10 => some (0, 14, 0)
  | 4, 12 => some (0, 15, 0)
  | 5, 0 => some (0, 20, 0)
  | 5, 6 => some (0, 21, 0)
  | 7, 0 => some (1, 5, 0)
  | 7, 5 => some (186, 1, 0)
  | 7, 7 => some (0, 26, 0)
  | 8, 1 => some (0, 30, 0)
  | 8, 2 => some (0, 31, 0)
  | 8, 3 => some (0, 32, 0)
  | 8, 4 => some (0, 33, 0)
  | 8, 7 => some (0, 34, 0)
  | 8, 8 => some (0, 35, 0)
  | 8, 9 => some (0, 36, 0)
  | 8, 11 => some (0, 37, 0)
  | 8, 13 => some (0, 38, 0)
  | 8, 14 => some (0, 39, 0)
  | _, _ => none
def sval (w : WT) (i k j t : Nat) : Value := match zt w k t with
  | some v => v
  | none => match rt k j t with
    | some d => .ref (adr (i + d.1) d.2.1 d.2.2)
    | none => .int (wints w i k j t)
abbrev arE : Type := (Nat → Int32) ⊕ (Nat → Int64) ⊕ (Nat → UInt32) ⊕ (Nat → UInt64) ⊕ (Nat → Option Nat)
def conts (w : WT) (i k j : Nat) : arE := match k with
  | 11 => .inr (.inr (.inr (.inr (fun t => some (adr i 0 t)))))
  | 12 => .inr (.inr (.inr (.inr (fun t => some (adr i 3 t)))))
  | 13 => .inr (.inr (.inr (.inr (fun t => some (adr i 6 t)))))
  | 21 => .inr (.inl (k_rn w.1))
  | 22 => .inr (.inr (.inr (.inr (fun t => (k_hz w.1 t).map (fun q => adr q 4 0)))))
  | 39 => .inr (.inl w.2.2.1)
  | _ => .inl (fun t => wints w i k j t)
def cellOf (cy : Nat → ClassId) (w : WT) (i k j : Nat) : va_E := if k < 9 then .inr (k, (List.range (nf k)).map (sval w i k j)) else .inl (cy (aty k), aln k, conts w i k j)
abbrev wdm (g : GT) (w : WT) (i k j : Nat) : Prop := dm (gf g) g.1 (k_S w.1) (k_pl w.1) i k j
/-- the heap holds the world -/
def World (g : GT) (w : WT) (H : Heap) : Prop :=
  (∀ i k j, wdm g w i k j → va_at (gD g) vwCl (adr i k j, cellOf (gy g) w i k j) H ∧ g.1 ≤ adr i k j) ∧
  (∀ i k j i' k' j', wdm g w i k j → wdm g w i' k' j' → adr i k j = adr i' k' j' → i = i' ∧ k = k' ∧ j = j') ∧
  (H.size = k_sz w.1 ∧ k_st w.1 ∈ k_S w.1 ∧ k_sp w.1 ∈ k_S w.1 ∧ ∀ t q, k_hz w.1 t = some q → q ∈ k_S w.1)
abbrev gA (g : GT) : Nat → Prop := fun q => g.1 ≤ q
/-- two worlds over the same names that differ in one cell -/
def WFit (g : GT) (w w' : WT) (i k j : Nat) (e' : va_E) : Prop :=
  (k_S w'.1 = k_S w.1 ∧ k_pl w'.1 = k_pl w.1 ∧ k_sz w'.1 = k_sz w.1 ∧ k_st w'.1 ∈ k_S w.1 ∧ k_sp w'.1 ∈ k_S w.1 ∧ (∀ t q, k_hz w'.1 t = some q → q ∈ k_S w.1)) ∧
  cellOf (gy g) w' i k j = e' ∧ ∀ i' k' j', wdm g w i' k' j' → ¬ (i' = i ∧ k' = k ∧ j' = j) → cellOf (gy g) w' i' k' j' = cellOf (gy g) w i' k' j'
theorem World.set {g : GT} {w w' : WT} {H H1 : Heap} {i k j : Nat} {e' : va_E} (hW : World g w H) (hn : wdm g w i k j) (hF : WFit g w w' i k j e') (he : va_at (gD g) vwCl (adr i k j, e') H1) (hz : H1.size = H.size) (oq : ∀ q : Nat, q ≠ adr i k j → H1[q]? = H[q]?) : World g w' H1 := by
  obtain ⟨h1, h2, h3, h4, h5, h6⟩ := hW
  obtain ⟨⟨f1, f2, f3, f4, f5, f6⟩, f7, f8⟩ := hF
  have hd : ∀ i k j, wdm g w' i k j = wdm g w i k j := fun i k j => by unfold wdm; rw [f1, f2]
  refine ⟨fun i' k' j' hn' => ?_, fun i k j i' k' j' a b => ?_, ?_, ?_, ?_, ?_⟩
  · rw [hd] at hn'
    obtain ⟨a1, a2⟩ := h1 i' k' j' hn'
    refine ⟨?_, a2⟩
    by_cases hq : i' = i ∧ k' = k ∧ j' = j
    · obtain ⟨rfl, rfl, rfl⟩ := hq
      rw [f7]; exact he
    · rw [f8 i' k' j' hn' hq]
      exact a1.kept (oq _ (fun z => hq (h2 _ _ _ _ _ _ hn' hn z)))
  · rw [hd] at a b
    exact h2 i k j i' k' j' a b
  · rw [hz, f3]; exact h3
  · rw [f1]; exact f4
  · rw [f1]; exact f5
  · rw [f1]; exact f6
theorem World.cell {g : GT} {w : WT} {H : Heap} {i k j : Nat} (hW : World g w H) (hn : wdm g w i k j) : va_at (gD g) vwCl (adr i k j, cellOf (gy g) w i k j) H := (hW.1 i k j hn).1
theorem World.one {g : GT} {w : WT} {H : Heap} {i k j : Nat} {e : va_E} (hW : World g w H) (hn : wdm g w i k j) (he : cellOf (gy g) w i k j = e) : va_P (gD g) vwCl [(adr i k j, e)] H := by
  intro q x hq
  match q, hq with
  | 0, hq => cases hq; rw [← he]; exact hW.cell hn
  | q + 1, hq => simp at hq
theorem World.A {g : GT} {w : WT} {H : Heap} {i k j : Nat} (hW : World g w H) (hn : wdm g w i k j) : gA g (adr i k j) := (hW.1 i k j hn).2
theorem cell_obj {cy : Nat → ClassId} {w : WT} {i k j : Nat} (h : k < 9) : cellOf cy w i k j = .inr (k, (List.range (nf k)).map (sval w i k j)) := by simp [cellOf, h]
theorem cell_arr {cy : Nat → ClassId} {w : WT} {i k j : Nat} (h : ¬ k < 9) : cellOf cy w i k j = .inl (cy (aty k), aln k, conts w i k j) := by simp [cellOf, h]
theorem sval_len (w : WT) (i k j : Nat) : ((List.range (nf k)).map (sval w i k j)).length = nf k := by simp
theorem sval_at (w : WT) (i k j : Nat) {t : Nat} (h : t < nf k) : ((List.range (nf k)).map (sval w i k j))[t]? = some (sval w i k j t) := by simp [h]
/-- the whole numbers of two worlds differ at one place; all else is alike -/
def FPi (g : GT) (w w' : WT) (i k j t : Nat) (v : Int32) : Prop :=
  (k_S w'.1 = k_S w.1 ∧ k_pl w'.1 = k_pl w.1 ∧ k_sz w'.1 = k_sz w.1 ∧ k_st w'.1 = k_st w.1 ∧ k_sp w'.1 = k_sp w.1 ∧ k_hz w'.1 = k_hz w.1 ∧ k_rn w'.1 = k_rn w.1 ∧ w'.2.2 = w.2.2) ∧
  (∀ t', wints w' i k j t' = if t' = t then v else wints w i k j t') ∧
  ∀ i' k' j', wdm g w i' k' j' → ¬ (i' = i ∧ k' = k ∧ j' = j) → ∀ t', wints w' i' k' j' t' = wints w i' k' j' t'
theorem zt_same {w w' : WT} (h4 : k_st w'.1 = k_st w.1) (h5 : k_sp w'.1 = k_sp w.1) (h2 : k_pl w'.1 = k_pl w.1) (h8 : w'.2.2 = w.2.2) (k t : Nat) : zt w' k t = zt w k t := by
  unfold zt
  split <;> simp_all
theorem cell_same {cy : Nat → ClassId} {w w' : WT} (h2 : k_pl w'.1 = k_pl w.1) (h4 : k_st w'.1 = k_st w.1) (h5 : k_sp w'.1 = k_sp w.1) (h6 : k_hz w'.1 = k_hz w.1) (h7 : k_rn w'.1 = k_rn w.1) (h8 : w'.2.2 = w.2.2) {i k j : Nat} (h : ∀ t, wints w' i k j t = wints w i k j t) : cellOf cy w' i k j = cellOf cy w i k j := by
  unfold cellOf
  have hs : sval w' i k j = sval w i k j := by
    funext t
    unfold sval
    rw [zt_same h4 h5 h2 h8, h t]
  have hc : conts w' i k j = conts w i k j := by
    unfold conts
    split <;> simp only [h6, h7, h8, h]
  rw [hs, hc]
theorem FPi.fit {g : GT} {w w' : WT} {i k j t : Nat} {v : Int32} {H : Heap} (hW : World g w H) (h : FPi g w w' i k j t v) {e' : va_E} (he : cellOf (gy g) w' i k j = e') : WFit g w w' i k j e' := by
  obtain ⟨⟨h1, h2, h3, h4, h5, h6, h7, h8⟩, h9, h10⟩ := h
  obtain ⟨-, -, -, v1, v2, v3⟩ := hW
  refine ⟨⟨h1, h2, h3, by rw [h4]; exact v1, by rw [h5]; exact v2, by rw [h6]; exact v3⟩, he, fun i' k' j' a b => ?_⟩
  exact cell_same h2 h4 h5 h6 h7 h8 (h10 i' k' j' a b)
theorem FPi.obj {g : GT} {w w' : WT} {i k j t : Nat} {v : Int32} (h : FPi g w w' i k j t v) (hk : k < 9) (hz : zt w k t = none) (hr : rt k j t = none) : cellOf (gy g) w' i k j = .inr (k, ((List.range (nf k)).map (sval w i k j)).set t (.int v)) := by
  obtain ⟨⟨h1, h2, h3, h4, h5, h6, h7, h8⟩, h9, h10⟩ := h
  rw [cell_obj hk]
  congr 2
  apply List.ext_getElem?
  intro q
  rw [List.getElem?_set]
  by_cases hq : t = q
  · subst hq
    simp only [List.length_map, List.length_range, if_true]
    by_cases hl : t < nf k
    · rw [if_pos hl, List.getElem?_map, List.getElem?_range hl]
      simp [sval, zt_same h4 h5 h2 h8, hz, hr, h9]
    · rw [if_neg hl]
      simp [hl]
  · rw [if_neg hq, List.getElem?_map, List.getElem?_map]
    by_cases hl : q < nf k
    · rw [List.getElem?_range hl]
      simp [sval, zt_same h4 h5 h2 h8, h9, Ne.symm hq]
    · simp [hl]
theorem FPi.arr {g : GT} {w w' : WT} {i k j t : Nat} {v : Int32} (h : FPi g w w' i k j t v) (hk : ¬ k < 9) (hc : conts w i k j = .inl (wints w i k j)) (hc' : conts w' i k j = .inl (wints w' i k j)) : cellOf (gy g) w' i k j = .inl ((gy g) (aty k), aln k, .inl (upd (wints w i k j) t v)) := by
  rw [cell_arr hk, hc']
  congr 4
  funext t'
  rw [h.2.1 t']
  simp [upd]
