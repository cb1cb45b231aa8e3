/-! the first worlds -/
theorem grp1 {k : Nat} (h : grp k = 1) : k = 5 ∨ k = 20 ∨ k = 21 := by
  unfold grp at h
  repeat' split at h
  all_goals omega
theorem grp2 {k : Nat} (h : grp k = 2) : k = 1 ∨ k = 22 := by
  unfold grp at h
  repeat' split at h
  all_goals omega
theorem grp4 {k : Nat} (h : grp k = 4) : k = 7 ∨ k = 26 := by
  unfold grp at h
  repeat' split at h
  all_goals omega
/-- the jukebox as it is made at a -/
def cs0 (a : Nat) (sd0 : SD) : CT := (fun _ => sd0, fun _ _ _ => 0, fun _ => 0, fun _ _ _ => 0, fun _ _ _ => 0, fun _ => none, fun _ _ _ => 0, (a + 4, a + 95, none), ([a + 4, a + 95], a + 189))
abbrev g01 (g : GT) (a : Nat) : GT := (a, g.2.1, g.2.2.1, g.2.2.2.1, g.2.2.2.2.1, 1)
theorem born_dm {g : GT} {a : Nat} {sd0 : SD} {mt : MT} {i k j : Nat} (h : wdm (g01 g a) (cs0 a sd0, mt) i k j) :
    (grp k = 0 ∧ (i = a + 4 ∨ i = a + 95) ∧ j < jn k ∧ off k j < 91 ∧ adr i k j = i + off k j) ∨ (i = a ∧ k = 7 ∧ j = 0 ∧ adr i k j = a) ∨ (i = a + 1 ∧ k = 5 ∧ j = 0 ∧ adr i k j = a + 1) ∨ (i = a + 1 ∧ k = 20 ∧ j = 0 ∧ adr i k j = a + 2) ∨ (i = a + 1 ∧ k = 21 ∧ j = 0 ∧ adr i k j = a + 3) ∨ (i = a + 186 ∧ k = 1 ∧ j = 0 ∧ adr i k j = a + 186) ∨ (i = a + 186 ∧ k = 22 ∧ j = 0 ∧ adr i k j = a + 187) ∨ (i = a ∧ k = 26 ∧ j = 0 ∧ adr i k j = a + 188) := by
  obtain ⟨h1, h2⟩ := h
  rcases grp_le k with e | e | e | e | e | e <;> rw [e] at h1
  · have h1 : i ∈ [a + 4, a + 95] := h1
    refine Or.inl ⟨e, ?_, h2, (sinv_off e h2).2, rfl⟩
    rcases List.mem_cons.mp h1 with h1 | h1
    · exact Or.inl h1
    · exact Or.inr (List.mem_singleton.mp h1)
  · obtain ⟨-, rfl⟩ := h1
    rcases grp1 e with rfl | rfl | rfl
    all_goals
      have h2 : j < 1 := h2
      have : j = 0 := by omega
      subst this
    · exact Or.inr (Or.inr (Or.inl ⟨rfl, rfl, rfl, rfl⟩))
    · exact Or.inr (Or.inr (Or.inr (Or.inl ⟨rfl, rfl, rfl, rfl⟩)))
    · exact Or.inr (Or.inr (Or.inr (Or.inr (Or.inl ⟨rfl, rfl, rfl, rfl⟩))))
  · obtain ⟨-, rfl⟩ := h1
    rcases grp2 e with rfl | rfl
    all_goals
      have h2 : j < 1 := h2
      have : j = 0 := by omega
      subst this
    · exact Or.inr (Or.inr (Or.inr (Or.inr (Or.inr (Or.inl ⟨rfl, rfl, rfl, rfl⟩)))))
    · exact Or.inr (Or.inr (Or.inr (Or.inr (Or.inr (Or.inr (Or.inl ⟨rfl, rfl, rfl, rfl⟩))))))
  · cases h1
  · obtain ⟨-, rfl⟩ := h1
    rcases grp4 e with rfl | rfl
    all_goals
      have h2 : j < 1 := h2
      have : j = 0 := by omega
      subst this
    · exact Or.inr (Or.inl ⟨rfl, rfl, rfl, rfl⟩)
    · exact Or.inr (Or.inr (Or.inr (Or.inr (Or.inr (Or.inr (Or.inr ⟨rfl, rfl, rfl, rfl⟩))))))
  · exact absurd (show (2 : Nat) ≤ 1 from h1.1) (by decide)
set_option maxHeartbeats 2000000 in
theorem born_World {g : GT} {a : Nat} {sd0 : SD} {mt : MT} {H : Heap} (hz : H.size = a + 189) (hB1 : StB g (a + 4) sd0 H) (hB2 : StB g (a + 95) sd0 H)
    (h7 : va_at (gD g) vwCl (a, .inr (7, [.ref (a + 1), .int 0, .int 0, .ref (a + 4), .ref (a + 95), .ref (a + 186), .null, .ref (a + 188), .int 0])) H)
    (h5 : va_at (gD g) vwCl (a + 1, .inr (5, [.ref (a + 2), .int 0, .int 0, .int 0, .int 0, .int 0, .ref (a + 3), .int 0, .int 0])) H) (h20 : va_at (gD g) vwCl (a + 2, .inl (gy g 0, 900, .inl (fun _ => 0))) H) (h21 : va_at (gD g) vwCl (a + 3, .inl (gy g 2, 20, .inr (.inl (fun _ => 0)))) H)
    (h1 : va_at (gD g) vwCl (a + 186, .inr (1, [.ref (a + 187), .int 0, .int 0])) H) (h22 : va_at (gD g) vwCl (a + 187, .inl (gy g 6, 16, .inr (.inr (.inr (.inr (fun _ => none)))))) H) (h26 : va_at (gD g) vwCl (a + 188, .inl (gy g 0, 280, .inl (fun _ => 0))) H) : World (g01 g a) (cs0 a sd0, mt) H := by
  have hcS : ∀ i k j, grp k = 0 → StB g i sd0 H → j < jn k → va_at (gD g) vwCl (adr i k j, cellOf (gy g) (cs0 a sd0, mt) i k j) H := by
    intro i k j e hB hj
    have h := hB k j e hj
    rw [← cellS_of (w := (cs0 a sd0, mt)) e] at h
    have es : (wS (cs0 a sd0, mt) i sd0) = (cs0 a sd0, mt) := by
      show (kS (cs0 a sd0) i (k_xs (cs0 a sd0) i), mt) = _
      rw [kS_self]
    rw [es] at h
    exact h
  refine ⟨fun i k j h => ?_, fun i k j i' k' j' h h' e => ?_, hz, List.mem_cons_self, List.mem_cons_of_mem _ List.mem_cons_self, fun t q h => by cases h⟩
  · rcases born_dm h with ⟨e, hi, hj, -, ha⟩ | ⟨rfl, rfl, rfl, ha⟩ | ⟨rfl, rfl, rfl, ha⟩ | ⟨rfl, rfl, rfl, ha⟩ | ⟨rfl, rfl, rfl, ha⟩ | ⟨rfl, rfl, rfl, ha⟩ | ⟨rfl, rfl, rfl, ha⟩ | ⟨rfl, rfl, rfl, ha⟩
    · refine ⟨?_, by show a ≤ _; rw [ha]; rcases hi with rfl | rfl <;> omega⟩
      rcases hi with rfl | rfl
      · exact hcS _ k j e hB1 hj
      · exact hcS _ k j e hB2 hj
    · exact ⟨h7, by show i ≤ _; rw [ha]; exact Nat.le_refl _⟩
    · exact ⟨h5, by show a ≤ _; rw [ha]; omega⟩
    · exact ⟨h20, by show a ≤ _; rw [ha]; omega⟩
    · exact ⟨h21, by show a ≤ _; rw [ha]; omega⟩
    · exact ⟨h1, by show a ≤ _; rw [ha]; omega⟩
    · exact ⟨h22, by show a ≤ _; rw [ha]; omega⟩
    · exact ⟨h26, by show i ≤ _; rw [ha]; omega⟩
  · rcases born_dm h with ⟨e1, hi, hj, hb, ha⟩ | ⟨hi, hk, hj, ha⟩ | ⟨hi, hk, hj, ha⟩ | ⟨hi, hk, hj, ha⟩ | ⟨hi, hk, hj, ha⟩ | ⟨hi, hk, hj, ha⟩ | ⟨hi, hk, hj, ha⟩ | ⟨hi, hk, hj, ha⟩ <;> rcases born_dm h' with ⟨e2, hi', hj', hb', ha'⟩ | ⟨hi', hk', hj', ha'⟩ | ⟨hi', hk', hj', ha'⟩ | ⟨hi', hk', hj', ha'⟩ | ⟨hi', hk', hj', ha'⟩ | ⟨hi', hk', hj', ha'⟩ | ⟨hi', hk', hj', ha'⟩ | ⟨hi', hk', hj', ha'⟩
    · rw [ha, ha'] at e
      have ho : i = i' := by omega
      have := off_inj e1 hj e2 hj' (by omega)
      exact ⟨ho, this⟩
    all_goals
      rw [ha, ha'] at e
      first | omega | (refine ⟨?_, ?_, ?_⟩ <;> omega)
theorem grp5 {k j : Nat} (h : grp k = 5) (hj : j < jn k) : (k = 8 ∨ k = 30 ∨ k = 31 ∨ k = 32 ∨ k = 33 ∨ k = 34 ∨ k = 35 ∨ k = 36 ∨ k = 37 ∨ k = 38 ∨ k = 39) ∧ j = 0 := by
  have hk : k = 8 ∨ (30 ≤ k ∧ k ≤ 39) := by
    unfold grp at h
    unfold jn at hj
    repeat' split at h
    all_goals first | (cases h; done) | skip
    repeat' split at hj
    all_goals omega
  have h1 : jn k = 1 := by
    unfold jn
    rw [if_neg (by omega), if_neg (by omega), if_neg (by omega), if_neg (by omega)]
  exact ⟨by omega, by omega⟩
/-- the reference as it is made -/
def md0 : SD := upS (fun _ _ _ => 0) 8 0 17 (-1000005)
abbrev g02 (g : GT) : GT := (g.1, g.2.1, g.2.2.1, g.2.2.2.1, g.2.2.2.2.1, 2)
set_option maxHeartbeats 2000000 in
theorem World.addM {g : GT} (hfl : gf g = 1) {cs : CT} {mt : MT} {H0 H : Heap} (hsz : k_sz cs = g.1 + 189) (hW : World g (cs, mt) H0) (hz : H.size = g.1 + 200) (ho : ∀ q : Nat, q < g.1 + 189 → H[q]? = H0[q]?)
    (h8 : va_at (gD g) vwCl (g.1 + 189, .inr (8, [.int 0, .ref (g.1 + 189 + 1), .ref (g.1 + 189 + 2), .ref (g.1 + 189 + 3), .ref (g.1 + 189 + 4), .int 0, .int 0, .ref (g.1 + 189 + 5), .ref (g.1 + 189 + 6), .ref (g.1 + 189 + 7), .int 0, .ref (g.1 + 189 + 8), .int 0, .ref (g.1 + 189 + 9), .ref (g.1 + 189 + 10), .int 0, .int 0, .int (-1000005), .int 0, .int 0, .int 0, .int 0, .int 0, .int 0, .int 0, .int 0, .long 0])) H) (h30 : va_at (gD g) vwCl (g.1 + 189 + 1, .inl (gy g 1, 605, .inl (fun _ => 0))) H) (h31 : va_at (gD g) vwCl (g.1 + 189 + 2, .inl (gy g 1, 605, .inl (fun _ => 0))) H) (h32 : va_at (gD g) vwCl (g.1 + 189 + 3, .inl (gy g 1, 605, .inl (fun _ => 0))) H) (h33 : va_at (gD g) vwCl (g.1 + 189 + 4, .inl (gy g 1, 9680, .inl (fun _ => 0))) H) (h34 : va_at (gD g) vwCl (g.1 + 189 + 5, .inl (gy g 1, 10, .inl (fun _ => 0))) H) (h35 : va_at (gD g) vwCl (g.1 + 189 + 6, .inl (gy g 1, 10, .inl (fun _ => 0))) H) (h36 : va_at (gD g) vwCl (g.1 + 189 + 7, .inl (gy g 1, 10240, .inl (fun _ => 0))) H) (h37 : va_at (gD g) vwCl (g.1 + 189 + 8, .inl (gy g 0, 600, .inl (fun _ => 0))) H) (h38 : va_at (gD g) vwCl (g.1 + 189 + 9, .inl (gy g 0, 900, .inl (fun _ => 0))) H) (h39 : va_at (gD g) vwCl (g.1 + 189 + 10, .inl (gy g 2, 20, .inr (.inl (fun _ => 0)))) H) : World (g02 g) (kA cs (k_S cs, g.1 + 200), (md0, fun _ => 0, 0)) H := by
  have spl : ∀ i k j, wdm (g02 g) (kA cs (k_S cs, g.1 + 200), (md0, fun _ => 0, 0)) i k j → (grp k ≠ 5 ∧ wdm g (cs, mt) i k j ∧ adr i k j < g.1 + 189) ∨ (i = g.1 + 189 ∧ j = 0 ∧ ((k = 8 ∧ adr i k j = g.1 + 189) ∨ (k = 30 ∧ adr i k j = g.1 + 189 + 1) ∨ (k = 31 ∧ adr i k j = g.1 + 189 + 2) ∨ (k = 32 ∧ adr i k j = g.1 + 189 + 3) ∨ (k = 33 ∧ adr i k j = g.1 + 189 + 4) ∨ (k = 34 ∧ adr i k j = g.1 + 189 + 5) ∨ (k = 35 ∧ adr i k j = g.1 + 189 + 6) ∨ (k = 36 ∧ adr i k j = g.1 + 189 + 7) ∨ (k = 37 ∧ adr i k j = g.1 + 189 + 8) ∨ (k = 38 ∧ adr i k j = g.1 + 189 + 9) ∨ (k = 39 ∧ adr i k j = g.1 + 189 + 10))) := by
    intro i k j h
    obtain ⟨h1, h2⟩ := h
    have old : grp k ≠ 5 → wdm g (cs, mt) i k j → (grp k ≠ 5 ∧ wdm g (cs, mt) i k j ∧ adr i k j < g.1 + 189) := fun e h => ⟨e, h, by have := hW.lt h; have e2 : H0.size = k_sz cs := hW.2.2.1; omega⟩
    have f1 : 1 ≤ gf g := by omega
    rcases grp_le k with e | e | e | e | e | e <;> rw [e] at h1
    · exact Or.inl (old (by rw [e]; decide) ⟨by rw [e]; exact h1, h2⟩)
    · exact Or.inl (old (by rw [e]; decide) ⟨by rw [e]; exact ⟨f1, h1.2⟩, h2⟩)
    · exact Or.inl (old (by rw [e]; decide) ⟨by rw [e]; exact ⟨f1, h1.2⟩, h2⟩)
    · exact Or.inl (old (by rw [e]; decide) ⟨by rw [e]; exact h1, h2⟩)
    · exact Or.inl (old (by rw [e]; decide) ⟨by rw [e]; exact ⟨f1, h1.2⟩, h2⟩)
    · obtain ⟨-, rfl⟩ := h1
      obtain ⟨hk, rfl⟩ := grp5 e h2
      refine Or.inr ⟨rfl, rfl, ?_⟩
      rcases hk with rfl | rfl | rfl | rfl | rfl | rfl | rfl | rfl | rfl | rfl | rfl
      · exact Or.inl (⟨rfl, rfl⟩)
      · exact Or.inr (Or.inl (⟨rfl, rfl⟩))
      · exact Or.inr (Or.inr (Or.inl (⟨rfl, rfl⟩)))
      · exact Or.inr (Or.inr (Or.inr (Or.inl (⟨rfl, rfl⟩))))
      · exact Or.inr (Or.inr (Or.inr (Or.inr (Or.inl (⟨rfl, rfl⟩)))))
      · exact Or.inr (Or.inr (Or.inr (Or.inr (Or.inr (Or.inl (⟨rfl, rfl⟩))))))
      · exact Or.inr (Or.inr (Or.inr (Or.inr (Or.inr (Or.inr (Or.inl (⟨rfl, rfl⟩)))))))
      · exact Or.inr (Or.inr (Or.inr (Or.inr (Or.inr (Or.inr (Or.inr (Or.inl (⟨rfl, rfl⟩))))))))
      · exact Or.inr (Or.inr (Or.inr (Or.inr (Or.inr (Or.inr (Or.inr (Or.inr (Or.inl (⟨rfl, rfl⟩)))))))))
      · exact Or.inr (Or.inr (Or.inr (Or.inr (Or.inr (Or.inr (Or.inr (Or.inr (Or.inr (Or.inl (⟨rfl, rfl⟩))))))))))
      · exact Or.inr (Or.inr (Or.inr (Or.inr (Or.inr (Or.inr (Or.inr (Or.inr (Or.inr (Or.inr (⟨rfl, rfl⟩))))))))))
  have hcell : ∀ i k j, grp k ≠ 5 → cellOf (gy g) (kA cs (k_S cs, g.1 + 200), (md0, (fun _ => 0 : Nat → Int64), (0 : Int64))) i k j = cellOf (gy g) (cs, mt) i k j := by
    intro i k j e
    have hw : ∀ t, wints (kA cs (k_S cs, g.1 + 200), (md0, (fun _ => 0 : Nat → Int64), (0 : Int64))) i k j t = wints (cs, mt) i k j t := by
      intro t
      unfold wints
      rcases grp_le k with h | h | h | h | h | h <;> rw [h] <;> first | rfl | exact absurd h e
    have h8 : k ≠ 8 := fun z => e (by rw [z]; rfl)
    have h39 : k ≠ 39 := fun z => e (by rw [z]; rfl)
    unfold cellOf
    have hv : sval (kA cs (k_S cs, g.1 + 200), (md0, (fun _ => 0 : Nat → Int64), (0 : Int64))) i k j = sval (cs, mt) i k j := by
      funext t
      unfold sval
      have hz : zt (kA cs (k_S cs, g.1 + 200), (md0, (fun _ => 0 : Nat → Int64), (0 : Int64))) k t = zt (cs, mt) k t := by
        unfold zt
        split <;> first | rfl | (exact absurd rfl h8)
      rw [hz, hw]
    have hc : conts (kA cs (k_S cs, g.1 + 200), (md0, (fun _ => 0 : Nat → Int64), (0 : Int64))) i k j = conts (cs, mt) i k j := by
      have hf : (fun t => wints (kA cs (k_S cs, g.1 + 200), (md0, (fun _ => 0 : Nat → Int64), (0 : Int64))) i k j t) = fun t => wints (cs, mt) i k j t := funext hw
      unfold conts
      rw [hf]
      split <;> first | rfl | (exact absurd rfl h39)
    rw [hv, hc]
  refine ⟨fun i k j h => ?_, fun i k j i' k' j' h h' e => ?_, hz, hW.2.2.2.1, hW.2.2.2.2.1, hW.2.2.2.2.2⟩
  · rcases spl i k j h with ⟨e, h1, ha⟩ | ⟨rfl, rfl, hk⟩
    · refine ⟨?_, (hW.1 i k j h1).2⟩
      have hc := (hW.cell h1).kept (H1 := H) (ho _ ha)
      have e2 := hcell i k j e
      rw [← e2] at hc
      exact hc
    · rcases hk with ⟨rfl, ha⟩ | ⟨rfl, ha⟩ | ⟨rfl, ha⟩ | ⟨rfl, ha⟩ | ⟨rfl, ha⟩ | ⟨rfl, ha⟩ | ⟨rfl, ha⟩ | ⟨rfl, ha⟩ | ⟨rfl, ha⟩ | ⟨rfl, ha⟩ | ⟨rfl, ha⟩
      · exact ⟨h8, by show g.1 ≤ _; rw [ha]; omega⟩
      · exact ⟨h30, by show g.1 ≤ _; rw [ha]; omega⟩
      · exact ⟨h31, by show g.1 ≤ _; rw [ha]; omega⟩
      · exact ⟨h32, by show g.1 ≤ _; rw [ha]; omega⟩
      · exact ⟨h33, by show g.1 ≤ _; rw [ha]; omega⟩
      · exact ⟨h34, by show g.1 ≤ _; rw [ha]; omega⟩
      · exact ⟨h35, by show g.1 ≤ _; rw [ha]; omega⟩
      · exact ⟨h36, by show g.1 ≤ _; rw [ha]; omega⟩
      · exact ⟨h37, by show g.1 ≤ _; rw [ha]; omega⟩
      · exact ⟨h38, by show g.1 ≤ _; rw [ha]; omega⟩
      · exact ⟨h39, by show g.1 ≤ _; rw [ha]; omega⟩
  · rcases spl i k j h with ⟨-, h1, ha⟩ | ⟨hi, hj, hk⟩ <;> rcases spl i' k' j' h' with ⟨-, h1', ha'⟩ | ⟨hi', hj', hk'⟩
    · exact hW.2.1 i k j i' k' j' h1 h1' e
    · exfalso
      have : g.1 + 189 ≤ adr i' k' j' := by rcases hk' with ⟨hk', ha'⟩ | ⟨hk', ha'⟩ | ⟨hk', ha'⟩ | ⟨hk', ha'⟩ | ⟨hk', ha'⟩ | ⟨hk', ha'⟩ | ⟨hk', ha'⟩ | ⟨hk', ha'⟩ | ⟨hk', ha'⟩ | ⟨hk', ha'⟩ | ⟨hk', ha'⟩ <;> omega
      omega
    · exfalso
      have : g.1 + 189 ≤ adr i k j := by rcases hk with ⟨hk, ha⟩ | ⟨hk, ha⟩ | ⟨hk, ha⟩ | ⟨hk, ha⟩ | ⟨hk, ha⟩ | ⟨hk, ha⟩ | ⟨hk, ha⟩ | ⟨hk, ha⟩ | ⟨hk, ha⟩ | ⟨hk, ha⟩ | ⟨hk, ha⟩ <;> omega
      omega
    · refine ⟨by omega, ?_, by omega⟩
      rcases hk with ⟨hk, ha⟩ | ⟨hk, ha⟩ | ⟨hk, ha⟩ | ⟨hk, ha⟩ | ⟨hk, ha⟩ | ⟨hk, ha⟩ | ⟨hk, ha⟩ | ⟨hk, ha⟩ | ⟨hk, ha⟩ | ⟨hk, ha⟩ | ⟨hk, ha⟩ <;> rcases hk' with ⟨hk', ha'⟩ | ⟨hk', ha'⟩ | ⟨hk', ha'⟩ | ⟨hk', ha'⟩ | ⟨hk', ha'⟩ | ⟨hk', ha'⟩ | ⟨hk', ha'⟩ | ⟨hk', ha'⟩ | ⟨hk', ha'⟩ | ⟨hk', ha'⟩ | ⟨hk', ha'⟩ <;> omega
