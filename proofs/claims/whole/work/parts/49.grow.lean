/-! a State, or the planner, comes into the world -/
theorem World.lt {g : GT} {w : WT} {H : Heap} {i k j : Nat} (hW : World g w H) (hn : wdm g w i k j) : adr i k j < H.size := (hW.cell hn).lt
theorem World.grow {g : GT} {cs : CT} {mt : MT} {H H3 : Heap} {sd : SD} (hg : g.1 ≤ k_sz cs) (hW : World g (cs, mt) H) (hz : H3.size = k_sz cs + 91) (ho : ∀ q : Nat, q < k_sz cs → H3[q]? = H[q]?) (hB : StB g (k_sz cs) sd H3) : World g (kA (kS cs (k_sz cs) sd) (k_S cs ++ [k_sz cs], k_sz cs + 91), mt) H3 := by
  have hsz : H.size = k_sz cs := hW.2.2.1
  have hS : ∀ i, i ∈ k_S cs → i < k_sz cs := by
    intro i hi
    have := hW.lt (i := i) (k := 4) (j := 0) ⟨hi, by decide⟩
    have e : adr i 4 0 = i := rfl
    omega
  have old : ∀ i k j, wdm g (cs, mt) i k j → va_at (gD g) vwCl (adr i k j, cellOf (gy g) (kA (kS cs (k_sz cs) sd) (k_S cs ++ [k_sz cs], k_sz cs + 91), mt) i k j) H3 ∧ g.1 ≤ adr i k j ∧ adr i k j < k_sz cs := by
    intro i k j h
    have hlt := hW.lt h
    rw [hsz] at hlt
    refine ⟨?_, (hW.1 i k j h).2, hlt⟩
    have hc := (hW.cell h).kept (H1 := H3) (ho _ hlt)
    rw [cell_same (w' := (kA (kS cs (k_sz cs) sd) (k_S cs ++ [k_sz cs], k_sz cs + 91), mt)) (w := (cs, mt)) rfl rfl rfl rfl rfl rfl (fun t => ?_)]
    · exact hc
    · unfold wints
      split
      · next h0 =>
        have hi : i ∈ k_S cs := by
          have := h.1
          rw [h0] at this
          exact this
        have hne : i ≠ k_sz cs := by have := hS i hi; omega
        simp [k_xs, kA, kS, va_up, hne]
      all_goals rfl
  have spl : ∀ i k j, wdm g (kA (kS cs (k_sz cs) sd) (k_S cs ++ [k_sz cs], k_sz cs + 91), mt) i k j → wdm g (cs, mt) i k j ∨ (grp k = 0 ∧ i = k_sz cs ∧ j < jn k) := by
    intro i k j h
    obtain ⟨h1, h2⟩ := h
    rcases grp_le k with e | e | e | e | e | e
    · rw [e] at h1
      rcases List.mem_append.mp h1 with h3 | h3
      · exact Or.inl ⟨by rw [e]; exact h3, h2⟩
      · exact Or.inr ⟨e, List.mem_singleton.mp h3, h2⟩
    all_goals
      refine Or.inl ⟨?_, h2⟩
      rw [e] at h1 ⊢
      exact h1
  refine ⟨fun i k j h => ?_, fun i k j i' k' j' h h' e => ?_, hz, List.mem_append_left _ hW.2.2.2.1, List.mem_append_left _ hW.2.2.2.2.1, fun t q h => List.mem_append_left _ (hW.2.2.2.2.2 t q h)⟩
  · rcases spl i k j h with h1 | ⟨h1, rfl, h3⟩
    · exact ⟨(old i k j h1).1, (old i k j h1).2.1⟩
    · refine ⟨?_, ?_⟩
      · have := hB k j h1 h3
        rw [← cellS_of (w := (kA cs (k_S cs ++ [k_sz cs], k_sz cs + 91), mt)) h1] at this
        exact this
      · show g.1 ≤ k_sz cs + off k j
        omega
  · rcases spl i k j h with h1 | ⟨h1, rfl, h3⟩ <;> rcases spl i' k' j' h' with h1' | ⟨h1', rfl, h3'⟩
    · exact hW.2.1 i k j i' k' j' h1 h1' e
    · have := (old i k j h1).2.2
      have e : adr i k j = k_sz cs + off k' j' := e
      omega
    · have := (old i' k' j' h1').2.2
      have e : k_sz cs + off k j = adr i' k' j' := e
      omega
    · have e : k_sz cs + off k j = k_sz cs + off k' j' := e
      exact ⟨rfl, off_inj h1 h3 h1' h3' (by omega)⟩
theorem grp3 {k : Nat} (h : grp k = 3) : k = 2 ∨ k = 23 ∨ k = 24 ∨ k = 25 := by
  unfold grp at h
  repeat' split at h
  all_goals omega
theorem World.growP {g : GT} {cs : CT} {mt : MT} {H H3 : Heap} (hf : 1 ≤ gf g) (hg : g.1 ≤ k_sz cs) (hpl : k_pl cs = none) (hW : World g (cs, mt) H) (hz : H3.size = k_sz cs + 4) (ho : ∀ q : Nat, q < k_sz cs → q ≠ g.1 → H3[q]? = H[q]?) (hj : va_at (gD g) vwCl (adr g.1 7 0, cellOf (gy g) (kA (kP (kZ cs (k_st cs, k_sp cs, some (k_sz cs))) pd0) (k_S cs, k_sz cs + 4), mt) g.1 7 0) H3)
    (h2 : va_at (gD g) vwCl (k_sz cs, .inr (2, [.ref (k_sz cs + 1), .ref (k_sz cs + 2), .ref (k_sz cs + 3), .int 0, .int (-1), .int (-1)])) H3) (h23 : va_at (gD g) vwCl (k_sz cs + 1, .inl (gy g 1, 10240, .inl (fun _ => 0))) H3) (h24 : va_at (gD g) vwCl (k_sz cs + 2, .inl (gy g 1, 100, .inl (fun _ => 0))) H3) (h25 : va_at (gD g) vwCl (k_sz cs + 3, .inl (gy g 1, 10, .inl (fun _ => 0))) H3) : World g (kA (kP (kZ cs (k_st cs, k_sp cs, some (k_sz cs))) pd0) (k_S cs, k_sz cs + 4), mt) H3 := by
  have hsz : H.size = k_sz cs := hW.2.2.1
  have spl : ∀ i k j, wdm g (kA (kP (kZ cs (k_st cs, k_sp cs, some (k_sz cs))) pd0) (k_S cs, k_sz cs + 4), mt) i k j → (grp k ≠ 3 ∧ wdm g (cs, mt) i k j) ∨ (grp k = 3 ∧ i = k_sz cs ∧ j < jn k) := by
    intro i k j h
    obtain ⟨h1, h2⟩ := h
    rcases grp_le k with e | e | e | e | e | e
    case inr.inr.inr.inl =>
      rw [e] at h1
      exact Or.inr ⟨e, (Option.some.inj h1).symm, h2⟩
    all_goals
      refine Or.inl ⟨by rw [e]; decide, ?_, h2⟩
      rw [e] at h1 ⊢
      exact h1
  have hoff : ∀ k j, grp k = 3 → j < jn k → (k = 2 ∧ j = 0 ∧ off k j = 0) ∨ (k = 23 ∧ j = 0 ∧ off k j = 1) ∨ (k = 24 ∧ j = 0 ∧ off k j = 2) ∨ (k = 25 ∧ j = 0 ∧ off k j = 3) := by
    intro k j h hj
    rcases grp3 h with rfl | rfl | rfl | rfl
    all_goals
      have hj : j < 1 := hj
      have : j = 0 := by omega
      subst this
      simp [off]
  refine ⟨fun i k j h => ?_, fun i k j i' k' j' h h' e => ?_, hz, hW.2.2.2.1, hW.2.2.2.2.1, hW.2.2.2.2.2⟩
  · rcases spl i k j h with ⟨hne, h1⟩ | ⟨h1, rfl, h3⟩
    · refine ⟨?_, (hW.1 i k j h1).2⟩
      by_cases h7 : k = 7
      · subst h7
        obtain ⟨⟨-, hi⟩, hj0⟩ := h1
        have hj0 : j < 1 := hj0
        have hi : i = g.1 := hi
        have : j = 0 := by omega
        subst this
        subst hi
        exact hj
      · have hlt := hW.lt h1
        have hne7 : adr i k j ≠ g.1 := fun z => by
          have := hW.2.1 i k j g.1 7 0 h1 ⟨⟨hf, rfl⟩, by decide⟩ z
          exact h7 this.2.1
        have hc := (hW.cell h1).kept (H1 := H3) (ho _ (by rw [← hsz]; exact hlt) hne7)
        have e : cellOf (gy g) (kA (kP (kZ cs (k_st cs, k_sp cs, some (k_sz cs))) pd0) (k_S cs, k_sz cs + 4), mt) i k j = cellOf (gy g) (cs, mt) i k j := by
          unfold cellOf
          have hv : sval (kA (kP (kZ cs (k_st cs, k_sp cs, some (k_sz cs))) pd0) (k_S cs, k_sz cs + 4), mt) i k j = sval (cs, mt) i k j := by
            funext t
            unfold sval
            have hz : zt (kA (kP (kZ cs (k_st cs, k_sp cs, some (k_sz cs))) pd0) (k_S cs, k_sz cs + 4), mt) k t = zt (cs, mt) k t := by
              unfold zt
              split <;> first | rfl | (exact absurd rfl h7)
            have hw : wints (kA (kP (kZ cs (k_st cs, k_sp cs, some (k_sz cs))) pd0) (k_S cs, k_sz cs + 4), mt) i k j t = wints (cs, mt) i k j t := by
              unfold wints
              split <;> first | rfl | (next e => exact absurd e hne)
            rw [hz, hw]
          have hcn : conts (kA (kP (kZ cs (k_st cs, k_sp cs, some (k_sz cs))) pd0) (k_S cs, k_sz cs + 4), mt) i k j = conts (cs, mt) i k j := by
            have hw : (fun t => wints (kA (kP (kZ cs (k_st cs, k_sp cs, some (k_sz cs))) pd0) (k_S cs, k_sz cs + 4), mt) i k j t) = fun t => wints (cs, mt) i k j t := by
              funext t
              unfold wints
              split <;> first | rfl | (next e => exact absurd e hne)
            unfold conts
            rw [hw]
          rw [hv, hcn]
        rw [e]
        exact hc
    · refine ⟨?_, by show g.1 ≤ k_sz cs + off k j; omega⟩
      rcases hoff k j h1 h3 with ⟨rfl, rfl, -⟩ | ⟨rfl, rfl, -⟩ | ⟨rfl, rfl, -⟩ | ⟨rfl, rfl, -⟩
      · exact h2
      · exact h23
      · exact h24
      · exact h25
  · rcases spl i k j h with ⟨hne, h1⟩ | ⟨h1, rfl, h3⟩ <;> rcases spl i' k' j' h' with ⟨hne', h1'⟩ | ⟨h1', rfl, h3'⟩
    · exact hW.2.1 i k j i' k' j' h1 h1' e
    · have := hW.lt h1
      have e : adr i k j = k_sz cs + off k' j' := e
      omega
    · have := hW.lt h1'
      have e : k_sz cs + off k j = adr i' k' j' := e
      omega
    · have e : k_sz cs + off k j = k_sz cs + off k' j' := e
      have e : off k j = off k' j' := by omega
      rcases hoff k j h1 h3 with ⟨rfl, rfl, o1⟩ | ⟨rfl, rfl, o1⟩ | ⟨rfl, rfl, o1⟩ | ⟨rfl, rfl, o1⟩ <;> rcases hoff k' j' h1' h3' with ⟨rfl, rfl, o2⟩ | ⟨rfl, rfl, o2⟩ | ⟨rfl, rfl, o2⟩ | ⟨rfl, rfl, o2⟩ <;> first | exact ⟨rfl, rfl, rfl⟩ | (rw [o1, o2] at e; omega)
