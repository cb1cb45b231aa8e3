/-! Layer 2: the class's history -/
def HSx (b : Nat) (cs : CT) (m : SD) (f0 c : Nat) : Prop := f0 < 16 ∧ c ≤ 16 ∧ k_hd cs 1 0 1 = nI f0 ∧ k_hd cs 1 0 2 = nI c ∧ m 8 0 5 = nI c ∧ ∀ k, k < c → ∃ q, k_hz cs ((f0 + k) % 16) = some q ∧ Inv (prow m k) ∧ Rel b (k_xs cs q) (prow m k)
/-- the States are apart -/
def DS (cs : CT) : Prop := k_st cs ≠ k_sp cs ∧ (∀ t q, k_hz cs t = some q → q ≠ k_st cs ∧ q ≠ k_sp cs) ∧ (∀ t u q, k_hz cs t = some q → k_hz cs u = some q → t = u) ∧ k_st cs < k_sz cs ∧ k_sp cs < k_sz cs ∧ ∀ t q, k_hz cs t = some q → q < k_sz cs
theorem va_hit {α : Type} (f : Nat → α) (i : Nat) (x : α) : va_up f i x i = x := by simp [va_up]
theorem va_off {α : Type} (f : Nat → α) {i j : Nat} (x : α) (h : j ≠ i) : va_up f i x j = f j := by simp [va_up, h]
/-- what stays over an edit's remembering -/
def KS (cs cs' : CT) : Prop := k_st cs' = k_st cs ∧ k_sp cs' = k_sp cs ∧ k_xs cs' (k_st cs) = k_xs cs (k_st cs) ∧ k_rd cs' = k_rd cs ∧ k_rn cs' = k_rn cs ∧ k_jd cs' = k_jd cs
section KEP
variable {b : Nat} {cs : CT} {m : SD} {r : RW}
theorem rem16 {x : Nat} (h : x < 2 ^ 30) : nI x - nI x / (16 : Int32) * (16 : Int32) = nI (x % 16) := pk_rem (a := x) (d := 16) (by omega) (by decide) (by decide)
theorem keepc_both {f0 c q : Nat} (hr : m 30 0 = r) (hI : Inv r) (hR : Rel b (k_xs cs (k_st cs)) r) (hH : HSx b cs m f0 c) (hD : DS cs) (hq : k_hz cs ((f0 + c) % 16) = some q) : ∃ cs' m' f1 c1, f_X1_keep_c cs q = some cs' ∧ f_X8_remembers m = some m' ∧ HSx b cs' m' f1 c1 ∧ DS cs' ∧ KS cs cs' ∧ k_pl cs' = k_pl cs ∧ k_pd cs' = k_pd cs ∧ (∀ k j t, k ≠ 33 → ¬ (k = 8 ∧ j = 0 ∧ t = 5) → m' k j t = m k j t) := by
  obtain ⟨hf, hc, h1, h2, h3, h4⟩ := hH
  obtain ⟨d1, d2, d3, d4, d5, d6⟩ := hD
  have hne : k_st cs ≠ q := fun z => (d2 _ _ hq).1 z.symm
  obtain ⟨s, e1, hs⟩ := c_copyFrom hI hR (k_xs cs q)
  obtain ⟨m', e2, e3, e4, e5, e6⟩ := m_remembers hc h3
  have hx : ∀ q', q' ≠ q → k_xs (kS cs q s) q' = k_xs cs q' := fun q' h => va_off _ _ h
  have hxq : k_xs (kS cs q s) q = s := va_hit _ _ _
  by_cases z : c = 16
  · subst z
    have ev : f_X1_keep_c cs q = some (kH (kS cs q s) (upS (k_hd cs) 1 0 1 (nI ((f0 + 1) % 16))) (k_hz cs)) := by
      unfold f_X1_keep_c
      rw [e1]
      simp only [eq_true hne, xg, xb, xl, ne_eq, not_false_eq_true]
      show (if (16 : Int32) ≤ k_hd cs 1 0 2 then _ else _) = _
      rw [h2, if_pos (by decide), h1, nI_1, rem16 (by omega)]
    refine ⟨_, m', (f0 + 1) % 16, 16, ev, e2, ⟨Nat.mod_lt _ (by decide), Nat.le_refl _, ?_, ?_, ?_, fun k hk => ?_⟩, ⟨d1, d2, d3, d4, d5, d6⟩, ⟨rfl, rfl, hx _ hne, rfl, rfl, rfl⟩, rfl, rfl, e4⟩
    · show upS (k_hd cs) 1 0 1 (nI ((f0 + 1) % 16)) 1 0 1 = _
      rw [upS_hit]
    · show upS (k_hd cs) 1 0 1 (nI ((f0 + 1) % 16)) 1 0 2 = _
      rw [upS_t (by omega)]; exact h2
    · rw [e3, if_pos rfl]
    · obtain ⟨p1, p2⟩ := e6 rfl
      show ∃ q', k_hz cs (((f0 + 1) % 16 + k) % 16) = some q' ∧ _
      by_cases y : k = 15
      · subst y
        refine ⟨q, ?_, ?_, ?_⟩
        · rw [← hq]; congr 1; omega
        · exact Inv.congr hI (fun i hi => by rw [p2 i hi, hr])
        · show Rel b (k_xs (kS cs q s) q) _
          rw [hxq]
          exact Rel.congr hI hs (fun i hi => by rw [p2 i hi, hr])
      · obtain ⟨q', g1, g2, g3⟩ := h4 (k + 1) (by omega)
        have hne2 : q' ≠ q := fun w => by
          subst w
          have := d3 _ _ _ g1 hq
          omega
        refine ⟨q', ?_, ?_, ?_⟩
        · rw [← g1]; congr 1; omega
        · exact Inv.congr g2 (fun i hi => p1 k i (by omega) hi)
        · show Rel b (k_xs (kS cs q s) q') _
          rw [hx _ hne2]
          exact Rel.congr g2 g3 (fun i hi => p1 k i (by omega) hi)
  · have hlt : c < 16 := by omega
    have ev : f_X1_keep_c cs q = some (kH (kS cs q s) (upS (k_hd cs) 1 0 2 (nI (c + 1))) (k_hz cs)) := by
      unfold f_X1_keep_c
      rw [e1]
      simp only [eq_true hne, xg, xb, xl, ne_eq, not_false_eq_true]
      show (if (16 : Int32) ≤ k_hd cs 1 0 2 then _ else _) = _
      rw [h2, if_neg (by rw [lle (by decide) (by omega)]; omega), nI_1]
    refine ⟨_, m', f0, c + 1, ev, e2, ⟨hf, by omega, ?_, ?_, ?_, fun k hk => ?_⟩, ⟨d1, d2, d3, d4, d5, d6⟩, ⟨rfl, rfl, hx _ hne, rfl, rfl, rfl⟩, rfl, rfl, e4⟩
    · show upS (k_hd cs) 1 0 2 (nI (c + 1)) 1 0 1 = _
      rw [upS_t (by omega)]; exact h1
    · show upS (k_hd cs) 1 0 2 (nI (c + 1)) 1 0 2 = _
      rw [upS_hit]
    · rw [e3, if_neg z]
    · obtain ⟨p1, p2⟩ := e5 hlt
      show ∃ q', k_hz cs ((f0 + k) % 16) = some q' ∧ _
      by_cases y : k = c
      · subst y
        refine ⟨q, hq, ?_, ?_⟩
        · exact Inv.congr hI (fun i hi => by rw [p2 i hi, hr])
        · show Rel b (k_xs (kS cs q s) q) _
          rw [hxq]
          exact Rel.congr hI hs (fun i hi => by rw [p2 i hi, hr])
      · obtain ⟨q', g1, g2, g3⟩ := h4 k (by omega)
        have hne2 : q' ≠ q := fun w => by
          subst w
          have := d3 _ _ _ g1 hq
          omega
        refine ⟨q', g1, ?_, ?_⟩
        · exact Inv.congr g2 (fun i hi => p1 k i (by omega) hi)
        · show Rel b (k_xs (kS cs q s) q') _
          rw [hx _ hne2]
          exact Rel.congr g2 g3 (fun i hi => p1 k i (by omega) hi)
theorem c_beginEmpty (s : SD) : ∃ s', f_X4_beginEmpty s = some s' := ⟨_, rfl⟩
theorem keep_both {f0 c : Nat} (hr : m 30 0 = r) (hI : Inv r) (hR : Rel b (k_xs cs (k_st cs)) r) (hH : HSx b cs m f0 c) (hD : DS cs) : ∃ cs' m' f1 c1, f_X1_keep cs = some cs' ∧ f_X8_remembers m = some m' ∧ HSx b cs' m' f1 c1 ∧ DS cs' ∧ KS cs cs' ∧ k_pl cs' = k_pl cs ∧ k_pd cs' = k_pd cs ∧ (∀ k j t, k ≠ 33 → ¬ (k = 8 ∧ j = 0 ∧ t = 5) → m' k j t = m k j t) := by
  have hH2 := hH
  obtain ⟨hf, hc, h1, h2, h3, h4⟩ := hH
  have hD2 := hD
  obtain ⟨d1, d2, d3, d4, d5, d6⟩ := hD
  unfold f_X1_keep
  rw [h1, h2, nI_add, rem16 (by omega), xl]
  simp (disch := omega) only [xg, vinT, nI_clamp]
  cases hz : k_hz cs ((f0 + c) % 16) with
  | some q =>
    simp only
    exact keepc_both hr hI hR hH2 hD2 hz
  | none =>
    simp only
    obtain ⟨sd0, hs0⟩ := c_beginEmpty (fun _ _ _ => 0)
    have en : f_newState cs = some (kA (kS cs (k_sz cs) sd0) (k_S cs ++ [k_sz cs], k_sz cs + 91)) := by
      unfold f_newState
      rw [hs0, xb]
    rw [en, xb, xl]
    have hlt : c < 16 := by
      by_cases z : c = 16
      · subst z
        obtain ⟨q, g1, -⟩ := h4 0 (by omega)
        have : (f0 + 0) % 16 = (f0 + 16) % 16 := by omega
        rw [this, hz] at g1
        cases g1
      · omega
    obtain ⟨c2, hc2⟩ : ∃ c2 : CT, c2 = kH (kA (kS cs (k_sz cs) sd0) (k_S cs ++ [k_sz cs], k_sz cs + 91)) (k_hd cs) (va_up (k_hz cs) ((f0 + c) % 16) (some (k_sz cs))) := ⟨_, rfl⟩
    have est : k_st c2 = k_st cs := by rw [hc2]
    have esp : k_sp c2 = k_sp cs := by rw [hc2]
    have ehd : k_hd c2 = k_hd cs := by rw [hc2]
    have ehz : k_hz c2 = va_up (k_hz cs) ((f0 + c) % 16) (some (k_sz cs)) := by rw [hc2]
    have esz : k_sz c2 = k_sz cs + 91 := by rw [hc2]
    have ex : ∀ q, q ≠ k_sz cs → k_xs c2 q = k_xs cs q := fun q h => by rw [hc2]; exact va_off _ _ h
    have hz2 : ∀ t q, k_hz c2 t = some q → (t = (f0 + c) % 16 ∧ q = k_sz cs) ∨ (t ≠ (f0 + c) % 16 ∧ k_hz cs t = some q) := fun t q h => by
      rw [ehz] at h
      by_cases y : t = (f0 + c) % 16
      · subst y
        rw [va_hit] at h
        exact Or.inl ⟨rfl, (Option.some.inj h).symm⟩
      · rw [va_off _ _ y] at h
        exact Or.inr ⟨y, h⟩
    have hD3 : DS c2 := by
      refine ⟨by rw [est, esp]; exact d1, fun t q h => ?_, fun t u q h h' => ?_, by rw [est, esz]; omega, by rw [esp, esz]; omega, fun t q h => ?_⟩
      · rw [est, esp]
        rcases hz2 t q h with ⟨-, rfl⟩ | ⟨-, g⟩
        · omega
        · exact d2 t q g
      · rcases hz2 t q h with ⟨g1, g2⟩ | ⟨g1, g2⟩
        · rcases hz2 u q h' with ⟨g3, g4⟩ | ⟨g3, g4⟩
          · omega
          · have := d6 _ _ g4; omega
        · rcases hz2 u q h' with ⟨g3, g4⟩ | ⟨g3, g4⟩
          · have := d6 _ _ g2; omega
          · exact d3 t u q g2 g4
      · rw [esz]
        rcases hz2 t q h with ⟨-, rfl⟩ | ⟨-, g⟩
        · omega
        · have := d6 t q g; omega
    have hH3 : HSx b c2 m f0 c := by
      refine ⟨hf, hc, by rw [ehd]; exact h1, by rw [ehd]; exact h2, h3, fun k hk => ?_⟩
      obtain ⟨q, g1, g2, g3⟩ := h4 k hk
      refine ⟨q, ?_, g2, ?_⟩
      · rw [ehz, va_off _ _ (by omega)]; exact g1
      · rw [ex q (by have := d6 _ _ g1; omega)]; exact g3
    obtain ⟨cs', m', f1, c1, r1, r2, r3, r4, r5, r6, r7, r8⟩ := keepc_both (cs := c2) hr hI (by rw [est, ex _ (by omega)]; exact hR) hH3 hD3 (q := k_sz cs) (by rw [ehz, va_hit])
    refine ⟨cs', m', f1, c1, ?_, r2, r3, r4, ?_, ?_, ?_, r8⟩
    · rw [← r1, hc2]
    · obtain ⟨k1, k2, k3, k4, k5, k6⟩ := r5
      rw [est, ex _ (by omega)] at k3
      exact ⟨k1.trans est, k2.trans esp, k3, by rw [k4, hc2], by rw [k5, hc2], by rw [k6, hc2]⟩
    · rw [r6, hc2]
    · rw [r7, hc2]
/-- the planner's table is forgotten -/
def FG (cs cs' : CT) : Prop := k_pl cs' = k_pl cs ∧ (k_pl cs ≠ none → k_pd cs' = upS (k_pd cs) 2 0 5 (-1))
theorem forget_both (cs : CT) : ∃ cs', f_X7_forgetPlan cs = some cs' ∧ FG cs cs' ∧ k_xs cs' = k_xs cs ∧ k_st cs' = k_st cs ∧ k_sp cs' = k_sp cs ∧ k_hd cs' = k_hd cs ∧ k_hz cs' = k_hz cs ∧ k_rd cs' = k_rd cs ∧ k_rn cs' = k_rn cs ∧ k_jd cs' = k_jd cs ∧ k_sz cs' = k_sz cs ∧ k_S cs' = k_S cs := by
  unfold f_X7_forgetPlan
  cases h : k_pl cs with
  | none => exact ⟨cs, rfl, ⟨rfl, fun z => absurd h z⟩, rfl, rfl, rfl, rfl, rfl, rfl, rfl, rfl, rfl, rfl⟩
  | some q => exact ⟨_, rfl, ⟨rfl, fun _ => rfl⟩, rfl, rfl, rfl, rfl, rfl, rfl, rfl, rfl, rfl, rfl⟩
theorem rem_both {f0 c : Nat} (hr : m 30 0 = r) (hI : Inv r) (hR : Rel b (k_xs cs (k_st cs)) r) (hH : HSx b cs m f0 c) (hD : DS cs) : ∃ cs' m' f1 c1, f_X7_remember cs = some cs' ∧ f_X8_remembers m = some m' ∧ HSx b cs' m' f1 c1 ∧ DS cs' ∧ KS cs cs' ∧ FG cs cs' ∧ (∀ k j t, k ≠ 33 → ¬ (k = 8 ∧ j = 0 ∧ t = 5) → m' k j t = m k j t) := by
  obtain ⟨c1, m', f1, n1, e1, e2, e3, e4, e5, e6, e7, e8⟩ := keep_both hr hI hR hH hD
  obtain ⟨c2, g1, g2, g3, g4, g5, g6, g7, g8, g9, g10, g11, g12⟩ := forget_both c1
  refine ⟨c2, m', f1, n1, ?_, e2, ?_, ?_, ?_, ?_, e8⟩
  · unfold f_X7_remember
    rw [e1, xb, g1]
  · unfold HSx at e3 ⊢
    rw [g6, g7, g3]
    exact e3
  · unfold DS at e4 ⊢
    rw [g4, g5, g7, g11]
    exact e4
  · unfold KS at e5 ⊢
    rw [g4, g5, g3, g8, g9, g10]
    exact e5
  · unfold FG at g2 ⊢
    rw [← e6, ← e7]
    exact g2
end KEP
