theorem va_D1 {A : Nat → Prop} {v : Nat} {e0 : va_E} (h : A v) : va_D A [(v, e0)] := ⟨fun i j x y h1 h2 _ => by
    have z1 : i < 1 := (List.getElem?_eq_some_iff.mp h1).1
    have z2 : j < 1 := (List.getElem?_eq_some_iff.mp h2).1
    omega, fun k q h2 => by
    have z1 : k < 1 := (List.getElem?_eq_some_iff.mp h2).1
    rw [show k = 0 by omega] at h2
    cases h2
    exact h⟩
theorem va_D4 {A : Nat → Prop} {v : Nat} {e0 e1 e2 e3 : va_E} (h : ∀ q, v ≤ q → A q) : va_D A [(v, e0), (v + 1, e1), (v + 2, e2), (v + 3, e3)] := by
  have key : ∀ (k : Nat) (q : Nat × va_E), ([(v, e0), (v + 1, e1), (v + 2, e2), (v + 3, e3)] : va_W)[k]? = some q → q.1 = v + k := by
    intro k q hq
    match k, hq with
    | 0, hq => cases hq; rfl
    | 1, hq => cases hq; rfl
    | 2, hq => cases hq; rfl
    | 3, hq => cases hq; rfl
    | k + 4, hq => simp at hq
  exact ⟨fun i j x y h1 h2 h3 => by rw [key i x h1, key j y h2] at h3; omega, fun k q hq => h _ (by rw [key k q hq]; omega)⟩
theorem rl_after {D : va_G} {A : Nat → Prop} {ws w1 : va_W} {H H2 H3 : Heap} {v : Nat} (hP : va_P D vwCl ws H) (hD : va_D A ws) (hz : H.size = v) (o2 : ∀ q : Nat, q < v → H2[q]? = H[q]?) (hz2 : H2.size = v + 1) (hk : ∀ q : Nat, q < H2.size → ¬ rB v (v + 1) q → H3[q]? = H2[q]?) (hP1 : va_P D vwCl w1 H3) (hD1 : va_D A w1) (h1 : ∀ q ∈ w1, v ≤ q.1) : va_P D vwCl (ws ++ w1) H3 ∧ va_D A (ws ++ w1) := by
  refine ⟨(hP.kept (fun k x hx => ?_)).app hP1, hD.app hD1 (fun i j x y hx hy e => ?_)⟩
  · have hl := (hP k x hx).lt
    rw [hk x.1 (by omega) (fun h => by rcases h with h | h <;> omega), o2 x.1 (by omega)]
  · have hl := (hP i x hx).lt
    have := h1 y (List.mem_of_getElem? hy)
    omega
theorem at_end {ws : va_W} {x : Nat × va_E} {w1 : va_W} {n : Nat} (h : ws.length = n) : (ws ++ x :: w1)[n]? = some x := by
  subst h
  simp
abbrev b7 (g : GT) (a : Nat) (f1 f2 f3 : Nat → Option Nat) : va_W := [(a, .inr (4, [.int 0, .ref (a + 1), .ref (a + 2), .int 0, .int 0, .ref (a + 3), .int 0, .int 0, .ref (a + 4), .int 0, .ref (a + 5), .int 0, .ref (a + 6), .int 0, .int 0, .int 0, .int 0, .int 0])), (a + 1, .inl (gy g 1, 5, .inl (fun _ => 0))), (a + 2, .inl (gy g 3, 4, .inr (.inr (.inr (.inr f1))))), (a + 3, .inl (gy g 4, 10, .inr (.inr (.inr (.inr f2))))), (a + 4, .inl (gy g 5, 40, .inr (.inr (.inr (.inr f3))))), (a + 5, .inl (gy g 1, 20, .inl (fun _ => 0))), (a + 6, .inl (gy g 1, 16, .inl (fun _ => 0)))]
abbrev dvC (a t : Nat) : Nat × va_E := (a + (7 + t), .inr (0, [.int 0, .int 0, .int 0]))
abbrev plC (g : GT) (a t : Nat) : va_W := [(a + (11 + 4 * t), .inr (3, [.int 0, .int 0, .int 0, .int 0, .int 0, .int 0, .ref (a + (11 + 4 * t) + 1), .ref (a + (11 + 4 * t) + 2), .ref (a + (11 + 4 * t) + 3)])), (a + (11 + 4 * t) + 1, .inl (gy g 1, 8, .inl (fun _ => 0))), (a + (11 + 4 * t) + 2, .inl (gy g 1, 8, .inl (fun _ => 0))), (a + (11 + 4 * t) + 3, .inl (gy g 1, 10, .inl (fun _ => 0)))]
abbrev vrC (a t : Nat) : Nat × va_E := (a + (51 + t), .inr (6, [.int 0, .int 0, .int 0, .int 0, .int 0, .int 0, .int 0]))
abbrev rm_X4_init : Room := { frames := 2, cells := 90, slots := 737, locals := 45 }
set_option maxRecDepth 100000 in
set_option maxHeartbeats 8000000 in
theorem rc_X4_init (l : Launch) (g : GT) (H0 : Heap) (a z : Nat) (hz : H0.size = z) (hzA : z = a + 1) (hg : g.1 ≤ a) (hP0 : va_P (gD g) vwCl [(a, .inr (4, [.int 0, .null, .null, .int 0, .int 0, .null, .int 0, .int 0, .null, .int 0, .null, .int 0, .null, .int 0, .int 0, .int 0, .int 0, .int 0]))] H0) {sd0 : SD} (h0 : f_X4_beginEmpty (fun _ _ _ => 0) = some sd0) : Met l yX4_init wsX4_init rm_X4_init (rPre g H0 [.ref a]) (rQv g (rB a z) (fun H => H.size = a + 91 ∧ StB g a sd0 H)) 90 737 (rB a z) := by
  sorry
