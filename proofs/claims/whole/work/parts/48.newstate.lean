/-- a State's cell told without the world -/
def cellZ (cy : Nat → ClassId) (a : Nat) (sd : SD) (k j : Nat) : va_E := if k < 9 then .inr (k, (List.range (nf k)).map (fun t => match rt k j t with
    | some d => Value.ref (adr (a + d.1) d.2.1 d.2.2)
    | none => .int (sd k j t))) else .inl (cy (aty k), aln k, match k with
    | 11 => .inr (.inr (.inr (.inr (fun t => some (adr a 0 t)))))
    | 12 => .inr (.inr (.inr (.inr (fun t => some (adr a 3 t)))))
    | 13 => .inr (.inr (.inr (.inr (fun t => some (adr a 6 t)))))
    | _ => .inl (fun t => sd k j t))
theorem cellS_Z {cy : Nat → ClassId} {a : Nat} {sd : SD} {k j : Nat} (h : grp k = 0) : cellS cy a sd k j = cellZ cy a sd k j := by
  unfold cellS cellOf cellZ
  have hs : sval (wS w00 a sd) a k j = fun t => match rt k j t with
      | some d => Value.ref (adr (a + d.1) d.2.1 d.2.2)
      | none => .int (sd k j t) := by
    funext t
    unfold sval
    rw [zt_S h, wS_S h]
    rfl
  have hw : (fun t => wints (wS w00 a sd) a k j t) = fun t => sd k j t := by
    funext t
    rw [wS_S h]
  rw [hs]
  unfold conts
  rw [hw]
  rcases grp0 h with rfl | rfl | rfl | rfl | ⟨h1, h2⟩
  iterate 4 rfl
  rcases (show k = 10 ∨ k = 11 ∨ k = 12 ∨ k = 13 ∨ k = 14 ∨ k = 15 ∨ k = 16 ∨ k = 17 ∨ k = 18 by omega) with rfl | rfl | rfl | rfl | rfl | rfl | rfl | rfl | rfl <;> rfl
set_option maxRecDepth 20000 in
theorem ggX4_init_X0_init : GoodIn wsX4_init wsX0_init := goodIn_r _ [21, 22, 2, 3] (by decide +kernel) (by decide +kernel)
set_option maxRecDepth 20000 in
theorem gX4_init_X0_init_n39 : GoodIn wsX4_init (wsX0_init) := ggX4_init_X0_init
set_option maxRecDepth 20000 in
theorem ggX4_init_X3_init : GoodIn wsX4_init wsX3_init := goodIn_r _ [24, 25, 2, 3, 4, 26, 27, 28, 74, 75, 76, 77, 78, 79, 80, 81, 82] (by decide +kernel) (by decide +kernel)
set_option maxRecDepth 20000 in
theorem gX4_init_X3_init_n40 : GoodIn wsX4_init (wsX3_init) := ggX4_init_X3_init
set_option maxRecDepth 20000 in
theorem ggX4_init_X6_init : GoodIn wsX4_init wsX6_init := goodIn_r _ [30, 31, 2, 3] (by decide +kernel) (by decide +kernel)
set_option maxRecDepth 20000 in
theorem gX4_init_X6_init_n41 : GoodIn wsX4_init (wsX6_init) := ggX4_init_X6_init
set_option maxRecDepth 20000 in
theorem ggX4_init_X4_beginEmpty : GoodIn wsX4_init wsX4_beginEmpty := goodIn_r _ [36, 37, 38, 39, 40, 41, 42, 43, 44, 45, 46, 47, 48, 49, 50, 51, 35, 52, 5, 53, 54, 55, 56, 57, 58, 59, 60, 61, 62, 63, 64, 65, 66, 67, 68, 69, 70] (by decide +kernel) (by decide +kernel)
set_option maxRecDepth 20000 in
theorem gX4_init_X4_beginEmpty : GoodIn wsX4_init (wsV RX4 42 RX4 yX4_beginEmpty wsX4_beginEmpty) := goodIn_app (goodIn_of _ (by decide +kernel)) ggX4_init_X4_beginEmpty
theorem dX4_init_0 : decode cX4_init 0 = .ok (.aload_n 0, 1) := by decide +kernel
theorem dX4_init_1 : decode cX4_init 1 = .ok (.invokespecial 3, 3) := by decide +kernel
theorem dX4_init_4 : decode cX4_init 4 = .ok (.aload_n 0, 1) := by decide +kernel
theorem dX4_init_5 : decode cX4_init 5 = .ok (.iconst 5, 1) := by decide +kernel
theorem dX4_init_6 : decode cX4_init 6 = .ok (.newarray .int, 2) := by decide +kernel
theorem dX4_init_8 : decode cX4_init 8 = .ok (.putfield 9, 3) := by decide +kernel
theorem dX4_init_11 : decode cX4_init 11 = .ok (.aload_n 0, 1) := by decide +kernel
theorem dX4_init_12 : decode cX4_init 12 = .ok (.iconst 4, 1) := by decide +kernel
theorem dX4_init_13 : decode cX4_init 13 = .ok (.anewarray 15, 3) := by decide +kernel
theorem dX4_init_16 : decode cX4_init 16 = .ok (.putfield 17, 3) := by decide +kernel
theorem dX4_init_19 : decode cX4_init 19 = .ok (.aload_n 0, 1) := by decide +kernel
theorem dX4_init_20 : decode cX4_init 20 = .ok (.bipush 10, 2) := by decide +kernel
theorem dX4_init_22 : decode cX4_init 22 = .ok (.anewarray 21, 3) := by decide +kernel
theorem dX4_init_25 : decode cX4_init 25 = .ok (.putfield 23, 3) := by decide +kernel
theorem dX4_init_28 : decode cX4_init 28 = .ok (.aload_n 0, 1) := by decide +kernel
theorem dX4_init_29 : decode cX4_init 29 = .ok (.bipush 40, 2) := by decide +kernel
theorem dX4_init_31 : decode cX4_init 31 = .ok (.anewarray 27, 3) := by decide +kernel
theorem dX4_init_34 : decode cX4_init 34 = .ok (.putfield 29, 3) := by decide +kernel
theorem dX4_init_37 : decode cX4_init 37 = .ok (.aload_n 0, 1) := by decide +kernel
theorem dX4_init_38 : decode cX4_init 38 = .ok (.bipush 20, 2) := by decide +kernel
theorem dX4_init_40 : decode cX4_init 40 = .ok (.newarray .int, 2) := by decide +kernel
theorem dX4_init_42 : decode cX4_init 42 = .ok (.putfield 33, 3) := by decide +kernel
theorem dX4_init_45 : decode cX4_init 45 = .ok (.aload_n 0, 1) := by decide +kernel
theorem dX4_init_46 : decode cX4_init 46 = .ok (.bipush 16, 2) := by decide +kernel
theorem dX4_init_48 : decode cX4_init 48 = .ok (.newarray .int, 2) := by decide +kernel
theorem dX4_init_50 : decode cX4_init 50 = .ok (.putfield 36, 3) := by decide +kernel
theorem dX4_init_53 : decode cX4_init 53 = .ok (.iconst 0, 1) := by decide +kernel
theorem dX4_init_54 : decode cX4_init 54 = .ok (.istore_n 1, 1) := by decide +kernel
theorem dX4_init_55 : decode cX4_init 55 = .ok (.iload_n 1, 1) := by decide +kernel
theorem dX4_init_56 : decode cX4_init 56 = .ok (.iconst 4, 1) := by decide +kernel
theorem dX4_init_57 : decode cX4_init 57 = .ok (.if_icmp .ge 22, 3) := by decide +kernel
theorem dX4_init_60 : decode cX4_init 60 = .ok (.aload_n 0, 1) := by decide +kernel
theorem dX4_init_61 : decode cX4_init 61 = .ok (.getfield 17, 3) := by decide +kernel
theorem dX4_init_64 : decode cX4_init 64 = .ok (.iload_n 1, 1) := by decide +kernel
theorem dX4_init_65 : decode cX4_init 65 = .ok (.new 15, 3) := by decide +kernel
theorem dX4_init_68 : decode cX4_init 68 = .ok (.dup, 1) := by decide +kernel
theorem dX4_init_69 : decode cX4_init 69 = .ok (.invokespecial 39, 3) := by decide +kernel
theorem dX4_init_72 : decode cX4_init 72 = .ok (.aastore, 1) := by decide +kernel
theorem dX4_init_73 : decode cX4_init 73 = .ok (.iinc 1 1, 3) := by decide +kernel
theorem dX4_init_76 : decode cX4_init 76 = .ok (.goto (-21), 3) := by decide +kernel
theorem dX4_init_79 : decode cX4_init 79 = .ok (.iconst 0, 1) := by decide +kernel
theorem dX4_init_80 : decode cX4_init 80 = .ok (.istore_n 1, 1) := by decide +kernel
theorem dX4_init_81 : decode cX4_init 81 = .ok (.iload_n 1, 1) := by decide +kernel
theorem dX4_init_82 : decode cX4_init 82 = .ok (.bipush 10, 2) := by decide +kernel
theorem dX4_init_84 : decode cX4_init 84 = .ok (.if_icmp .ge 22, 3) := by decide +kernel
theorem dX4_init_87 : decode cX4_init 87 = .ok (.aload_n 0, 1) := by decide +kernel
theorem dX4_init_88 : decode cX4_init 88 = .ok (.getfield 23, 3) := by decide +kernel
theorem dX4_init_91 : decode cX4_init 91 = .ok (.iload_n 1, 1) := by decide +kernel
theorem dX4_init_92 : decode cX4_init 92 = .ok (.new 21, 3) := by decide +kernel
theorem dX4_init_95 : decode cX4_init 95 = .ok (.dup, 1) := by decide +kernel
theorem dX4_init_96 : decode cX4_init 96 = .ok (.invokespecial 40, 3) := by decide +kernel
theorem dX4_init_99 : decode cX4_init 99 = .ok (.aastore, 1) := by decide +kernel
theorem dX4_init_100 : decode cX4_init 100 = .ok (.iinc 1 1, 3) := by decide +kernel
theorem dX4_init_103 : decode cX4_init 103 = .ok (.goto (-22), 3) := by decide +kernel
theorem dX4_init_106 : decode cX4_init 106 = .ok (.iconst 0, 1) := by decide +kernel
theorem dX4_init_107 : decode cX4_init 107 = .ok (.istore_n 1, 1) := by decide +kernel
theorem dX4_init_108 : decode cX4_init 108 = .ok (.iload_n 1, 1) := by decide +kernel
theorem dX4_init_109 : decode cX4_init 109 = .ok (.bipush 40, 2) := by decide +kernel
theorem dX4_init_111 : decode cX4_init 111 = .ok (.if_icmp .ge 22, 3) := by decide +kernel
theorem dX4_init_114 : decode cX4_init 114 = .ok (.aload_n 0, 1) := by decide +kernel
theorem dX4_init_115 : decode cX4_init 115 = .ok (.getfield 29, 3) := by decide +kernel
theorem dX4_init_118 : decode cX4_init 118 = .ok (.iload_n 1, 1) := by decide +kernel
theorem dX4_init_119 : decode cX4_init 119 = .ok (.new 27, 3) := by decide +kernel
theorem dX4_init_122 : decode cX4_init 122 = .ok (.dup, 1) := by decide +kernel
theorem dX4_init_123 : decode cX4_init 123 = .ok (.invokespecial 41, 3) := by decide +kernel
theorem dX4_init_126 : decode cX4_init 126 = .ok (.aastore, 1) := by decide +kernel
theorem dX4_init_127 : decode cX4_init 127 = .ok (.iinc 1 1, 3) := by decide +kernel
theorem dX4_init_130 : decode cX4_init 130 = .ok (.goto (-22), 3) := by decide +kernel
theorem dX4_init_133 : decode cX4_init 133 = .ok (.aload_n 0, 1) := by decide +kernel
theorem dX4_init_134 : decode cX4_init 134 = .ok (.invokevirtual 42, 3) := by decide +kernel
theorem dX4_init_137 : decode cX4_init 137 = .ok (.return_, 1) := by decide +kernel
theorem h_lt (a x : Nat) (h : 0 < x) : a < a + x := Nat.lt_add_of_pos_right h
theorem h_p (n x : Nat) : 0 < (n + 1) + x := by omega
theorem rB_of {a q : Nat} (h : a ≤ q) : rB a (a + 1) q := by
  by_cases e : q = a
  · exact Or.inl e
  · exact Or.inr (by omega)
theorem rB_ge {a q : Nat} (h : rB a (a + 1) q) : a ≤ q := by rcases h with h | h <;> omega
theorem rB_in {a v : Nat} (h : a < v) : ∀ q, rB v (v + 1) q → rB a (a + 1) q := fun q z => Or.inr (by rcases z with z | z <;> omega)
theorem va_D1 {A : Nat → Prop} {v : Nat} {e0 : va_E} (h : A v) : va_D A [(v, e0)] := ⟨fun i j x y h1 h2 _ => by
    have z1 : i < 1 := (List.getElem?_eq_some_iff.mp h1).1
    have z2 : j < 1 := (List.getElem?_eq_some_iff.mp h2).1
    omega, fun k q h2 => by
    have z1 : k < 1 := (List.getElem?_eq_some_iff.mp h2).1
    rw [show k = 0 by omega] at h2
    cases h2
    exact h⟩
theorem va_D4 {A : Nat → Prop} {v : Nat} {e0 e1 e2 e3 : va_E} (h : ∀ q, v ≤ q → A q) : va_D A [(v, e0), (v + 1, e1), (v + 2, e2), (v + 3, e3)] := by
  have key : ∀ (k : Nat) (q : Nat × va_E), ([(v, e0), (v + 1, e1), (v + 2, e2), (v + 3, e3)] : va_W)[k]? = some q → q.1 = v + k := by
    intro k q hq
    match k, hq with
    | 0, hq => cases hq; rfl
    | 1, hq => cases hq; rfl
    | 2, hq => cases hq; rfl
    | 3, hq => cases hq; rfl
    | k + 4, hq => simp at hq
  exact ⟨fun i j x y h1 h2 h3 => by rw [key i x h1, key j y h2] at h3; omega, fun k q hq => h _ (by rw [key k q hq]; omega)⟩
theorem rl_after {D : va_G} {A : Nat → Prop} {ws w1 : va_W} {H H2 H3 : Heap} {v : Nat} (hP : va_P D vwCl ws H) (hD : va_D A ws) (hz : H.size = v) (o2 : ∀ q : Nat, q < v → H2[q]? = H[q]?) (hz2 : H2.size = v + 1) (hk : ∀ q : Nat, q < H2.size → ¬ rB v (v + 1) q → H3[q]? = H2[q]?) (hP1 : va_P D vwCl w1 H3) (hD1 : va_D A w1) (h1 : ∀ q ∈ w1, v ≤ q.1) : va_P D vwCl (ws ++ w1) H3 ∧ va_D A (ws ++ w1) := by
  refine ⟨(hP.kept (fun k x hx => ?_)).app hP1, hD.app hD1 (fun i j x y hx hy e => ?_)⟩
  · have hl := (hP k x hx).lt
    rw [hk x.1 (by omega) (fun h => by rcases h with h | h <;> omega), o2 x.1 (by omega)]
  · have hl := (hP i x hx).lt
    have := h1 y (List.mem_of_getElem? hy)
    omega
theorem at_end {ws : va_W} {x : Nat × va_E} {w1 : va_W} {n : Nat} (h : ws.length = n) : (ws ++ x :: w1)[n]? = some x := by
  subst h
  simp
abbrev b7 (g : GT) (a : Nat) (f1 f2 f3 : Nat → Option Nat) : va_W := [(a, .inr (4, [.int 0, .ref (a + 1), .ref (a + 2), .int 0, .int 0, .ref (a + 3), .int 0, .int 0, .ref (a + 4), .int 0, .ref (a + 5), .int 0, .ref (a + 6), .int 0, .int 0, .int 0, .int 0, .int 0])), (a + 1, .inl (gy g 1, 5, .inl (fun _ => 0))), (a + 2, .inl (gy g 3, 4, .inr (.inr (.inr (.inr f1))))), (a + 3, .inl (gy g 4, 10, .inr (.inr (.inr (.inr f2))))), (a + 4, .inl (gy g 5, 40, .inr (.inr (.inr (.inr f3))))), (a + 5, .inl (gy g 1, 20, .inl (fun _ => 0))), (a + 6, .inl (gy g 1, 16, .inl (fun _ => 0)))]
abbrev dvC (a t : Nat) : Nat × va_E := (a + (7 + t), .inr (0, [.int 0, .int 0, .int 0]))
abbrev plC (g : GT) (a t : Nat) : va_W := [(a + (11 + 4 * t), .inr (3, [.int 0, .int 0, .int 0, .int 0, .int 0, .int 0, .ref (a + (11 + 4 * t) + 1), .ref (a + (11 + 4 * t) + 2), .ref (a + (11 + 4 * t) + 3)])), (a + (11 + 4 * t) + 1, .inl (gy g 1, 8, .inl (fun _ => 0))), (a + (11 + 4 * t) + 2, .inl (gy g 1, 8, .inl (fun _ => 0))), (a + (11 + 4 * t) + 3, .inl (gy g 1, 10, .inl (fun _ => 0)))]
abbrev vrC (a t : Nat) : Nat × va_E := (a + (51 + t), .inr (6, [.int 0, .int 0, .int 0, .int 0, .int 0, .int 0, .int 0]))
theorem plC_ge (g : GT) (a t : Nat) : ∀ x ∈ plC g a t, a + (11 + 4 * t) ≤ x.1 := by
  intro x hx
  simp at hx
  rcases hx with rfl | rfl | rfl | rfl <;> simp <;> omega
set_option maxHeartbeats 2000000 in
theorem b7_StB {g : GT} {a : Nat} {f1 f2 f3 : Nat → Option Nat} {R3 : va_W} {H : Heap} (hP : va_P (gD g) vwCl (b7 g a f1 f2 f3 ++ R3) H) (hf1 : ∀ t, t < 4 → f1 t = some (a + (7 + t))) (hf2 : ∀ t, t < 10 → f2 t = some (a + (11 + 4 * t))) (hf3 : ∀ t, t < 40 → f3 t = some (a + (51 + t))) (hm1 : ∀ t, t < 4 → dvC a t ∈ R3) (hm2 : ∀ t, t < 10 → ∀ x ∈ plC g a t, x ∈ R3) (hm3 : ∀ t, t < 40 → vrC a t ∈ R3) : StB g a (fun _ _ _ => 0) H := by
  have hat : ∀ x ∈ R3, va_at (gD g) vwCl x H := fun x hx => by
    obtain ⟨i, hi⟩ := List.getElem?_of_mem (List.mem_append_right (b7 g a f1 f2 f3) hx)
    exact hP i x hi
  intro k j hk hj
  rw [cellS_Z hk]
  have e1 : a + (11 + 4 * j) + 1 = a + (12 + 4 * j) := by omega
  have e2 : a + (11 + 4 * j) + 2 = a + (13 + 4 * j) := by omega
  have e3 : a + (11 + 4 * j) + 3 = a + (14 + 4 * j) := by omega
  rcases grp0 hk with rfl | rfl | rfl | rfl | ⟨h1, h2⟩
  · exact hat (dvC a j) (hm1 j hj)
  · have h := hat _ (hm2 j hj _ List.mem_cons_self)
    rw [e1, e2, e3] at h
    exact h
  · have hj : j < 1 := hj
    have : j = 0 := by omega
    subst this
    have h := hP 0 _ rfl
    exact h
  · exact hat (vrC a j) (hm3 j hj)
  · rcases (show k = 10 ∨ k = 11 ∨ k = 12 ∨ k = 13 ∨ k = 14 ∨ k = 15 ∨ k = 16 ∨ k = 17 ∨ k = 18 by omega) with rfl | rfl | rfl | rfl | rfl | rfl | rfl | rfl | rfl
    · have h := hP 1 _ rfl
      exact h
    · have h : H[a + 2]? = some (vp_cell (gy g 3) (4, .inr (.inr (.inr (.inr f1))))) := hP 2 _ rfl
      show H[a + 2]? = some (vp_cell (gy g 3) (4, .inr (.inr (.inr (.inr (fun t => some (adr a 0 t)))))))
      rw [h, vp_cell_q, vp_cell_q]
      exact congrArg some (arrV_congr (fun t ht => by rw [hf1 t ht]; rfl))
    · have h : H[a + 3]? = some (vp_cell (gy g 4) (10, .inr (.inr (.inr (.inr f2))))) := hP 3 _ rfl
      show H[a + 3]? = some (vp_cell (gy g 4) (10, .inr (.inr (.inr (.inr (fun t => some (adr a 3 t)))))))
      rw [h, vp_cell_q, vp_cell_q]
      exact congrArg some (arrV_congr (fun t ht => by rw [hf2 t ht]; rfl))
    · have h : H[a + 4]? = some (vp_cell (gy g 5) (40, .inr (.inr (.inr (.inr f3))))) := hP 4 _ rfl
      show H[a + 4]? = some (vp_cell (gy g 5) (40, .inr (.inr (.inr (.inr (fun t => some (adr a 6 t)))))))
      rw [h, vp_cell_q, vp_cell_q]
      exact congrArg some (arrV_congr (fun t ht => by rw [hf3 t ht]; rfl))
    · have h := hP 5 _ rfl
      exact h
    · have h := hP 6 _ rfl
      exact h
    · have h := hat _ (hm2 j hj _ (List.mem_cons_of_mem _ List.mem_cons_self))
      rw [e1] at h
      exact h
    · have h := hat _ (hm2 j hj _ (List.mem_cons_of_mem _ (List.mem_cons_of_mem _ List.mem_cons_self)))
      rw [e2] at h
      exact h
    · have h := hat _ (hm2 j hj _ (List.mem_cons_of_mem _ (List.mem_cons_of_mem _ (List.mem_cons_of_mem _ List.mem_cons_self))))
      rw [e3] at h
      exact h
theorem b7_s1 (g : GT) (a : Nat) (f1 f2 f3 f : Nat → Option Nat) (R w : va_W) : List.set (b7 g a f1 f2 f3 ++ R ++ w) 2 (a + 2, .inl (gy g 3, 4, .inr (.inr (.inr (.inr f))))) = b7 g a f f2 f3 ++ (R ++ w) := by
  rw [List.append_assoc]
  rfl
theorem b7_s2 (g : GT) (a : Nat) (f1 f2 f3 f : Nat → Option Nat) (R w : va_W) : List.set (b7 g a f1 f2 f3 ++ R ++ w) 3 (a + 3, .inl (gy g 4, 10, .inr (.inr (.inr (.inr f))))) = b7 g a f1 f f3 ++ (R ++ w) := by
  rw [List.append_assoc]
  rfl
theorem b7_s3 (g : GT) (a : Nat) (f1 f2 f3 f : Nat → Option Nat) (R w : va_W) : List.set (b7 g a f1 f2 f3 ++ R ++ w) 4 (a + 4, .inl (gy g 5, 40, .inr (.inr (.inr (.inr f))))) = b7 g a f1 f2 f ++ (R ++ w) := by
  rw [List.append_assoc]
  rfl
abbrev rm_X4_init : Room := { frames := 2, cells := 90, slots := 737, locals := 45 }
set_option maxRecDepth 100000 in
set_option maxHeartbeats 4000000 in
theorem lp55 {p : Program} {l : Launch} {e : Env} {s : State} {m : MethodId} {below : List Frame} {meth : Method} {c : Code} {Q : State → Prop} {g : GT} {a : Nat} (hx : p.tables.exec = Jvm.exec) (hb : c.code = cX4_init) (hml : c.maxLocals = 2) (hts : ∀ w ∈ wsX4_init, w.before [Value.ref a].toArray s = true) (hown : s.vm.findClass RX4 = some m.cls) (hK : wK g s) (hg : g.1 ≤ a) (hAg : ∀ q, rB a (a + 1) q → gA g q) : ∀ (R0 : va_W) (n d : Nat) (f : Nat → Option Nat) (R : va_W) (ls : Array Slot) (H : Heap) (locs : List Loc), d + n = 4 → (∀ t, t < d → f t = some (a + (7 + t))) → (∀ t, t < d → dvC a t ∈ R) → (∀ x ∈ R0, x ∈ R) → lv_has ls 2 [(0, .ref a), (1, .int (nI d))] → H.size = a + (7 + d) → va_P (gD g) vwCl (b7 g a f (fun _ => none) (fun _ => none) ++ R) H → va_D (rB a (a + 1)) (b7 g a f (fun _ => none) (fun _ => none) ++ R) → va_S (rB a (a + 1)) s.heap H locs → (∀ (f : Nat → Option Nat) (R : va_W) (ls : Array Slot) (H : Heap) (locs : List Loc), (∀ t, t < 4 → f t = some (a + (7 + t))) → (∀ t, t < 4 → dvC a t ∈ R) → (∀ x ∈ R0, x ∈ R) → lv_has ls 2 [(0, .ref a), (1, .int (nI 4))] → H.size = a + 11 → va_P (gD g) vwCl (b7 g a f (fun _ => none) (fun _ => none) ++ R) H → va_D (rB a (a + 1)) (b7 g a f (fun _ => none) (fun _ => none) ++ R) → va_S (rB a (a + 1)) s.heap H locs → W p l e rm_X4_init s m [.ref a].toArray below meth c H locs (10) (107) Q (F0 m 79 ls [])) → W p l e rm_X4_init s m [.ref a].toArray below meth c H locs (6 + d) (95 + 3 * d) Q (F0 m 55 ls []) := by
  have i_4 : ∀ w ∈ u_ws RX4 TX4 18, w ∈ wsX4_init := by decide +kernel
  have i_0 : ∀ w ∈ u_ws RX0 TX0 3, w ∈ wsX4_init := by decide +kernel
  have nw_X0 : va_Nw (.methodLinkNest RX4 39 yX0_init RX7) s := hK.2.2.2.2.2.2.2.2.2 0 (by decide)
  have cw_X0 : va_CN rm_X4_init s [.ref a].toArray RX4 39 yX0_init RX7 cX0_init 1 none wsX0_init rm_X0_init 0 0 0 ∧ yX0_init.name = "<init>" ∧ (Cond.instanceMethod yX0_init).before [.ref a].toArray s = true := ⟨va_cnB 0 hts gX4_init_X0_init_n39 rfl rfl rfl nw_X0 (hts (.initialized RX0) (by decide +kernel)) (by decide +kernel) ⟨Nat.le_of_ble_eq_true rfl, Nat.le_of_ble_eq_true rfl⟩, rfl, hts (.instanceMethod yX0_init) (by decide +kernel)⟩
  intro R0 n
  induction n with
  | zero =>
    intro d f R ls H locs hd hf hm hR hl hz hP hD hS K
    have hd : d = 4 := by omega
    subst hd
    refine lv_iload_n hx hb dX4_init_55 rfl (lv_at hl 1 rfl) ?_
    refine lv_iconst (v := 4) hx hb dX4_init_56 (by decide) ?_
    refine lv_icmp_ge (tgt := 79) hx hb dX4_init_57 (by decide) (fun hc => ?_) (fun hc => absurd (by decide) hc)
    exact K f R ls H locs hf hm hR hl hz hP hD hS
  | succ n ih =>
    intro d f R ls H locs hd hf hm hR hl hz hP hD hS K
    have hdN : d < 4 := Nat.lt_of_lt_of_eq (Nat.lt_add_of_pos_right (Nat.succ_pos n)) hd
    refine lv_iload_n hx hb dX4_init_55 rfl (lv_at hl 1 rfl) ?_
    refine lv_iconst (v := 4) hx hb dX4_init_56 (by decide) ?_
    refine lv_icmp_ge (tgt := 79) hx hb dX4_init_57 (by decide) (fun hc => absurd hc (nI_ge (a := d) (b := 4) hdN (by decide))) (fun hc => ?_)
    refine lv_aload_n hx hb dX4_init_60 rfl (lv_at hl 0 rfl) ?_
    refine va_get (D := gD g) (ci := 4) (v := .ref (a + 2)) (C := RX4) (T := TX4) (N := 18) hx hb hts i_4 hown hK.1 hP 0 rfl rfl 2 (by decide) (hts (.fieldLink RX4 17 "OpticalJukebox$State" "drives" "[LOpticalJukebox$Drive;") (by decide +kernel)) (fun _ h => h) rfl dX4_init_61 ?_
    refine lv_iload_n hx hb dX4_init_64 rfl (lv_at hl 1 rfl) ?_
    refine rl_new (ci := 0) (fs := [.int 0, .int 0, .int 0]) hx hb hts i_0 tyX0 tyX0_ok hown (hts (.classLink RX4 15 RX0) (by decide +kernel)) (hts (.instantiable RX0 3) (by decide +kernel)) (hts (.initialized RX0) (by decide +kernel)) hK hP hD hS hz (Or.inr (h_lt _ _ (h_p _ _))) rfl (fun j hj => by rcases (show j = 0 ∨ j = 1 ∨ j = 2 by omega) with rfl | rfl | rfl <;> rfl) (by show _ ≤ 90; omega) (by show _ ≤ 737; omega) dX4_init_65 (fun H2 hz2 ho2 hP2 hD2 hS2 => ?_)
    refine lv_dup hx hb dX4_init_68 rfl ?_
    have hP1 : va_P (gD g) vwCl [((a + (7 + d)), .inr (0, [.int 0, .int 0, .int 0]))] H2 := fun k x hk => by
      have z1 : k < 1 := (List.getElem?_eq_some_iff.mp hk).1
      rw [show k = 0 by omega] at hk
      exact hP2 (7 + R.length) x (by rw [at_end (by simp; omega)]; exact hk)
    have hq1 : ∀ q, rB (a + (7 + d)) ((a + (7 + d)) + 1) q → rB a (a + 1) q := rB_in (h_lt _ _ (h_p _ _))
    refine va_callv (va_runIN (As := []) (rest := [.ref (a + (7 + d)), .int (nI d), .ref (a + 2)]) ⟨hx, hb, hml, hown, hts⟩ (rc_X0_init l g H2 (a + (7 + d)) ((a + (7 + d)) + 1) hz2 (Nat.lt_succ_self _) (Nat.le_trans hg (Nat.le_add_right _ _)) hP1) cw_X0 ⟨r_blind, fun U hU hWm => ⟨rfl, hK.to (va_S_wk hS2 hAg) hU hWm, hU⟩⟩ rfl rfl hl.1 rfl (lv_room (Nat.le_of_ble_eq_true rfl)) dX4_init_69 ⟨by show _ ≤ 90; omega, by show _ ≤ 737; omega⟩) hS2 (fun q _ h => hq1 q h) hq1 (fun u t H3 locs3 ht hvm hw hB hz3 hk3 hS3 => ?_)
    rw [ht] at hB
    obtain ⟨-, hz3, hP3⟩ := hB
    obtain ⟨hP3, hD3⟩ := rl_after hP hD hz ho2 hz2 hk3 hP3 (va_D1 (Or.inr (h_lt _ _ (h_p _ _)))) (fun x hx => by rw [List.mem_singleton.mp hx]; exact Nat.le_refl _)
    refine rl_aast hx hb hK hP3 hD3 hS3 hz3 2 (7 + R.length) 0 (r := (RX0, TX0, 3)) (v := (a + (7 + d))) rfl (hK.1.2 3 _ rfl).2 (at_end (by simp; omega)) rfl (nI_in (c := d) (N := 4) hdN (by decide)) dX4_init_72 (fun H locs hz hP hD hS => ?_)
    have hcl : (nI d).toNatClampNeg = d := nI_clamp (Nat.lt_of_lt_of_le hdN (Nat.le_of_ble_eq_true rfl))
    rw [hcl, b7_s1] at hP hD
    refine lv_iinc (v := nI (d + 1)) (lv' := [(1, .int (nI (d + 1))), (0, .ref a)]) hx hb dX4_init_73 hl (k := 1) rfl (nI_1 d) (by decide) rfl (fun ls hl => ?_)
    refine lv_goto (tgt := 55) hx hb dX4_init_76 (by decide) ?_
    refine W.cs (cells' := 6 + (d + 1)) (slots' := 95 + 3 * (d + 1)) (by omega) (by omega) ?_
    exact ih (d + 1) (va_up f d (some (a + (7 + d)))) (R ++ [dvC a d]) ls H locs (by omega) (fun t ht => by
      by_cases h : t = d
      · subst h; exact va_up_self _ _ _
      · rw [va_up_ne _ _ h]; exact hf t (by omega)) (fun t ht => by
      by_cases h : t = d
      · subst h; exact List.mem_append_right _ (List.mem_singleton.mpr rfl)
      · exact List.mem_append_left _ (hm t (by omega))) (fun x hx => List.mem_append_left _ (hR x hx)) (lv_sub hl [1, 0] rfl) (by rw [hz]; omega) hP hD hS K
set_option maxRecDepth 100000 in
set_option maxHeartbeats 4000000 in
theorem lp81 {p : Program} {l : Launch} {e : Env} {s : State} {m : MethodId} {below : List Frame} {meth : Method} {c : Code} {Q : State → Prop} {g : GT} {a : Nat} (hx : p.tables.exec = Jvm.exec) (hb : c.code = cX4_init) (hml : c.maxLocals = 2) (hts : ∀ w ∈ wsX4_init, w.before [Value.ref a].toArray s = true) (hown : s.vm.findClass RX4 = some m.cls) (hK : wK g s) (hg : g.1 ≤ a) (hAg : ∀ q, rB a (a + 1) q → gA g q) : ∀ (f1 : Nat → Option Nat) (R0 : va_W) (n d : Nat) (f : Nat → Option Nat) (R : va_W) (ls : Array Slot) (H : Heap) (locs : List Loc), d + n = 10 → (∀ t, t < d → f t = some (a + (11 + 4 * t))) → (∀ t, t < d → ∀ x ∈ plC g a t, x ∈ R) → (∀ x ∈ R0, x ∈ R) → lv_has ls 2 [(0, .ref a), (1, .int (nI d))] → H.size = a + (11 + 4 * d) → va_P (gD g) vwCl (b7 g a f1 f (fun _ => none) ++ R) H → va_D (rB a (a + 1)) (b7 g a f1 f (fun _ => none) ++ R) → va_S (rB a (a + 1)) s.heap H locs → (∀ (f : Nat → Option Nat) (R : va_W) (ls : Array Slot) (H : Heap) (locs : List Loc), (∀ t, t < 10 → f t = some (a + (11 + 4 * t))) → (∀ t, t < 10 → ∀ x ∈ plC g a t, x ∈ R) → (∀ x ∈ R0, x ∈ R) → lv_has ls 2 [(0, .ref a), (1, .int (nI 10))] → H.size = a + 51 → va_P (gD g) vwCl (b7 g a f1 f (fun _ => none) ++ R) H → va_D (rB a (a + 1)) (b7 g a f1 f (fun _ => none) ++ R) → va_S (rB a (a + 1)) s.heap H locs → W p l e rm_X4_init s m [.ref a].toArray below meth c H locs (50) (457) Q (F0 m 106 ls [])) → W p l e rm_X4_init s m [.ref a].toArray below meth c H locs (10 + 4 * d) (107 + 35 * d) Q (F0 m 81 ls []) := by
  have i_4 : ∀ w ∈ u_ws RX4 TX4 18, w ∈ wsX4_init := by decide +kernel
  have i_3 : ∀ w ∈ u_ws RX3 TX3 9, w ∈ wsX4_init := by decide +kernel
  have nw_X3 : va_Nw (.methodLinkNest RX4 40 yX3_init RX7) s := hK.2.2.2.2.2.2.2.2.2 1 (by decide)
  have cw_X3 : va_CN rm_X4_init s [.ref a].toArray RX4 40 yX3_init RX7 cX3_init 1 none wsX3_init rm_X3_init 3 26 0 ∧ yX3_init.name = "<init>" ∧ (Cond.instanceMethod yX3_init).before [.ref a].toArray s = true := ⟨va_cnB 0 hts gX4_init_X3_init_n40 rfl rfl rfl nw_X3 (hts (.initialized RX3) (by decide +kernel)) (by decide +kernel) ⟨Nat.le_of_ble_eq_true rfl, Nat.le_of_ble_eq_true rfl⟩, rfl, hts (.instanceMethod yX3_init) (by decide +kernel)⟩
  intro f1 R0 n
  induction n with
  | zero =>
    intro d f R ls H locs hd hf hm hR hl hz hP hD hS K
    have hd : d = 10 := by omega
    subst hd
    refine lv_iload_n hx hb dX4_init_81 rfl (lv_at hl 1 rfl) ?_
    refine lv_bipush (v := 10) hx hb dX4_init_82 (by decide) ?_
    refine lv_icmp_ge (tgt := 106) hx hb dX4_init_84 (by decide) (fun hc => ?_) (fun hc => absurd (by decide) hc)
    exact K f R ls H locs hf hm hR hl hz hP hD hS
  | succ n ih =>
    intro d f R ls H locs hd hf hm hR hl hz hP hD hS K
    have hdN : d < 10 := Nat.lt_of_lt_of_eq (Nat.lt_add_of_pos_right (Nat.succ_pos n)) hd
    refine lv_iload_n hx hb dX4_init_81 rfl (lv_at hl 1 rfl) ?_
    refine lv_bipush (v := 10) hx hb dX4_init_82 (by decide) ?_
    refine lv_icmp_ge (tgt := 106) hx hb dX4_init_84 (by decide) (fun hc => absurd hc (nI_ge (a := d) (b := 10) hdN (by decide))) (fun hc => ?_)
    refine lv_aload_n hx hb dX4_init_87 rfl (lv_at hl 0 rfl) ?_
    refine va_get (D := gD g) (ci := 4) (v := .ref (a + 3)) (C := RX4) (T := TX4) (N := 18) hx hb hts i_4 hown hK.1 hP 0 rfl rfl 5 (by decide) (hts (.fieldLink RX4 23 "OpticalJukebox$State" "platters" "[LOpticalJukebox$Platter;") (by decide +kernel)) (fun _ h => h) rfl dX4_init_88 ?_
    refine lv_iload_n hx hb dX4_init_91 rfl (lv_at hl 1 rfl) ?_
    refine rl_new (ci := 3) (fs := [.int 0, .int 0, .int 0, .int 0, .int 0, .int 0, .null, .null, .null]) hx hb hts i_3 tyX3 tyX3_ok hown (hts (.classLink RX4 21 RX3) (by decide +kernel)) (hts (.instantiable RX3 9) (by decide +kernel)) (hts (.initialized RX3) (by decide +kernel)) hK hP hD hS hz (Or.inr (h_lt _ _ (h_p _ _))) rfl (fun j hj => by rcases (show j = 0 ∨ j = 1 ∨ j = 2 ∨ j = 3 ∨ j = 4 ∨ j = 5 ∨ j = 6 ∨ j = 7 ∨ j = 8 by omega) with rfl | rfl | rfl | rfl | rfl | rfl | rfl | rfl | rfl <;> rfl) (by show _ ≤ 90; omega) (by show _ ≤ 737; omega) dX4_init_92 (fun H2 hz2 ho2 hP2 hD2 hS2 => ?_)
    refine lv_dup hx hb dX4_init_95 rfl ?_
    have hP1 : va_P (gD g) vwCl [((a + (11 + 4 * d)), .inr (3, [.int 0, .int 0, .int 0, .int 0, .int 0, .int 0, .null, .null, .null]))] H2 := fun k x hk => by
      have z1 : k < 1 := (List.getElem?_eq_some_iff.mp hk).1
      rw [show k = 0 by omega] at hk
      exact hP2 (7 + R.length) x (by rw [at_end (by simp; omega)]; exact hk)
    have hq1 : ∀ q, rB (a + (11 + 4 * d)) ((a + (11 + 4 * d)) + 1) q → rB a (a + 1) q := rB_in (h_lt _ _ (h_p _ _))
    refine va_callv (va_runIN (As := []) (rest := [.ref (a + (11 + 4 * d)), .int (nI d), .ref (a + 3)]) ⟨hx, hb, hml, hown, hts⟩ (rc_X3_init l g H2 (a + (11 + 4 * d)) ((a + (11 + 4 * d)) + 1) hz2 (Nat.lt_succ_self _) (Nat.le_trans hg (Nat.le_add_right _ _)) hP1) cw_X3 ⟨r_blind, fun U hU hWm => ⟨rfl, hK.to (va_S_wk hS2 hAg) hU hWm, hU⟩⟩ rfl rfl hl.1 rfl (lv_room (Nat.le_of_ble_eq_true rfl)) dX4_init_96 ⟨by show _ ≤ 90; omega, by show _ ≤ 737; omega⟩) hS2 (fun q _ h => hq1 q h) hq1 (fun u t H3 locs3 ht hvm hw hB hz3 hk3 hS3 => ?_)
    rw [ht] at hB
    obtain ⟨-, hz3, hP3⟩ := hB
    obtain ⟨hP3, hD3⟩ := rl_after hP hD hz ho2 hz2 hk3 hP3 (va_D4 (fun q h => Or.inr (Nat.le_trans (h_lt _ _ (h_p _ _)) h))) (plC_ge g a d)
    refine rl_aast hx hb hK hP3 hD3 hS3 hz3 3 (7 + R.length) 3 (r := (RX3, TX3, 9)) (v := (a + (11 + 4 * d))) rfl (hK.1.2 4 _ rfl).2 (at_end (by simp; omega)) rfl (nI_in (c := d) (N := 10) hdN (by decide)) dX4_init_99 (fun H locs hz hP hD hS => ?_)
    have hcl : (nI d).toNatClampNeg = d := nI_clamp (Nat.lt_of_lt_of_le hdN (Nat.le_of_ble_eq_true rfl))
    rw [hcl, b7_s2] at hP hD
    refine lv_iinc (v := nI (d + 1)) (lv' := [(1, .int (nI (d + 1))), (0, .ref a)]) hx hb dX4_init_100 hl (k := 1) rfl (nI_1 d) (by decide) rfl (fun ls hl => ?_)
    refine lv_goto (tgt := 81) hx hb dX4_init_103 (by decide) ?_
    refine W.cs (cells' := 10 + 4 * (d + 1)) (slots' := 107 + 35 * (d + 1)) (by omega) (by omega) ?_
    exact ih (d + 1) (va_up f d (some (a + (11 + 4 * d)))) (R ++ plC g a d) ls H locs (by omega) (fun t ht => by
      by_cases h : t = d
      · subst h; exact va_up_self _ _ _
      · rw [va_up_ne _ _ h]; exact hf t (by omega)) (fun t ht x hx => by
      by_cases h : t = d
      · subst h; exact List.mem_append_right _ hx
      · exact List.mem_append_left _ (hm t (by omega) x hx)) (fun x hx => List.mem_append_left _ (hR x hx)) (lv_sub hl [1, 0] rfl) (by rw [hz]; omega) hP hD hS K
set_option maxRecDepth 100000 in
set_option maxHeartbeats 4000000 in
theorem lp108 {p : Program} {l : Launch} {e : Env} {s : State} {m : MethodId} {below : List Frame} {meth : Method} {c : Code} {Q : State → Prop} {g : GT} {a : Nat} (hx : p.tables.exec = Jvm.exec) (hb : c.code = cX4_init) (hml : c.maxLocals = 2) (hts : ∀ w ∈ wsX4_init, w.before [Value.ref a].toArray s = true) (hown : s.vm.findClass RX4 = some m.cls) (hK : wK g s) (hg : g.1 ≤ a) (hAg : ∀ q, rB a (a + 1) q → gA g q) : ∀ (f1 : Nat → Option Nat) (f2 : Nat → Option Nat) (R0 : va_W) (n d : Nat) (f : Nat → Option Nat) (R : va_W) (ls : Array Slot) (H : Heap) (locs : List Loc), d + n = 40 → (∀ t, t < d → f t = some (a + (51 + t))) → (∀ t, t < d → vrC a t ∈ R) → (∀ x ∈ R0, x ∈ R) → lv_has ls 2 [(0, .ref a), (1, .int (nI d))] → H.size = a + (51 + d) → va_P (gD g) vwCl (b7 g a f1 f2 f ++ R) H → va_D (rB a (a + 1)) (b7 g a f1 f2 f ++ R) → va_S (rB a (a + 1)) s.heap H locs → (∀ (f : Nat → Option Nat) (R : va_W) (ls : Array Slot) (H : Heap) (locs : List Loc), (∀ t, t < 40 → f t = some (a + (51 + t))) → (∀ t, t < 40 → vrC a t ∈ R) → (∀ x ∈ R0, x ∈ R) → lv_has ls 2 [(0, .ref a), (1, .int (nI 40))] → H.size = a + 91 → va_P (gD g) vwCl (b7 g a f1 f2 f ++ R) H → va_D (rB a (a + 1)) (b7 g a f1 f2 f ++ R) → va_S (rB a (a + 1)) s.heap H locs → W p l e rm_X4_init s m [.ref a].toArray below meth c H locs (90) (737) Q (F0 m 133 ls [])) → W p l e rm_X4_init s m [.ref a].toArray below meth c H locs (50 + d) (457 + 7 * d) Q (F0 m 108 ls []) := by
  have i_4 : ∀ w ∈ u_ws RX4 TX4 18, w ∈ wsX4_init := by decide +kernel
  have i_6 : ∀ w ∈ u_ws RX6 TX6 7, w ∈ wsX4_init := by decide +kernel
  have nw_X6 : va_Nw (.methodLinkNest RX4 41 yX6_init RX7) s := hK.2.2.2.2.2.2.2.2.2 2 (by decide)
  have cw_X6 : va_CN rm_X4_init s [.ref a].toArray RX4 41 yX6_init RX7 cX6_init 1 none wsX6_init rm_X6_init 0 0 0 ∧ yX6_init.name = "<init>" ∧ (Cond.instanceMethod yX6_init).before [.ref a].toArray s = true := ⟨va_cnB 0 hts gX4_init_X6_init_n41 rfl rfl rfl nw_X6 (hts (.initialized RX6) (by decide +kernel)) (by decide +kernel) ⟨Nat.le_of_ble_eq_true rfl, Nat.le_of_ble_eq_true rfl⟩, rfl, hts (.instanceMethod yX6_init) (by decide +kernel)⟩
  intro f1 f2 R0 n
  induction n with
  | zero =>
    intro d f R ls H locs hd hf hm hR hl hz hP hD hS K
    have hd : d = 40 := by omega
    subst hd
    refine lv_iload_n hx hb dX4_init_108 rfl (lv_at hl 1 rfl) ?_
    refine lv_bipush (v := 40) hx hb dX4_init_109 (by decide) ?_
    refine lv_icmp_ge (tgt := 133) hx hb dX4_init_111 (by decide) (fun hc => ?_) (fun hc => absurd (by decide) hc)
    exact K f R ls H locs hf hm hR hl hz hP hD hS
  | succ n ih =>
    intro d f R ls H locs hd hf hm hR hl hz hP hD hS K
    have hdN : d < 40 := Nat.lt_of_lt_of_eq (Nat.lt_add_of_pos_right (Nat.succ_pos n)) hd
    refine lv_iload_n hx hb dX4_init_108 rfl (lv_at hl 1 rfl) ?_
    refine lv_bipush (v := 40) hx hb dX4_init_109 (by decide) ?_
    refine lv_icmp_ge (tgt := 133) hx hb dX4_init_111 (by decide) (fun hc => absurd hc (nI_ge (a := d) (b := 40) hdN (by decide))) (fun hc => ?_)
    refine lv_aload_n hx hb dX4_init_114 rfl (lv_at hl 0 rfl) ?_
    refine va_get (D := gD g) (ci := 4) (v := .ref (a + 4)) (C := RX4) (T := TX4) (N := 18) hx hb hts i_4 hown hK.1 hP 0 rfl rfl 8 (by decide) (hts (.fieldLink RX4 29 "OpticalJukebox$State" "versions" "[LOpticalJukebox$Version;") (by decide +kernel)) (fun _ h => h) rfl dX4_init_115 ?_
    refine lv_iload_n hx hb dX4_init_118 rfl (lv_at hl 1 rfl) ?_
    refine rl_new (ci := 6) (fs := [.int 0, .int 0, .int 0, .int 0, .int 0, .int 0, .int 0]) hx hb hts i_6 tyX6 tyX6_ok hown (hts (.classLink RX4 27 RX6) (by decide +kernel)) (hts (.instantiable RX6 7) (by decide +kernel)) (hts (.initialized RX6) (by decide +kernel)) hK hP hD hS hz (Or.inr (h_lt _ _ (h_p _ _))) rfl (fun j hj => by rcases (show j = 0 ∨ j = 1 ∨ j = 2 ∨ j = 3 ∨ j = 4 ∨ j = 5 ∨ j = 6 by omega) with rfl | rfl | rfl | rfl | rfl | rfl | rfl <;> rfl) (by show _ ≤ 90; omega) (by show _ ≤ 737; omega) dX4_init_119 (fun H2 hz2 ho2 hP2 hD2 hS2 => ?_)
    refine lv_dup hx hb dX4_init_122 rfl ?_
    have hP1 : va_P (gD g) vwCl [((a + (51 + d)), .inr (6, [.int 0, .int 0, .int 0, .int 0, .int 0, .int 0, .int 0]))] H2 := fun k x hk => by
      have z1 : k < 1 := (List.getElem?_eq_some_iff.mp hk).1
      rw [show k = 0 by omega] at hk
      exact hP2 (7 + R.length) x (by rw [at_end (by simp; omega)]; exact hk)
    have hq1 : ∀ q, rB (a + (51 + d)) ((a + (51 + d)) + 1) q → rB a (a + 1) q := rB_in (h_lt _ _ (h_p _ _))
    refine va_callv (va_runIN (As := []) (rest := [.ref (a + (51 + d)), .int (nI d), .ref (a + 4)]) ⟨hx, hb, hml, hown, hts⟩ (rc_X6_init l g H2 (a + (51 + d)) ((a + (51 + d)) + 1) hz2 (Nat.lt_succ_self _) (Nat.le_trans hg (Nat.le_add_right _ _)) hP1) cw_X6 ⟨r_blind, fun U hU hWm => ⟨rfl, hK.to (va_S_wk hS2 hAg) hU hWm, hU⟩⟩ rfl rfl hl.1 rfl (lv_room (Nat.le_of_ble_eq_true rfl)) dX4_init_123 ⟨by show _ ≤ 90; omega, by show _ ≤ 737; omega⟩) hS2 (fun q _ h => hq1 q h) hq1 (fun u t H3 locs3 ht hvm hw hB hz3 hk3 hS3 => ?_)
    rw [ht] at hB
    obtain ⟨-, hz3, hP3⟩ := hB
    obtain ⟨hP3, hD3⟩ := rl_after hP hD hz ho2 hz2 hk3 hP3 (va_D1 (Or.inr (h_lt _ _ (h_p _ _)))) (fun x hx => by rw [List.mem_singleton.mp hx]; exact Nat.le_refl _)
    refine rl_aast hx hb hK hP3 hD3 hS3 hz3 4 (7 + R.length) 6 (r := (RX6, TX6, 7)) (v := (a + (51 + d))) rfl (hK.1.2 5 _ rfl).2 (at_end (by simp; omega)) rfl (nI_in (c := d) (N := 40) hdN (by decide)) dX4_init_126 (fun H locs hz hP hD hS => ?_)
    have hcl : (nI d).toNatClampNeg = d := nI_clamp (Nat.lt_of_lt_of_le hdN (Nat.le_of_ble_eq_true rfl))
    rw [hcl, b7_s3] at hP hD
    refine lv_iinc (v := nI (d + 1)) (lv' := [(1, .int (nI (d + 1))), (0, .ref a)]) hx hb dX4_init_127 hl (k := 1) rfl (nI_1 d) (by decide) rfl (fun ls hl => ?_)
    refine lv_goto (tgt := 108) hx hb dX4_init_130 (by decide) ?_
    refine W.cs (cells' := 50 + (d + 1)) (slots' := 457 + 7 * (d + 1)) (by omega) (by omega) ?_
    exact ih (d + 1) (va_up f d (some (a + (51 + d)))) (R ++ [vrC a d]) ls H locs (by omega) (fun t ht => by
      by_cases h : t = d
      · subst h; exact va_up_self _ _ _
      · rw [va_up_ne _ _ h]; exact hf t (by omega)) (fun t ht => by
      by_cases h : t = d
      · subst h; exact List.mem_append_right _ (List.mem_singleton.mpr rfl)
      · exact List.mem_append_left _ (hm t (by omega))) (fun x hx => List.mem_append_left _ (hR x hx)) (lv_sub hl [1, 0] rfl) (by rw [hz]; omega) hP hD hS K
set_option maxRecDepth 100000 in
set_option maxHeartbeats 8000000 in
theorem rc_X4_init (l : Launch) (g : GT) (H0 : Heap) (a z : Nat) (hz : H0.size = z) (hzA : z = a + 1) (hg : g.1 ≤ a) (hP0 : va_P (gD g) vwCl [(a, .inr (4, [.int 0, .null, .null, .int 0, .int 0, .null, .int 0, .int 0, .null, .int 0, .null, .int 0, .null, .int 0, .int 0, .int 0, .int 0, .int 0]))] H0) {sd0 : SD} (h0 : f_X4_beginEmpty (fun _ _ _ => 0) = some sd0) : Met l yX4_init wsX4_init rm_X4_init (rPre g H0 [.ref a]) (rQv g (rB a z) (fun H => H.size = a + 91 ∧ StB g a sd0 H)) 90 737 (rB a z) := by
  have i_4 : ∀ w ∈ u_ws RX4 TX4 18, w ∈ wsX4_init := by decide +kernel
  have ha : a < z := by omega
  refine r_met (by decide) rfl (Nat.le_of_ble_eq_true rfl) ?_
  intro p e s m below meth c hx hb hr hml hts hown hlocks hin hK hH ls hl
  have hown : s.vm.findClass RX4 = some m.cls := hown
  have hin : meth.name = "<init>" := hin
  have hl : lv_has ls 2 [(0, .ref a)] := hl
  subst hH
  have hAg := rB_g (g := g) hg ha
  have hAz : ∀ q, z ≤ q → rB a z q := fun q h => Or.inr h
  have hP := hP0
  have hD : va_D (rB a z) [(a, .inr (4, [.int 0, .null, .null, .int 0, .int 0, .null, .int 0, .int 0, .null, .int 0, .null, .int 0, .null, .int 0, .int 0, .int 0, .int 0, .int 0]))] := va_D1 (Or.inl rfl)
  have hS : va_S (rB a z) s.heap s.heap [] := va_S.rf
  refine lv_aload_n hx hb dX4_init_0 rfl (lv_at hl 0 rfl) ?_
  refine W.objInit hx hb hown (hts (.methodLink RX4 3 objectInit) (by decide +kernel)) (hts (.instanceMethod objectInit) (by decide +kernel)) (hts (.code objectInit ⟨#[0xb1]⟩ 1 none) (by decide +kernel)) rfl (by rw [hml]; exact hl.1) rfl dX4_init_1 (Nat.le_of_ble_eq_true rfl) (Nat.le_of_ble_eq_true rfl) ?_
  refine W.eq (g2 := F0 m 4 ls []) rfl ?_
  refine lv_aload_n hx hb dX4_init_4 rfl (lv_at hl 0 rfl) ?_
  refine lv_iconst (v := 5) hx hb dX4_init_5 (by decide) ?_
  refine rl_newa (atype := .int) (a0 := (5, .inl (fun _ => 0))) (N' := 5) hx hb (hts (.arrayClass .int) (by decide +kernel)) rfl hP hD hS hz (hAz _ (by omega)) (hK.1.2 1 _ rfl).2 (fun _ => rfl) (by decide) (by decide) (by decide) (Nat.le_of_ble_eq_true rfl) (Nat.le_of_ble_eq_true rfl) dX4_init_6 (fun H hz hP hD hS => ?_)
  have hP : va_P (gD g) vwCl [(a, .inr (4, [.int 0, .null, .null, .int 0, .int 0, .null, .int 0, .int 0, .null, .int 0, .null, .int 0, .null, .int 0, .int 0, .int 0, .int 0, .int 0])), (z, .inl (gy g 1, 5, .inl (fun _ => 0)))] H := hP
  have hD : va_D (rB a z) [(a, .inr (4, [.int 0, .null, .null, .int 0, .int 0, .null, .int 0, .int 0, .null, .int 0, .null, .int 0, .null, .int 0, .int 0, .int 0, .int 0, .int 0])), (z, .inl (gy g 1, 5, .inl (fun _ => 0)))] := hD
  refine rl_putF (ty := .array .int) hx hb hts i_4 tyX4 tyX4_ok nmX4 hown hK hP hD hS hz 0 rfl rfl 1 (by decide) (hts (.fieldLink RX4 9 "OpticalJukebox$State" "times" "[I") (by decide +kernel)) rfl hin rfl (by decide +kernel) rfl rfl (Nat.le_of_ble_eq_true rfl) dX4_init_8 (fun H locs hz hP hD hS => ?_)
  have hP : va_P (gD g) vwCl [(a, .inr (4, [.int 0, .ref z, .null, .int 0, .int 0, .null, .int 0, .int 0, .null, .int 0, .null, .int 0, .null, .int 0, .int 0, .int 0, .int 0, .int 0])), (z, .inl (gy g 1, 5, .inl (fun _ => 0)))] H := hP
  have hD : va_D (rB a z) [(a, .inr (4, [.int 0, .ref z, .null, .int 0, .int 0, .null, .int 0, .int 0, .null, .int 0, .null, .int 0, .null, .int 0, .int 0, .int 0, .int 0, .int 0])), (z, .inl (gy g 1, 5, .inl (fun _ => 0)))] := hD
  refine lv_aload_n hx hb dX4_init_11 rfl (lv_at hl 0 rfl) ?_
  refine lv_iconst (v := 4) hx hb dX4_init_12 (by decide) ?_
  refine rl_newq (N' := 4) hx hb hown (hts (.classLink RX4 15 RX0) (by decide +kernel)) hK.2.2.2.2.2.1 hP hD hS hz (hAz _ (by omega)) (hK.1.2 3 _ rfl).2 (by decide) (by decide) (by decide) (Nat.le_of_ble_eq_true rfl) (Nat.le_of_ble_eq_true rfl) dX4_init_13 (fun H hz hP hD hS => ?_)
  have hP : va_P (gD g) vwCl [(a, .inr (4, [.int 0, .ref z, .null, .int 0, .int 0, .null, .int 0, .int 0, .null, .int 0, .null, .int 0, .null, .int 0, .int 0, .int 0, .int 0, .int 0])), (z, .inl (gy g 1, 5, .inl (fun _ => 0))), ((z + 1), .inl (gy g 3, 4, .inr (.inr (.inr (.inr (fun _ => none))))))] H := hP
  have hD : va_D (rB a z) [(a, .inr (4, [.int 0, .ref z, .null, .int 0, .int 0, .null, .int 0, .int 0, .null, .int 0, .null, .int 0, .null, .int 0, .int 0, .int 0, .int 0, .int 0])), (z, .inl (gy g 1, 5, .inl (fun _ => 0))), ((z + 1), .inl (gy g 3, 4, .inr (.inr (.inr (.inr (fun _ => none))))))] := hD
  refine rl_putF (ty := .array (.object "OpticalJukebox$Drive")) hx hb hts i_4 tyX4 tyX4_ok nmX4 hown hK hP hD hS hz 0 rfl rfl 2 (by decide) (hts (.fieldLink RX4 17 "OpticalJukebox$State" "drives" "[LOpticalJukebox$Drive;") (by decide +kernel)) rfl hin rfl (by decide +kernel) rfl rfl (Nat.le_of_ble_eq_true rfl) dX4_init_16 (fun H locs hz hP hD hS => ?_)
  have hP : va_P (gD g) vwCl [(a, .inr (4, [.int 0, .ref z, .ref (z + 1), .int 0, .int 0, .null, .int 0, .int 0, .null, .int 0, .null, .int 0, .null, .int 0, .int 0, .int 0, .int 0, .int 0])), (z, .inl (gy g 1, 5, .inl (fun _ => 0))), ((z + 1), .inl (gy g 3, 4, .inr (.inr (.inr (.inr (fun _ => none))))))] H := hP
  have hD : va_D (rB a z) [(a, .inr (4, [.int 0, .ref z, .ref (z + 1), .int 0, .int 0, .null, .int 0, .int 0, .null, .int 0, .null, .int 0, .null, .int 0, .int 0, .int 0, .int 0, .int 0])), (z, .inl (gy g 1, 5, .inl (fun _ => 0))), ((z + 1), .inl (gy g 3, 4, .inr (.inr (.inr (.inr (fun _ => none))))))] := hD
  refine lv_aload_n hx hb dX4_init_19 rfl (lv_at hl 0 rfl) ?_
  refine lv_bipush (v := 10) hx hb dX4_init_20 (by decide) ?_
  refine rl_newq (N' := 10) hx hb hown (hts (.classLink RX4 21 RX3) (by decide +kernel)) hK.2.2.2.2.2.2.1 hP hD hS hz (hAz _ (by omega)) (hK.1.2 4 _ rfl).2 (by decide) (by decide) (by decide) (Nat.le_of_ble_eq_true rfl) (Nat.le_of_ble_eq_true rfl) dX4_init_22 (fun H hz hP hD hS => ?_)
  have hP : va_P (gD g) vwCl [(a, .inr (4, [.int 0, .ref z, .ref (z + 1), .int 0, .int 0, .null, .int 0, .int 0, .null, .int 0, .null, .int 0, .null, .int 0, .int 0, .int 0, .int 0, .int 0])), (z, .inl (gy g 1, 5, .inl (fun _ => 0))), ((z + 1), .inl (gy g 3, 4, .inr (.inr (.inr (.inr (fun _ => none)))))), ((z + 2), .inl (gy g 4, 10, .inr (.inr (.inr (.inr (fun _ => none))))))] H := hP
  have hD : va_D (rB a z) [(a, .inr (4, [.int 0, .ref z, .ref (z + 1), .int 0, .int 0, .null, .int 0, .int 0, .null, .int 0, .null, .int 0, .null, .int 0, .int 0, .int 0, .int 0, .int 0])), (z, .inl (gy g 1, 5, .inl (fun _ => 0))), ((z + 1), .inl (gy g 3, 4, .inr (.inr (.inr (.inr (fun _ => none)))))), ((z + 2), .inl (gy g 4, 10, .inr (.inr (.inr (.inr (fun _ => none))))))] := hD
  refine rl_putF (ty := .array (.object "OpticalJukebox$Platter")) hx hb hts i_4 tyX4 tyX4_ok nmX4 hown hK hP hD hS hz 0 rfl rfl 5 (by decide) (hts (.fieldLink RX4 23 "OpticalJukebox$State" "platters" "[LOpticalJukebox$Platter;") (by decide +kernel)) rfl hin rfl (by decide +kernel) rfl rfl (Nat.le_of_ble_eq_true rfl) dX4_init_25 (fun H locs hz hP hD hS => ?_)
  have hP : va_P (gD g) vwCl [(a, .inr (4, [.int 0, .ref z, .ref (z + 1), .int 0, .int 0, .ref (z + 2), .int 0, .int 0, .null, .int 0, .null, .int 0, .null, .int 0, .int 0, .int 0, .int 0, .int 0])), (z, .inl (gy g 1, 5, .inl (fun _ => 0))), ((z + 1), .inl (gy g 3, 4, .inr (.inr (.inr (.inr (fun _ => none)))))), ((z + 2), .inl (gy g 4, 10, .inr (.inr (.inr (.inr (fun _ => none))))))] H := hP
  have hD : va_D (rB a z) [(a, .inr (4, [.int 0, .ref z, .ref (z + 1), .int 0, .int 0, .ref (z + 2), .int 0, .int 0, .null, .int 0, .null, .int 0, .null, .int 0, .int 0, .int 0, .int 0, .int 0])), (z, .inl (gy g 1, 5, .inl (fun _ => 0))), ((z + 1), .inl (gy g 3, 4, .inr (.inr (.inr (.inr (fun _ => none)))))), ((z + 2), .inl (gy g 4, 10, .inr (.inr (.inr (.inr (fun _ => none))))))] := hD
  refine lv_aload_n hx hb dX4_init_28 rfl (lv_at hl 0 rfl) ?_
  refine lv_bipush (v := 40) hx hb dX4_init_29 (by decide) ?_
  refine rl_newq (N' := 40) hx hb hown (hts (.classLink RX4 27 RX6) (by decide +kernel)) hK.2.2.2.2.2.2.2.1 hP hD hS hz (hAz _ (by omega)) (hK.1.2 5 _ rfl).2 (by decide) (by decide) (by decide) (Nat.le_of_ble_eq_true rfl) (Nat.le_of_ble_eq_true rfl) dX4_init_31 (fun H hz hP hD hS => ?_)
  have hP : va_P (gD g) vwCl [(a, .inr (4, [.int 0, .ref z, .ref (z + 1), .int 0, .int 0, .ref (z + 2), .int 0, .int 0, .null, .int 0, .null, .int 0, .null, .int 0, .int 0, .int 0, .int 0, .int 0])), (z, .inl (gy g 1, 5, .inl (fun _ => 0))), ((z + 1), .inl (gy g 3, 4, .inr (.inr (.inr (.inr (fun _ => none)))))), ((z + 2), .inl (gy g 4, 10, .inr (.inr (.inr (.inr (fun _ => none)))))), ((z + 3), .inl (gy g 5, 40, .inr (.inr (.inr (.inr (fun _ => none))))))] H := hP
  have hD : va_D (rB a z) [(a, .inr (4, [.int 0, .ref z, .ref (z + 1), .int 0, .int 0, .ref (z + 2), .int 0, .int 0, .null, .int 0, .null, .int 0, .null, .int 0, .int 0, .int 0, .int 0, .int 0])), (z, .inl (gy g 1, 5, .inl (fun _ => 0))), ((z + 1), .inl (gy g 3, 4, .inr (.inr (.inr (.inr (fun _ => none)))))), ((z + 2), .inl (gy g 4, 10, .inr (.inr (.inr (.inr (fun _ => none)))))), ((z + 3), .inl (gy g 5, 40, .inr (.inr (.inr (.inr (fun _ => none))))))] := hD
  refine rl_putF (ty := .array (.object "OpticalJukebox$Version")) hx hb hts i_4 tyX4 tyX4_ok nmX4 hown hK hP hD hS hz 0 rfl rfl 8 (by decide) (hts (.fieldLink RX4 29 "OpticalJukebox$State" "versions" "[LOpticalJukebox$Version;") (by decide +kernel)) rfl hin rfl (by decide +kernel) rfl rfl (Nat.le_of_ble_eq_true rfl) dX4_init_34 (fun H locs hz hP hD hS => ?_)
  have hP : va_P (gD g) vwCl [(a, .inr (4, [.int 0, .ref z, .ref (z + 1), .int 0, .int 0, .ref (z + 2), .int 0, .int 0, .ref (z + 3), .int 0, .null, .int 0, .null, .int 0, .int 0, .int 0, .int 0, .int 0])), (z, .inl (gy g 1, 5, .inl (fun _ => 0))), ((z + 1), .inl (gy g 3, 4, .inr (.inr (.inr (.inr (fun _ => none)))))), ((z + 2), .inl (gy g 4, 10, .inr (.inr (.inr (.inr (fun _ => none)))))), ((z + 3), .inl (gy g 5, 40, .inr (.inr (.inr (.inr (fun _ => none))))))] H := hP
  have hD : va_D (rB a z) [(a, .inr (4, [.int 0, .ref z, .ref (z + 1), .int 0, .int 0, .ref (z + 2), .int 0, .int 0, .ref (z + 3), .int 0, .null, .int 0, .null, .int 0, .int 0, .int 0, .int 0, .int 0])), (z, .inl (gy g 1, 5, .inl (fun _ => 0))), ((z + 1), .inl (gy g 3, 4, .inr (.inr (.inr (.inr (fun _ => none)))))), ((z + 2), .inl (gy g 4, 10, .inr (.inr (.inr (.inr (fun _ => none)))))), ((z + 3), .inl (gy g 5, 40, .inr (.inr (.inr (.inr (fun _ => none))))))] := hD
  refine lv_aload_n hx hb dX4_init_37 rfl (lv_at hl 0 rfl) ?_
  refine lv_bipush (v := 20) hx hb dX4_init_38 (by decide) ?_
  refine rl_newa (atype := .int) (a0 := (20, .inl (fun _ => 0))) (N' := 20) hx hb (hts (.arrayClass .int) (by decide +kernel)) rfl hP hD hS hz (hAz _ (by omega)) (hK.1.2 1 _ rfl).2 (fun _ => rfl) (by decide) (by decide) (by decide) (Nat.le_of_ble_eq_true rfl) (Nat.le_of_ble_eq_true rfl) dX4_init_40 (fun H hz hP hD hS => ?_)
  have hP : va_P (gD g) vwCl [(a, .inr (4, [.int 0, .ref z, .ref (z + 1), .int 0, .int 0, .ref (z + 2), .int 0, .int 0, .ref (z + 3), .int 0, .null, .int 0, .null, .int 0, .int 0, .int 0, .int 0, .int 0])), (z, .inl (gy g 1, 5, .inl (fun _ => 0))), ((z + 1), .inl (gy g 3, 4, .inr (.inr (.inr (.inr (fun _ => none)))))), ((z + 2), .inl (gy g 4, 10, .inr (.inr (.inr (.inr (fun _ => none)))))), ((z + 3), .inl (gy g 5, 40, .inr (.inr (.inr (.inr (fun _ => none)))))), ((z + 4), .inl (gy g 1, 20, .inl (fun _ => 0)))] H := hP
  have hD : va_D (rB a z) [(a, .inr (4, [.int 0, .ref z, .ref (z + 1), .int 0, .int 0, .ref (z + 2), .int 0, .int 0, .ref (z + 3), .int 0, .null, .int 0, .null, .int 0, .int 0, .int 0, .int 0, .int 0])), (z, .inl (gy g 1, 5, .inl (fun _ => 0))), ((z + 1), .inl (gy g 3, 4, .inr (.inr (.inr (.inr (fun _ => none)))))), ((z + 2), .inl (gy g 4, 10, .inr (.inr (.inr (.inr (fun _ => none)))))), ((z + 3), .inl (gy g 5, 40, .inr (.inr (.inr (.inr (fun _ => none)))))), ((z + 4), .inl (gy g 1, 20, .inl (fun _ => 0)))] := hD
  refine rl_putF (ty := .array .int) hx hb hts i_4 tyX4 tyX4_ok nmX4 hown hK hP hD hS hz 0 rfl rfl 10 (by decide) (hts (.fieldLink RX4 33 "OpticalJukebox$State" "current" "[I") (by decide +kernel)) rfl hin rfl (by decide +kernel) rfl rfl (Nat.le_of_ble_eq_true rfl) dX4_init_42 (fun H locs hz hP hD hS => ?_)
  have hP : va_P (gD g) vwCl [(a, .inr (4, [.int 0, .ref z, .ref (z + 1), .int 0, .int 0, .ref (z + 2), .int 0, .int 0, .ref (z + 3), .int 0, .ref (z + 4), .int 0, .null, .int 0, .int 0, .int 0, .int 0, .int 0])), (z, .inl (gy g 1, 5, .inl (fun _ => 0))), ((z + 1), .inl (gy g 3, 4, .inr (.inr (.inr (.inr (fun _ => none)))))), ((z + 2), .inl (gy g 4, 10, .inr (.inr (.inr (.inr (fun _ => none)))))), ((z + 3), .inl (gy g 5, 40, .inr (.inr (.inr (.inr (fun _ => none)))))), ((z + 4), .inl (gy g 1, 20, .inl (fun _ => 0)))] H := hP
  have hD : va_D (rB a z) [(a, .inr (4, [.int 0, .ref z, .ref (z + 1), .int 0, .int 0, .ref (z + 2), .int 0, .int 0, .ref (z + 3), .int 0, .ref (z + 4), .int 0, .null, .int 0, .int 0, .int 0, .int 0, .int 0])), (z, .inl (gy g 1, 5, .inl (fun _ => 0))), ((z + 1), .inl (gy g 3, 4, .inr (.inr (.inr (.inr (fun _ => none)))))), ((z + 2), .inl (gy g 4, 10, .inr (.inr (.inr (.inr (fun _ => none)))))), ((z + 3), .inl (gy g 5, 40, .inr (.inr (.inr (.inr (fun _ => none)))))), ((z + 4), .inl (gy g 1, 20, .inl (fun _ => 0)))] := hD
  refine lv_aload_n hx hb dX4_init_45 rfl (lv_at hl 0 rfl) ?_
  refine lv_bipush (v := 16) hx hb dX4_init_46 (by decide) ?_
  refine rl_newa (atype := .int) (a0 := (16, .inl (fun _ => 0))) (N' := 16) hx hb (hts (.arrayClass .int) (by decide +kernel)) rfl hP hD hS hz (hAz _ (by omega)) (hK.1.2 1 _ rfl).2 (fun _ => rfl) (by decide) (by decide) (by decide) (Nat.le_of_ble_eq_true rfl) (Nat.le_of_ble_eq_true rfl) dX4_init_48 (fun H hz hP hD hS => ?_)
  have hP : va_P (gD g) vwCl [(a, .inr (4, [.int 0, .ref z, .ref (z + 1), .int 0, .int 0, .ref (z + 2), .int 0, .int 0, .ref (z + 3), .int 0, .ref (z + 4), .int 0, .null, .int 0, .int 0, .int 0, .int 0, .int 0])), (z, .inl (gy g 1, 5, .inl (fun _ => 0))), ((z + 1), .inl (gy g 3, 4, .inr (.inr (.inr (.inr (fun _ => none)))))), ((z + 2), .inl (gy g 4, 10, .inr (.inr (.inr (.inr (fun _ => none)))))), ((z + 3), .inl (gy g 5, 40, .inr (.inr (.inr (.inr (fun _ => none)))))), ((z + 4), .inl (gy g 1, 20, .inl (fun _ => 0))), ((z + 5), .inl (gy g 1, 16, .inl (fun _ => 0)))] H := hP
  have hD : va_D (rB a z) [(a, .inr (4, [.int 0, .ref z, .ref (z + 1), .int 0, .int 0, .ref (z + 2), .int 0, .int 0, .ref (z + 3), .int 0, .ref (z + 4), .int 0, .null, .int 0, .int 0, .int 0, .int 0, .int 0])), (z, .inl (gy g 1, 5, .inl (fun _ => 0))), ((z + 1), .inl (gy g 3, 4, .inr (.inr (.inr (.inr (fun _ => none)))))), ((z + 2), .inl (gy g 4, 10, .inr (.inr (.inr (.inr (fun _ => none)))))), ((z + 3), .inl (gy g 5, 40, .inr (.inr (.inr (.inr (fun _ => none)))))), ((z + 4), .inl (gy g 1, 20, .inl (fun _ => 0))), ((z + 5), .inl (gy g 1, 16, .inl (fun _ => 0)))] := hD
  refine rl_putF (ty := .array .int) hx hb hts i_4 tyX4 tyX4_ok nmX4 hown hK hP hD hS hz 0 rfl rfl 12 (by decide) (hts (.fieldLink RX4 36 "OpticalJukebox$State" "requests" "[I") (by decide +kernel)) rfl hin rfl (by decide +kernel) rfl rfl (Nat.le_of_ble_eq_true rfl) dX4_init_50 (fun H locs hz hP hD hS => ?_)
  have hP : va_P (gD g) vwCl [(a, .inr (4, [.int 0, .ref z, .ref (z + 1), .int 0, .int 0, .ref (z + 2), .int 0, .int 0, .ref (z + 3), .int 0, .ref (z + 4), .int 0, .ref (z + 5), .int 0, .int 0, .int 0, .int 0, .int 0])), (z, .inl (gy g 1, 5, .inl (fun _ => 0))), ((z + 1), .inl (gy g 3, 4, .inr (.inr (.inr (.inr (fun _ => none)))))), ((z + 2), .inl (gy g 4, 10, .inr (.inr (.inr (.inr (fun _ => none)))))), ((z + 3), .inl (gy g 5, 40, .inr (.inr (.inr (.inr (fun _ => none)))))), ((z + 4), .inl (gy g 1, 20, .inl (fun _ => 0))), ((z + 5), .inl (gy g 1, 16, .inl (fun _ => 0)))] H := hP
  have hD : va_D (rB a z) [(a, .inr (4, [.int 0, .ref z, .ref (z + 1), .int 0, .int 0, .ref (z + 2), .int 0, .int 0, .ref (z + 3), .int 0, .ref (z + 4), .int 0, .ref (z + 5), .int 0, .int 0, .int 0, .int 0, .int 0])), (z, .inl (gy g 1, 5, .inl (fun _ => 0))), ((z + 1), .inl (gy g 3, 4, .inr (.inr (.inr (.inr (fun _ => none)))))), ((z + 2), .inl (gy g 4, 10, .inr (.inr (.inr (.inr (fun _ => none)))))), ((z + 3), .inl (gy g 5, 40, .inr (.inr (.inr (.inr (fun _ => none)))))), ((z + 4), .inl (gy g 1, 20, .inl (fun _ => 0))), ((z + 5), .inl (gy g 1, 16, .inl (fun _ => 0)))] := hD
  subst hzA
  have hP : va_P (gD g) vwCl (b7 g a (fun _ => none) (fun _ => none) (fun _ => none) ++ []) H := hP
  have hD : va_D (rB a (a + 1)) (b7 g a (fun _ => none) (fun _ => none) (fun _ => none) ++ []) := hD
  have hz : H.size = a + 7 := hz
  refine W.cs (cells' := 6) (slots' := 95) rfl rfl ?_
  refine lv_iconst (v := 0) hx hb dX4_init_53 (by decide) ?_
  refine lv_istore_n (lv' := [(1, .int 0), (0, .ref a)]) hx hb dX4_init_54 rfl hl (by decide) rfl (fun ls hl => ?_)
  refine lp55 hx hb hml hts hown hK hg hAg [] 4 0 (fun _ => none) [] ls H locs rfl (fun t ht => by omega) (fun t ht => by omega) (fun x hx => by cases hx) (lv_sub hl [1, 0] rfl) hz hP hD hS ?_
  clear hP hD hS hl hz
  intro f1 R1 ls H locs hf1 hm1 _ hl hz hP hD hS
  refine lv_iconst (v := 0) hx hb dX4_init_79 (by decide) ?_
  refine lv_istore_n (lv' := [(1, .int 0), (0, .ref a)]) hx hb dX4_init_80 rfl hl (by decide) rfl (fun ls hl => ?_)
  refine lp81 hx hb hml hts hown hK hg hAg f1 R1 10 0 (fun _ => none) R1 ls H locs rfl (fun t ht => by omega) (fun t ht => by omega) (fun x hx => hx) (lv_sub hl [1, 0] rfl) hz hP hD hS ?_
  clear hP hD hS hl hz
  intro f2 R2 ls H locs hf2 hm2 hR2 hl hz hP hD hS
  refine lv_iconst (v := 0) hx hb dX4_init_106 (by decide) ?_
  refine lv_istore_n (lv' := [(1, .int 0), (0, .ref a)]) hx hb dX4_init_107 rfl hl (by decide) rfl (fun ls hl => ?_)
  refine lp108 hx hb hml hts hown hK hg hAg f1 f2 R2 40 0 (fun _ => none) R2 ls H locs rfl (fun t ht => by omega) (fun t ht => by omega) (fun x hx => hx) (lv_sub hl [1, 0] rfl) hz hP hD hS ?_
  clear hP hD hS hl hz
  intro f3 R3 ls H locs hf3 hm3 hR3 hl hz hP hD hS
  have hB : StB g a (fun _ _ _ => 0) H := b7_StB hP hf1 hf2 hf3 (fun t ht => hR3 _ (hR2 _ (hm1 t ht))) (fun t ht x hx => hR3 _ (hm2 t ht x hx)) hm3
  have hW := one_World hz hB
  refine lv_aload_n hx hb dX4_init_133 rfl (lv_at hl 0 rfl) ?_
  have hK0 : wK (g00 g a) s := hK.narrow hg
  have hS0 : va_S (gA (g00 g a)) s.heap H locs := va_S_wk hS (fun q h => rB_ge h)
  refine x_cv0 (x_rV (g := g00 g a) ⟨hx, hb, hml, hown, hts⟩ (ct_X4_beginEmpty l (g00 g a) (wOne a) a (List.mem_singleton.mpr rfl) (fun _ _ _ => 0) h0) (cwV 0 hts gX4_init_X4_beginEmpty rfl rfl rfl (by decide +kernel) ⟨Nat.le_of_ble_eq_true rfl, Nat.le_of_ble_eq_true rfl⟩) hK0 hW hS0 (x_recv (i := a) (k := 4) (j := 0) hK0 hW ⟨List.mem_singleton.mpr rfl, by decide⟩ rfl (by decide)) rfl hl.1 (rest := []) rfl (Nat.le_of_ble_eq_true rfl) dX4_init_134 ⟨Nat.le_of_ble_eq_true rfl, Nat.le_of_ble_eq_true rfl⟩) hS0 (fun H locs hW hS => ?_)
  have hz1 : H.size = a + 91 := hW.2.2.1
  exact r_vret hx hb hr hlocks hK (va_S_wk hS (fun q h => rB_of h)) hAg ⟨hz1, one_StB hW⟩ dX4_init_137
