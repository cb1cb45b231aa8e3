/-! the jukebox is made -/
theorem sinv_ok : ∀ o : Fin 91, off (sinv o.val).1 (sinv o.val).2 = o.val ∧ grp (sinv o.val).1 = 0 ∧ (sinv o.val).2 < jn (sinv o.val).1 := by decide +kernel
/-- a State's block as a list of cells -/
def blk (g : GT) (a : Nat) (sd : SD) : va_W := (List.range 91).map (fun o => (a + o, cellS (gy g) a sd (sinv o).1 (sinv o).2))
theorem blk_at {g : GT} {a : Nat} {sd : SD} {k : Nat} {q : Nat × va_E} (h : (blk g a sd)[k]? = some q) : k < 91 ∧ q = (a + k, cellS (gy g) a sd (sinv k).1 (sinv k).2) := by
  unfold blk at h
  rw [List.getElem?_map] at h
  by_cases hk : k < 91
  · rw [List.getElem?_range hk] at h
    exact ⟨hk, (Option.some.inj h).symm⟩
  · rw [List.getElem?_eq_none (by simp; omega)] at h
    cases h
theorem blk_P {g : GT} {a : Nat} {sd : SD} {H : Heap} (h : StB g a sd H) : va_P (gD g) vwCl (blk g a sd) H := by
  intro k q hq
  obtain ⟨hk, rfl⟩ := blk_at hq
  obtain ⟨e1, e2, e3⟩ := sinv_ok ⟨k, hk⟩
  have := h (sinv k).1 (sinv k).2 e2 e3
  have ea : adr a (sinv k).1 (sinv k).2 = a + k := by
    show a + off (sinv k).1 (sinv k).2 = a + k
    rw [show off (sinv k).1 (sinv k).2 = k from e1]
  rw [ea] at this
  exact this
theorem blk_S {g : GT} {a : Nat} {sd : SD} {H : Heap} (h : ∀ x ∈ blk g a sd, va_at (gD g) vwCl x H) : StB g a sd H := by
  intro k j hk hj
  obtain ⟨e1, e2⟩ := sinv_off hk hj
  have := h (a + off k j, cellS (gy g) a sd k j) (List.mem_map.mpr ⟨off k j, List.mem_range.mpr e2, by rw [e1]⟩)
  exact this
theorem blk_D {g : GT} {a : Nat} {sd : SD} {A : Nat → Prop} (h : ∀ q, a ≤ q → A q) : va_D A (blk g a sd) := by
  refine ⟨fun i j x y hx hy e => ?_, fun k q hq => ?_⟩
  · obtain ⟨-, rfl⟩ := blk_at hx
    obtain ⟨-, rfl⟩ := blk_at hy
    have e : a + i = a + j := e
    omega
  · obtain ⟨-, rfl⟩ := blk_at hq
    exact h _ (Nat.le_add_right _ _)
theorem blk_ge {g : GT} {a : Nat} {sd : SD} {x : Nat × va_E} (h : x ∈ blk g a sd) : a ≤ x.1 := by
  obtain ⟨k, hk⟩ := List.getElem?_of_mem h
  obtain ⟨-, rfl⟩ := blk_at hk
  exact Nat.le_add_right _ _
theorem va_D2 {A : Nat → Prop} {v : Nat} {e0 e1 : va_E} (h : ∀ q, v ≤ q → A q) : va_D A [(v, e0), (v + 1, e1)] := by
  have key : ∀ (k : Nat) (q : Nat × va_E), ([(v, e0), (v + 1, e1)] : va_W)[k]? = some q → q.1 = v + k := by
    intro k q hq
    match k, hq with
    | 0, hq => cases hq; rfl
    | 1, hq => cases hq; rfl
    | k + 2, hq => simp at hq
  exact ⟨fun i j x y h1 h2 h3 => by rw [key i x h1, key j y h2] at h3; omega, fun k q hq => h _ (by rw [key k q hq]; omega)⟩
theorem va_D3 {A : Nat → Prop} {v : Nat} {e0 e1 e2 : va_E} (h : ∀ q, v ≤ q → A q) : va_D A [(v, e0), (v + 1, e1), (v + 2, e2)] := by
  have key : ∀ (k : Nat) (q : Nat × va_E), ([(v, e0), (v + 1, e1), (v + 2, e2)] : va_W)[k]? = some q → q.1 = v + k := by
    intro k q hq
    match k, hq with
    | 0, hq => cases hq; rfl
    | 1, hq => cases hq; rfl
    | 2, hq => cases hq; rfl
    | k + 3, hq => simp at hq
  exact ⟨fun i j x y h1 h2 h3 => by rw [key i x h1, key j y h2] at h3; omega, fun k q hq => h _ (by rw [key k q hq]; omega)⟩
set_option maxRecDepth 20000 in
theorem ggX7_init_X5_init : GoodIn wsX7_init wsX5_init := goodIn_r _ [20, 21, 2, 3, 17, 22, 23, 24, 82, 83, 84, 85, 86, 87, 88, 89, 90] (by decide +kernel) (by decide +kernel)
set_option maxRecDepth 20000 in
theorem gX7_init_X5_init_n9 : GoodIn wsX7_init (wsX5_init) := ggX7_init_X5_init
set_option maxRecDepth 20000 in
theorem ggX7_init_X4_init : GoodIn wsX7_init wsX4_init := goodIn_r _ [27, 28, 2, 3, 29, 30, 31, 32, 33, 34, 35, 36, 37, 38, 39, 40, 41, 42, 43, 44, 45, 46, 47, 48, 49, 50, 51, 52, 53, 54, 55, 56, 57, 58, 59, 10, 60, 61, 62, 63, 64, 65, 66, 67, 68, 69, 70, 71, 72, 73, 74, 75, 76, 100, 101, 102, 103, 104, 105, 106, 107, 108, 109, 110, 111, 112, 113, 114, 115, 116, 117, 121, 122, 123, 124, 125, 126, 127, 128, 129, 130, 131, 132, 133, 134, 135, 136, 137, 138, 139] (by decide +kernel) (by decide +kernel)
set_option maxRecDepth 20000 in
theorem gX7_init_X4_init : GoodIn wsX7_init (wsX4_init) := ggX7_init_X4_init
set_option maxRecDepth 20000 in
theorem ggX7_init_X1_init : GoodIn wsX7_init wsX1_init := goodIn_r _ [78, 79, 2, 3, 80, 81, 118, 119, 120] (by decide +kernel) (by decide +kernel)
set_option maxRecDepth 20000 in
theorem gX7_init_X1_init_n28 : GoodIn wsX7_init (wsX1_init) := ggX7_init_X1_init
theorem dX7_init_0 : decode cX7_init 0 = .ok (.aload_n 0, 1) := by decide +kernel
theorem dX7_init_1 : decode cX7_init 1 = .ok (.invokespecial 1, 3) := by decide +kernel
theorem dX7_init_4 : decode cX7_init 4 = .ok (.aload_n 0, 1) := by decide +kernel
theorem dX7_init_5 : decode cX7_init 5 = .ok (.new 7, 3) := by decide +kernel
theorem dX7_init_8 : decode cX7_init 8 = .ok (.dup, 1) := by decide +kernel
theorem dX7_init_9 : decode cX7_init 9 = .ok (.invokespecial 9, 3) := by decide +kernel
theorem dX7_init_12 : decode cX7_init 12 = .ok (.putfield 10, 3) := by decide +kernel
theorem dX7_init_15 : decode cX7_init 15 = .ok (.aload_n 0, 1) := by decide +kernel
theorem dX7_init_16 : decode cX7_init 16 = .ok (.new 16, 3) := by decide +kernel
theorem dX7_init_19 : decode cX7_init 19 = .ok (.dup, 1) := by decide +kernel
theorem dX7_init_20 : decode cX7_init 20 = .ok (.invokespecial 18, 3) := by decide +kernel
theorem dX7_init_23 : decode cX7_init 23 = .ok (.putfield 19, 3) := by decide +kernel
theorem dX7_init_26 : decode cX7_init 26 = .ok (.aload_n 0, 1) := by decide +kernel
theorem dX7_init_27 : decode cX7_init 27 = .ok (.new 16, 3) := by decide +kernel
theorem dX7_init_30 : decode cX7_init 30 = .ok (.dup, 1) := by decide +kernel
theorem dX7_init_31 : decode cX7_init 31 = .ok (.invokespecial 18, 3) := by decide +kernel
theorem dX7_init_34 : decode cX7_init 34 = .ok (.putfield 23, 3) := by decide +kernel
theorem dX7_init_37 : decode cX7_init 37 = .ok (.aload_n 0, 1) := by decide +kernel
theorem dX7_init_38 : decode cX7_init 38 = .ok (.new 26, 3) := by decide +kernel
theorem dX7_init_41 : decode cX7_init 41 = .ok (.dup, 1) := by decide +kernel
theorem dX7_init_42 : decode cX7_init 42 = .ok (.invokespecial 28, 3) := by decide +kernel
theorem dX7_init_45 : decode cX7_init 45 = .ok (.putfield 29, 3) := by decide +kernel
theorem dX7_init_48 : decode cX7_init 48 = .ok (.aload_n 0, 1) := by decide +kernel
theorem dX7_init_49 : decode cX7_init 49 = .ok (.sipush 280, 3) := by decide +kernel
theorem dX7_init_52 : decode cX7_init 52 = .ok (.newarray .byte, 2) := by decide +kernel
theorem dX7_init_54 : decode cX7_init 54 = .ok (.putfield 33, 3) := by decide +kernel
theorem dX7_init_57 : decode cX7_init 57 = .ok (.return_, 1) := by decide +kernel
abbrev rm_X7_init : Room := { frames := 4, cells := 188, slots := 2738, locals := 80 }
set_option maxRecDepth 100000 in
set_option maxHeartbeats 2000000 in
theorem rc_X7_init (l : Launch) (g : GT) (H0 : Heap) (a : Nat) (hz : H0.size = a + 1) (hg : g.1 ≤ a) (hP0 : va_P (gD g) vwCl [(a, .inr (7, [.null, .int 0, .int 0, .null, .null, .null, .null, .null, .int 0]))] H0) {sd0 : SD} (h0 : f_X4_beginEmpty (fun _ _ _ => 0) = some sd0) (mt : MT) : Met l yX7_init wsX7_init rm_X7_init (rPre g H0 [.ref a]) (rQv g (rB a (a + 1)) (fun H => World (g01 g a) (cs0 a sd0, mt) H)) 188 2738 (rB a (a + 1)) := by
  have i_7 : ∀ w ∈ u_ws RX7 TX7 9, w ∈ wsX7_init := by decide +kernel
  have i_5 : ∀ w ∈ u_ws RX5 TX5 9, w ∈ wsX7_init := by decide +kernel
  have i_4 : ∀ w ∈ u_ws RX4 TX4 18, w ∈ wsX7_init := by decide +kernel
  have i_1 : ∀ w ∈ u_ws RX1 TX1 3, w ∈ wsX7_init := by decide +kernel
  refine r_met (by decide) rfl (Nat.le_of_ble_eq_true rfl) ?_
  intro p e s m below meth c hx hb hr hml hts hown hlocks hin hK hH ls hl
  have hown : s.vm.findClass RX7 = some m.cls := hown
  have hin : meth.name = "<init>" := hin
  have hl : lv_has ls 1 [(0, .ref a)] := hl
  subst hH
  have hAg := rB_g (g := g) hg (Nat.lt_succ_self a)
  have hAz : ∀ q, a + 1 ≤ q → rB a (a + 1) q := fun q h => Or.inr h
  have hP := hP0
  have hD : va_D (rB a (a + 1)) [(a, .inr (7, [.null, .int 0, .int 0, .null, .null, .null, .null, .null, .int 0]))] := va_D1 (Or.inl rfl)
  have hS : va_S (rB a (a + 1)) s.heap s.heap [] := va_S.rf
  refine lv_aload_n hx hb dX7_init_0 rfl (lv_at hl 0 rfl) ?_
  refine W.objInit hx hb hown (hts (.methodLink RX7 1 objectInit) (by decide +kernel)) (hts (.instanceMethod objectInit) (by decide +kernel)) (hts (.code objectInit ⟨#[0xb1]⟩ 1 none) (by decide +kernel)) rfl (by rw [hml]; exact hl.1) rfl dX7_init_1 (Nat.le_of_ble_eq_true rfl) (Nat.le_of_ble_eq_true rfl) ?_
  refine W.eq (g2 := F0 m 4 ls []) rfl ?_
  refine lv_aload_n hx hb dX7_init_4 rfl (lv_at hl 0 rfl) ?_
  refine rl_new (ci := 5) (fs := [.null, .int 0, .int 0, .int 0, .int 0, .int 0, .null, .int 0, .int 0]) hx hb hts i_5 tyX5 tyX5_ok hown (hts (.classLink RX7 7 RX5) (by decide +kernel)) (hts (.instantiable RX5 9) (by decide +kernel)) (hts (.initialized RX5) (by decide +kernel)) hK hP hD hS hz (hAz _ (Nat.add_le_add_left (Nat.le_of_ble_eq_true rfl) a)) rfl (fun j hj => by rcases (show j = 0 ∨ j = 1 ∨ j = 2 ∨ j = 3 ∨ j = 4 ∨ j = 5 ∨ j = 6 ∨ j = 7 ∨ j = 8 by omega) with rfl | rfl | rfl | rfl | rfl | rfl | rfl | rfl | rfl <;> rfl) (Nat.le_of_ble_eq_true rfl) (Nat.le_of_ble_eq_true rfl) dX7_init_5 (fun H2 hz2 ho2 hP2 hD2 hS2 => ?_)
  refine lv_dup hx hb dX7_init_8 rfl ?_
  have hP1 : va_P (gD g) vwCl [((a + 1), .inr (5, [.null, .int 0, .int 0, .int 0, .int 0, .int 0, .null, .int 0, .int 0]))] H2 := fun k x hk => by
    have z1 : k < 1 := (List.getElem?_eq_some_iff.mp hk).1
    rw [show k = 0 by omega] at hk
    exact hP2 _ x (by rw [at_end rfl]; exact hk)
  have hq1 : ∀ q, rB (a + 1) ((a + 1) + 1) q → rB a (a + 1) q := rB_in (Nat.lt_add_of_pos_right (Nat.le_of_ble_eq_true rfl))
  refine va_callv (va_runIN (As := []) (rest := [.ref (a + 1), .ref a]) ⟨hx, hb, hml, hown, hts⟩ (rc_X5_init l g H2 (a + 1) ((a + 1) + 1) hz2 (Nat.lt_succ_self _) (Nat.le_trans hg (Nat.le_add_right _ _)) hP1) ⟨va_cnB 0 hts gX7_init_X5_init_n9 rfl rfl rfl (hK.2.2.2.2.2.2.2.2.2 3 (by decide)) (hts (.initialized RX5) (by decide +kernel)) (by decide +kernel) ⟨Nat.le_of_ble_eq_true rfl, Nat.le_of_ble_eq_true rfl⟩, rfl, hts (.instanceMethod yX5_init) (by decide +kernel)⟩ ⟨r_blind, fun U hU hWm => ⟨rfl, hK.to (va_S_wk hS2 hAg) hU hWm, hU⟩⟩ rfl rfl hl.1 rfl (lv_room (Nat.le_of_ble_eq_true rfl)) dX7_init_9 ⟨Nat.le_of_ble_eq_true rfl, Nat.le_of_ble_eq_true rfl⟩) hS2 (fun q _ h => hq1 q h) hq1 (fun u t H3 locs3 ht hvm hw hB hz3 hk3 hS3 => ?_)
  rw [ht] at hB
  obtain ⟨-, hz3, hB3⟩ := hB
  obtain ⟨hP3, hD3⟩ := rl_after hP hD hz ho2 hz2 hk3 (w1 := [(a + 1, .inr (5, [.ref (a + 2), .int 0, .int 0, .int 0, .int 0, .int 0, .ref (a + 3), .int 0, .int 0])), (a + 2, .inl (gy g 0, 900, .inl (fun _ => 0))), (a + 3, .inl (gy g 2, 20, .inr (.inl (fun _ => 0))))]) hB3 (va_D3 (fun q h => Or.inr h)) (fun x hx => by simp at hx; rcases hx with rfl | rfl | rfl <;> simp)
  clear hP hD hS hz hP1 hP2 hD2 hS2 hk3 ho2
  have hz : H3.size = a + 4 := hz3
  refine W.eq (g2 := F0 m 12 ls [.ref (a + 1), .ref a]) rfl ?_
  refine rl_putF (ty := .object RX5) hx hb hts i_7 tyX7 tyX7_ok nmX7 hown hK hP3 hD3 hS3 hz 0 rfl rfl 0 (by decide) (hts (.fieldLink RX7 10 "OpticalJukebox" "reader" "LOpticalJukebox$TextReader;") (by decide +kernel)) rfl hin rfl (by decide +kernel) rfl rfl (Nat.le_of_ble_eq_true rfl) dX7_init_12 (fun H locs hz hP hD hS => ?_)
  clear hP3 hD3 hS3
  have hP : va_P (gD g) vwCl ([(a, .inr (7, [.ref (a + 1), .int 0, .int 0, .null, .null, .null, .null, .null, .int 0]))] ++ [(a + 1, .inr (5, [.ref (a + 2), .int 0, .int 0, .int 0, .int 0, .int 0, .ref (a + 3), .int 0, .int 0])), (a + 2, .inl (gy g 0, 900, .inl (fun _ => 0))), (a + 3, .inl (gy g 2, 20, .inr (.inl (fun _ => 0))))]) H := hP
  have hD : va_D (rB a (a + 1)) ([(a, .inr (7, [.ref (a + 1), .int 0, .int 0, .null, .null, .null, .null, .null, .int 0]))] ++ [(a + 1, .inr (5, [.ref (a + 2), .int 0, .int 0, .int 0, .int 0, .int 0, .ref (a + 3), .int 0, .int 0])), (a + 2, .inl (gy g 0, 900, .inl (fun _ => 0))), (a + 3, .inl (gy g 2, 20, .inr (.inl (fun _ => 0))))]) := hD
  refine lv_aload_n hx hb dX7_init_15 rfl (lv_at hl 0 rfl) ?_
  refine rl_new (ci := 4) (fs := [.int 0, .null, .null, .int 0, .int 0, .null, .int 0, .int 0, .null, .int 0, .null, .int 0, .null, .int 0, .int 0, .int 0, .int 0, .int 0]) hx hb hts i_4 tyX4 tyX4_ok hown (hts (.classLink RX7 16 RX4) (by decide +kernel)) (hts (.instantiable RX4 18) (by decide +kernel)) (hts (.initialized RX4) (by decide +kernel)) hK hP hD hS hz (hAz _ (Nat.add_le_add_left (Nat.le_of_ble_eq_true rfl) a)) rfl (fun j hj => by rcases (show j = 0 ∨ j = 1 ∨ j = 2 ∨ j = 3 ∨ j = 4 ∨ j = 5 ∨ j = 6 ∨ j = 7 ∨ j = 8 ∨ j = 9 ∨ j = 10 ∨ j = 11 ∨ j = 12 ∨ j = 13 ∨ j = 14 ∨ j = 15 ∨ j = 16 ∨ j = 17 by omega) with rfl | rfl | rfl | rfl | rfl | rfl | rfl | rfl | rfl | rfl | rfl | rfl | rfl | rfl | rfl | rfl | rfl | rfl <;> rfl) (Nat.le_of_ble_eq_true rfl) (Nat.le_of_ble_eq_true rfl) dX7_init_16 (fun H2 hz2 ho2 hP2 hD2 hS2 => ?_)
  refine lv_dup hx hb dX7_init_19 rfl ?_
  have hP1 : va_P (gD g) vwCl [((a + 4), .inr (4, [.int 0, .null, .null, .int 0, .int 0, .null, .int 0, .int 0, .null, .int 0, .null, .int 0, .null, .int 0, .int 0, .int 0, .int 0, .int 0]))] H2 := fun k x hk => by
    have z1 : k < 1 := (List.getElem?_eq_some_iff.mp hk).1
    rw [show k = 0 by omega] at hk
    exact hP2 _ x (by rw [at_end rfl]; exact hk)
  have hq1 : ∀ q, rB (a + 4) ((a + 4) + 1) q → rB a (a + 1) q := rB_in (Nat.lt_add_of_pos_right (Nat.le_of_ble_eq_true rfl))
  refine va_callv (va_runI (As := []) (rest := [.ref (a + 4), .ref a]) ⟨hx, hb, hml, hown, hts⟩ (rc_X4_init l g H2 (a + 4) ((a + 4) + 1) hz2 rfl (Nat.le_trans hg (Nat.le_add_right _ _)) hP1 h0) (cwI 0 hts gX7_init_X4_init rfl rfl rfl (hts (.initialized RX4) (by decide +kernel)) (hts (.methodLink RX7 18 yX4_init) (by decide +kernel)) (hts (.instanceMethod yX4_init) (by decide +kernel)) rfl (by decide +kernel) ⟨Nat.le_of_ble_eq_true rfl, Nat.le_of_ble_eq_true rfl⟩) ⟨r_blind, fun U hU hWm => ⟨rfl, hK.to (va_S_wk hS2 hAg) hU hWm, hU⟩⟩ rfl rfl hl.1 rfl (lv_room (Nat.le_of_ble_eq_true rfl)) dX7_init_20 ⟨Nat.le_of_ble_eq_true rfl, Nat.le_of_ble_eq_true rfl⟩) hS2 (fun q _ h => hq1 q h) hq1 (fun u t H3 locs3 ht hvm hw hB hz3 hk3 hS3 => ?_)
  rw [ht] at hB
  obtain ⟨-, hz3, hB3⟩ := hB
  obtain ⟨hP3, hD3⟩ := rl_after hP hD hz ho2 hz2 hk3 (w1 := blk g (a + 4) sd0) (blk_P hB3) (blk_D (fun q h => Or.inr (Nat.le_trans (Nat.add_le_add_left (Nat.le_of_ble_eq_true rfl) a) h))) (fun x hx => blk_ge hx)
  clear hP hD hS hz hP1 hP2 hD2 hS2 hk3 ho2
  have hz : H3.size = a + 95 := hz3
  refine W.eq (g2 := F0 m 23 ls [.ref (a + 4), .ref a]) rfl ?_
  refine rl_put (ty := .object RX4) hx hb hts i_7 tyX7 tyX7_ok nmX7 hown hK hP3 hD3 hS3 hz 0 rfl rfl 3 (by decide) (hts (.fieldLink RX7 19 "OpticalJukebox" "state" "LOpticalJukebox$State;") (by decide +kernel)) rfl (by decide +kernel) rfl rfl (Nat.le_of_ble_eq_true rfl) dX7_init_23 (fun H locs hz hP hD hS => ?_)
  clear hP3 hD3 hS3
  have hP : va_P (gD g) vwCl (([(a, .inr (7, [.ref (a + 1), .int 0, .int 0, .ref (a + 4), .null, .null, .null, .null, .int 0]))] ++ [(a + 1, .inr (5, [.ref (a + 2), .int 0, .int 0, .int 0, .int 0, .int 0, .ref (a + 3), .int 0, .int 0])), (a + 2, .inl (gy g 0, 900, .inl (fun _ => 0))), (a + 3, .inl (gy g 2, 20, .inr (.inl (fun _ => 0))))]) ++ blk g (a + 4) sd0) H := hP
  have hD : va_D (rB a (a + 1)) (([(a, .inr (7, [.ref (a + 1), .int 0, .int 0, .ref (a + 4), .null, .null, .null, .null, .int 0]))] ++ [(a + 1, .inr (5, [.ref (a + 2), .int 0, .int 0, .int 0, .int 0, .int 0, .ref (a + 3), .int 0, .int 0])), (a + 2, .inl (gy g 0, 900, .inl (fun _ => 0))), (a + 3, .inl (gy g 2, 20, .inr (.inl (fun _ => 0))))]) ++ blk g (a + 4) sd0) := hD
  refine lv_aload_n hx hb dX7_init_26 rfl (lv_at hl 0 rfl) ?_
  refine rl_new (ci := 4) (fs := [.int 0, .null, .null, .int 0, .int 0, .null, .int 0, .int 0, .null, .int 0, .null, .int 0, .null, .int 0, .int 0, .int 0, .int 0, .int 0]) hx hb hts i_4 tyX4 tyX4_ok hown (hts (.classLink RX7 16 RX4) (by decide +kernel)) (hts (.instantiable RX4 18) (by decide +kernel)) (hts (.initialized RX4) (by decide +kernel)) hK hP hD hS hz (hAz _ (Nat.add_le_add_left (Nat.le_of_ble_eq_true rfl) a)) rfl (fun j hj => by rcases (show j = 0 ∨ j = 1 ∨ j = 2 ∨ j = 3 ∨ j = 4 ∨ j = 5 ∨ j = 6 ∨ j = 7 ∨ j = 8 ∨ j = 9 ∨ j = 10 ∨ j = 11 ∨ j = 12 ∨ j = 13 ∨ j = 14 ∨ j = 15 ∨ j = 16 ∨ j = 17 by omega) with rfl | rfl | rfl | rfl | rfl | rfl | rfl | rfl | rfl | rfl | rfl | rfl | rfl | rfl | rfl | rfl | rfl | rfl <;> rfl) (Nat.le_of_ble_eq_true rfl) (Nat.le_of_ble_eq_true rfl) dX7_init_27 (fun H2 hz2 ho2 hP2 hD2 hS2 => ?_)
  refine lv_dup hx hb dX7_init_30 rfl ?_
  have hP1 : va_P (gD g) vwCl [((a + 95), .inr (4, [.int 0, .null, .null, .int 0, .int 0, .null, .int 0, .int 0, .null, .int 0, .null, .int 0, .null, .int 0, .int 0, .int 0, .int 0, .int 0]))] H2 := fun k x hk => by
    have z1 : k < 1 := (List.getElem?_eq_some_iff.mp hk).1
    rw [show k = 0 by omega] at hk
    exact hP2 _ x (by rw [at_end rfl]; exact hk)
  have hq1 : ∀ q, rB (a + 95) ((a + 95) + 1) q → rB a (a + 1) q := rB_in (Nat.lt_add_of_pos_right (Nat.le_of_ble_eq_true rfl))
  refine va_callv (va_runI (As := []) (rest := [.ref (a + 95), .ref a]) ⟨hx, hb, hml, hown, hts⟩ (rc_X4_init l g H2 (a + 95) ((a + 95) + 1) hz2 rfl (Nat.le_trans hg (Nat.le_add_right _ _)) hP1 h0) (cwI 0 hts gX7_init_X4_init rfl rfl rfl (hts (.initialized RX4) (by decide +kernel)) (hts (.methodLink RX7 18 yX4_init) (by decide +kernel)) (hts (.instanceMethod yX4_init) (by decide +kernel)) rfl (by decide +kernel) ⟨Nat.le_of_ble_eq_true rfl, Nat.le_of_ble_eq_true rfl⟩) ⟨r_blind, fun U hU hWm => ⟨rfl, hK.to (va_S_wk hS2 hAg) hU hWm, hU⟩⟩ rfl rfl hl.1 rfl (lv_room (Nat.le_of_ble_eq_true rfl)) dX7_init_31 ⟨Nat.le_of_ble_eq_true rfl, Nat.le_of_ble_eq_true rfl⟩) hS2 (fun q _ h => hq1 q h) hq1 (fun u t H3 locs3 ht hvm hw hB hz3 hk3 hS3 => ?_)
  rw [ht] at hB
  obtain ⟨-, hz3, hB3⟩ := hB
  obtain ⟨hP3, hD3⟩ := rl_after hP hD hz ho2 hz2 hk3 (w1 := blk g (a + 95) sd0) (blk_P hB3) (blk_D (fun q h => Or.inr (Nat.le_trans (Nat.add_le_add_left (Nat.le_of_ble_eq_true rfl) a) h))) (fun x hx => blk_ge hx)
  clear hP hD hS hz hP1 hP2 hD2 hS2 hk3 ho2
  have hz : H3.size = a + 186 := hz3
  refine W.eq (g2 := F0 m 34 ls [.ref (a + 95), .ref a]) rfl ?_
  refine rl_put (ty := .object RX4) hx hb hts i_7 tyX7 tyX7_ok nmX7 hown hK hP3 hD3 hS3 hz 0 rfl rfl 4 (by decide) (hts (.fieldLink RX7 23 "OpticalJukebox" "spare" "LOpticalJukebox$State;") (by decide +kernel)) rfl (by decide +kernel) rfl rfl (Nat.le_of_ble_eq_true rfl) dX7_init_34 (fun H locs hz hP hD hS => ?_)
  clear hP3 hD3 hS3
  have hP : va_P (gD g) vwCl ((([(a, .inr (7, [.ref (a + 1), .int 0, .int 0, .ref (a + 4), .ref (a + 95), .null, .null, .null, .int 0]))] ++ [(a + 1, .inr (5, [.ref (a + 2), .int 0, .int 0, .int 0, .int 0, .int 0, .ref (a + 3), .int 0, .int 0])), (a + 2, .inl (gy g 0, 900, .inl (fun _ => 0))), (a + 3, .inl (gy g 2, 20, .inr (.inl (fun _ => 0))))]) ++ blk g (a + 4) sd0) ++ blk g (a + 95) sd0) H := hP
  have hD : va_D (rB a (a + 1)) ((([(a, .inr (7, [.ref (a + 1), .int 0, .int 0, .ref (a + 4), .ref (a + 95), .null, .null, .null, .int 0]))] ++ [(a + 1, .inr (5, [.ref (a + 2), .int 0, .int 0, .int 0, .int 0, .int 0, .ref (a + 3), .int 0, .int 0])), (a + 2, .inl (gy g 0, 900, .inl (fun _ => 0))), (a + 3, .inl (gy g 2, 20, .inr (.inl (fun _ => 0))))]) ++ blk g (a + 4) sd0) ++ blk g (a + 95) sd0) := hD
  refine lv_aload_n hx hb dX7_init_37 rfl (lv_at hl 0 rfl) ?_
  refine rl_new (ci := 1) (fs := [.null, .int 0, .int 0]) hx hb hts i_1 tyX1 tyX1_ok hown (hts (.classLink RX7 26 RX1) (by decide +kernel)) (hts (.instantiable RX1 3) (by decide +kernel)) (hts (.initialized RX1) (by decide +kernel)) hK hP hD hS hz (hAz _ (Nat.add_le_add_left (Nat.le_of_ble_eq_true rfl) a)) rfl (fun j hj => by rcases (show j = 0 ∨ j = 1 ∨ j = 2 by omega) with rfl | rfl | rfl <;> rfl) (Nat.le_of_ble_eq_true rfl) (Nat.le_of_ble_eq_true rfl) dX7_init_38 (fun H2 hz2 ho2 hP2 hD2 hS2 => ?_)
  refine lv_dup hx hb dX7_init_41 rfl ?_
  have hP1 : va_P (gD g) vwCl [((a + 186), .inr (1, [.null, .int 0, .int 0]))] H2 := fun k x hk => by
    have z1 : k < 1 := (List.getElem?_eq_some_iff.mp hk).1
    rw [show k = 0 by omega] at hk
    exact hP2 _ x (by rw [at_end rfl]; exact hk)
  have hq1 : ∀ q, rB (a + 186) ((a + 186) + 1) q → rB a (a + 1) q := rB_in (Nat.lt_add_of_pos_right (Nat.le_of_ble_eq_true rfl))
  refine va_callv (va_runIN (As := []) (rest := [.ref (a + 186), .ref a]) ⟨hx, hb, hml, hown, hts⟩ (rc_X1_init l g H2 (a + 186) ((a + 186) + 1) hz2 (Nat.lt_succ_self _) (Nat.le_trans hg (Nat.le_add_right _ _)) hP1) ⟨va_cnB 0 hts gX7_init_X1_init_n28 rfl rfl rfl (hK.2.2.2.2.2.2.2.2.2 4 (by decide)) (hts (.initialized RX1) (by decide +kernel)) (by decide +kernel) ⟨Nat.le_of_ble_eq_true rfl, Nat.le_of_ble_eq_true rfl⟩, rfl, hts (.instanceMethod yX1_init) (by decide +kernel)⟩ ⟨r_blind, fun U hU hWm => ⟨rfl, hK.to (va_S_wk hS2 hAg) hU hWm, hU⟩⟩ rfl rfl hl.1 rfl (lv_room (Nat.le_of_ble_eq_true rfl)) dX7_init_42 ⟨Nat.le_of_ble_eq_true rfl, Nat.le_of_ble_eq_true rfl⟩) hS2 (fun q _ h => hq1 q h) hq1 (fun u t H3 locs3 ht hvm hw hB hz3 hk3 hS3 => ?_)
  rw [ht] at hB
  obtain ⟨-, hz3, hB3⟩ := hB
  obtain ⟨hP3, hD3⟩ := rl_after hP hD hz ho2 hz2 hk3 (w1 := [(a + 186, .inr (1, [.ref (a + 187), .int 0, .int 0])), (a + 187, .inl (gy g 6, 16, .inr (.inr (.inr (.inr (fun _ => none))))))]) hB3 (va_D2 (fun q h => Or.inr (Nat.le_trans (Nat.add_le_add_left (Nat.le_of_ble_eq_true rfl) a) h))) (fun x hx => by simp at hx; rcases hx with rfl | rfl <;> simp)
  clear hP hD hS hz hP1 hP2 hD2 hS2 hk3 ho2
  have hz : H3.size = a + 188 := hz3
  refine W.eq (g2 := F0 m 45 ls [.ref (a + 186), .ref a]) rfl ?_
  refine rl_putF (ty := .object RX1) hx hb hts i_7 tyX7 tyX7_ok nmX7 hown hK hP3 hD3 hS3 hz 0 rfl rfl 5 (by decide) (hts (.fieldLink RX7 29 "OpticalJukebox" "history" "LOpticalJukebox$History;") (by decide +kernel)) rfl hin rfl (by decide +kernel) rfl rfl (Nat.le_of_ble_eq_true rfl) dX7_init_45 (fun H locs hz hP hD hS => ?_)
  clear hP3 hD3 hS3
  have hP : va_P (gD g) vwCl (((([(a, .inr (7, [.ref (a + 1), .int 0, .int 0, .ref (a + 4), .ref (a + 95), .ref (a + 186), .null, .null, .int 0]))] ++ [(a + 1, .inr (5, [.ref (a + 2), .int 0, .int 0, .int 0, .int 0, .int 0, .ref (a + 3), .int 0, .int 0])), (a + 2, .inl (gy g 0, 900, .inl (fun _ => 0))), (a + 3, .inl (gy g 2, 20, .inr (.inl (fun _ => 0))))]) ++ blk g (a + 4) sd0) ++ blk g (a + 95) sd0) ++ [(a + 186, .inr (1, [.ref (a + 187), .int 0, .int 0])), (a + 187, .inl (gy g 6, 16, .inr (.inr (.inr (.inr (fun _ => none))))))]) H := hP
  have hD : va_D (rB a (a + 1)) (((([(a, .inr (7, [.ref (a + 1), .int 0, .int 0, .ref (a + 4), .ref (a + 95), .ref (a + 186), .null, .null, .int 0]))] ++ [(a + 1, .inr (5, [.ref (a + 2), .int 0, .int 0, .int 0, .int 0, .int 0, .ref (a + 3), .int 0, .int 0])), (a + 2, .inl (gy g 0, 900, .inl (fun _ => 0))), (a + 3, .inl (gy g 2, 20, .inr (.inl (fun _ => 0))))]) ++ blk g (a + 4) sd0) ++ blk g (a + 95) sd0) ++ [(a + 186, .inr (1, [.ref (a + 187), .int 0, .int 0])), (a + 187, .inl (gy g 6, 16, .inr (.inr (.inr (.inr (fun _ => none))))))]) := hD
  refine lv_aload_n hx hb dX7_init_48 rfl (lv_at hl 0 rfl) ?_
  refine lv_sipush (v := 280) hx hb dX7_init_49 (by decide) ?_
  refine rl_newa (atype := .byte) (a0 := (280, .inl (fun _ => 0))) (N' := 280) hx hb (hts (.arrayClass .byte) (by decide +kernel)) rfl hP hD hS hz (hAz _ (Nat.add_le_add_left (Nat.le_of_ble_eq_true rfl) a)) (hK.1.2 0 _ rfl).2 (fun _ => rfl) (by decide) (by decide) (by decide) (Nat.le_of_ble_eq_true rfl) (Nat.le_of_ble_eq_true rfl) dX7_init_52 (fun H hz hP hD hS => ?_)
  refine rl_putF (ty := .array .byte) hx hb hts i_7 tyX7 tyX7_ok nmX7 hown hK hP hD hS hz 0 rfl rfl 7 (by decide) (hts (.fieldLink RX7 33 "OpticalJukebox" "output" "[B") (by decide +kernel)) rfl hin rfl (by decide +kernel) rfl rfl (Nat.le_of_ble_eq_true rfl) dX7_init_54 (fun H locs hz hP hD hS => ?_)
  have hP : va_P (gD g) vwCl ((((([(a, .inr (7, [.ref (a + 1), .int 0, .int 0, .ref (a + 4), .ref (a + 95), .ref (a + 186), .null, .ref (a + 188), .int 0]))] ++ [(a + 1, .inr (5, [.ref (a + 2), .int 0, .int 0, .int 0, .int 0, .int 0, .ref (a + 3), .int 0, .int 0])), (a + 2, .inl (gy g 0, 900, .inl (fun _ => 0))), (a + 3, .inl (gy g 2, 20, .inr (.inl (fun _ => 0))))]) ++ blk g (a + 4) sd0) ++ blk g (a + 95) sd0) ++ [(a + 186, .inr (1, [.ref (a + 187), .int 0, .int 0])), (a + 187, .inl (gy g 6, 16, .inr (.inr (.inr (.inr (fun _ => none))))))]) ++ [(a + 188, .inl (gy g 0, 280, .inl (fun _ => 0)))]) H := hP
  have hat : ∀ x ∈ ((((([(a, .inr (7, [.ref (a + 1), .int 0, .int 0, .ref (a + 4), .ref (a + 95), .ref (a + 186), .null, .ref (a + 188), .int 0]))] ++ [(a + 1, .inr (5, [.ref (a + 2), .int 0, .int 0, .int 0, .int 0, .int 0, .ref (a + 3), .int 0, .int 0])), (a + 2, .inl (gy g 0, 900, .inl (fun _ => 0))), (a + 3, .inl (gy g 2, 20, .inr (.inl (fun _ => 0))))]) ++ blk g (a + 4) sd0) ++ blk g (a + 95) sd0) ++ [(a + 186, .inr (1, [.ref (a + 187), .int 0, .int 0])), (a + 187, .inl (gy g 6, 16, .inr (.inr (.inr (.inr (fun _ => none))))))]) ++ [(a + 188, .inl (gy g 0, 280, .inl (fun _ => 0)))]), va_at (gD g) vwCl x H := fun x hx => by
    obtain ⟨i, hi⟩ := List.getElem?_of_mem hx
    exact hP i x hi
  have hW : World (g01 g a) (cs0 a sd0, mt) H := born_World hz (blk_S (fun x hx => hat x (List.mem_append_left _ (List.mem_append_left _ (List.mem_append_left _ (List.mem_append_right _ (hx))))))) (blk_S (fun x hx => hat x (List.mem_append_left _ (List.mem_append_left _ (List.mem_append_right _ (hx)))))) (hat _ (List.mem_append_left _ (List.mem_append_left _ (List.mem_append_left _ (List.mem_append_left _ (List.mem_append_left _ (List.mem_cons_self))))))) (hat _ (List.mem_append_left _ (List.mem_append_left _ (List.mem_append_left _ (List.mem_append_left _ (List.mem_append_right _ (List.mem_cons_self))))))) (hat _ (List.mem_append_left _ (List.mem_append_left _ (List.mem_append_left _ (List.mem_append_left _ (List.mem_append_right _ (List.mem_cons_of_mem _ (List.mem_cons_self)))))))) (hat _ (List.mem_append_left _ (List.mem_append_left _ (List.mem_append_left _ (List.mem_append_left _ (List.mem_append_right _ (List.mem_cons_of_mem _ (List.mem_cons_of_mem _ (List.mem_cons_self))))))))) (hat _ (List.mem_append_left _ (List.mem_append_right _ (List.mem_cons_self)))) (hat _ (List.mem_append_left _ (List.mem_append_right _ (List.mem_cons_of_mem _ (List.mem_cons_self))))) (hat _ (List.mem_append_right _ (List.mem_cons_self)))
  refine W.cs (cells' := 188) (slots' := 2738) rfl rfl ?_
  exact r_vret hx hb hr hlocks hK hS hAg hW dX7_init_57
