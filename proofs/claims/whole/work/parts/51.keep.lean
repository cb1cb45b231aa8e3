abbrev rm_X1_keep : Room := { frames := 3, cells := 91, slots := 755, locals := 110 }
theorem w_two {g : GT} {c1 : CT} {mt : MT} {H : Heap} {i j : Nat} (hW : World g (c1, mt) H) : World g (wS (wS (c1, mt) i (k_xs c1 i)) j (k_xs c1 j)) H := by
  show World g (kS (kS c1 i (k_xs c1 i)) j (k_xs c1 j), mt) H
  rw [kS_self c1 i, kS_self c1 j]
  exact hW
theorem w_two' {g : GT} {c1 : CT} {mt : MT} {H : Heap} {i j : Nat} {sd : SD} (hW : World g (wS (wS (c1, mt) i (k_xs c1 i)) j sd) H) : World g (kS c1 j sd, mt) H := by
  have hW : World g (kS (kS c1 i (k_xs c1 i)) j sd, mt) H := hW
  rw [kS_self c1 i] at hW
  exact hW
theorem World.o_lt {g : GT} {c : CT} {mt : MT} {H : Heap} (hfl : 1 ≤ gf g) (hW : World g (c, mt) H) : g.1 ≤ k_sz c := by
  have h := hW.lt (i := g.1) (k := 7) (j := 0) ⟨⟨hfl, rfl⟩, by decide⟩
  have e : adr g.1 7 0 = g.1 := rfl
  have e2 : H.size = k_sz c := hW.2.2.1
  omega
set_option maxRecDepth 100000 in
set_option maxHeartbeats 8000000 in
theorem ct_X1_keep (l : Launch) (g : GT) (hfl : 1 ≤ gf g) (cs : CT) (mt : MT) {q : CT} (hf : f_X1_keep cs = some q) : Met l yX1_keep wsX1_keep rm_X1_keep (cPre g (cs, mt) [.ref (adr (g.1 + 186) 1 0), .ref (adr (k_st cs) 4 0)]) (cQv g (q, mt)) 91 755 (gA g) := by
  have i_1 : ∀ w ∈ u_ws RX1 TX1 3, w ∈ wsX1_keep := by decide +kernel
  have i_4 : ∀ w ∈ u_ws RX4 TX4 18, w ∈ wsX1_keep := by decide +kernel
  refine x_met (by decide) rfl (Nat.le_of_ble_eq_true rfl) ?_
  intro p e s m below meth c hx hb hr hml hts hown hlocks hK hW hS ls hl
  have hown : s.vm.findClass RX1 = some m.cls := hown
  have hl : lv_has ls 3 [(0, .ref (adr (g.1 + 186) 1 0)), (1, .ref (adr (k_st cs) 4 0))] := hl
  rw [f_X1_keep] at hf
  obtain ⟨p0, e_p0, hf⟩ := x_letE hf
  obtain ⟨hg0, hf⟩ := x_guardE hf
  refine lv_aload_n hx hb dX1_keep_0 rfl (lv_at hl 0 rfl) ?_
  refine x_get (i := (g.1 + 186)) (k := 1) (j := 0) (t := 1) hx hb hts i_1 hown hK hW ⟨⟨hfl, rfl⟩, by decide⟩ rfl ⟨by decide, by decide, rfl⟩ (hts (.fieldLink RX1 21 "OpticalJukebox$History" "first" "I") (by decide +kernel)) (v := .int (k_hd cs 1 0 1)) rfl dX1_keep_1 ?_
  refine lv_aload_n hx hb dX1_keep_4 rfl (lv_at hl 0 rfl) ?_
  refine x_get (i := (g.1 + 186)) (k := 1) (j := 0) (t := 2) hx hb hts i_1 hown hK hW ⟨⟨hfl, rfl⟩, by decide⟩ rfl ⟨by decide, by decide, rfl⟩ (hts (.fieldLink RX1 17 "OpticalJukebox$History" "count" "I") (by decide +kernel)) (v := .int (k_hd cs 1 0 2)) rfl dX1_keep_5 ?_
  refine lv_iadd hx hb dX1_keep_8 ?_
  refine lv_bipush (v := 16) hx hb dX1_keep_9 (by decide) ?_
  refine lv_irem hx hb dX1_keep_11 (by decide) ?_
  refine x_topi e_p0 ?_
  refine lv_istore_n (lv' := [(2, .int p0), (0, .ref (adr (g.1 + 186) 1 0)), (1, .ref (adr (k_st cs) 4 0))]) hx hb dX1_keep_12 rfl hl (by decide) rfl (fun ls hl => ?_)
  have KK35 : ∀ (c1 : CT) (q0 : Nat) (ls : Array Slot) (H : Heap) (locs : List Loc), k_hz c1 p0.toNatClampNeg = some q0 → lv_has ls 3 [(2, .int p0), (0, .ref (adr (g.1 + 186) 1 0)), (1, .ref (adr (k_st c1) 4 0))] → World g (c1, mt) H → va_S (gA g) s.heap H locs → f_X1_keep_c c1 q0 = some q → W p l e rm_X1_keep s m [.ref (adr (g.1 + 186) 1 0), .ref (adr (k_st cs) 4 0)].toArray below meth c H locs 91 755 (MQ below (cQv g (q, mt)) [.ref (adr (g.1 + 186) 1 0), .ref (adr (k_st cs) 4 0)].toArray s 91 755 (gA g)) (F0 m 35 ls []) := by
    clear hW hS hl hf
    intro c1 q0 ls H locs hz hl hW hS hf
    rw [f_X1_keep_c] at hf
    obtain ⟨hne, hf⟩ := x_guardE hf
    obtain ⟨sd1, h1, hf⟩ := x_bindE hf
    obtain ⟨c2, e2, hf⟩ := x_letE hf
    have hq0 : q0 ∈ k_S c1 := hW.2.2.2.2.2 _ _ hz
    have hst : k_st c1 ∈ k_S c1 := hW.2.2.2.1
    refine lv_aload_n hx hb dX1_keep_35 rfl (lv_at hl 1 rfl) ?_
    refine x_get (i := (g.1 + 186)) (k := 1) (j := 0) (t := 0) hx hb hts i_1 hown hK hW ⟨⟨hfl, rfl⟩, by decide⟩ rfl ⟨by decide, by decide, rfl⟩ (hts (.fieldLink RX1 11 "OpticalJukebox$History" "states" "[LOpticalJukebox$State;") (by decide +kernel)) (v := .ref (adr (g.1 + 186) 22 0)) rfl dX1_keep_36 ?_
    refine lv_iload_n hx hb dX1_keep_39 rfl (lv_at hl 0 rfl) ?_
    refine x_aald (i := (g.1 + 186)) (k := 22) (j := 0) (f := fun t => (k_hz c1 t).map (fun q => adr q 4 0)) hx hb hK hW ⟨⟨hfl, rfl⟩, by decide⟩ (by decide) rfl rfl hg0 dX1_keep_40 ?_
    refine W.eq (g2 := F0 m 41 ls [.ref (adr q0 4 0)]) (by show F0 m 41 ls [va_rf (Option.map _ (k_hz c1 p0.toNatClampNeg))] = _; rw [hz]; rfl) ?_
    refine lv_aload_n hx hb dX1_keep_41 rfl (lv_at hl 2 rfl) ?_
    refine x_cv0 (x_rV ⟨hx, hb, hml, hown, hts⟩ (ct_X4_copyFrom l g (c1, mt) q0 hq0 (k_st c1) hst hne (k_xs c1 q0) (k_xs c1 (k_st c1)) h1) (cwV 1 hts gX1_keep_X4_copyFrom rfl rfl rfl (by decide +kernel) ⟨Nat.le_of_ble_eq_true rfl, Nat.le_of_ble_eq_true rfl⟩) hK (w_two hW) hS (x_recv (i := q0) (k := 4) (j := 0) hK hW ⟨hq0, by decide⟩ rfl (by decide)) rfl hl.1 (rest := []) rfl (Nat.le_of_ble_eq_true rfl) dX1_keep_42 ⟨Nat.le_of_ble_eq_true rfl, Nat.le_of_ble_eq_true rfl⟩) hS (fun H locs hW hS => ?_)
    have hW := w_two' hW
    rw [← e2] at hW
    refine lv_aload_n hx hb dX1_keep_45 rfl (lv_at hl 1 rfl) ?_
    refine x_get (i := (g.1 + 186)) (k := 1) (j := 0) (t := 2) hx hb hts i_1 hown hK hW ⟨⟨hfl, rfl⟩, by decide⟩ rfl ⟨by decide, by decide, rfl⟩ (hts (.fieldLink RX1 17 "OpticalJukebox$History" "count" "I") (by decide +kernel)) (v := .int (k_hd c2 1 0 2)) rfl dX1_keep_46 ?_
    refine lv_bipush (v := 16) hx hb dX1_keep_49 (by decide) ?_
    refine lv_icmp_ge (tgt := 67) hx hb dX1_keep_51 (by decide) (fun hc => ?_) (fun hc => ?_)
    · have hf := x_iteT hf hc
      refine lv_aload_n hx hb dX1_keep_67 rfl (lv_at hl 1 rfl) ?_
      refine lv_aload_n hx hb dX1_keep_68 rfl (lv_at hl 1 rfl) ?_
      refine x_get (i := (g.1 + 186)) (k := 1) (j := 0) (t := 1) hx hb hts i_1 hown hK hW ⟨⟨hfl, rfl⟩, by decide⟩ rfl ⟨by decide, by decide, rfl⟩ (hts (.fieldLink RX1 21 "OpticalJukebox$History" "first" "I") (by decide +kernel)) (v := .int (k_hd c2 1 0 1)) rfl dX1_keep_69 ?_
      refine lv_iconst (v := 1) hx hb dX1_keep_72 (by decide) ?_
      refine lv_iadd hx hb dX1_keep_73 ?_
      refine lv_bipush (v := 16) hx hb dX1_keep_74 (by decide) ?_
      refine lv_irem hx hb dX1_keep_76 (by decide) ?_
      refine x_put (i := (g.1 + 186)) (k := 1) (j := 0) (t := 1) (w' := (kH c2 (upS (k_hd c2) 1 0 1 ((k_hd c2 1 0 1 + 1) - (k_hd c2 1 0 1 + 1) / 16 * 16)) (k_hz c2), mt)) hx hb hts i_1 tyX1 tyX1_ok nmX1 hown hK hW ⟨⟨hfl, rfl⟩, by decide⟩ hS rfl ⟨by decide, by decide, rfl⟩ (hts (.fieldLink RX1 21 "OpticalJukebox$History" "first" "I") (by decide +kernel)) rfl (ty := .int) (by decide +kernel) rfl rfl ⟨rfl, rfl⟩ dX1_keep_77 (fp_H (w := (c2, mt)) (hd := k_hd c2) (hz := k_hz c2) rfl rfl) (fun H locs hW hS => ?_)
      cases hf
      exact x_vret hx hb hr hlocks hK hW hS dX1_keep_80
    · have hf := x_iteF hf hc
      refine lv_aload_n hx hb dX1_keep_54 rfl (lv_at hl 1 rfl) ?_
      refine lv_dup hx hb dX1_keep_55 rfl ?_
      refine x_get (i := (g.1 + 186)) (k := 1) (j := 0) (t := 2) hx hb hts i_1 hown hK hW ⟨⟨hfl, rfl⟩, by decide⟩ rfl ⟨by decide, by decide, rfl⟩ (hts (.fieldLink RX1 17 "OpticalJukebox$History" "count" "I") (by decide +kernel)) (v := .int (k_hd c2 1 0 2)) rfl dX1_keep_56 ?_
      refine lv_iconst (v := 1) hx hb dX1_keep_59 (by decide) ?_
      refine lv_iadd hx hb dX1_keep_60 ?_
      refine x_put (i := (g.1 + 186)) (k := 1) (j := 0) (t := 2) (w' := (kH c2 (upS (k_hd c2) 1 0 2 (k_hd c2 1 0 2 + 1)) (k_hz c2), mt)) hx hb hts i_1 tyX1 tyX1_ok nmX1 hown hK hW ⟨⟨hfl, rfl⟩, by decide⟩ hS rfl ⟨by decide, by decide, rfl⟩ (hts (.fieldLink RX1 17 "OpticalJukebox$History" "count" "I") (by decide +kernel)) rfl (ty := .int) (by decide +kernel) rfl rfl ⟨rfl, rfl⟩ dX1_keep_61 (fp_H (w := (c2, mt)) (hd := k_hd c2) (hz := k_hz c2) rfl rfl) (fun H locs hW hS => ?_)
      refine lv_goto (tgt := 80) hx hb dX1_keep_64 (by decide) ?_
      cases hf
      exact x_vret hx hb hr hlocks hK hW hS dX1_keep_80
  refine lv_aload_n hx hb dX1_keep_13 rfl (lv_at hl 1 rfl) ?_
  refine x_get (i := (g.1 + 186)) (k := 1) (j := 0) (t := 0) hx hb hts i_1 hown hK hW ⟨⟨hfl, rfl⟩, by decide⟩ rfl ⟨by decide, by decide, rfl⟩ (hts (.fieldLink RX1 11 "OpticalJukebox$History" "states" "[LOpticalJukebox$State;") (by decide +kernel)) (v := .ref (adr (g.1 + 186) 22 0)) rfl dX1_keep_14 ?_
  refine lv_iload_n hx hb dX1_keep_17 rfl (lv_at hl 0 rfl) ?_
  refine x_aald (i := (g.1 + 186)) (k := 22) (j := 0) (f := fun t => (k_hz cs t).map (fun q => adr q 4 0)) hx hb hK hW ⟨⟨hfl, rfl⟩, by decide⟩ (by decide) rfl rfl hg0 dX1_keep_18 ?_
  cases hz : k_hz cs p0.toNatClampNeg with
  | some q0 =>
    rw [hz] at hf
    refine W.eq (g2 := F0 m 19 ls [.ref (adr q0 4 0)]) rfl ?_
    refine lv_ifnonnull (tgt := 35) hx hb dX1_keep_19 (by decide) ?_
    refine W.widen (k := 91) (n := 755) (by decide) (by decide) ?_
    exact KK35 cs q0 ls _ _ hz hl hW hS hf
  | none =>
    rw [hz] at hf
    obtain ⟨c1, h1, hf⟩ := x_bindE hf
    rw [f_newState] at h1
    obtain ⟨sd0, h0, h1⟩ := x_bindE h1
    cases h1
    obtain ⟨c2, e2, hf⟩ := x_letE hf
    have hgz := hW.o_lt hfl
    have hsz : s.heap.size = k_sz cs := hW.2.2.1
    refine W.eq (g2 := F0 m 19 ls [.null]) rfl ?_
    refine lv_ifnonnullN hx hb dX1_keep_19 ?_
    refine lv_aload_n hx hb dX1_keep_22 rfl (lv_at hl 1 rfl) ?_
    refine x_get (i := (g.1 + 186)) (k := 1) (j := 0) (t := 0) hx hb hts i_1 hown hK hW ⟨⟨hfl, rfl⟩, by decide⟩ rfl ⟨by decide, by decide, rfl⟩ (hts (.fieldLink RX1 11 "OpticalJukebox$History" "states" "[LOpticalJukebox$State;") (by decide +kernel)) (v := .ref (adr (g.1 + 186) 22 0)) rfl dX1_keep_23 ?_
    refine lv_iload_n hx hb dX1_keep_26 rfl (lv_at hl 0 rfl) ?_
    refine rl_new (A := gA g) (ws := []) (ci := 4) (fs := [.int 0, .null, .null, .int 0, .int 0, .null, .int 0, .int 0, .null, .int 0, .null, .int 0, .null, .int 0, .int 0, .int 0, .int 0, .int 0]) hx hb hts i_4 tyX4 tyX4_ok hown (hts (.classLink RX1 9 RX4) (by decide +kernel)) (hts (.instantiable RX4 18) (by decide +kernel)) (hts (.initialized RX4) (by decide +kernel)) hK (fun k x h => by simp at h) ⟨fun i j x y h => by simp at h, fun k x h => by simp at h⟩ hS hsz hgz rfl (fun j hj => by rcases (show j = 0 ∨ j = 1 ∨ j = 2 ∨ j = 3 ∨ j = 4 ∨ j = 5 ∨ j = 6 ∨ j = 7 ∨ j = 8 ∨ j = 9 ∨ j = 10 ∨ j = 11 ∨ j = 12 ∨ j = 13 ∨ j = 14 ∨ j = 15 ∨ j = 16 ∨ j = 17 by omega) with rfl | rfl | rfl | rfl | rfl | rfl | rfl | rfl | rfl | rfl | rfl | rfl | rfl | rfl | rfl | rfl | rfl | rfl <;> rfl) (Nat.le_of_ble_eq_true rfl) (Nat.le_of_ble_eq_true rfl) dX1_keep_27 (fun H2 hz2 ho2 hP2 hD2 hS2 => ?_)
    refine lv_dup hx hb dX1_keep_30 rfl ?_
    refine va_callv (va_runI (As := []) (rest := [.ref (k_sz cs), .int p0, .ref (adr (g.1 + 186) 22 0)]) ⟨hx, hb, hml, hown, hts⟩ (rc_X4_init l g H2 (k_sz cs) (k_sz cs + 1) hz2 rfl hgz hP2 h0) (cwI 0 hts gX1_keep_X4_init rfl rfl rfl (hts (.initialized RX4) (by decide +kernel)) (hts (.methodLink RX1 24 yX4_init) (by decide +kernel)) (hts (.instanceMethod yX4_init) (by decide +kernel)) rfl (by decide +kernel) ⟨Nat.le_of_ble_eq_true rfl, Nat.le_of_ble_eq_true rfl⟩) ⟨r_blind, fun U hU hWm => ⟨rfl, hK.to hS2 hU hWm, hU⟩⟩ rfl rfl hl.1 rfl (lv_room (Nat.le_of_ble_eq_true rfl)) dX1_keep_31 ⟨Nat.le_of_ble_eq_true rfl, Nat.le_of_ble_eq_true rfl⟩) hS2 (fun q _ h => by show g.1 ≤ q; rcases h with h | h <;> omega) (fun q h => by show g.1 ≤ q; rcases h with h | h <;> omega) (fun u t H3 locs3 ht hvm hw hB hz3 hk3 hS3 => ?_)
    rw [ht] at hB
    obtain ⟨-, hz3, hB3⟩ := hB
    have hW3 := hW.grow hgz hz3 (fun q hq => by rw [hk3 q (by omega) (fun h => by rcases h with h | h <;> omega), ho2 q hq]) hB3
    refine W.eq (g2 := F0 m 34 ls [.ref (adr (k_sz cs) 4 0), .int p0, .ref (adr (g.1 + 186) 22 0)]) rfl ?_
    refine x_aastH hx hb hK hfl hW3 hS3 (List.mem_append_right _ (List.mem_singleton.mpr rfl)) hg0 dX1_keep_34 (fun H locs hW hS => ?_)
    refine W.cs (cells' := 91) (slots' := 755) rfl rfl ?_
    have hW : World g (c2, mt) H := by rw [e2]; exact hW
    have hz4 : k_hz c2 p0.toNatClampNeg = some (k_sz cs) := by rw [e2]; exact va_up_self _ _ _
    have hst4 : k_st c2 = k_st cs := by rw [e2]
    exact KK35 c2 (k_sz cs) ls _ _ hz4 (by rw [hst4]; exact hl) hW hS hf
abbrev rm_X7_remember : Room := { frames := 4, cells := 91, slots := 755, locals := 132 }
set_option maxRecDepth 100000 in
set_option maxHeartbeats 4000000 in
theorem ct_X7_remember (l : Launch) (g : GT) (hfl : 1 ≤ gf g) (cs : CT) (mt : MT) {q : CT} (hf : f_X7_remember cs = some q) : Met l yX7_remember wsX7_remember rm_X7_remember (cPre g (cs, mt) [.ref (adr g.1 7 0)]) (cQv g (q, mt)) 91 755 (gA g) := by
  have i_7 : ∀ w ∈ u_ws RX7 TX7 9, w ∈ wsX7_remember := by decide +kernel
  refine x_met (by decide) rfl (Nat.le_of_ble_eq_true rfl) ?_
  intro p e s m below meth c hx hb hr hml hts hown hlocks hK hW hS ls hl
  have hown : s.vm.findClass RX7 = some m.cls := hown
  have hl : lv_has ls 1 [(0, .ref (adr g.1 7 0))] := hl
  rw [f_X7_remember] at hf
  obtain ⟨c1, h1, hf⟩ := x_bindE hf
  refine lv_aload_n hx hb dX7_remember_0 rfl (lv_at hl 0 rfl) ?_
  refine x_get (i := g.1) (k := 7) (j := 0) (t := 5) hx hb hts i_7 hown hK hW ⟨⟨hfl, rfl⟩, by decide⟩ rfl ⟨by decide, by decide, rfl⟩ (hts (.fieldLink RX7 29 "OpticalJukebox" "history" "LOpticalJukebox$History;") (by decide +kernel)) (v := .ref (adr (g.1 + 186) 1 0)) rfl dX7_remember_1 ?_
  refine lv_aload_n hx hb dX7_remember_4 rfl (lv_at hl 0 rfl) ?_
  refine x_get (i := g.1) (k := 7) (j := 0) (t := 3) hx hb hts i_7 hown hK hW ⟨⟨hfl, rfl⟩, by decide⟩ rfl ⟨by decide, by decide, rfl⟩ (hts (.fieldLink RX7 19 "OpticalJukebox" "state" "LOpticalJukebox$State;") (by decide +kernel)) (v := .ref (adr (k_st cs) 4 0)) rfl dX7_remember_5 ?_
  refine x_cv (x_rV ⟨hx, hb, hml, hown, hts⟩ (ct_X1_keep l g hfl cs mt h1) (cwV 1 hts gX7_remember_X1_keep rfl rfl rfl (by decide +kernel) ⟨Nat.le_of_ble_eq_true rfl, Nat.le_of_ble_eq_true rfl⟩) hK hW hS (x_recv (i := (g.1 + 186)) (k := 1) (j := 0) hK hW ⟨⟨hfl, rfl⟩, by decide⟩ rfl (by decide)) rfl hl.1 (rest := []) rfl (Nat.le_of_ble_eq_true rfl) dX7_remember_8 ⟨Nat.le_of_ble_eq_true rfl, Nat.le_of_ble_eq_true rfl⟩) hS (fun H locs hW hS => ?_)
  refine W.cs (cells' := 91) (slots' := 755) rfl rfl ?_
  refine lv_aload_n hx hb dX7_remember_11 rfl (lv_at hl 0 rfl) ?_
  refine x_cv0 (x_rV ⟨hx, hb, hml, hown, hts⟩ (ct_X7_forgetPlan l g hfl c1 mt hf) (cwV 0 hts gX7_remember_X7_forgetPlan rfl rfl rfl (by decide +kernel) ⟨Nat.le_of_ble_eq_true rfl, Nat.le_of_ble_eq_true rfl⟩) hK hW hS (x_recv (i := g.1) (k := 7) (j := 0) hK hW ⟨⟨hfl, rfl⟩, by decide⟩ rfl (by decide)) rfl hl.1 (rest := []) rfl (Nat.le_of_ble_eq_true rfl) dX7_remember_12 ⟨Nat.le_of_ble_eq_true rfl, Nat.le_of_ble_eq_true rfl⟩) hS (fun H locs hW hS => ?_)
  exact x_vret hx hb hr hlocks hK hW hS dX7_remember_15
