set_option maxRecDepth 20000 in
theorem ggX8_goesOn_X8_good : GoodIn wsX8_goesOn wsX8_good := goodIn_r _ [5, 6, 27, 28, 29, 30, 31, 32, 33, 34, 35, 36, 37, 38, 39, 40, 41, 42, 43, 44, 45, 46, 47, 48, 49, 50, 51, 52, 53] (by decide +kernel) (by decide +kernel)
set_option maxRecDepth 20000 in
theorem gX8_goesOn_X8_good : GoodIn wsX8_goesOn (wsV RX8 333 RX8 yX8_good wsX8_good) := goodIn_app (goodIn_of _ (by decide +kernel)) ggX8_goesOn_X8_good
set_option maxRecDepth 20000 in
theorem ggX8_goesOn_X8_next : GoodIn wsX8_goesOn wsX8_next := goodIn_r _ [10, 11, 12, 13, 14, 15, 16, 17, 18, 19, 20, 21, 22, 4, 23, 24, 25, 26, 27, 28, 29, 30, 31, 32, 33, 34, 35, 36, 37, 38, 39, 40, 41, 42, 43, 44, 45, 46, 47, 48, 49, 50, 51, 52, 53] (by decide +kernel) (by decide +kernel)
set_option maxRecDepth 20000 in
theorem gX8_goesOn_X8_next : GoodIn wsX8_goesOn (wsV RX8 336 RX8 yX8_next wsX8_next) := goodIn_app (goodIn_of _ (by decide +kernel)) ggX8_goesOn_X8_next
theorem dX8_goesOn_0 : decode cX8_goesOn 0 = .ok (.aload_n 0, 1) := by decide +kernel
theorem dX8_goesOn_1 : decode cX8_goesOn 1 = .ok (.invokevirtual 333, 3) := by decide +kernel
theorem dX8_goesOn_4 : decode cX8_goesOn 4 = .ok (.ifCond .eq 7, 3) := by decide +kernel
theorem dX8_goesOn_7 : decode cX8_goesOn 7 = .ok (.aload_n 0, 1) := by decide +kernel
theorem dX8_goesOn_8 : decode cX8_goesOn 8 = .ok (.invokevirtual 336, 3) := by decide +kernel
theorem dX8_goesOn_11 : decode cX8_goesOn 11 = .ok (.return_, 1) := by decide +kernel
set_option maxRecDepth 20000 in
theorem ggX8_isWord_X8_good : GoodIn wsX8_isWord wsX8_good := goodIn_r _ [7, 8, 9, 10, 11, 12, 13, 14, 15, 16, 17, 18, 19, 20, 21, 22, 23, 24, 25, 26, 27, 28, 29, 30, 31, 32, 33, 34, 35] (by decide +kernel) (by decide +kernel)
set_option maxRecDepth 20000 in
theorem gX8_isWord_X8_good : GoodIn wsX8_isWord (wsV RX8 333 RX8 yX8_good wsX8_good) := goodIn_app (goodIn_of _ (by decide +kernel)) ggX8_isWord_X8_good
theorem dX8_isWord_0 : decode cX8_isWord 0 = .ok (.aload_n 0, 1) := by decide +kernel
theorem dX8_isWord_1 : decode cX8_isWord 1 = .ok (.invokevirtual 333, 3) := by decide +kernel
theorem dX8_isWord_4 : decode cX8_isWord 4 = .ok (.ifCond .eq 24, 3) := by decide +kernel
theorem dX8_isWord_7 : decode cX8_isWord 7 = .ok (.aload_n 0, 1) := by decide +kernel
theorem dX8_isWord_8 : decode cX8_isWord 8 = .ok (.getfield 313, 3) := by decide +kernel
theorem dX8_isWord_11 : decode cX8_isWord 11 = .ok (.iconst 1, 1) := by decide +kernel
theorem dX8_isWord_12 : decode cX8_isWord 12 = .ok (.if_icmp .ne 16, 3) := by decide +kernel
theorem dX8_isWord_15 : decode cX8_isWord 15 = .ok (.aload_n 0, 1) := by decide +kernel
theorem dX8_isWord_16 : decode cX8_isWord 16 = .ok (.getfield 316, 3) := by decide +kernel
theorem dX8_isWord_19 : decode cX8_isWord 19 = .ok (.lload_n 1, 1) := by decide +kernel
theorem dX8_isWord_20 : decode cX8_isWord 20 = .ok (.lcmp, 1) := by decide +kernel
theorem dX8_isWord_21 : decode cX8_isWord 21 = .ok (.ifCond .ne 7, 3) := by decide +kernel
theorem dX8_isWord_24 : decode cX8_isWord 24 = .ok (.iconst 1, 1) := by decide +kernel
theorem dX8_isWord_25 : decode cX8_isWord 25 = .ok (.goto 4, 3) := by decide +kernel
theorem dX8_isWord_28 : decode cX8_isWord 28 = .ok (.iconst 0, 1) := by decide +kernel
theorem dX8_isWord_29 : decode cX8_isWord 29 = .ok (.ireturn, 1) := by decide +kernel
set_option maxRecDepth 20000 in
theorem ggX8_isReserved_X8_isWord : GoodIn wsX8_isReserved wsX8_isWord := goodIn_r _ [12, 13, 14, 15, 16, 17, 11, 18, 19, 20, 21, 22, 23, 24, 25, 26, 27, 28, 29, 30, 31, 32, 33, 34, 35, 36, 37, 38, 39, 40, 41, 42, 43, 44, 45, 46] (by decide +kernel) (by decide +kernel)
set_option maxRecDepth 20000 in
theorem gX8_isReserved_X8_isWord : GoodIn wsX8_isReserved (wsV RX8 341 RX8 yX8_isWord wsX8_isWord) := goodIn_app (goodIn_of _ (by decide +kernel)) ggX8_isReserved_X8_isWord
theorem dX8_isReserved_0 : decode cX8_isReserved 0 = .ok (.aload_n 0, 1) := by decide +kernel
theorem dX8_isReserved_1 : decode cX8_isReserved 1 = .ok (.ldc2_w 339, 3) := by decide +kernel
theorem dX8_isReserved_4 : decode cX8_isReserved 4 = .ok (.invokevirtual 341, 3) := by decide +kernel
theorem dX8_isReserved_7 : decode cX8_isReserved 7 = .ok (.ifCond .ne 63, 3) := by decide +kernel
theorem dX8_isReserved_10 : decode cX8_isReserved 10 = .ok (.aload_n 0, 1) := by decide +kernel
theorem dX8_isReserved_11 : decode cX8_isReserved 11 = .ok (.ldc2_w 345, 3) := by decide +kernel
theorem dX8_isReserved_14 : decode cX8_isReserved 14 = .ok (.invokevirtual 341, 3) := by decide +kernel
theorem dX8_isReserved_17 : decode cX8_isReserved 17 = .ok (.ifCond .ne 53, 3) := by decide +kernel
theorem dX8_isReserved_20 : decode cX8_isReserved 20 = .ok (.aload_n 0, 1) := by decide +kernel
theorem dX8_isReserved_21 : decode cX8_isReserved 21 = .ok (.ldc2_w 347, 3) := by decide +kernel
theorem dX8_isReserved_24 : decode cX8_isReserved 24 = .ok (.invokevirtual 341, 3) := by decide +kernel
theorem dX8_isReserved_27 : decode cX8_isReserved 27 = .ok (.ifCond .ne 43, 3) := by decide +kernel
theorem dX8_isReserved_30 : decode cX8_isReserved 30 = .ok (.aload_n 0, 1) := by decide +kernel
theorem dX8_isReserved_31 : decode cX8_isReserved 31 = .ok (.ldc2_w 349, 3) := by decide +kernel
theorem dX8_isReserved_34 : decode cX8_isReserved 34 = .ok (.invokevirtual 341, 3) := by decide +kernel
theorem dX8_isReserved_37 : decode cX8_isReserved 37 = .ok (.ifCond .ne 33, 3) := by decide +kernel
theorem dX8_isReserved_40 : decode cX8_isReserved 40 = .ok (.aload_n 0, 1) := by decide +kernel
theorem dX8_isReserved_41 : decode cX8_isReserved 41 = .ok (.ldc2_w 351, 3) := by decide +kernel
theorem dX8_isReserved_44 : decode cX8_isReserved 44 = .ok (.invokevirtual 341, 3) := by decide +kernel
theorem dX8_isReserved_47 : decode cX8_isReserved 47 = .ok (.ifCond .ne 23, 3) := by decide +kernel
theorem dX8_isReserved_50 : decode cX8_isReserved 50 = .ok (.aload_n 0, 1) := by decide +kernel
theorem dX8_isReserved_51 : decode cX8_isReserved 51 = .ok (.ldc2_w 353, 3) := by decide +kernel
theorem dX8_isReserved_54 : decode cX8_isReserved 54 = .ok (.invokevirtual 341, 3) := by decide +kernel
theorem dX8_isReserved_57 : decode cX8_isReserved 57 = .ok (.ifCond .ne 13, 3) := by decide +kernel
theorem dX8_isReserved_60 : decode cX8_isReserved 60 = .ok (.aload_n 0, 1) := by decide +kernel
theorem dX8_isReserved_61 : decode cX8_isReserved 61 = .ok (.ldc2_w 355, 3) := by decide +kernel
theorem dX8_isReserved_64 : decode cX8_isReserved 64 = .ok (.invokevirtual 341, 3) := by decide +kernel
theorem dX8_isReserved_67 : decode cX8_isReserved 67 = .ok (.ifCond .eq 7, 3) := by decide +kernel
theorem dX8_isReserved_70 : decode cX8_isReserved 70 = .ok (.iconst 1, 1) := by decide +kernel
theorem dX8_isReserved_71 : decode cX8_isReserved 71 = .ok (.goto 4, 3) := by decide +kernel
theorem dX8_isReserved_74 : decode cX8_isReserved 74 = .ok (.iconst 0, 1) := by decide +kernel
theorem dX8_isReserved_75 : decode cX8_isReserved 75 = .ok (.ireturn, 1) := by decide +kernel
set_option maxRecDepth 20000 in
theorem ggX8_sees_X8_must : GoodIn wsX8_sees wsX8_must := goodIn_r _ [7, 8, 1, 9, 10, 18, 19, 20, 21, 22, 23, 24, 25, 26, 27, 28, 29, 30, 31, 32, 33, 34, 35, 36, 37, 38, 39, 40, 41, 42, 43, 44] (by decide +kernel) (by decide +kernel)
set_option maxRecDepth 20000 in
theorem gX8_sees_X8_must : GoodIn wsX8_sees (wsV RX8 357 RX8 yX8_must wsX8_must) := goodIn_app (goodIn_of _ (by decide +kernel)) ggX8_sees_X8_must
set_option maxRecDepth 20000 in
theorem ggX8_sees_X8_isIn : GoodIn wsX8_sees wsX8_isIn := goodIn_r _ [13] (by decide +kernel) (by decide +kernel)
set_option maxRecDepth 20000 in
theorem gX8_sees_X8_isIn : GoodIn wsX8_sees (va_wsS RX8 57 yX8_isIn wsX8_isIn) := goodIn_app (goodIn_of _ (by decide +kernel)) ggX8_sees_X8_isIn
set_option maxRecDepth 20000 in
theorem ggX8_sees_X8_good : GoodIn wsX8_sees wsX8_good := goodIn_r _ [17, 8, 18, 19, 20, 21, 22, 23, 24, 25, 26, 27, 28, 29, 30, 31, 32, 33, 34, 35, 36, 37, 38, 39, 40, 41, 42, 43, 44] (by decide +kernel) (by decide +kernel)
set_option maxRecDepth 20000 in
theorem gX8_sees_X8_good : GoodIn wsX8_sees (wsV RX8 333 RX8 yX8_good wsX8_good) := goodIn_app (goodIn_of _ (by decide +kernel)) ggX8_sees_X8_good
theorem dX8_sees_0 : decode cX8_sees 0 = .ok (.aload_n 0, 1) := by decide +kernel
theorem dX8_sees_1 : decode cX8_sees 1 = .ok (.aload_n 0, 1) := by decide +kernel
theorem dX8_sees_2 : decode cX8_sees 2 = .ok (.getfield 313, 3) := by decide +kernel
theorem dX8_sees_5 : decode cX8_sees 5 = .ok (.iconst 2, 1) := by decide +kernel
theorem dX8_sees_6 : decode cX8_sees 6 = .ok (.if_icmp .ne 7, 3) := by decide +kernel
theorem dX8_sees_9 : decode cX8_sees 9 = .ok (.iconst 1, 1) := by decide +kernel
theorem dX8_sees_10 : decode cX8_sees 10 = .ok (.goto 4, 3) := by decide +kernel
theorem dX8_sees_13 : decode cX8_sees 13 = .ok (.iconst 0, 1) := by decide +kernel
theorem dX8_sees_14 : decode cX8_sees 14 = .ok (.iconst 2, 1) := by decide +kernel
theorem dX8_sees_15 : decode cX8_sees 15 = .ok (.invokevirtual 357, 3) := by decide +kernel
theorem dX8_sees_18 : decode cX8_sees 18 = .ok (.aload_n 0, 1) := by decide +kernel
theorem dX8_sees_19 : decode cX8_sees 19 = .ok (.aload_n 0, 1) := by decide +kernel
theorem dX8_sees_20 : decode cX8_sees 20 = .ok (.getfield 324, 3) := by decide +kernel
theorem dX8_sees_23 : decode cX8_sees 23 = .ok (.i2l, 1) := by decide +kernel
theorem dX8_sees_24 : decode cX8_sees 24 = .ok (.iload_n 1, 1) := by decide +kernel
theorem dX8_sees_25 : decode cX8_sees 25 = .ok (.i2l, 1) := by decide +kernel
theorem dX8_sees_26 : decode cX8_sees 26 = .ok (.iload_n 2, 1) := by decide +kernel
theorem dX8_sees_27 : decode cX8_sees 27 = .ok (.i2l, 1) := by decide +kernel
theorem dX8_sees_28 : decode cX8_sees 28 = .ok (.invokestatic 57, 3) := by decide +kernel
theorem dX8_sees_31 : decode cX8_sees 31 = .ok (.iconst 3, 1) := by decide +kernel
theorem dX8_sees_32 : decode cX8_sees 32 = .ok (.invokevirtual 357, 3) := by decide +kernel
theorem dX8_sees_35 : decode cX8_sees 35 = .ok (.aload_n 0, 1) := by decide +kernel
theorem dX8_sees_36 : decode cX8_sees 36 = .ok (.invokevirtual 333, 3) := by decide +kernel
theorem dX8_sees_39 : decode cX8_sees 39 = .ok (.ifCond .eq 10, 3) := by decide +kernel
theorem dX8_sees_42 : decode cX8_sees 42 = .ok (.aload_n 0, 1) := by decide +kernel
theorem dX8_sees_43 : decode cX8_sees 43 = .ok (.getfield 324, 3) := by decide +kernel
theorem dX8_sees_46 : decode cX8_sees 46 = .ok (.goto 4, 3) := by decide +kernel
theorem dX8_sees_49 : decode cX8_sees 49 = .ok (.iconst 0, 1) := by decide +kernel
theorem dX8_sees_50 : decode cX8_sees 50 = .ok (.ireturn, 1) := by decide +kernel
abbrev rm_X8_goesOn : Room := { frames := 3, cells := 0, slots := 0, locals := 68 }
set_option maxRecDepth 100000 in
set_option maxHeartbeats 4000000 in
theorem ct_X8_goesOn (l : Launch) (g : GT) (hfl : 2 ≤ gf g) (w : WT) (md : SD) (mn : Nat → Int64) (mw : Int64) {q : (SD × Int64)} (hf : f_X8_goesOn md mw  = some q) : Met l yX8_goesOn wsX8_goesOn rm_X8_goesOn (cPre g (wM w md mn mw) [.ref (adr (g.1 + 189) 8 0)]) (cQv g (wM w q.1 mn q.2)) 0 0 (gA g) := by
  refine x_met (by decide) rfl (Nat.le_of_ble_eq_true rfl) ?_
  intro p e s m below meth c hx hb hr hml hts hown hlocks hK hW hS ls hl
  have hown : s.vm.findClass RX8 = some m.cls := hown
  have hl : lv_has ls 1 [(0, .ref (adr (g.1 + 189) 8 0))] := hl
  rw [f_X8_goesOn] at hf
  refine lv_aload_n hx hb dX8_goesOn_0 rfl (lv_at hl 0 rfl) ?_
  obtain ⟨q1, h_q1, hf⟩ := x_bindE hf
  refine x_ci0 (x_rV ⟨hx, hb, hml, hown, hts⟩ (ct_X8_good l g hfl w md mn mw  h_q1) (cwV 0 hts gX8_goesOn_X8_good rfl rfl rfl (by decide +kernel) ⟨Nat.le_of_ble_eq_true rfl, Nat.le_of_ble_eq_true rfl⟩) hK hW hS (x_recv (i := (g.1 + 189)) (k := 8) (j := 0) hK hW ⟨⟨hfl, rfl⟩, by decide⟩ rfl (by decide)) rfl hl.1 (rest := []) rfl (Nat.le_of_ble_eq_true rfl) dX8_goesOn_1 ⟨Nat.le_of_ble_eq_true rfl, Nat.le_of_ble_eq_true rfl⟩) hS (fun H locs hW hS => ?_)
  have hW : World g (wM w md mn mw) H := hW
  refine W.eq (g2 := F0 m 4 ls [.int q1]) rfl ?_
  refine lv_if_eq (tgt := 11) hx hb dX8_goesOn_4 (by decide) (fun hc => ?_) (fun hc => ?_)
  · have hf := x_iteT hf hc
    cases hf
    exact x_vret hx hb hr hlocks hK hW hS dX8_goesOn_11
  · have hf := x_iteF hf hc
    refine lv_aload_n hx hb dX8_goesOn_7 rfl (lv_at hl 0 rfl) ?_
    obtain ⟨q2, h_q2, hf⟩ := x_bindE hf
    refine x_cv0 (x_rV ⟨hx, hb, hml, hown, hts⟩ (ct_X8_next l g hfl w md mn mw  h_q2) (cwV 0 hts gX8_goesOn_X8_next rfl rfl rfl (by decide +kernel) ⟨Nat.le_of_ble_eq_true rfl, Nat.le_of_ble_eq_true rfl⟩) hK hW hS (x_recv (i := (g.1 + 189)) (k := 8) (j := 0) hK hW ⟨⟨hfl, rfl⟩, by decide⟩ rfl (by decide)) rfl hl.1 (rest := []) rfl (Nat.le_of_ble_eq_true rfl) dX8_goesOn_8 ⟨Nat.le_of_ble_eq_true rfl, Nat.le_of_ble_eq_true rfl⟩) hS (fun H locs hW hS => ?_)
    have hW : World g (wM w q2.1 mn q2.2) H := hW
    cases hf
    exact x_vret hx hb hr hlocks hK hW hS dX8_goesOn_11
abbrev rm_X8_isWord : Room := { frames := 1, cells := 0, slots := 0, locals := 20 }
set_option maxRecDepth 100000 in
set_option maxHeartbeats 4000000 in
theorem ct_X8_isWord (l : Launch) (g : GT) (hfl : 2 ≤ gf g) (w : WT) (md : SD) (mn : Nat → Int64) (mw : Int64) (a1 : Int64) {q : Int32} (hf : f_X8_isWord md mw a1 = some q) : Met l yX8_isWord wsX8_isWord rm_X8_isWord (cPre g (wM w md mn mw) [.ref (adr (g.1 + 189) 8 0), .long a1]) (cQi g q (wM w md mn mw)) 0 0 (gA g) := by
  have i_8 : ∀ w ∈ u_ws RX8 TX8 27, w ∈ wsX8_isWord := by decide +kernel
  refine x_met (by decide) rfl (Nat.le_of_ble_eq_true rfl) ?_
  intro p e s m below meth c hx hb hr hml hts hown hlocks hK hW hS ls hl
  have hown : s.vm.findClass RX8 = some m.cls := hown
  have hl : lv_has ls 3 [(0, .ref (adr (g.1 + 189) 8 0)), (1, .long a1)] := hl
  rw [f_X8_isWord] at hf
  refine lv_aload_n hx hb dX8_isWord_0 rfl (lv_at hl 0 rfl) ?_
  obtain ⟨q1, h_q1, hf⟩ := x_bindE hf
  refine x_ci0 (x_rV ⟨hx, hb, hml, hown, hts⟩ (ct_X8_good l g hfl w md mn mw  h_q1) (cwV 0 hts gX8_isWord_X8_good rfl rfl rfl (by decide +kernel) ⟨Nat.le_of_ble_eq_true rfl, Nat.le_of_ble_eq_true rfl⟩) hK hW hS (x_recv (i := (g.1 + 189)) (k := 8) (j := 0) hK hW ⟨⟨hfl, rfl⟩, by decide⟩ rfl (by decide)) rfl hl.1 (rest := []) rfl (Nat.le_of_ble_eq_true rfl) dX8_isWord_1 ⟨Nat.le_of_ble_eq_true rfl, Nat.le_of_ble_eq_true rfl⟩) hS (fun H locs hW hS => ?_)
  have hW : World g (wM w md mn mw) H := hW
  refine W.eq (g2 := F0 m 4 ls [.int q1]) rfl ?_
  refine lv_if_eq (tgt := 28) hx hb dX8_isWord_4 (by decide) (fun hc => ?_) (fun hc => ?_)
  · have hf := x_iteT hf hc
    refine lv_iconst (v := 0) hx hb dX8_isWord_28 (by decide) ?_
    cases hf
    exact x_zret hx hb hr hlocks hK hW hS (Or.inl rfl) rfl dX8_isWord_29
  · have hf := x_iteF hf hc
    refine lv_aload_n hx hb dX8_isWord_7 rfl (lv_at hl 0 rfl) ?_
    refine x_get (i := (g.1 + 189)) (k := 8) (j := 0) (t := 22) hx hb hts i_8 hown hK hW ⟨⟨hfl, rfl⟩, by decide⟩ rfl ⟨by decide, by decide, rfl⟩ (hts (.fieldLink RX8 313 "OpticalJukeboxModel" "sort" "I") (by decide +kernel)) (rfl) dX8_isWord_8 ?_
    refine lv_iconst (v := 1) hx hb dX8_isWord_11 (by decide) ?_
    refine lv_icmp_ne (tgt := 28) hx hb dX8_isWord_12 (by decide) (fun hc => ?_) (fun hc => ?_)
    · have hf := x_iteF hf hc
      refine lv_iconst (v := 0) hx hb dX8_isWord_28 (by decide) ?_
      cases hf
      exact x_zret hx hb hr hlocks hK hW hS (Or.inl rfl) rfl dX8_isWord_29
    · have hf := x_iteT hf hc
      refine lv_aload_n hx hb dX8_isWord_15 rfl (lv_at hl 0 rfl) ?_
      refine x_get (i := (g.1 + 189)) (k := 8) (j := 0) (t := 26) hx hb hts i_8 hown hK hW ⟨⟨hfl, rfl⟩, by decide⟩ rfl ⟨by decide, by decide, rfl⟩ (hts (.fieldLink RX8 316 "OpticalJukeboxModel" "word" "J") (by decide +kernel)) rfl dX8_isWord_16 ?_
      refine lv_lload_n hx hb dX8_isWord_19 rfl (lv_at hl 1 rfl) ?_
      refine W.lcmp hx hb dX8_isWord_20 ?_
      refine lv_if_ne (tgt := 28) hx hb dX8_isWord_21 (by decide) (fun hc => ?_) (fun hc => ?_)
      · have hf := x_iteF hf hc
        refine lv_iconst (v := 0) hx hb dX8_isWord_28 (by decide) ?_
        cases hf
        exact x_zret hx hb hr hlocks hK hW hS (Or.inl rfl) rfl dX8_isWord_29
      · have hf := x_iteT hf hc
        refine lv_iconst (v := 1) hx hb dX8_isWord_24 (by decide) ?_
        refine lv_goto (tgt := 29) hx hb dX8_isWord_25 (by decide) ?_
        cases hf
        exact x_zret hx hb hr hlocks hK hW hS (Or.inr rfl) rfl dX8_isWord_29
abbrev rm_X8_isReserved : Room := { frames := 2, cells := 0, slots := 0, locals := 42 }
set_option maxRecDepth 100000 in
set_option maxHeartbeats 4000000 in
theorem ct_X8_isReserved (l : Launch) (g : GT) (hfl : 2 ≤ gf g) (w : WT) (md : SD) (mn : Nat → Int64) (mw : Int64) {q : Int32} (hf : f_X8_isReserved md mw  = some q) : Met l yX8_isReserved wsX8_isReserved rm_X8_isReserved (cPre g (wM w md mn mw) [.ref (adr (g.1 + 189) 8 0)]) (cQi g q (wM w md mn mw)) 0 0 (gA g) := by
  refine x_met (by decide) rfl (Nat.le_of_ble_eq_true rfl) ?_
  intro p e s m below meth c hx hb hr hml hts hown hlocks hK hW hS ls hl
  have hown : s.vm.findClass RX8 = some m.cls := hown
  have hl : lv_has ls 1 [(0, .ref (adr (g.1 + 189) 8 0))] := hl
  rw [f_X8_isReserved] at hf
  refine lv_aload_n hx hb dX8_isReserved_0 rfl (lv_at hl 0 rfl) ?_
  refine lv_ldc2 (v := 10345069) hx hb hown (hts (.constantLong RX8 339 (10345069)) (by decide +kernel)) dX8_isReserved_1 ?_
  obtain ⟨q1, h_q1, hf⟩ := x_bindE hf
  refine x_ci0 (x_rV ⟨hx, hb, hml, hown, hts⟩ (ct_X8_isWord l g hfl w md mn mw ((10345069 : Int64)) h_q1) (cwV 1 hts gX8_isReserved_X8_isWord rfl rfl rfl (by decide +kernel) ⟨Nat.le_of_ble_eq_true rfl, Nat.le_of_ble_eq_true rfl⟩) hK hW hS (x_recv (i := (g.1 + 189)) (k := 8) (j := 0) hK hW ⟨⟨hfl, rfl⟩, by decide⟩ rfl (by decide)) rfl hl.1 (rest := []) rfl (Nat.le_of_ble_eq_true rfl) dX8_isReserved_4 ⟨Nat.le_of_ble_eq_true rfl, Nat.le_of_ble_eq_true rfl⟩) hS (fun H locs hW hS => ?_)
  have hW : World g (wM w md mn mw) H := hW
  refine W.eq (g2 := F0 m 7 ls [.int q1]) rfl ?_
  refine lv_if_ne (tgt := 70) hx hb dX8_isReserved_7 (by decide) (fun hc => ?_) (fun hc => ?_)
  · have hf := x_iteF hf hc
    refine lv_iconst (v := 1) hx hb dX8_isReserved_70 (by decide) ?_
    refine lv_goto (tgt := 75) hx hb dX8_isReserved_71 (by decide) ?_
    cases hf
    exact x_zret hx hb hr hlocks hK hW hS (Or.inr rfl) rfl dX8_isReserved_75
  · have hf := x_iteT hf hc
    refine lv_aload_n hx hb dX8_isReserved_10 rfl (lv_at hl 0 rfl) ?_
    refine lv_ldc2 (v := 2487218) hx hb hown (hts (.constantLong RX8 345 (2487218)) (by decide +kernel)) dX8_isReserved_11 ?_
    obtain ⟨q2, h_q2, hf⟩ := x_bindE hf
    refine x_ci0 (x_rV ⟨hx, hb, hml, hown, hts⟩ (ct_X8_isWord l g hfl w md mn mw ((2487218 : Int64)) h_q2) (cwV 1 hts gX8_isReserved_X8_isWord rfl rfl rfl (by decide +kernel) ⟨Nat.le_of_ble_eq_true rfl, Nat.le_of_ble_eq_true rfl⟩) hK hW hS (x_recv (i := (g.1 + 189)) (k := 8) (j := 0) hK hW ⟨⟨hfl, rfl⟩, by decide⟩ rfl (by decide)) rfl hl.1 (rest := []) rfl (Nat.le_of_ble_eq_true rfl) dX8_isReserved_14 ⟨Nat.le_of_ble_eq_true rfl, Nat.le_of_ble_eq_true rfl⟩) hS (fun H locs hW hS => ?_)
    have hW : World g (wM w md mn mw) H := hW
    refine W.eq (g2 := F0 m 17 ls [.int q2]) rfl ?_
    refine lv_if_ne (tgt := 70) hx hb dX8_isReserved_17 (by decide) (fun hc => ?_) (fun hc => ?_)
    · have hf := x_iteF hf hc
      refine lv_iconst (v := 1) hx hb dX8_isReserved_70 (by decide) ?_
      refine lv_goto (tgt := 75) hx hb dX8_isReserved_71 (by decide) ?_
      cases hf
      exact x_zret hx hb hr hlocks hK hW hS (Or.inr rfl) rfl dX8_isReserved_75
    · have hf := x_iteT hf hc
      refine lv_aload_n hx hb dX8_isReserved_20 rfl (lv_at hl 0 rfl) ?_
      refine lv_ldc2 (v := 400577) hx hb hown (hts (.constantLong RX8 347 (400577)) (by decide +kernel)) dX8_isReserved_21 ?_
      obtain ⟨q3, h_q3, hf⟩ := x_bindE hf
      refine x_ci0 (x_rV ⟨hx, hb, hml, hown, hts⟩ (ct_X8_isWord l g hfl w md mn mw ((400577 : Int64)) h_q3) (cwV 1 hts gX8_isReserved_X8_isWord rfl rfl rfl (by decide +kernel) ⟨Nat.le_of_ble_eq_true rfl, Nat.le_of_ble_eq_true rfl⟩) hK hW hS (x_recv (i := (g.1 + 189)) (k := 8) (j := 0) hK hW ⟨⟨hfl, rfl⟩, by decide⟩ rfl (by decide)) rfl hl.1 (rest := []) rfl (Nat.le_of_ble_eq_true rfl) dX8_isReserved_24 ⟨Nat.le_of_ble_eq_true rfl, Nat.le_of_ble_eq_true rfl⟩) hS (fun H locs hW hS => ?_)
      have hW : World g (wM w md mn mw) H := hW
      refine W.eq (g2 := F0 m 27 ls [.int q3]) rfl ?_
      refine lv_if_ne (tgt := 70) hx hb dX8_isReserved_27 (by decide) (fun hc => ?_) (fun hc => ?_)
      · have hf := x_iteF hf hc
        refine lv_iconst (v := 1) hx hb dX8_isReserved_70 (by decide) ?_
        refine lv_goto (tgt := 75) hx hb dX8_isReserved_71 (by decide) ?_
        cases hf
        exact x_zret hx hb hr hlocks hK hW hS (Or.inr rfl) rfl dX8_isReserved_75
      · have hf := x_iteT hf hc
        refine lv_aload_n hx hb dX8_isReserved_30 rfl (lv_at hl 0 rfl) ?_
        refine lv_ldc2 (v := 6371854542) hx hb hown (hts (.constantLong RX8 349 (6371854542)) (by decide +kernel)) dX8_isReserved_31 ?_
        obtain ⟨q4, h_q4, hf⟩ := x_bindE hf
        refine x_ci0 (x_rV ⟨hx, hb, hml, hown, hts⟩ (ct_X8_isWord l g hfl w md mn mw ((6371854542 : Int64)) h_q4) (cwV 1 hts gX8_isReserved_X8_isWord rfl rfl rfl (by decide +kernel) ⟨Nat.le_of_ble_eq_true rfl, Nat.le_of_ble_eq_true rfl⟩) hK hW hS (x_recv (i := (g.1 + 189)) (k := 8) (j := 0) hK hW ⟨⟨hfl, rfl⟩, by decide⟩ rfl (by decide)) rfl hl.1 (rest := []) rfl (Nat.le_of_ble_eq_true rfl) dX8_isReserved_34 ⟨Nat.le_of_ble_eq_true rfl, Nat.le_of_ble_eq_true rfl⟩) hS (fun H locs hW hS => ?_)
        have hW : World g (wM w md mn mw) H := hW
        refine W.eq (g2 := F0 m 37 ls [.int q4]) rfl ?_
        refine lv_if_ne (tgt := 70) hx hb dX8_isReserved_37 (by decide) (fun hc => ?_) (fun hc => ?_)
        · have hf := x_iteF hf hc
          refine lv_iconst (v := 1) hx hb dX8_isReserved_70 (by decide) ?_
          refine lv_goto (tgt := 75) hx hb dX8_isReserved_71 (by decide) ?_
          cases hf
          exact x_zret hx hb hr hlocks hK hW hS (Or.inr rfl) rfl dX8_isReserved_75
        · have hf := x_iteT hf hc
          refine lv_aload_n hx hb dX8_isReserved_40 rfl (lv_at hl 0 rfl) ?_
          refine lv_ldc2 (v := 1489) hx hb hown (hts (.constantLong RX8 351 (1489)) (by decide +kernel)) dX8_isReserved_41 ?_
          obtain ⟨q5, h_q5, hf⟩ := x_bindE hf
          refine x_ci0 (x_rV ⟨hx, hb, hml, hown, hts⟩ (ct_X8_isWord l g hfl w md mn mw ((1489 : Int64)) h_q5) (cwV 1 hts gX8_isReserved_X8_isWord rfl rfl rfl (by decide +kernel) ⟨Nat.le_of_ble_eq_true rfl, Nat.le_of_ble_eq_true rfl⟩) hK hW hS (x_recv (i := (g.1 + 189)) (k := 8) (j := 0) hK hW ⟨⟨hfl, rfl⟩, by decide⟩ rfl (by decide)) rfl hl.1 (rest := []) rfl (Nat.le_of_ble_eq_true rfl) dX8_isReserved_44 ⟨Nat.le_of_ble_eq_true rfl, Nat.le_of_ble_eq_true rfl⟩) hS (fun H locs hW hS => ?_)
          have hW : World g (wM w md mn mw) H := hW
          refine W.eq (g2 := F0 m 47 ls [.int q5]) rfl ?_
          refine lv_if_ne (tgt := 70) hx hb dX8_isReserved_47 (by decide) (fun hc => ?_) (fun hc => ?_)
          · have hf := x_iteF hf hc
            refine lv_iconst (v := 1) hx hb dX8_isReserved_70 (by decide) ?_
            refine lv_goto (tgt := 75) hx hb dX8_isReserved_71 (by decide) ?_
            cases hf
            exact x_zret hx hb hr hlocks hK hW hS (Or.inr rfl) rfl dX8_isReserved_75
          · have hf := x_iteT hf hc
            refine lv_aload_n hx hb dX8_isReserved_50 rfl (lv_at hl 0 rfl) ?_
            refine lv_ldc2 (v := 124988) hx hb hown (hts (.constantLong RX8 353 (124988)) (by decide +kernel)) dX8_isReserved_51 ?_
            obtain ⟨q6, h_q6, hf⟩ := x_bindE hf
            refine x_ci0 (x_rV ⟨hx, hb, hml, hown, hts⟩ (ct_X8_isWord l g hfl w md mn mw ((124988 : Int64)) h_q6) (cwV 1 hts gX8_isReserved_X8_isWord rfl rfl rfl (by decide +kernel) ⟨Nat.le_of_ble_eq_true rfl, Nat.le_of_ble_eq_true rfl⟩) hK hW hS (x_recv (i := (g.1 + 189)) (k := 8) (j := 0) hK hW ⟨⟨hfl, rfl⟩, by decide⟩ rfl (by decide)) rfl hl.1 (rest := []) rfl (Nat.le_of_ble_eq_true rfl) dX8_isReserved_54 ⟨Nat.le_of_ble_eq_true rfl, Nat.le_of_ble_eq_true rfl⟩) hS (fun H locs hW hS => ?_)
            have hW : World g (wM w md mn mw) H := hW
            refine W.eq (g2 := F0 m 57 ls [.int q6]) rfl ?_
            refine lv_if_ne (tgt := 70) hx hb dX8_isReserved_57 (by decide) (fun hc => ?_) (fun hc => ?_)
            · have hf := x_iteF hf hc
              refine lv_iconst (v := 1) hx hb dX8_isReserved_70 (by decide) ?_
              refine lv_goto (tgt := 75) hx hb dX8_isReserved_71 (by decide) ?_
              cases hf
              exact x_zret hx hb hr hlocks hK hW hS (Or.inr rfl) rfl dX8_isReserved_75
            · have hf := x_iteT hf hc
              refine lv_aload_n hx hb dX8_isReserved_60 rfl (lv_at hl 0 rfl) ?_
              refine lv_ldc2 (v := 1841972) hx hb hown (hts (.constantLong RX8 355 (1841972)) (by decide +kernel)) dX8_isReserved_61 ?_
              obtain ⟨q7, h_q7, hf⟩ := x_bindE hf
              refine x_ci0 (x_rV ⟨hx, hb, hml, hown, hts⟩ (ct_X8_isWord l g hfl w md mn mw ((1841972 : Int64)) h_q7) (cwV 1 hts gX8_isReserved_X8_isWord rfl rfl rfl (by decide +kernel) ⟨Nat.le_of_ble_eq_true rfl, Nat.le_of_ble_eq_true rfl⟩) hK hW hS (x_recv (i := (g.1 + 189)) (k := 8) (j := 0) hK hW ⟨⟨hfl, rfl⟩, by decide⟩ rfl (by decide)) rfl hl.1 (rest := []) rfl (Nat.le_of_ble_eq_true rfl) dX8_isReserved_64 ⟨Nat.le_of_ble_eq_true rfl, Nat.le_of_ble_eq_true rfl⟩) hS (fun H locs hW hS => ?_)
              have hW : World g (wM w md mn mw) H := hW
              refine W.eq (g2 := F0 m 67 ls [.int q7]) rfl ?_
              refine lv_if_eq (tgt := 74) hx hb dX8_isReserved_67 (by decide) (fun hc => ?_) (fun hc => ?_)
              · have hf := x_iteT hf hc
                refine lv_iconst (v := 0) hx hb dX8_isReserved_74 (by decide) ?_
                cases hf
                exact x_zret hx hb hr hlocks hK hW hS (Or.inl rfl) rfl dX8_isReserved_75
              · have hf := x_iteF hf hc
                refine lv_iconst (v := 1) hx hb dX8_isReserved_70 (by decide) ?_
                refine lv_goto (tgt := 75) hx hb dX8_isReserved_71 (by decide) ?_
                cases hf
                exact x_zret hx hb hr hlocks hK hW hS (Or.inr rfl) rfl dX8_isReserved_75
abbrev rm_X8_sees : Room := { frames := 1, cells := 0, slots := 0, locals := 25 }
set_option maxRecDepth 100000 in
set_option maxHeartbeats 4000000 in
theorem ct_X8_sees (l : Launch) (g : GT) (hfl : 2 ≤ gf g) (w : WT) (md : SD) (mn : Nat → Int64) (mw : Int64) (a1 : Int32) (a2 : Int32) {q : (Int32 × SD)} (hf : f_X8_sees md a1 a2 = some q) : Met l yX8_sees wsX8_sees rm_X8_sees (cPre g (wM w md mn mw) [.ref (adr (g.1 + 189) 8 0), .int a1, .int a2]) (cQi g q.1 (wM w q.2 mn mw)) 0 0 (gA g) := by
  have i_8 : ∀ w ∈ u_ws RX8 TX8 27, w ∈ wsX8_sees := by decide +kernel
  refine x_met (by decide) rfl (Nat.le_of_ble_eq_true rfl) ?_
  intro p e s m below meth c hx hb hr hml hts hown hlocks hK hW hS ls hl
  have hown : s.vm.findClass RX8 = some m.cls := hown
  have hl : lv_has ls 3 [(0, .ref (adr (g.1 + 189) 8 0)), (1, .int a1), (2, .int a2)] := hl
  rw [f_X8_sees] at hf
  refine lv_aload_n hx hb dX8_sees_0 rfl (lv_at hl 0 rfl) ?_
  refine lv_aload_n hx hb dX8_sees_1 rfl (lv_at hl 0 rfl) ?_
  refine x_get (i := (g.1 + 189)) (k := 8) (j := 0) (t := 22) hx hb hts i_8 hown hK hW ⟨⟨hfl, rfl⟩, by decide⟩ rfl ⟨by decide, by decide, rfl⟩ (hts (.fieldLink RX8 313 "OpticalJukeboxModel" "sort" "I") (by decide +kernel)) (rfl) dX8_sees_2 ?_
  refine lv_iconst (v := 2) hx hb dX8_sees_5 (by decide) ?_
  obtain ⟨K1, eK1, hf⟩ := x_letE hf
  have KK1 : ∀ (y2 : Int32) (ls : Array Slot) (H : Heap) (locs : List Loc), lv_has ls 3 [(0, .ref (adr (g.1 + 189) 8 0)), (1, .int a1), (2, .int a2)] → World g (wM w md mn mw) H → va_S (gA g) s.heap H locs → K1 y2 = some q → W p l e rm_X8_sees s m [.ref (adr (g.1 + 189) 8 0), .int a1, .int a2].toArray below meth c H locs 0 0 (MQ below (cQi g q.1 (wM w q.2 mn mw)) [.ref (adr (g.1 + 189) 8 0), .int a1, .int a2].toArray s 0 0 (gA g)) (F0 m 14 ls [.int y2, .ref (adr (g.1 + 189) 8 0)]) := by
    intro y2 ls H locs hl hW hS hf
    subst eK1
    refine lv_iconst (v := 2) hx hb dX8_sees_14 (by decide) ?_
    obtain ⟨q3, h_q3, hf⟩ := x_bindE hf
    refine x_cv0 (x_rV ⟨hx, hb, hml, hown, hts⟩ (ct_X8_must l g hfl w md mn mw (y2) ((2 : Int32)) h_q3) (cwV 2 hts gX8_sees_X8_must rfl rfl rfl (by decide +kernel) ⟨Nat.le_of_ble_eq_true rfl, Nat.le_of_ble_eq_true rfl⟩) hK hW hS (x_recv (i := (g.1 + 189)) (k := 8) (j := 0) hK hW ⟨⟨hfl, rfl⟩, by decide⟩ rfl (by decide)) rfl hl.1 (rest := []) rfl (Nat.le_of_ble_eq_true rfl) dX8_sees_15 ⟨Nat.le_of_ble_eq_true rfl, Nat.le_of_ble_eq_true rfl⟩) hS (fun H locs hW hS => ?_)
    have hW : World g (wM w q3 mn mw) H := hW
    refine lv_aload_n hx hb dX8_sees_18 rfl (lv_at hl 0 rfl) ?_
    refine lv_aload_n hx hb dX8_sees_19 rfl (lv_at hl 0 rfl) ?_
    refine x_get (i := (g.1 + 189)) (k := 8) (j := 0) (t := 23) hx hb hts i_8 hown hK hW ⟨⟨hfl, rfl⟩, by decide⟩ rfl ⟨by decide, by decide, rfl⟩ (hts (.fieldLink RX8 324 "OpticalJukeboxModel" "number" "I") (by decide +kernel)) (rfl) dX8_sees_20 ?_
    refine lv_i2l hx hb dX8_sees_23 rfl ?_
    refine lv_iload_n hx hb dX8_sees_24 rfl (lv_at hl 1 rfl) ?_
    refine lv_i2l hx hb dX8_sees_25 rfl ?_
    refine lv_iload_n hx hb dX8_sees_26 rfl (lv_at hl 2 rfl) ?_
    refine lv_i2l hx hb dX8_sees_27 rfl ?_
    obtain ⟨q4, h_q4, hf⟩ := x_bindE hf
    refine x_ci0 (x_rS ⟨hx, hb, hml, hown, hts⟩ (ct_X8_isIn l g (wM w q3 mn mw) (((q3 8 0 23)).toInt64) ((a1).toInt64) ((a2).toInt64) h_q4) (va_cwS 3 hts gX8_sees_X8_isIn rfl rfl rfl (by decide +kernel) ⟨Nat.le_of_ble_eq_true rfl, Nat.le_of_ble_eq_true rfl⟩) hK hW hS rfl hl.1 (rest := [.ref (adr (g.1 + 189) 8 0)]) rfl (Nat.le_of_ble_eq_true rfl) dX8_sees_28 ⟨Nat.le_of_ble_eq_true rfl, Nat.le_of_ble_eq_true rfl⟩) hS (fun H locs hW hS => ?_)
    have hW : World g (wM w q3 mn mw) H := hW
    refine W.eq (g2 := F0 m 31 ls [.int q4, .ref (adr (g.1 + 189) 8 0)]) rfl ?_
    refine lv_iconst (v := 3) hx hb dX8_sees_31 (by decide) ?_
    obtain ⟨q5, h_q5, hf⟩ := x_bindE hf
    refine x_cv0 (x_rV ⟨hx, hb, hml, hown, hts⟩ (ct_X8_must l g hfl w q3 mn mw (q4) ((3 : Int32)) h_q5) (cwV 2 hts gX8_sees_X8_must rfl rfl rfl (by decide +kernel) ⟨Nat.le_of_ble_eq_true rfl, Nat.le_of_ble_eq_true rfl⟩) hK hW hS (x_recv (i := (g.1 + 189)) (k := 8) (j := 0) hK hW ⟨⟨hfl, rfl⟩, by decide⟩ rfl (by decide)) rfl hl.1 (rest := []) rfl (Nat.le_of_ble_eq_true rfl) dX8_sees_32 ⟨Nat.le_of_ble_eq_true rfl, Nat.le_of_ble_eq_true rfl⟩) hS (fun H locs hW hS => ?_)
    have hW : World g (wM w q5 mn mw) H := hW
    refine lv_aload_n hx hb dX8_sees_35 rfl (lv_at hl 0 rfl) ?_
    obtain ⟨q6, h_q6, hf⟩ := x_bindE hf
    refine x_ci0 (x_rV ⟨hx, hb, hml, hown, hts⟩ (ct_X8_good l g hfl w q5 mn mw  h_q6) (cwV 0 hts gX8_sees_X8_good rfl rfl rfl (by decide +kernel) ⟨Nat.le_of_ble_eq_true rfl, Nat.le_of_ble_eq_true rfl⟩) hK hW hS (x_recv (i := (g.1 + 189)) (k := 8) (j := 0) hK hW ⟨⟨hfl, rfl⟩, by decide⟩ rfl (by decide)) rfl hl.1 (rest := []) rfl (Nat.le_of_ble_eq_true rfl) dX8_sees_36 ⟨Nat.le_of_ble_eq_true rfl, Nat.le_of_ble_eq_true rfl⟩) hS (fun H locs hW hS => ?_)
    have hW : World g (wM w q5 mn mw) H := hW
    refine W.eq (g2 := F0 m 39 ls [.int q6]) rfl ?_
    refine lv_if_eq (tgt := 49) hx hb dX8_sees_39 (by decide) (fun hc => ?_) (fun hc => ?_)
    · have hf := x_iteT hf hc
      refine lv_iconst (v := 0) hx hb dX8_sees_49 (by decide) ?_
      cases hf
      exact x_iret hx hb hr hlocks hK hW hS rfl dX8_sees_50
    · have hf := x_iteF hf hc
      refine lv_aload_n hx hb dX8_sees_42 rfl (lv_at hl 0 rfl) ?_
      refine x_get (i := (g.1 + 189)) (k := 8) (j := 0) (t := 23) hx hb hts i_8 hown hK hW ⟨⟨hfl, rfl⟩, by decide⟩ rfl ⟨by decide, by decide, rfl⟩ (hts (.fieldLink RX8 324 "OpticalJukeboxModel" "number" "I") (by decide +kernel)) (rfl) dX8_sees_43 ?_
      refine lv_goto (tgt := 50) hx hb dX8_sees_46 (by decide) ?_
      cases hf
      exact x_iret hx hb hr hlocks hK hW hS rfl dX8_sees_50
  clear eK1
  refine lv_icmp_ne (tgt := 13) hx hb dX8_sees_6 (by decide) (fun hc => ?_) (fun hc => ?_)
  · have hf := x_iteF hf hc
    refine lv_iconst (v := 0) hx hb dX8_sees_13 (by decide) ?_
    exact KK1 ((0 : Int32)) ls _ _ hl hW hS hf
  · have hf := x_iteT hf hc
    refine lv_iconst (v := 1) hx hb dX8_sees_9 (by decide) ?_
    refine lv_goto (tgt := 14) hx hb dX8_sees_10 (by decide) ?_
    exact KK1 ((1 : Int32)) ls _ _ hl hW hS hf
