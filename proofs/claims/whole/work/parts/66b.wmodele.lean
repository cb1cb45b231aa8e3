set_option maxRecDepth 20000 in
theorem ggX8_takes_X8_sees : GoodIn wsX8_takes wsX8_sees := goodIn_r _ [5, 6, 7, 8, 9, 10, 4, 11, 12, 13, 14, 15, 16, 17, 18, 19, 20, 21, 40, 41, 42, 43, 44, 45, 46, 47, 48, 49, 50, 51, 52, 53, 54, 55, 56, 57, 58, 59, 60, 61, 62, 63, 64, 65, 66] (by decide +kernel) (by decide +kernel)
set_option maxRecDepth 20000 in
theorem gX8_takes_X8_sees : GoodIn wsX8_takes (wsV RX8 361 RX8 yX8_sees wsX8_sees) := goodIn_app (goodIn_of _ (by decide +kernel)) ggX8_takes_X8_sees
set_option maxRecDepth 20000 in
theorem ggX8_takes_X8_goesOn : GoodIn wsX8_takes wsX8_goesOn := goodIn_r _ [25, 18, 19, 20, 4, 21, 12, 26, 27, 28, 29, 30, 13, 31, 32, 6, 33, 34, 35, 7, 36, 37, 38, 39, 15, 16, 17, 40, 41, 42, 43, 44, 45, 46, 47, 48, 49, 50, 51, 52, 53, 54, 55, 56, 57, 58, 59, 60, 61, 62, 63, 64, 65, 66] (by decide +kernel) (by decide +kernel)
set_option maxRecDepth 20000 in
theorem gX8_takes_X8_goesOn : GoodIn wsX8_takes (wsV RX8 364 RX8 yX8_goesOn wsX8_goesOn) := goodIn_app (goodIn_of _ (by decide +kernel)) ggX8_takes_X8_goesOn
theorem dX8_takes_0 : decode cX8_takes 0 = .ok (.aload_n 0, 1) := by decide +kernel
theorem dX8_takes_1 : decode cX8_takes 1 = .ok (.iload_n 1, 1) := by decide +kernel
theorem dX8_takes_2 : decode cX8_takes 2 = .ok (.iload_n 2, 1) := by decide +kernel
theorem dX8_takes_3 : decode cX8_takes 3 = .ok (.invokevirtual 361, 3) := by decide +kernel
theorem dX8_takes_6 : decode cX8_takes 6 = .ok (.istore_n 3, 1) := by decide +kernel
theorem dX8_takes_7 : decode cX8_takes 7 = .ok (.aload_n 0, 1) := by decide +kernel
theorem dX8_takes_8 : decode cX8_takes 8 = .ok (.invokevirtual 364, 3) := by decide +kernel
theorem dX8_takes_11 : decode cX8_takes 11 = .ok (.iload_n 3, 1) := by decide +kernel
theorem dX8_takes_12 : decode cX8_takes 12 = .ok (.ireturn, 1) := by decide +kernel
set_option maxRecDepth 20000 in
theorem ggX8_slotsLine_X8_must : GoodIn wsX8_slotsLine wsX8_must := goodIn_r _ [7, 8, 9, 10, 11, 46, 47, 48, 49, 50, 51, 52, 53, 54, 55, 56, 57, 58, 59, 60, 61, 62, 63, 64, 65, 66, 67, 68, 69, 70, 71, 72] (by decide +kernel) (by decide +kernel)
set_option maxRecDepth 20000 in
theorem gX8_slotsLine_X8_must : GoodIn wsX8_slotsLine (wsV RX8 357 RX8 yX8_must wsX8_must) := goodIn_app (goodIn_of _ (by decide +kernel)) ggX8_slotsLine_X8_must
set_option maxRecDepth 20000 in
theorem ggX8_slotsLine_X8_goesOn : GoodIn wsX8_slotsLine wsX8_goesOn := goodIn_r _ [15, 16, 17, 18, 6, 19, 8, 20, 21, 22, 23, 24, 10, 25, 26, 9, 27, 28, 29, 30, 31, 32, 33, 34, 35, 36, 37, 46, 47, 48, 49, 50, 51, 52, 53, 54, 55, 56, 57, 58, 59, 60, 61, 62, 63, 64, 65, 66, 67, 68, 69, 70, 71, 72] (by decide +kernel) (by decide +kernel)
set_option maxRecDepth 20000 in
theorem gX8_slotsLine_X8_goesOn : GoodIn wsX8_slotsLine (wsV RX8 364 RX8 yX8_goesOn wsX8_goesOn) := goodIn_app (goodIn_of _ (by decide +kernel)) ggX8_slotsLine_X8_goesOn
set_option maxRecDepth 20000 in
theorem ggX8_slotsLine_X8_takes : GoodIn wsX8_slotsLine wsX8_takes := goodIn_r _ [41, 42, 43, 44, 6, 45, 9, 30, 3, 4, 5, 7, 8, 10, 11, 35, 36, 37, 16, 17, 18, 19, 12, 13, 14, 15, 20, 21, 22, 23, 24, 25, 26, 27, 28, 29, 31, 32, 33, 34, 46, 47, 48, 49, 50, 51, 52, 53, 54, 55, 56, 57, 58, 59, 60, 61, 62, 63, 64, 65, 66, 67, 68, 69, 70, 71, 72] (by decide +kernel) (by decide +kernel)
set_option maxRecDepth 20000 in
theorem gX8_slotsLine_X8_takes : GoodIn wsX8_slotsLine (wsV RX8 370 RX8 yX8_takes wsX8_takes) := goodIn_app (goodIn_of _ (by decide +kernel)) ggX8_slotsLine_X8_takes
theorem dX8_slotsLine_0 : decode cX8_slotsLine 0 = .ok (.aload_n 0, 1) := by decide +kernel
theorem dX8_slotsLine_1 : decode cX8_slotsLine 1 = .ok (.aload_n 0, 1) := by decide +kernel
theorem dX8_slotsLine_2 : decode cX8_slotsLine 2 = .ok (.getfield 367, 3) := by decide +kernel
theorem dX8_slotsLine_5 : decode cX8_slotsLine 5 = .ok (.ifCond .ne 7, 3) := by decide +kernel
theorem dX8_slotsLine_8 : decode cX8_slotsLine 8 = .ok (.iconst 1, 1) := by decide +kernel
theorem dX8_slotsLine_9 : decode cX8_slotsLine 9 = .ok (.goto 4, 3) := by decide +kernel
theorem dX8_slotsLine_12 : decode cX8_slotsLine 12 = .ok (.iconst 0, 1) := by decide +kernel
theorem dX8_slotsLine_13 : decode cX8_slotsLine 13 = .ok (.iconst 5, 1) := by decide +kernel
theorem dX8_slotsLine_14 : decode cX8_slotsLine 14 = .ok (.invokevirtual 357, 3) := by decide +kernel
theorem dX8_slotsLine_17 : decode cX8_slotsLine 17 = .ok (.aload_n 0, 1) := by decide +kernel
theorem dX8_slotsLine_18 : decode cX8_slotsLine 18 = .ok (.invokevirtual 364, 3) := by decide +kernel
theorem dX8_slotsLine_21 : decode cX8_slotsLine 21 = .ok (.aload_n 0, 1) := by decide +kernel
theorem dX8_slotsLine_22 : decode cX8_slotsLine 22 = .ok (.getfield 13, 3) := by decide +kernel
theorem dX8_slotsLine_25 : decode cX8_slotsLine 25 = .ok (.iconst 0, 1) := by decide +kernel
theorem dX8_slotsLine_26 : decode cX8_slotsLine 26 = .ok (.aload_n 0, 1) := by decide +kernel
theorem dX8_slotsLine_27 : decode cX8_slotsLine 27 = .ok (.iconst 4, 1) := by decide +kernel
theorem dX8_slotsLine_28 : decode cX8_slotsLine 28 = .ok (.bipush 24, 2) := by decide +kernel
theorem dX8_slotsLine_30 : decode cX8_slotsLine 30 = .ok (.invokevirtual 370, 3) := by decide +kernel
theorem dX8_slotsLine_33 : decode cX8_slotsLine 33 = .ok (.iastore, 1) := by decide +kernel
theorem dX8_slotsLine_34 : decode cX8_slotsLine 34 = .ok (.return_, 1) := by decide +kernel
set_option maxRecDepth 20000 in
theorem ggX8_driveLine_X8_must : GoodIn wsX8_driveLine wsX8_must := goodIn_r _ [6, 7, 8, 9, 10, 45, 46, 47, 48, 49, 50, 51, 52, 53, 54, 55, 56, 57, 58, 59, 60, 61, 62, 63, 64, 65, 66, 67, 68, 69, 70, 71] (by decide +kernel) (by decide +kernel)
set_option maxRecDepth 20000 in
theorem gX8_driveLine_X8_must : GoodIn wsX8_driveLine (wsV RX8 357 RX8 yX8_must wsX8_must) := goodIn_app (goodIn_of _ (by decide +kernel)) ggX8_driveLine_X8_must
set_option maxRecDepth 20000 in
theorem ggX8_driveLine_X8_goesOn : GoodIn wsX8_driveLine wsX8_goesOn := goodIn_r _ [14, 15, 16, 17, 5, 18, 7, 19, 20, 21, 22, 23, 9, 24, 25, 8, 26, 27, 28, 29, 30, 31, 32, 33, 34, 35, 36, 45, 46, 47, 48, 49, 50, 51, 52, 53, 54, 55, 56, 57, 58, 59, 60, 61, 62, 63, 64, 65, 66, 67, 68, 69, 70, 71] (by decide +kernel) (by decide +kernel)
set_option maxRecDepth 20000 in
theorem gX8_driveLine_X8_goesOn : GoodIn wsX8_driveLine (wsV RX8 364 RX8 yX8_goesOn wsX8_goesOn) := goodIn_app (goodIn_of _ (by decide +kernel)) ggX8_driveLine_X8_goesOn
set_option maxRecDepth 20000 in
theorem ggX8_driveLine_X8_takes : GoodIn wsX8_driveLine wsX8_takes := goodIn_r _ [40, 41, 42, 43, 5, 44, 8, 29, 2, 3, 4, 6, 7, 9, 10, 34, 35, 36, 15, 16, 17, 18, 11, 12, 13, 14, 19, 20, 21, 22, 23, 24, 25, 26, 27, 28, 30, 31, 32, 33, 45, 46, 47, 48, 49, 50, 51, 52, 53, 54, 55, 56, 57, 58, 59, 60, 61, 62, 63, 64, 65, 66, 67, 68, 69, 70, 71] (by decide +kernel) (by decide +kernel)
set_option maxRecDepth 20000 in
theorem gX8_driveLine_X8_takes : GoodIn wsX8_driveLine (wsV RX8 370 RX8 yX8_takes wsX8_takes) := goodIn_app (goodIn_of _ (by decide +kernel)) ggX8_driveLine_X8_takes
set_option maxRecDepth 20000 in
theorem ggX8_driveLine_X8_good : GoodIn wsX8_driveLine wsX8_good := goodIn_r _ [18, 7, 45, 46, 47, 48, 49, 50, 51, 52, 53, 54, 55, 56, 57, 58, 59, 60, 61, 62, 63, 64, 65, 66, 67, 68, 69, 70, 71] (by decide +kernel) (by decide +kernel)
set_option maxRecDepth 20000 in
theorem gX8_driveLine_X8_good : GoodIn wsX8_driveLine (wsV RX8 333 RX8 yX8_good wsX8_good) := goodIn_app (goodIn_of _ (by decide +kernel)) ggX8_driveLine_X8_good
theorem dX8_driveLine_0 : decode cX8_driveLine 0 = .ok (.aload_n 0, 1) := by decide +kernel
theorem dX8_driveLine_1 : decode cX8_driveLine 1 = .ok (.aload_n 0, 1) := by decide +kernel
theorem dX8_driveLine_2 : decode cX8_driveLine 2 = .ok (.getfield 13, 3) := by decide +kernel
theorem dX8_driveLine_5 : decode cX8_driveLine 5 = .ok (.bipush 6, 2) := by decide +kernel
theorem dX8_driveLine_7 : decode cX8_driveLine 7 = .ok (.iaload, 1) := by decide +kernel
theorem dX8_driveLine_8 : decode cX8_driveLine 8 = .ok (.iconst 4, 1) := by decide +kernel
theorem dX8_driveLine_9 : decode cX8_driveLine 9 = .ok (.if_icmp .ge 7, 3) := by decide +kernel
theorem dX8_driveLine_12 : decode cX8_driveLine 12 = .ok (.iconst 1, 1) := by decide +kernel
theorem dX8_driveLine_13 : decode cX8_driveLine 13 = .ok (.goto 4, 3) := by decide +kernel
theorem dX8_driveLine_16 : decode cX8_driveLine 16 = .ok (.iconst 0, 1) := by decide +kernel
theorem dX8_driveLine_17 : decode cX8_driveLine 17 = .ok (.iconst 5, 1) := by decide +kernel
theorem dX8_driveLine_18 : decode cX8_driveLine 18 = .ok (.invokevirtual 357, 3) := by decide +kernel
theorem dX8_driveLine_21 : decode cX8_driveLine 21 = .ok (.aload_n 0, 1) := by decide +kernel
theorem dX8_driveLine_22 : decode cX8_driveLine 22 = .ok (.invokevirtual 364, 3) := by decide +kernel
theorem dX8_driveLine_25 : decode cX8_driveLine 25 = .ok (.aload_n 0, 1) := by decide +kernel
theorem dX8_driveLine_26 : decode cX8_driveLine 26 = .ok (.iconst 0, 1) := by decide +kernel
theorem dX8_driveLine_27 : decode cX8_driveLine 27 = .ok (.aload_n 0, 1) := by decide +kernel
theorem dX8_driveLine_28 : decode cX8_driveLine 28 = .ok (.getfield 13, 3) := by decide +kernel
theorem dX8_driveLine_31 : decode cX8_driveLine 31 = .ok (.iconst 0, 1) := by decide +kernel
theorem dX8_driveLine_32 : decode cX8_driveLine 32 = .ok (.iaload, 1) := by decide +kernel
theorem dX8_driveLine_33 : decode cX8_driveLine 33 = .ok (.iconst 1, 1) := by decide +kernel
theorem dX8_driveLine_34 : decode cX8_driveLine 34 = .ok (.isub, 1) := by decide +kernel
theorem dX8_driveLine_35 : decode cX8_driveLine 35 = .ok (.invokevirtual 370, 3) := by decide +kernel
theorem dX8_driveLine_38 : decode cX8_driveLine 38 = .ok (.istore_n 1, 1) := by decide +kernel
theorem dX8_driveLine_39 : decode cX8_driveLine 39 = .ok (.aload_n 0, 1) := by decide +kernel
theorem dX8_driveLine_40 : decode cX8_driveLine 40 = .ok (.invokevirtual 333, 3) := by decide +kernel
theorem dX8_driveLine_43 : decode cX8_driveLine 43 = .ok (.ifCond .ne 4, 3) := by decide +kernel
theorem dX8_driveLine_46 : decode cX8_driveLine 46 = .ok (.return_, 1) := by decide +kernel
theorem dX8_driveLine_47 : decode cX8_driveLine 47 = .ok (.aload_n 0, 1) := by decide +kernel
theorem dX8_driveLine_48 : decode cX8_driveLine 48 = .ok (.getfield 13, 3) := by decide +kernel
theorem dX8_driveLine_51 : decode cX8_driveLine 51 = .ok (.bipush 17, 2) := by decide +kernel
theorem dX8_driveLine_53 : decode cX8_driveLine 53 = .ok (.aload_n 0, 1) := by decide +kernel
theorem dX8_driveLine_54 : decode cX8_driveLine 54 = .ok (.getfield 13, 3) := by decide +kernel
theorem dX8_driveLine_57 : decode cX8_driveLine 57 = .ok (.bipush 6, 2) := by decide +kernel
theorem dX8_driveLine_59 : decode cX8_driveLine 59 = .ok (.iaload, 1) := by decide +kernel
theorem dX8_driveLine_60 : decode cX8_driveLine 60 = .ok (.iadd, 1) := by decide +kernel
theorem dX8_driveLine_61 : decode cX8_driveLine 61 = .ok (.iload_n 1, 1) := by decide +kernel
theorem dX8_driveLine_62 : decode cX8_driveLine 62 = .ok (.iastore, 1) := by decide +kernel
theorem dX8_driveLine_63 : decode cX8_driveLine 63 = .ok (.aload_n 0, 1) := by decide +kernel
theorem dX8_driveLine_64 : decode cX8_driveLine 64 = .ok (.getfield 13, 3) := by decide +kernel
theorem dX8_driveLine_67 : decode cX8_driveLine 67 = .ok (.bipush 6, 2) := by decide +kernel
theorem dX8_driveLine_69 : decode cX8_driveLine 69 = .ok (.dup2, 1) := by decide +kernel
theorem dX8_driveLine_70 : decode cX8_driveLine 70 = .ok (.iaload, 1) := by decide +kernel
theorem dX8_driveLine_71 : decode cX8_driveLine 71 = .ok (.iconst 1, 1) := by decide +kernel
theorem dX8_driveLine_72 : decode cX8_driveLine 72 = .ok (.iadd, 1) := by decide +kernel
theorem dX8_driveLine_73 : decode cX8_driveLine 73 = .ok (.iastore, 1) := by decide +kernel
theorem dX8_driveLine_74 : decode cX8_driveLine 74 = .ok (.return_, 1) := by decide +kernel
set_option maxRecDepth 20000 in
theorem ggX8_timeLine_X8_goesOn : GoodIn wsX8_timeLine wsX8_goesOn := goodIn_r _ [6, 7, 8, 9, 5, 10, 11, 12, 13, 14, 15, 16, 17, 18, 19, 20, 21, 22, 23, 24, 25, 26, 27, 28, 29, 30, 31, 45, 46, 47, 48, 49, 50, 51, 52, 53, 54, 55, 56, 57, 58, 59, 60, 61, 62, 63, 64, 65, 66, 67, 68, 69, 70, 71] (by decide +kernel) (by decide +kernel)
set_option maxRecDepth 20000 in
theorem gX8_timeLine_X8_goesOn : GoodIn wsX8_timeLine (wsV RX8 364 RX8 yX8_goesOn wsX8_goesOn) := goodIn_app (goodIn_of _ (by decide +kernel)) ggX8_timeLine_X8_goesOn
set_option maxRecDepth 20000 in
theorem ggX8_timeLine_X8_takes : GoodIn wsX8_timeLine wsX8_takes := goodIn_r _ [35, 36, 37, 38, 5, 39, 20, 24, 40, 41, 42, 43, 11, 17, 44, 29, 30, 31, 7, 8, 9, 10, 2, 3, 4, 6, 12, 13, 14, 15, 16, 18, 19, 21, 22, 23, 25, 26, 27, 28, 45, 46, 47, 48, 49, 50, 51, 52, 53, 54, 55, 56, 57, 58, 59, 60, 61, 62, 63, 64, 65, 66, 67, 68, 69, 70, 71] (by decide +kernel) (by decide +kernel)
set_option maxRecDepth 20000 in
theorem gX8_timeLine_X8_takes : GoodIn wsX8_timeLine (wsV RX8 370 RX8 yX8_takes wsX8_takes) := goodIn_app (goodIn_of _ (by decide +kernel)) ggX8_timeLine_X8_takes
theorem dX8_timeLine_0 : decode cX8_timeLine 0 = .ok (.aload_n 0, 1) := by decide +kernel
theorem dX8_timeLine_1 : decode cX8_timeLine 1 = .ok (.invokevirtual 364, 3) := by decide +kernel
theorem dX8_timeLine_4 : decode cX8_timeLine 4 = .ok (.iconst 0, 1) := by decide +kernel
theorem dX8_timeLine_5 : decode cX8_timeLine 5 = .ok (.istore_n 1, 1) := by decide +kernel
theorem dX8_timeLine_6 : decode cX8_timeLine 6 = .ok (.iload_n 1, 1) := by decide +kernel
theorem dX8_timeLine_7 : decode cX8_timeLine 7 = .ok (.iconst 5, 1) := by decide +kernel
theorem dX8_timeLine_8 : decode cX8_timeLine 8 = .ok (.if_icmp .ge 24, 3) := by decide +kernel
theorem dX8_timeLine_11 : decode cX8_timeLine 11 = .ok (.aload_n 0, 1) := by decide +kernel
theorem dX8_timeLine_12 : decode cX8_timeLine 12 = .ok (.getfield 13, 3) := by decide +kernel
theorem dX8_timeLine_15 : decode cX8_timeLine 15 = .ok (.iconst 1, 1) := by decide +kernel
theorem dX8_timeLine_16 : decode cX8_timeLine 16 = .ok (.iload_n 1, 1) := by decide +kernel
theorem dX8_timeLine_17 : decode cX8_timeLine 17 = .ok (.iadd, 1) := by decide +kernel
theorem dX8_timeLine_18 : decode cX8_timeLine 18 = .ok (.aload_n 0, 1) := by decide +kernel
theorem dX8_timeLine_19 : decode cX8_timeLine 19 = .ok (.iconst 0, 1) := by decide +kernel
theorem dX8_timeLine_20 : decode cX8_timeLine 20 = .ok (.bipush 99, 2) := by decide +kernel
theorem dX8_timeLine_22 : decode cX8_timeLine 22 = .ok (.invokevirtual 370, 3) := by decide +kernel
theorem dX8_timeLine_25 : decode cX8_timeLine 25 = .ok (.iastore, 1) := by decide +kernel
theorem dX8_timeLine_26 : decode cX8_timeLine 26 = .ok (.iinc 1 1, 3) := by decide +kernel
theorem dX8_timeLine_29 : decode cX8_timeLine 29 = .ok (.goto (-23), 3) := by decide +kernel
theorem dX8_timeLine_32 : decode cX8_timeLine 32 = .ok (.return_, 1) := by decide +kernel
abbrev rm_X8_takes : Room := { frames := 4, cells := 0, slots := 0, locals := 88 }
set_option maxRecDepth 100000 in
set_option maxHeartbeats 4000000 in
theorem ct_X8_takes (l : Launch) (g : GT) (hfl : 2 ≤ gf g) (w : WT) (md : SD) (mn : Nat → Int64) (mw : Int64) (a1 : Int32) (a2 : Int32) {q : (Int32 × SD × Int64)} (hf : f_X8_takes md mw a1 a2 = some q) : Met l yX8_takes wsX8_takes rm_X8_takes (cPre g (wM w md mn mw) [.ref (adr (g.1 + 189) 8 0), .int a1, .int a2]) (cQi g q.1 (wM w q.2.1 mn q.2.2)) 0 0 (gA g) := by
  refine x_met (by decide) rfl (Nat.le_of_ble_eq_true rfl) ?_
  intro p e s m below meth c hx hb hr hml hts hown hlocks hK hW hS ls hl
  have hown : s.vm.findClass RX8 = some m.cls := hown
  have hl : lv_has ls 4 [(0, .ref (adr (g.1 + 189) 8 0)), (1, .int a1), (2, .int a2)] := hl
  rw [f_X8_takes] at hf
  refine lv_aload_n hx hb dX8_takes_0 rfl (lv_at hl 0 rfl) ?_
  refine lv_iload_n hx hb dX8_takes_1 rfl (lv_at hl 1 rfl) ?_
  refine lv_iload_n hx hb dX8_takes_2 rfl (lv_at hl 2 rfl) ?_
  obtain ⟨q1, h_q1, hf⟩ := x_bindE hf
  refine x_ci0 (x_rV ⟨hx, hb, hml, hown, hts⟩ (ct_X8_sees l g hfl w md mn mw (a1) (a2) h_q1) (cwV 2 hts gX8_takes_X8_sees rfl rfl rfl (by decide +kernel) ⟨Nat.le_of_ble_eq_true rfl, Nat.le_of_ble_eq_true rfl⟩) hK hW hS (x_recv (i := (g.1 + 189)) (k := 8) (j := 0) hK hW ⟨⟨hfl, rfl⟩, by decide⟩ rfl (by decide)) rfl hl.1 (rest := []) rfl (Nat.le_of_ble_eq_true rfl) dX8_takes_3 ⟨Nat.le_of_ble_eq_true rfl, Nat.le_of_ble_eq_true rfl⟩) hS (fun H locs hW hS => ?_)
  have hW : World g (wM w q1.2 mn mw) H := hW
  refine W.eq (g2 := F0 m 6 ls [.int q1.1]) rfl ?_
  obtain ⟨x2, e_x2, hf⟩ := x_letE hf
  refine x_topi e_x2 ?_
  refine lv_istore_n (lv' := [(3, .int x2), (0, .ref (adr (g.1 + 189) 8 0)), (1, .int a1), (2, .int a2)]) hx hb dX8_takes_6 rfl hl (by decide) rfl (fun ls hl => ?_)
  refine lv_aload_n hx hb dX8_takes_7 rfl (lv_at hl 1 rfl) ?_
  obtain ⟨q3, h_q3, hf⟩ := x_bindE hf
  refine x_cv0 (x_rV ⟨hx, hb, hml, hown, hts⟩ (ct_X8_goesOn l g hfl w q1.2 mn mw  h_q3) (cwV 0 hts gX8_takes_X8_goesOn rfl rfl rfl (by decide +kernel) ⟨Nat.le_of_ble_eq_true rfl, Nat.le_of_ble_eq_true rfl⟩) hK hW hS (x_recv (i := (g.1 + 189)) (k := 8) (j := 0) hK hW ⟨⟨hfl, rfl⟩, by decide⟩ rfl (by decide)) rfl hl.1 (rest := []) rfl (Nat.le_of_ble_eq_true rfl) dX8_takes_8 ⟨Nat.le_of_ble_eq_true rfl, Nat.le_of_ble_eq_true rfl⟩) hS (fun H locs hW hS => ?_)
  have hW : World g (wM w q3.1 mn q3.2) H := hW
  refine lv_iload_n hx hb dX8_takes_11 rfl (lv_at hl 0 rfl) ?_
  cases hf
  exact x_iret hx hb hr hlocks hK hW hS rfl dX8_takes_12
abbrev rm_X8_slotsLine : Room := { frames := 5, cells := 0, slots := 0, locals := 111 }
set_option maxRecDepth 100000 in
set_option maxHeartbeats 4000000 in
theorem ct_X8_slotsLine (l : Launch) (g : GT) (hfl : 2 ≤ gf g) (w : WT) (md : SD) (mn : Nat → Int64) (mw : Int64) {q : (SD × Int64)} (hf : f_X8_slotsLine md mw  = some q) : Met l yX8_slotsLine wsX8_slotsLine rm_X8_slotsLine (cPre g (wM w md mn mw) [.ref (adr (g.1 + 189) 8 0)]) (cQv g (wM w q.1 mn q.2)) 0 0 (gA g) := by
  have i_8 : ∀ w ∈ u_ws RX8 TX8 27, w ∈ wsX8_slotsLine := by decide +kernel
  refine x_met (by decide) rfl (Nat.le_of_ble_eq_true rfl) ?_
  intro p e s m below meth c hx hb hr hml hts hown hlocks hK hW hS ls hl
  have hown : s.vm.findClass RX8 = some m.cls := hown
  have hl : lv_has ls 1 [(0, .ref (adr (g.1 + 189) 8 0))] := hl
  rw [f_X8_slotsLine] at hf
  refine lv_aload_n hx hb dX8_slotsLine_0 rfl (lv_at hl 0 rfl) ?_
  refine lv_aload_n hx hb dX8_slotsLine_1 rfl (lv_at hl 0 rfl) ?_
  refine x_get (i := (g.1 + 189)) (k := 8) (j := 0) (t := 25) hx hb hts i_8 hown hK hW ⟨⟨hfl, rfl⟩, by decide⟩ rfl ⟨by decide, by decide, rfl⟩ (hts (.fieldLink RX8 367 "OpticalJukeboxModel" "statements" "I") (by decide +kernel)) (rfl) dX8_slotsLine_2 ?_
  obtain ⟨K1, eK1, hf⟩ := x_letE hf
  have KK1 : ∀ (y2 : Int32) (ls : Array Slot) (H : Heap) (locs : List Loc), lv_has ls 1 [(0, .ref (adr (g.1 + 189) 8 0))] → World g (wM w md mn mw) H → va_S (gA g) s.heap H locs → K1 y2 = some q → W p l e rm_X8_slotsLine s m [.ref (adr (g.1 + 189) 8 0)].toArray below meth c H locs 0 0 (MQ below (cQv g (wM w q.1 mn q.2)) [.ref (adr (g.1 + 189) 8 0)].toArray s 0 0 (gA g)) (F0 m 13 ls [.int y2, .ref (adr (g.1 + 189) 8 0)]) := by
    intro y2 ls H locs hl hW hS hf
    subst eK1
    refine lv_iconst (v := 5) hx hb dX8_slotsLine_13 (by decide) ?_
    obtain ⟨q3, h_q3, hf⟩ := x_bindE hf
    refine x_cv0 (x_rV ⟨hx, hb, hml, hown, hts⟩ (ct_X8_must l g hfl w md mn mw (y2) ((5 : Int32)) h_q3) (cwV 2 hts gX8_slotsLine_X8_must rfl rfl rfl (by decide +kernel) ⟨Nat.le_of_ble_eq_true rfl, Nat.le_of_ble_eq_true rfl⟩) hK hW hS (x_recv (i := (g.1 + 189)) (k := 8) (j := 0) hK hW ⟨⟨hfl, rfl⟩, by decide⟩ rfl (by decide)) rfl hl.1 (rest := []) rfl (Nat.le_of_ble_eq_true rfl) dX8_slotsLine_14 ⟨Nat.le_of_ble_eq_true rfl, Nat.le_of_ble_eq_true rfl⟩) hS (fun H locs hW hS => ?_)
    have hW : World g (wM w q3 mn mw) H := hW
    refine lv_aload_n hx hb dX8_slotsLine_17 rfl (lv_at hl 0 rfl) ?_
    obtain ⟨q4, h_q4, hf⟩ := x_bindE hf
    refine x_cv0 (x_rV ⟨hx, hb, hml, hown, hts⟩ (ct_X8_goesOn l g hfl w q3 mn mw  h_q4) (cwV 0 hts gX8_slotsLine_X8_goesOn rfl rfl rfl (by decide +kernel) ⟨Nat.le_of_ble_eq_true rfl, Nat.le_of_ble_eq_true rfl⟩) hK hW hS (x_recv (i := (g.1 + 189)) (k := 8) (j := 0) hK hW ⟨⟨hfl, rfl⟩, by decide⟩ rfl (by decide)) rfl hl.1 (rest := []) rfl (Nat.le_of_ble_eq_true rfl) dX8_slotsLine_18 ⟨Nat.le_of_ble_eq_true rfl, Nat.le_of_ble_eq_true rfl⟩) hS (fun H locs hW hS => ?_)
    have hW : World g (wM w q4.1 mn q4.2) H := hW
    refine lv_aload_n hx hb dX8_slotsLine_21 rfl (lv_at hl 0 rfl) ?_
    refine x_get (i := (g.1 + 189)) (k := 8) (j := 0) (t := 2) hx hb hts i_8 hown hK hW ⟨⟨hfl, rfl⟩, by decide⟩ rfl ⟨by decide, by decide, rfl⟩ (hts (.fieldLink RX8 13 "OpticalJukeboxModel" "read" "[I") (by decide +kernel)) (v := .ref (adr (g.1 + 189) 31 0)) rfl dX8_slotsLine_22 ?_
    refine lv_iconst (v := 0) hx hb dX8_slotsLine_25 (by decide) ?_
    refine lv_aload_n hx hb dX8_slotsLine_26 rfl (lv_at hl 0 rfl) ?_
    refine lv_iconst (v := 4) hx hb dX8_slotsLine_27 (by decide) ?_
    refine lv_bipush (v := 24) hx hb dX8_slotsLine_28 (by decide) ?_
    obtain ⟨q5, h_q5, hf⟩ := x_bindE hf
    refine x_ci0 (x_rV ⟨hx, hb, hml, hown, hts⟩ (ct_X8_takes l g hfl w q4.1 mn q4.2 ((4 : Int32)) ((24 : Int32)) h_q5) (cwV 2 hts gX8_slotsLine_X8_takes rfl rfl rfl (by decide +kernel) ⟨Nat.le_of_ble_eq_true rfl, Nat.le_of_ble_eq_true rfl⟩) hK hW hS (x_recv (i := (g.1 + 189)) (k := 8) (j := 0) hK hW ⟨⟨hfl, rfl⟩, by decide⟩ rfl (by decide)) rfl hl.1 (rest := [.int (0 : Int32), .ref (adr (g.1 + 189) 31 0)]) rfl (Nat.le_of_ble_eq_true rfl) dX8_slotsLine_30 ⟨Nat.le_of_ble_eq_true rfl, Nat.le_of_ble_eq_true rfl⟩) hS (fun H locs hW hS => ?_)
    have hW : World g (wM w q5.2.1 mn q5.2.2) H := hW
    refine W.eq (g2 := F0 m 33 ls [.int q5.1, .int (0 : Int32), .ref (adr (g.1 + 189) 31 0)]) rfl ?_
    obtain ⟨md6, e_md6, hf⟩ := x_letE hf
    refine x_iast (i := (g.1 + 189)) (k := 31) (j := 0) (w' := wM w md6 mn q5.2.2) hx hb hK hW ⟨⟨hfl, rfl⟩, by decide⟩ hS (by decide) rfl rfl rfl (by unfold vp_in; decide) dX8_slotsLine_33 (fp_M e_md6 rfl) (fun H locs hW hS => ?_)
    cases hf
    exact x_vret hx hb hr hlocks hK hW hS dX8_slotsLine_34
  clear eK1
  refine lv_if_ne (tgt := 12) hx hb dX8_slotsLine_5 (by decide) (fun hc => ?_) (fun hc => ?_)
  · have hf := x_iteF hf hc
    refine lv_iconst (v := 0) hx hb dX8_slotsLine_12 (by decide) ?_
    exact KK1 ((0 : Int32)) ls _ _ hl hW hS hf
  · have hf := x_iteT hf hc
    refine lv_iconst (v := 1) hx hb dX8_slotsLine_8 (by decide) ?_
    refine lv_goto (tgt := 13) hx hb dX8_slotsLine_9 (by decide) ?_
    exact KK1 ((1 : Int32)) ls _ _ hl hW hS hf
abbrev rm_X8_driveLine : Room := { frames := 5, cells := 0, slots := 0, locals := 111 }
set_option maxRecDepth 100000 in
set_option maxHeartbeats 4000000 in
theorem ct_X8_driveLine (l : Launch) (g : GT) (hfl : 2 ≤ gf g) (w : WT) (md : SD) (mn : Nat → Int64) (mw : Int64) {q : (SD × Int64)} (hf : f_X8_driveLine md mw  = some q) : Met l yX8_driveLine wsX8_driveLine rm_X8_driveLine (cPre g (wM w md mn mw) [.ref (adr (g.1 + 189) 8 0)]) (cQv g (wM w q.1 mn q.2)) 0 0 (gA g) := by
  have i_8 : ∀ w ∈ u_ws RX8 TX8 27, w ∈ wsX8_driveLine := by decide +kernel
  refine x_met (by decide) rfl (Nat.le_of_ble_eq_true rfl) ?_
  intro p e s m below meth c hx hb hr hml hts hown hlocks hK hW hS ls hl
  have hown : s.vm.findClass RX8 = some m.cls := hown
  have hl : lv_has ls 2 [(0, .ref (adr (g.1 + 189) 8 0))] := hl
  rw [f_X8_driveLine] at hf
  refine lv_aload_n hx hb dX8_driveLine_0 rfl (lv_at hl 0 rfl) ?_
  refine lv_aload_n hx hb dX8_driveLine_1 rfl (lv_at hl 0 rfl) ?_
  refine x_get (i := (g.1 + 189)) (k := 8) (j := 0) (t := 2) hx hb hts i_8 hown hK hW ⟨⟨hfl, rfl⟩, by decide⟩ rfl ⟨by decide, by decide, rfl⟩ (hts (.fieldLink RX8 13 "OpticalJukeboxModel" "read" "[I") (by decide +kernel)) (v := .ref (adr (g.1 + 189) 31 0)) rfl dX8_driveLine_2 ?_
  refine lv_bipush (v := 6) hx hb dX8_driveLine_5 (by decide) ?_
  refine x_iald (i := (g.1 + 189)) (k := 31) (j := 0) (f := md 31 0) hx hb hK hW ⟨⟨hfl, rfl⟩, by decide⟩ (by decide) (rfl) rfl (by unfold vp_in; decide) dX8_driveLine_7 ?_
  refine W.eq (g2 := F0 m 8 ls [.int (md 31 0 6), .ref (adr (g.1 + 189) 8 0)]) rfl ?_
  refine lv_iconst (v := 4) hx hb dX8_driveLine_8 (by decide) ?_
  obtain ⟨K1, eK1, hf⟩ := x_letE hf
  have KK1 : ∀ (y2 : Int32) (ls : Array Slot) (H : Heap) (locs : List Loc), lv_has ls 2 [(0, .ref (adr (g.1 + 189) 8 0))] → World g (wM w md mn mw) H → va_S (gA g) s.heap H locs → K1 y2 = some q → W p l e rm_X8_driveLine s m [.ref (adr (g.1 + 189) 8 0)].toArray below meth c H locs 0 0 (MQ below (cQv g (wM w q.1 mn q.2)) [.ref (adr (g.1 + 189) 8 0)].toArray s 0 0 (gA g)) (F0 m 17 ls [.int y2, .ref (adr (g.1 + 189) 8 0)]) := by
    intro y2 ls H locs hl hW hS hf
    subst eK1
    refine lv_iconst (v := 5) hx hb dX8_driveLine_17 (by decide) ?_
    obtain ⟨q3, h_q3, hf⟩ := x_bindE hf
    refine x_cv0 (x_rV ⟨hx, hb, hml, hown, hts⟩ (ct_X8_must l g hfl w md mn mw (y2) ((5 : Int32)) h_q3) (cwV 2 hts gX8_driveLine_X8_must rfl rfl rfl (by decide +kernel) ⟨Nat.le_of_ble_eq_true rfl, Nat.le_of_ble_eq_true rfl⟩) hK hW hS (x_recv (i := (g.1 + 189)) (k := 8) (j := 0) hK hW ⟨⟨hfl, rfl⟩, by decide⟩ rfl (by decide)) rfl hl.1 (rest := []) rfl (Nat.le_of_ble_eq_true rfl) dX8_driveLine_18 ⟨Nat.le_of_ble_eq_true rfl, Nat.le_of_ble_eq_true rfl⟩) hS (fun H locs hW hS => ?_)
    have hW : World g (wM w q3 mn mw) H := hW
    refine lv_aload_n hx hb dX8_driveLine_21 rfl (lv_at hl 0 rfl) ?_
    obtain ⟨q4, h_q4, hf⟩ := x_bindE hf
    refine x_cv0 (x_rV ⟨hx, hb, hml, hown, hts⟩ (ct_X8_goesOn l g hfl w q3 mn mw  h_q4) (cwV 0 hts gX8_driveLine_X8_goesOn rfl rfl rfl (by decide +kernel) ⟨Nat.le_of_ble_eq_true rfl, Nat.le_of_ble_eq_true rfl⟩) hK hW hS (x_recv (i := (g.1 + 189)) (k := 8) (j := 0) hK hW ⟨⟨hfl, rfl⟩, by decide⟩ rfl (by decide)) rfl hl.1 (rest := []) rfl (Nat.le_of_ble_eq_true rfl) dX8_driveLine_22 ⟨Nat.le_of_ble_eq_true rfl, Nat.le_of_ble_eq_true rfl⟩) hS (fun H locs hW hS => ?_)
    have hW : World g (wM w q4.1 mn q4.2) H := hW
    refine lv_aload_n hx hb dX8_driveLine_25 rfl (lv_at hl 0 rfl) ?_
    refine lv_iconst (v := 0) hx hb dX8_driveLine_26 (by decide) ?_
    refine lv_aload_n hx hb dX8_driveLine_27 rfl (lv_at hl 0 rfl) ?_
    refine x_get (i := (g.1 + 189)) (k := 8) (j := 0) (t := 2) hx hb hts i_8 hown hK hW ⟨⟨hfl, rfl⟩, by decide⟩ rfl ⟨by decide, by decide, rfl⟩ (hts (.fieldLink RX8 13 "OpticalJukeboxModel" "read" "[I") (by decide +kernel)) (v := .ref (adr (g.1 + 189) 31 0)) rfl dX8_driveLine_28 ?_
    refine lv_iconst (v := 0) hx hb dX8_driveLine_31 (by decide) ?_
    refine x_iald (i := (g.1 + 189)) (k := 31) (j := 0) (f := q4.1 31 0) hx hb hK hW ⟨⟨hfl, rfl⟩, by decide⟩ (by decide) (rfl) rfl (by unfold vp_in; decide) dX8_driveLine_32 ?_
    refine W.eq (g2 := F0 m 33 ls [.int (q4.1 31 0 0), .int (0 : Int32), .ref (adr (g.1 + 189) 8 0)]) rfl ?_
    refine lv_iconst (v := 1) hx hb dX8_driveLine_33 (by decide) ?_
    refine lv_isub hx hb dX8_driveLine_34 ?_
    obtain ⟨q5, h_q5, hf⟩ := x_bindE hf
    refine x_ci0 (x_rV ⟨hx, hb, hml, hown, hts⟩ (ct_X8_takes l g hfl w q4.1 mn q4.2 ((0 : Int32)) (((q4.1 31 0 0) - (1 : Int32))) h_q5) (cwV 2 hts gX8_driveLine_X8_takes rfl rfl rfl (by decide +kernel) ⟨Nat.le_of_ble_eq_true rfl, Nat.le_of_ble_eq_true rfl⟩) hK hW hS (x_recv (i := (g.1 + 189)) (k := 8) (j := 0) hK hW ⟨⟨hfl, rfl⟩, by decide⟩ rfl (by decide)) rfl hl.1 (rest := []) rfl (Nat.le_of_ble_eq_true rfl) dX8_driveLine_35 ⟨Nat.le_of_ble_eq_true rfl, Nat.le_of_ble_eq_true rfl⟩) hS (fun H locs hW hS => ?_)
    have hW : World g (wM w q5.2.1 mn q5.2.2) H := hW
    refine W.eq (g2 := F0 m 38 ls [.int q5.1]) rfl ?_
    obtain ⟨x6, e_x6, hf⟩ := x_letE hf
    refine x_topi e_x6 ?_
    refine lv_istore_n (lv' := [(1, .int x6), (0, .ref (adr (g.1 + 189) 8 0))]) hx hb dX8_driveLine_38 rfl hl (by decide) rfl (fun ls hl => ?_)
    refine lv_aload_n hx hb dX8_driveLine_39 rfl (lv_at hl 1 rfl) ?_
    obtain ⟨q7, h_q7, hf⟩ := x_bindE hf
    refine x_ci0 (x_rV ⟨hx, hb, hml, hown, hts⟩ (ct_X8_good l g hfl w q5.2.1 mn q5.2.2  h_q7) (cwV 0 hts gX8_driveLine_X8_good rfl rfl rfl (by decide +kernel) ⟨Nat.le_of_ble_eq_true rfl, Nat.le_of_ble_eq_true rfl⟩) hK hW hS (x_recv (i := (g.1 + 189)) (k := 8) (j := 0) hK hW ⟨⟨hfl, rfl⟩, by decide⟩ rfl (by decide)) rfl hl.1 (rest := []) rfl (Nat.le_of_ble_eq_true rfl) dX8_driveLine_40 ⟨Nat.le_of_ble_eq_true rfl, Nat.le_of_ble_eq_true rfl⟩) hS (fun H locs hW hS => ?_)
    have hW : World g (wM w q5.2.1 mn q5.2.2) H := hW
    refine W.eq (g2 := F0 m 43 ls [.int q7]) rfl ?_
    refine lv_if_ne (tgt := 47) hx hb dX8_driveLine_43 (by decide) (fun hc => ?_) (fun hc => ?_)
    · have hf := x_iteF hf hc
      refine lv_aload_n hx hb dX8_driveLine_47 rfl (lv_at hl 1 rfl) ?_
      refine x_get (i := (g.1 + 189)) (k := 8) (j := 0) (t := 2) hx hb hts i_8 hown hK hW ⟨⟨hfl, rfl⟩, by decide⟩ rfl ⟨by decide, by decide, rfl⟩ (hts (.fieldLink RX8 13 "OpticalJukeboxModel" "read" "[I") (by decide +kernel)) (v := .ref (adr (g.1 + 189) 31 0)) rfl dX8_driveLine_48 ?_
      refine lv_bipush (v := 17) hx hb dX8_driveLine_51 (by decide) ?_
      refine lv_aload_n hx hb dX8_driveLine_53 rfl (lv_at hl 1 rfl) ?_
      refine x_get (i := (g.1 + 189)) (k := 8) (j := 0) (t := 2) hx hb hts i_8 hown hK hW ⟨⟨hfl, rfl⟩, by decide⟩ rfl ⟨by decide, by decide, rfl⟩ (hts (.fieldLink RX8 13 "OpticalJukeboxModel" "read" "[I") (by decide +kernel)) (v := .ref (adr (g.1 + 189) 31 0)) rfl dX8_driveLine_54 ?_
      refine lv_bipush (v := 6) hx hb dX8_driveLine_57 (by decide) ?_
      refine x_iald (i := (g.1 + 189)) (k := 31) (j := 0) (f := q5.2.1 31 0) hx hb hK hW ⟨⟨hfl, rfl⟩, by decide⟩ (by decide) (rfl) rfl (by unfold vp_in; decide) dX8_driveLine_59 ?_
      refine W.eq (g2 := F0 m 60 ls [.int (q5.2.1 31 0 6), .int (17 : Int32), .ref (adr (g.1 + 189) 31 0)]) rfl ?_
      refine lv_iadd hx hb dX8_driveLine_60 ?_
      refine lv_iload_n hx hb dX8_driveLine_61 rfl (lv_at hl 0 rfl) ?_
      obtain ⟨hg8, hf⟩ := x_guardE hf
      obtain ⟨md9, e_md9, hf⟩ := x_letE hf
      refine x_iast (i := (g.1 + 189)) (k := 31) (j := 0) (w' := wM w md9 mn q5.2.2) hx hb hK hW ⟨⟨hfl, rfl⟩, by decide⟩ hS (by decide) rfl rfl rfl hg8 dX8_driveLine_62 (fp_M e_md9 rfl) (fun H locs hW hS => ?_)
      refine lv_aload_n hx hb dX8_driveLine_63 rfl (lv_at hl 1 rfl) ?_
      refine x_get (i := (g.1 + 189)) (k := 8) (j := 0) (t := 2) hx hb hts i_8 hown hK hW ⟨⟨hfl, rfl⟩, by decide⟩ rfl ⟨by decide, by decide, rfl⟩ (hts (.fieldLink RX8 13 "OpticalJukeboxModel" "read" "[I") (by decide +kernel)) (v := .ref (adr (g.1 + 189) 31 0)) rfl dX8_driveLine_64 ?_
      refine lv_bipush (v := 6) hx hb dX8_driveLine_67 (by decide) ?_
      refine lv_dup2_11 hx hb dX8_driveLine_69 rfl rfl ?_
      refine x_iald (i := (g.1 + 189)) (k := 31) (j := 0) (f := md9 31 0) hx hb hK hW ⟨⟨hfl, rfl⟩, by decide⟩ (by decide) (rfl) rfl (by unfold vp_in; decide) dX8_driveLine_70 ?_
      refine W.eq (g2 := F0 m 71 ls [.int (md9 31 0 6), .int (6 : Int32), .ref (adr (g.1 + 189) 31 0)]) rfl ?_
      refine lv_iconst (v := 1) hx hb dX8_driveLine_71 (by decide) ?_
      refine lv_iadd hx hb dX8_driveLine_72 ?_
      obtain ⟨md10, e_md10, hf⟩ := x_letE hf
      refine x_iast (i := (g.1 + 189)) (k := 31) (j := 0) (w' := wM w md10 mn q5.2.2) hx hb hK hW ⟨⟨hfl, rfl⟩, by decide⟩ hS (by decide) rfl rfl rfl (by unfold vp_in; decide) dX8_driveLine_73 (fp_M e_md10 rfl) (fun H locs hW hS => ?_)
      cases hf
      exact x_vret hx hb hr hlocks hK hW hS dX8_driveLine_74
    · have hf := x_iteT hf hc
      cases hf
      exact x_vret hx hb hr hlocks hK hW hS dX8_driveLine_46
  clear eK1
  refine lv_icmp_ge (tgt := 16) hx hb dX8_driveLine_9 (by decide) (fun hc => ?_) (fun hc => ?_)
  · have hf := x_iteT hf hc
    refine lv_iconst (v := 0) hx hb dX8_driveLine_16 (by decide) ?_
    exact KK1 ((0 : Int32)) ls _ _ hl hW hS hf
  · have hf := x_iteF hf hc
    refine lv_iconst (v := 1) hx hb dX8_driveLine_12 (by decide) ?_
    refine lv_goto (tgt := 17) hx hb dX8_driveLine_13 (by decide) ?_
    exact KK1 ((1 : Int32)) ls _ _ hl hW hS hf
abbrev rm_X8_timeLine : Room := { frames := 5, cells := 0, slots := 0, locals := 111 }
set_option maxRecDepth 100000 in
set_option maxHeartbeats 4000000 in
theorem ct_X8_timeLine (l : Launch) (g : GT) (hfl : 2 ≤ gf g) (w : WT) (md : SD) (mn : Nat → Int64) (mw : Int64) {q : (SD × Int64)} (hf : f_X8_timeLine md mw  = some q) : Met l yX8_timeLine wsX8_timeLine rm_X8_timeLine (cPre g (wM w md mn mw) [.ref (adr (g.1 + 189) 8 0)]) (cQv g (wM w q.1 mn q.2)) 0 0 (gA g) := by
  have i_8 : ∀ w ∈ u_ws RX8 TX8 27, w ∈ wsX8_timeLine := by decide +kernel
  refine x_met (by decide) rfl (Nat.le_of_ble_eq_true rfl) ?_
  intro p e s m below meth c hx hb hr hml hts hown hlocks hK hW hS ls hl
  have hown : s.vm.findClass RX8 = some m.cls := hown
  have hl : lv_has ls 2 [(0, .ref (adr (g.1 + 189) 8 0))] := hl
  rw [f_X8_timeLine] at hf
  refine lv_aload_n hx hb dX8_timeLine_0 rfl (lv_at hl 0 rfl) ?_
  obtain ⟨q1, h_q1, hf⟩ := x_bindE hf
  refine x_cv0 (x_rV ⟨hx, hb, hml, hown, hts⟩ (ct_X8_goesOn l g hfl w md mn mw  h_q1) (cwV 0 hts gX8_timeLine_X8_goesOn rfl rfl rfl (by decide +kernel) ⟨Nat.le_of_ble_eq_true rfl, Nat.le_of_ble_eq_true rfl⟩) hK hW hS (x_recv (i := (g.1 + 189)) (k := 8) (j := 0) hK hW ⟨⟨hfl, rfl⟩, by decide⟩ rfl (by decide)) rfl hl.1 (rest := []) rfl (Nat.le_of_ble_eq_true rfl) dX8_timeLine_1 ⟨Nat.le_of_ble_eq_true rfl, Nat.le_of_ble_eq_true rfl⟩) hS (fun H locs hW hS => ?_)
  have hW : World g (wM w q1.1 mn q1.2) H := hW
  refine lv_iconst (v := 0) hx hb dX8_timeLine_4 (by decide) ?_
  refine lv_istore_n (lv' := [(1, .int (0 : Int32)), (0, .ref (adr (g.1 + 189) 8 0))]) hx hb dX8_timeLine_5 rfl hl (by decide) rfl (fun ls hl => ?_)
  have L6 : ∀ (n : Nat) (v1_6 : Int32) (md_6 : SD) (mw_6 : Int64) (ls : Array Slot) (H : Heap) (locs : List Loc), lv_has ls 2 [(0, .ref (adr (g.1 + 189) 8 0)), (1, .int v1_6)] → World g (wM w md_6 mn mw_6) H → va_S (gA g) s.heap H locs → f_X8_timeLine_L6  n v1_6 md_6 mw_6 = some q → W p l e rm_X8_timeLine s m [.ref (adr (g.1 + 189) 8 0)].toArray below meth c H locs 0 0 (MQ below (cQv g (wM w q.1 mn q.2)) [.ref (adr (g.1 + 189) 8 0)].toArray s 0 0 (gA g)) (F0 m 6 ls []) := by
    clear hW hS hl
    intro n
    induction n with
    | zero => intro v1_6 md_6 mw_6 ls H locs hl hW hS hf; cases hf
    | succ n_6 ih =>
      intro v1_6 md_6 mw_6 ls H locs hl hW hS hf
      rw [f_X8_timeLine_L6] at hf
      refine lv_iload_n hx hb dX8_timeLine_6 rfl (lv_at hl 1 rfl) ?_
      refine lv_iconst (v := 5) hx hb dX8_timeLine_7 (by decide) ?_
      refine lv_icmp_ge (tgt := 32) hx hb dX8_timeLine_8 (by decide) (fun hc => ?_) (fun hc => ?_)
      · have hf := x_iteT hf hc
        cases hf
        exact x_vret hx hb hr hlocks hK hW hS dX8_timeLine_32
      · have hf := x_iteF hf hc
        refine lv_aload_n hx hb dX8_timeLine_11 rfl (lv_at hl 0 rfl) ?_
        refine x_get (i := (g.1 + 189)) (k := 8) (j := 0) (t := 2) hx hb hts i_8 hown hK hW ⟨⟨hfl, rfl⟩, by decide⟩ rfl ⟨by decide, by decide, rfl⟩ (hts (.fieldLink RX8 13 "OpticalJukeboxModel" "read" "[I") (by decide +kernel)) (v := .ref (adr (g.1 + 189) 31 0)) rfl dX8_timeLine_12 ?_
        refine lv_iconst (v := 1) hx hb dX8_timeLine_15 (by decide) ?_
        refine lv_iload_n hx hb dX8_timeLine_16 rfl (lv_at hl 1 rfl) ?_
        refine lv_iadd hx hb dX8_timeLine_17 ?_
        refine lv_aload_n hx hb dX8_timeLine_18 rfl (lv_at hl 0 rfl) ?_
        refine lv_iconst (v := 0) hx hb dX8_timeLine_19 (by decide) ?_
        refine lv_bipush (v := 99) hx hb dX8_timeLine_20 (by decide) ?_
        obtain ⟨q2, h_q2, hf⟩ := x_bindE hf
        refine x_ci0 (x_rV ⟨hx, hb, hml, hown, hts⟩ (ct_X8_takes l g hfl w md_6 mn mw_6 ((0 : Int32)) ((99 : Int32)) h_q2) (cwV 2 hts gX8_timeLine_X8_takes rfl rfl rfl (by decide +kernel) ⟨Nat.le_of_ble_eq_true rfl, Nat.le_of_ble_eq_true rfl⟩) hK hW hS (x_recv (i := (g.1 + 189)) (k := 8) (j := 0) hK hW ⟨⟨hfl, rfl⟩, by decide⟩ rfl (by decide)) rfl hl.1 (rest := [.int ((1 : Int32) + v1_6), .ref (adr (g.1 + 189) 31 0)]) rfl (Nat.le_of_ble_eq_true rfl) dX8_timeLine_22 ⟨Nat.le_of_ble_eq_true rfl, Nat.le_of_ble_eq_true rfl⟩) hS (fun H locs hW hS => ?_)
        have hW : World g (wM w q2.2.1 mn q2.2.2) H := hW
        refine W.eq (g2 := F0 m 25 ls [.int q2.1, .int ((1 : Int32) + v1_6), .ref (adr (g.1 + 189) 31 0)]) rfl ?_
        obtain ⟨hg3, hf⟩ := x_guardE hf
        obtain ⟨md4, e_md4, hf⟩ := x_letE hf
        refine x_iast (i := (g.1 + 189)) (k := 31) (j := 0) (w' := wM w md4 mn q2.2.2) hx hb hK hW ⟨⟨hfl, rfl⟩, by decide⟩ hS (by decide) rfl rfl rfl hg3 dX8_timeLine_25 (fp_M e_md4 rfl) (fun H locs hW hS => ?_)
        obtain ⟨x5, e_x5, hf⟩ := x_letE hf
        refine lv_iinc (v := x5) (lv' := [(1, .int x5), (0, .ref (adr (g.1 + 189) 8 0))]) hx hb dX8_timeLine_26 hl (k := 1) rfl (by rw [e_x5]; rfl) (by decide) rfl (fun ls hl => ?_)
        refine lv_goto (tgt := 6) hx hb dX8_timeLine_29 (by decide) ?_
        exact ih (x5) (md4) (q2.2.2) ls _ _ (lv_sub hl [1, 0] rfl) hW hS hf
  exact L6 fuel ((0 : Int32)) (q1.1) (q1.2) ls _ _ (lv_sub hl [1, 0] rfl) hW hS hf
