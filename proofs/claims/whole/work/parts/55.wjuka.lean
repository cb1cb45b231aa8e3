set_option maxRecDepth 20000 in
theorem ggX7_feed_X5_appendFourBytes : GoodIn wsX7_feed wsX5_appendFourBytes := goodIn_r _ [8, 9, 10, 20, 21, 22, 23, 24, 25, 26, 27, 28] (by decide +kernel) (by decide +kernel)
set_option maxRecDepth 20000 in
theorem gX7_feed_X5_appendFourBytes : GoodIn wsX7_feed (wsV RX7 42 RX5 yX5_appendFourBytes wsX5_appendFourBytes) := goodIn_app (goodIn_of _ (by decide +kernel)) ggX7_feed_X5_appendFourBytes
theorem dX7_feed_0 : decode cX7_feed 0 = .ok (.aload_n 0, 1) := by decide +kernel
theorem dX7_feed_1 : decode cX7_feed 1 = .ok (.getfield 10, 3) := by decide +kernel
theorem dX7_feed_4 : decode cX7_feed 4 = .ok (.getfield 37, 3) := by decide +kernel
theorem dX7_feed_7 : decode cX7_feed 7 = .ok (.bipush 20, 2) := by decide +kernel
theorem dX7_feed_9 : decode cX7_feed 9 = .ok (.iadd, 1) := by decide +kernel
theorem dX7_feed_10 : decode cX7_feed 10 = .ok (.sipush 900, 3) := by decide +kernel
theorem dX7_feed_13 : decode cX7_feed 13 = .ok (.if_icmp .le 6, 3) := by decide +kernel
theorem dX7_feed_16 : decode cX7_feed 16 = .ok (.ldc 41, 2) := by decide +kernel
theorem dX7_feed_18 : decode cX7_feed 18 = .ok (.ireturn, 1) := by decide +kernel
theorem dX7_feed_19 : decode cX7_feed 19 = .ok (.aload_n 0, 1) := by decide +kernel
theorem dX7_feed_20 : decode cX7_feed 20 = .ok (.getfield 10, 3) := by decide +kernel
theorem dX7_feed_23 : decode cX7_feed 23 = .ok (.iload_n 1, 1) := by decide +kernel
theorem dX7_feed_24 : decode cX7_feed 24 = .ok (.invokevirtual 42, 3) := by decide +kernel
theorem dX7_feed_27 : decode cX7_feed 27 = .ok (.aload_n 0, 1) := by decide +kernel
theorem dX7_feed_28 : decode cX7_feed 28 = .ok (.getfield 10, 3) := by decide +kernel
theorem dX7_feed_31 : decode cX7_feed 31 = .ok (.iload_n 2, 1) := by decide +kernel
theorem dX7_feed_32 : decode cX7_feed 32 = .ok (.invokevirtual 42, 3) := by decide +kernel
theorem dX7_feed_35 : decode cX7_feed 35 = .ok (.aload_n 0, 1) := by decide +kernel
theorem dX7_feed_36 : decode cX7_feed 36 = .ok (.getfield 10, 3) := by decide +kernel
theorem dX7_feed_39 : decode cX7_feed 39 = .ok (.iload_n 3, 1) := by decide +kernel
theorem dX7_feed_40 : decode cX7_feed 40 = .ok (.invokevirtual 42, 3) := by decide +kernel
theorem dX7_feed_43 : decode cX7_feed 43 = .ok (.aload_n 0, 1) := by decide +kernel
theorem dX7_feed_44 : decode cX7_feed 44 = .ok (.getfield 10, 3) := by decide +kernel
theorem dX7_feed_47 : decode cX7_feed 47 = .ok (.iload 4, 2) := by decide +kernel
theorem dX7_feed_49 : decode cX7_feed 49 = .ok (.invokevirtual 42, 3) := by decide +kernel
theorem dX7_feed_52 : decode cX7_feed 52 = .ok (.aload_n 0, 1) := by decide +kernel
theorem dX7_feed_53 : decode cX7_feed 53 = .ok (.getfield 10, 3) := by decide +kernel
theorem dX7_feed_56 : decode cX7_feed 56 = .ok (.iload 5, 2) := by decide +kernel
theorem dX7_feed_58 : decode cX7_feed 58 = .ok (.invokevirtual 42, 3) := by decide +kernel
theorem dX7_feed_61 : decode cX7_feed 61 = .ok (.aload_n 0, 1) := by decide +kernel
theorem dX7_feed_62 : decode cX7_feed 62 = .ok (.getfield 10, 3) := by decide +kernel
theorem dX7_feed_65 : decode cX7_feed 65 = .ok (.getfield 37, 3) := by decide +kernel
theorem dX7_feed_68 : decode cX7_feed 68 = .ok (.ireturn, 1) := by decide +kernel
theorem dX7_errorKind_0 : decode cX7_errorKind 0 = .ok (.aload_n 0, 1) := by decide +kernel
theorem dX7_errorKind_1 : decode cX7_errorKind 1 = .ok (.getfield 54, 3) := by decide +kernel
theorem dX7_errorKind_4 : decode cX7_errorKind 4 = .ok (.ireturn, 1) := by decide +kernel
theorem dX7_errorPosition_0 : decode cX7_errorPosition 0 = .ok (.aload_n 0, 1) := by decide +kernel
theorem dX7_errorPosition_1 : decode cX7_errorPosition 1 = .ok (.getfield 54, 3) := by decide +kernel
theorem dX7_errorPosition_4 : decode cX7_errorPosition 4 = .ok (.ifCond .ne 8, 3) := by decide +kernel
theorem dX7_errorPosition_7 : decode cX7_errorPosition 7 = .ok (.ldc 73, 2) := by decide +kernel
theorem dX7_errorPosition_9 : decode cX7_errorPosition 9 = .ok (.goto 7, 3) := by decide +kernel
theorem dX7_errorPosition_12 : decode cX7_errorPosition 12 = .ok (.aload_n 0, 1) := by decide +kernel
theorem dX7_errorPosition_13 : decode cX7_errorPosition 13 = .ok (.getfield 60, 3) := by decide +kernel
theorem dX7_errorPosition_16 : decode cX7_errorPosition 16 = .ok (.ireturn, 1) := by decide +kernel
set_option maxRecDepth 20000 in
theorem ggX7_homeSlot_X4_hasPlatter : GoodIn wsX7_homeSlot wsX4_hasPlatter := goodIn_r _ [9, 10, 20, 21, 22, 23, 24, 25, 26, 27, 28, 29, 30, 31, 32, 33, 34, 35, 36, 37] (by decide +kernel) (by decide +kernel)
set_option maxRecDepth 20000 in
theorem gX7_homeSlot_X4_hasPlatter : GoodIn wsX7_homeSlot (wsV RX7 74 RX4 yX4_hasPlatter wsX4_hasPlatter) := goodIn_app (goodIn_of _ (by decide +kernel)) ggX7_homeSlot_X4_hasPlatter
theorem dX7_homeSlot_0 : decode cX7_homeSlot 0 = .ok (.aload_n 0, 1) := by decide +kernel
theorem dX7_homeSlot_1 : decode cX7_homeSlot 1 = .ok (.getfield 19, 3) := by decide +kernel
theorem dX7_homeSlot_4 : decode cX7_homeSlot 4 = .ok (.iload_n 1, 1) := by decide +kernel
theorem dX7_homeSlot_5 : decode cX7_homeSlot 5 = .ok (.invokevirtual 74, 3) := by decide +kernel
theorem dX7_homeSlot_8 : decode cX7_homeSlot 8 = .ok (.ifCond .eq 18, 3) := by decide +kernel
theorem dX7_homeSlot_11 : decode cX7_homeSlot 11 = .ok (.aload_n 0, 1) := by decide +kernel
theorem dX7_homeSlot_12 : decode cX7_homeSlot 12 = .ok (.getfield 19, 3) := by decide +kernel
theorem dX7_homeSlot_15 : decode cX7_homeSlot 15 = .ok (.getfield 78, 3) := by decide +kernel
theorem dX7_homeSlot_18 : decode cX7_homeSlot 18 = .ok (.iload_n 1, 1) := by decide +kernel
theorem dX7_homeSlot_19 : decode cX7_homeSlot 19 = .ok (.aaload, 1) := by decide +kernel
theorem dX7_homeSlot_20 : decode cX7_homeSlot 20 = .ok (.getfield 82, 3) := by decide +kernel
theorem dX7_homeSlot_23 : decode cX7_homeSlot 23 = .ok (.goto 5, 3) := by decide +kernel
theorem dX7_homeSlot_26 : decode cX7_homeSlot 26 = .ok (.ldc 87, 2) := by decide +kernel
theorem dX7_homeSlot_28 : decode cX7_homeSlot 28 = .ok (.ireturn, 1) := by decide +kernel
set_option maxRecDepth 20000 in
theorem ggX7_platterInSlot_X4_hasSlot : GoodIn wsX7_platterInSlot wsX4_hasSlot := goodIn_r _ [8, 9, 33, 34, 35, 36, 37, 38, 39, 40, 41, 42, 43, 44, 45, 46, 47, 48, 49, 50] (by decide +kernel) (by decide +kernel)
set_option maxRecDepth 20000 in
theorem gX7_platterInSlot_X4_hasSlot : GoodIn wsX7_platterInSlot (wsV RX7 88 RX4 yX4_hasSlot wsX4_hasSlot) := goodIn_app (goodIn_of _ (by decide +kernel)) ggX7_platterInSlot_X4_hasSlot
set_option maxRecDepth 20000 in
theorem ggX7_platterInSlot_X4_platterWithHome : GoodIn wsX7_platterInSlot wsX4_platterWithHome := goodIn_r _ [13, 14, 15, 16, 33, 34, 35, 36, 37, 38, 39, 40, 41, 42, 43, 44, 45, 46, 47, 48, 49, 50, 51, 52, 53, 54, 55, 56, 57, 58, 59] (by decide +kernel) (by decide +kernel)
set_option maxRecDepth 20000 in
theorem gX7_platterInSlot_X4_platterWithHome : GoodIn wsX7_platterInSlot (wsV RX7 91 RX4 yX4_platterWithHome wsX4_platterWithHome) := goodIn_app (goodIn_of _ (by decide +kernel)) ggX7_platterInSlot_X4_platterWithHome
set_option maxRecDepth 20000 in
theorem ggX7_platterInSlot_X4_driveHolding : GoodIn wsX7_platterInSlot wsX4_driveHolding := goodIn_r _ [20, 21, 22, 23, 33, 34, 35, 36, 37, 38, 39, 40, 41, 42, 43, 44, 45, 46, 47, 48, 49, 50, 60, 61, 62] (by decide +kernel) (by decide +kernel)
set_option maxRecDepth 20000 in
theorem gX7_platterInSlot_X4_driveHolding : GoodIn wsX7_platterInSlot (wsV RX7 95 RX4 yX4_driveHolding wsX4_driveHolding) := goodIn_app (goodIn_of _ (by decide +kernel)) ggX7_platterInSlot_X4_driveHolding
theorem dX7_platterInSlot_0 : decode cX7_platterInSlot 0 = .ok (.aload_n 0, 1) := by decide +kernel
theorem dX7_platterInSlot_1 : decode cX7_platterInSlot 1 = .ok (.getfield 19, 3) := by decide +kernel
theorem dX7_platterInSlot_4 : decode cX7_platterInSlot 4 = .ok (.iload_n 1, 1) := by decide +kernel
theorem dX7_platterInSlot_5 : decode cX7_platterInSlot 5 = .ok (.invokevirtual 88, 3) := by decide +kernel
theorem dX7_platterInSlot_8 : decode cX7_platterInSlot 8 = .ok (.ifCond .ne 6, 3) := by decide +kernel
theorem dX7_platterInSlot_11 : decode cX7_platterInSlot 11 = .ok (.ldc 87, 2) := by decide +kernel
theorem dX7_platterInSlot_13 : decode cX7_platterInSlot 13 = .ok (.ireturn, 1) := by decide +kernel
theorem dX7_platterInSlot_14 : decode cX7_platterInSlot 14 = .ok (.aload_n 0, 1) := by decide +kernel
theorem dX7_platterInSlot_15 : decode cX7_platterInSlot 15 = .ok (.getfield 19, 3) := by decide +kernel
theorem dX7_platterInSlot_18 : decode cX7_platterInSlot 18 = .ok (.iload_n 1, 1) := by decide +kernel
theorem dX7_platterInSlot_19 : decode cX7_platterInSlot 19 = .ok (.invokevirtual 91, 3) := by decide +kernel
theorem dX7_platterInSlot_22 : decode cX7_platterInSlot 22 = .ok (.istore_n 2, 1) := by decide +kernel
theorem dX7_platterInSlot_23 : decode cX7_platterInSlot 23 = .ok (.iload_n 2, 1) := by decide +kernel
theorem dX7_platterInSlot_24 : decode cX7_platterInSlot 24 = .ok (.iconst (-1), 1) := by decide +kernel
theorem dX7_platterInSlot_25 : decode cX7_platterInSlot 25 = .ok (.if_icmp .eq 15, 3) := by decide +kernel
theorem dX7_platterInSlot_28 : decode cX7_platterInSlot 28 = .ok (.aload_n 0, 1) := by decide +kernel
theorem dX7_platterInSlot_29 : decode cX7_platterInSlot 29 = .ok (.getfield 19, 3) := by decide +kernel
theorem dX7_platterInSlot_32 : decode cX7_platterInSlot 32 = .ok (.iload_n 2, 1) := by decide +kernel
theorem dX7_platterInSlot_33 : decode cX7_platterInSlot 33 = .ok (.invokevirtual 95, 3) := by decide +kernel
theorem dX7_platterInSlot_36 : decode cX7_platterInSlot 36 = .ok (.iconst (-1), 1) := by decide +kernel
theorem dX7_platterInSlot_37 : decode cX7_platterInSlot 37 = .ok (.if_icmp .eq 8, 3) := by decide +kernel
theorem dX7_platterInSlot_40 : decode cX7_platterInSlot 40 = .ok (.ldc 73, 2) := by decide +kernel
theorem dX7_platterInSlot_42 : decode cX7_platterInSlot 42 = .ok (.goto 4, 3) := by decide +kernel
theorem dX7_platterInSlot_45 : decode cX7_platterInSlot 45 = .ok (.iload_n 2, 1) := by decide +kernel
theorem dX7_platterInSlot_46 : decode cX7_platterInSlot 46 = .ok (.ireturn, 1) := by decide +kernel
theorem dX7_foundOrNot_0 : decode cX7_foundOrNot 0 = .ok (.iload_n 0, 1) := by decide +kernel
theorem dX7_foundOrNot_1 : decode cX7_foundOrNot 1 = .ok (.iconst (-1), 1) := by decide +kernel
theorem dX7_foundOrNot_2 : decode cX7_foundOrNot 2 = .ok (.if_icmp .ne 8, 3) := by decide +kernel
theorem dX7_foundOrNot_5 : decode cX7_foundOrNot 5 = .ok (.ldc 73, 2) := by decide +kernel
theorem dX7_foundOrNot_7 : decode cX7_foundOrNot 7 = .ok (.goto 4, 3) := by decide +kernel
theorem dX7_foundOrNot_10 : decode cX7_foundOrNot 10 = .ok (.iload_n 0, 1) := by decide +kernel
theorem dX7_foundOrNot_11 : decode cX7_foundOrNot 11 = .ok (.ireturn, 1) := by decide +kernel
set_option maxRecDepth 20000 in
theorem ggX7_driveOf_X4_hasPlatter : GoodIn wsX7_driveOf wsX4_hasPlatter := goodIn_r _ [7, 8, 30, 31, 32, 33, 34, 35, 36, 37, 38, 39, 40, 41, 42, 43, 44, 45, 46, 47] (by decide +kernel) (by decide +kernel)
set_option maxRecDepth 20000 in
theorem gX7_driveOf_X4_hasPlatter : GoodIn wsX7_driveOf (wsV RX7 74 RX4 yX4_hasPlatter wsX4_hasPlatter) := goodIn_app (goodIn_of _ (by decide +kernel)) ggX7_driveOf_X4_hasPlatter
set_option maxRecDepth 20000 in
theorem ggX7_driveOf_X4_driveHolding : GoodIn wsX7_driveOf wsX4_driveHolding := goodIn_r _ [12, 13, 14, 15, 30, 31, 32, 33, 34, 35, 36, 37, 38, 39, 40, 41, 42, 43, 44, 45, 46, 47, 48, 49, 50] (by decide +kernel) (by decide +kernel)
set_option maxRecDepth 20000 in
theorem gX7_driveOf_X4_driveHolding : GoodIn wsX7_driveOf (wsV RX7 95 RX4 yX4_driveHolding wsX4_driveHolding) := goodIn_app (goodIn_of _ (by decide +kernel)) ggX7_driveOf_X4_driveHolding
set_option maxRecDepth 20000 in
theorem ggX7_driveOf_X7_foundOrNot : GoodIn wsX7_driveOf wsX7_foundOrNot := goodIn_r _ [19, 20] (by decide +kernel) (by decide +kernel)
set_option maxRecDepth 20000 in
theorem gX7_driveOf_X7_foundOrNot : GoodIn wsX7_driveOf (va_wsS RX7 98 yX7_foundOrNot wsX7_foundOrNot) := goodIn_app (goodIn_of _ (by decide +kernel)) ggX7_driveOf_X7_foundOrNot
theorem dX7_driveOf_0 : decode cX7_driveOf 0 = .ok (.aload_n 0, 1) := by decide +kernel
theorem dX7_driveOf_1 : decode cX7_driveOf 1 = .ok (.getfield 19, 3) := by decide +kernel
theorem dX7_driveOf_4 : decode cX7_driveOf 4 = .ok (.iload_n 1, 1) := by decide +kernel
theorem dX7_driveOf_5 : decode cX7_driveOf 5 = .ok (.invokevirtual 74, 3) := by decide +kernel
theorem dX7_driveOf_8 : decode cX7_driveOf 8 = .ok (.ifCond .ne 6, 3) := by decide +kernel
theorem dX7_driveOf_11 : decode cX7_driveOf 11 = .ok (.ldc 87, 2) := by decide +kernel
theorem dX7_driveOf_13 : decode cX7_driveOf 13 = .ok (.ireturn, 1) := by decide +kernel
theorem dX7_driveOf_14 : decode cX7_driveOf 14 = .ok (.aload_n 0, 1) := by decide +kernel
theorem dX7_driveOf_15 : decode cX7_driveOf 15 = .ok (.getfield 19, 3) := by decide +kernel
theorem dX7_driveOf_18 : decode cX7_driveOf 18 = .ok (.iload_n 1, 1) := by decide +kernel
theorem dX7_driveOf_19 : decode cX7_driveOf 19 = .ok (.invokevirtual 95, 3) := by decide +kernel
theorem dX7_driveOf_22 : decode cX7_driveOf 22 = .ok (.invokestatic 98, 3) := by decide +kernel
theorem dX7_driveOf_25 : decode cX7_driveOf 25 = .ok (.ireturn, 1) := by decide +kernel
set_option maxRecDepth 20000 in
theorem ggX7_platterInDrive_X4_hasDrive : GoodIn wsX7_platterInDrive wsX4_hasDrive := goodIn_r _ [9, 10, 25, 26, 27, 28, 29, 30, 31, 32, 33, 34, 35, 36, 37, 38, 39, 40, 41, 42] (by decide +kernel) (by decide +kernel)
set_option maxRecDepth 20000 in
theorem gX7_platterInDrive_X4_hasDrive : GoodIn wsX7_platterInDrive (wsV RX7 101 RX4 yX4_hasDrive wsX4_hasDrive) := goodIn_app (goodIn_of _ (by decide +kernel)) ggX7_platterInDrive_X4_hasDrive
set_option maxRecDepth 20000 in
theorem ggX7_platterInDrive_X7_foundOrNot : GoodIn wsX7_platterInDrive wsX7_foundOrNot := goodIn_r _ [14, 15] (by decide +kernel) (by decide +kernel)
set_option maxRecDepth 20000 in
theorem gX7_platterInDrive_X7_foundOrNot : GoodIn wsX7_platterInDrive (va_wsS RX7 98 yX7_foundOrNot wsX7_foundOrNot) := goodIn_app (goodIn_of _ (by decide +kernel)) ggX7_platterInDrive_X7_foundOrNot
theorem dX7_platterInDrive_0 : decode cX7_platterInDrive 0 = .ok (.aload_n 0, 1) := by decide +kernel
theorem dX7_platterInDrive_1 : decode cX7_platterInDrive 1 = .ok (.getfield 19, 3) := by decide +kernel
theorem dX7_platterInDrive_4 : decode cX7_platterInDrive 4 = .ok (.iload_n 1, 1) := by decide +kernel
theorem dX7_platterInDrive_5 : decode cX7_platterInDrive 5 = .ok (.invokevirtual 101, 3) := by decide +kernel
theorem dX7_platterInDrive_8 : decode cX7_platterInDrive 8 = .ok (.ifCond .eq 21, 3) := by decide +kernel
theorem dX7_platterInDrive_11 : decode cX7_platterInDrive 11 = .ok (.aload_n 0, 1) := by decide +kernel
theorem dX7_platterInDrive_12 : decode cX7_platterInDrive 12 = .ok (.getfield 19, 3) := by decide +kernel
theorem dX7_platterInDrive_15 : decode cX7_platterInDrive 15 = .ok (.getfield 104, 3) := by decide +kernel
theorem dX7_platterInDrive_18 : decode cX7_platterInDrive 18 = .ok (.iload_n 1, 1) := by decide +kernel
theorem dX7_platterInDrive_19 : decode cX7_platterInDrive 19 = .ok (.aaload, 1) := by decide +kernel
theorem dX7_platterInDrive_20 : decode cX7_platterInDrive 20 = .ok (.getfield 108, 3) := by decide +kernel
theorem dX7_platterInDrive_23 : decode cX7_platterInDrive 23 = .ok (.invokestatic 98, 3) := by decide +kernel
theorem dX7_platterInDrive_26 : decode cX7_platterInDrive 26 = .ok (.goto 5, 3) := by decide +kernel
theorem dX7_platterInDrive_29 : decode cX7_platterInDrive 29 = .ok (.ldc 87, 2) := by decide +kernel
theorem dX7_platterInDrive_31 : decode cX7_platterInDrive 31 = .ok (.ireturn, 1) := by decide +kernel
theorem dX7_pickerPosition_0 : decode cX7_pickerPosition 0 = .ok (.aload_n 0, 1) := by decide +kernel
theorem dX7_pickerPosition_1 : decode cX7_pickerPosition 1 = .ok (.getfield 19, 3) := by decide +kernel
theorem dX7_pickerPosition_4 : decode cX7_pickerPosition 4 = .ok (.getfield 113, 3) := by decide +kernel
theorem dX7_pickerPosition_7 : decode cX7_pickerPosition 7 = .ok (.ireturn, 1) := by decide +kernel
theorem dX7_clock_0 : decode cX7_clock 0 = .ok (.aload_n 0, 1) := by decide +kernel
theorem dX7_clock_1 : decode cX7_clock 1 = .ok (.getfield 19, 3) := by decide +kernel
theorem dX7_clock_4 : decode cX7_clock 4 = .ok (.getfield 116, 3) := by decide +kernel
theorem dX7_clock_7 : decode cX7_clock 7 = .ok (.ireturn, 1) := by decide +kernel
theorem dX7_exchanges_0 : decode cX7_exchanges 0 = .ok (.aload_n 0, 1) := by decide +kernel
theorem dX7_exchanges_1 : decode cX7_exchanges 1 = .ok (.getfield 19, 3) := by decide +kernel
theorem dX7_exchanges_4 : decode cX7_exchanges 4 = .ok (.getfield 119, 3) := by decide +kernel
theorem dX7_exchanges_7 : decode cX7_exchanges 7 = .ok (.ireturn, 1) := by decide +kernel
theorem dX7_travel_0 : decode cX7_travel 0 = .ok (.aload_n 0, 1) := by decide +kernel
theorem dX7_travel_1 : decode cX7_travel 1 = .ok (.getfield 19, 3) := by decide +kernel
theorem dX7_travel_4 : decode cX7_travel 4 = .ok (.getfield 122, 3) := by decide +kernel
theorem dX7_travel_7 : decode cX7_travel 7 = .ok (.ireturn, 1) := by decide +kernel
set_option maxRecDepth 20000 in
theorem ggX7_mountProblem_X4_hasPlatter : GoodIn wsX7_mountProblem wsX4_hasPlatter := goodIn_r _ [9, 10, 20, 21, 22, 23, 24, 25, 26, 27, 28, 29, 30, 31, 32, 33, 34, 35, 36, 37] (by decide +kernel) (by decide +kernel)
set_option maxRecDepth 20000 in
theorem gX7_mountProblem_X4_hasPlatter : GoodIn wsX7_mountProblem (wsV RX7 74 RX4 yX4_hasPlatter wsX4_hasPlatter) := goodIn_app (goodIn_of _ (by decide +kernel)) ggX7_mountProblem_X4_hasPlatter
theorem dX7_mountProblem_0 : decode cX7_mountProblem 0 = .ok (.aload_n 0, 1) := by decide +kernel
theorem dX7_mountProblem_1 : decode cX7_mountProblem 1 = .ok (.getfield 19, 3) := by decide +kernel
theorem dX7_mountProblem_4 : decode cX7_mountProblem 4 = .ok (.iload_n 1, 1) := by decide +kernel
theorem dX7_mountProblem_5 : decode cX7_mountProblem 5 = .ok (.invokevirtual 74, 3) := by decide +kernel
theorem dX7_mountProblem_8 : decode cX7_mountProblem 8 = .ok (.ifCond .ne 6, 3) := by decide +kernel
theorem dX7_mountProblem_11 : decode cX7_mountProblem 11 = .ok (.ldc 87, 2) := by decide +kernel
theorem dX7_mountProblem_13 : decode cX7_mountProblem 13 = .ok (.ireturn, 1) := by decide +kernel
theorem dX7_mountProblem_14 : decode cX7_mountProblem 14 = .ok (.aload_n 0, 1) := by decide +kernel
theorem dX7_mountProblem_15 : decode cX7_mountProblem 15 = .ok (.getfield 19, 3) := by decide +kernel
theorem dX7_mountProblem_18 : decode cX7_mountProblem 18 = .ok (.getfield 134, 3) := by decide +kernel
theorem dX7_mountProblem_21 : decode cX7_mountProblem 21 = .ok (.ifCond .ne 8, 3) := by decide +kernel
theorem dX7_mountProblem_24 : decode cX7_mountProblem 24 = .ok (.ldc 137, 2) := by decide +kernel
theorem dX7_mountProblem_26 : decode cX7_mountProblem 26 = .ok (.goto 4, 3) := by decide +kernel
theorem dX7_mountProblem_29 : decode cX7_mountProblem 29 = .ok (.iconst 0, 1) := by decide +kernel
theorem dX7_mountProblem_30 : decode cX7_mountProblem 30 = .ok (.ireturn, 1) := by decide +kernel
set_option maxRecDepth 20000 in
theorem ggX7_chosenDrive_X7_mountProblem : GoodIn wsX7_chosenDrive wsX7_mountProblem := goodIn_r _ [6, 1, 7, 8, 9, 10, 11, 12, 13, 14, 15, 33, 34, 35, 36, 37, 38, 39, 40, 41, 42, 43, 44, 45, 46, 47, 48, 49, 50, 51, 52, 53, 54, 55, 56, 57, 58, 59] (by decide +kernel) (by decide +kernel)
set_option maxRecDepth 20000 in
theorem gX7_chosenDrive_X7_mountProblem : GoodIn wsX7_chosenDrive (wsV RX7 125 RX7 yX7_mountProblem wsX7_mountProblem) := goodIn_app (goodIn_of _ (by decide +kernel)) ggX7_chosenDrive_X7_mountProblem
set_option maxRecDepth 20000 in
theorem ggX7_chosenDrive_X4_driveToChoose : GoodIn wsX7_chosenDrive wsX4_driveToChoose := goodIn_r _ [19, 20, 21, 22, 13, 23, 24, 25, 26, 27, 28, 29, 30, 31, 32, 42, 43, 44, 45, 46, 47, 48, 49, 50, 51, 52, 53, 54, 55, 56, 57, 58, 59, 60, 61, 62] (by decide +kernel) (by decide +kernel)
set_option maxRecDepth 20000 in
theorem gX7_chosenDrive_X4_driveToChoose : GoodIn wsX7_chosenDrive (wsV RX7 128 RX4 yX4_driveToChoose wsX4_driveToChoose) := goodIn_app (goodIn_of _ (by decide +kernel)) ggX7_chosenDrive_X4_driveToChoose
theorem dX7_chosenDrive_0 : decode cX7_chosenDrive 0 = .ok (.aload_n 0, 1) := by decide +kernel
theorem dX7_chosenDrive_1 : decode cX7_chosenDrive 1 = .ok (.iload_n 1, 1) := by decide +kernel
theorem dX7_chosenDrive_2 : decode cX7_chosenDrive 2 = .ok (.invokevirtual 125, 3) := by decide +kernel
theorem dX7_chosenDrive_5 : decode cX7_chosenDrive 5 = .ok (.istore_n 2, 1) := by decide +kernel
theorem dX7_chosenDrive_6 : decode cX7_chosenDrive 6 = .ok (.iload_n 2, 1) := by decide +kernel
theorem dX7_chosenDrive_7 : decode cX7_chosenDrive 7 = .ok (.ifCond .eq 7, 3) := by decide +kernel
theorem dX7_chosenDrive_10 : decode cX7_chosenDrive 10 = .ok (.iload_n 2, 1) := by decide +kernel
theorem dX7_chosenDrive_11 : decode cX7_chosenDrive 11 = .ok (.goto 11, 3) := by decide +kernel
theorem dX7_chosenDrive_14 : decode cX7_chosenDrive 14 = .ok (.aload_n 0, 1) := by decide +kernel
theorem dX7_chosenDrive_15 : decode cX7_chosenDrive 15 = .ok (.getfield 19, 3) := by decide +kernel
theorem dX7_chosenDrive_18 : decode cX7_chosenDrive 18 = .ok (.iload_n 1, 1) := by decide +kernel
theorem dX7_chosenDrive_19 : decode cX7_chosenDrive 19 = .ok (.invokevirtual 128, 3) := by decide +kernel
theorem dX7_chosenDrive_22 : decode cX7_chosenDrive 22 = .ok (.ireturn, 1) := by decide +kernel
set_option maxRecDepth 20000 in
theorem ggX7_mountTime_X7_mountProblem : GoodIn wsX7_mountTime wsX7_mountProblem := goodIn_r _ [6, 1, 7, 8, 9, 10, 11, 12, 13, 14, 15, 54, 55, 56, 57, 58, 59, 60, 61, 62, 63, 64, 65, 66, 67, 68, 69, 70, 71, 72, 73, 74, 75, 76, 77, 78, 79, 80] (by decide +kernel) (by decide +kernel)
set_option maxRecDepth 20000 in
theorem gX7_mountTime_X7_mountProblem : GoodIn wsX7_mountTime (wsV RX7 125 RX7 yX7_mountProblem wsX7_mountProblem) := goodIn_app (goodIn_of _ (by decide +kernel)) ggX7_mountTime_X7_mountProblem
set_option maxRecDepth 20000 in
theorem ggX7_mountTime_X4_chosenBringTime : GoodIn wsX7_mountTime wsX4_chosenBringTime := goodIn_r _ [19, 20, 21, 22, 13, 23, 24, 25, 26, 27, 28, 29, 30, 31, 32, 33, 34, 35, 36, 37, 38, 39, 40, 41, 42, 43, 44, 45, 46, 47, 48, 49, 50, 51, 52, 53, 63, 64, 65, 66, 67, 68, 69, 70, 71, 72, 73, 74, 75, 76, 77, 78, 79, 80, 81, 82, 83, 84, 85, 86, 87, 88, 89, 90, 91, 92] (by decide +kernel) (by decide +kernel)
set_option maxRecDepth 20000 in
theorem gX7_mountTime_X4_chosenBringTime : GoodIn wsX7_mountTime (wsV RX7 131 RX4 yX4_chosenBringTime wsX4_chosenBringTime) := goodIn_app (goodIn_of _ (by decide +kernel)) ggX7_mountTime_X4_chosenBringTime
theorem dX7_mountTime_0 : decode cX7_mountTime 0 = .ok (.aload_n 0, 1) := by decide +kernel
theorem dX7_mountTime_1 : decode cX7_mountTime 1 = .ok (.iload_n 1, 1) := by decide +kernel
theorem dX7_mountTime_2 : decode cX7_mountTime 2 = .ok (.invokevirtual 125, 3) := by decide +kernel
theorem dX7_mountTime_5 : decode cX7_mountTime 5 = .ok (.istore_n 2, 1) := by decide +kernel
theorem dX7_mountTime_6 : decode cX7_mountTime 6 = .ok (.iload_n 2, 1) := by decide +kernel
theorem dX7_mountTime_7 : decode cX7_mountTime 7 = .ok (.ifCond .eq 7, 3) := by decide +kernel
theorem dX7_mountTime_10 : decode cX7_mountTime 10 = .ok (.iload_n 2, 1) := by decide +kernel
theorem dX7_mountTime_11 : decode cX7_mountTime 11 = .ok (.goto 11, 3) := by decide +kernel
theorem dX7_mountTime_14 : decode cX7_mountTime 14 = .ok (.aload_n 0, 1) := by decide +kernel
theorem dX7_mountTime_15 : decode cX7_mountTime 15 = .ok (.getfield 19, 3) := by decide +kernel
theorem dX7_mountTime_18 : decode cX7_mountTime 18 = .ok (.iload_n 1, 1) := by decide +kernel
theorem dX7_mountTime_19 : decode cX7_mountTime 19 = .ok (.invokevirtual 131, 3) := by decide +kernel
theorem dX7_mountTime_22 : decode cX7_mountTime 22 = .ok (.ireturn, 1) := by decide +kernel
set_option maxRecDepth 20000 in
theorem ggX7_mountTimeIn_X4_hasPlatter : GoodIn wsX7_mountTimeIn wsX4_hasPlatter := goodIn_r _ [8, 9, 47, 48, 49, 50, 51, 52, 53, 54, 55, 56, 57, 58, 59, 60, 61, 62, 63, 64] (by decide +kernel) (by decide +kernel)
set_option maxRecDepth 20000 in
theorem gX7_mountTimeIn_X4_hasPlatter : GoodIn wsX7_mountTimeIn (wsV RX7 74 RX4 yX4_hasPlatter wsX4_hasPlatter) := goodIn_app (goodIn_of _ (by decide +kernel)) ggX7_mountTimeIn_X4_hasPlatter
set_option maxRecDepth 20000 in
theorem ggX7_mountTimeIn_X4_hasDrive : GoodIn wsX7_mountTimeIn wsX4_hasDrive := goodIn_r _ [13, 14, 47, 48, 49, 50, 51, 52, 53, 54, 55, 56, 57, 58, 59, 60, 61, 62, 63, 64] (by decide +kernel) (by decide +kernel)
set_option maxRecDepth 20000 in
theorem gX7_mountTimeIn_X4_hasDrive : GoodIn wsX7_mountTimeIn (wsV RX7 101 RX4 yX4_hasDrive wsX4_hasDrive) := goodIn_app (goodIn_of _ (by decide +kernel)) ggX7_mountTimeIn_X4_hasDrive
set_option maxRecDepth 20000 in
theorem ggX7_mountTimeIn_X4_driveHolding : GoodIn wsX7_mountTimeIn wsX4_driveHolding := goodIn_r _ [18, 14, 19, 20, 47, 48, 49, 50, 51, 52, 53, 54, 55, 56, 57, 58, 59, 60, 61, 62, 63, 64, 65, 66, 67] (by decide +kernel) (by decide +kernel)
set_option maxRecDepth 20000 in
theorem gX7_mountTimeIn_X4_driveHolding : GoodIn wsX7_mountTimeIn (wsV RX7 95 RX4 yX4_driveHolding wsX4_driveHolding) := goodIn_app (goodIn_of _ (by decide +kernel)) ggX7_mountTimeIn_X4_driveHolding
set_option maxRecDepth 20000 in
theorem ggX7_mountTimeIn_X4_bringTime : GoodIn wsX7_mountTimeIn wsX4_bringTime := goodIn_r _ [24, 19, 20, 25, 26, 27, 28, 7, 29, 30, 31, 32, 33, 34, 35, 36, 37, 47, 48, 49, 50, 51, 52, 53, 54, 55, 56, 57, 58, 59, 60, 61, 62, 63, 64, 65, 66, 67, 68, 69, 70, 71, 72, 73, 74, 75, 76] (by decide +kernel) (by decide +kernel)
set_option maxRecDepth 20000 in
theorem gX7_mountTimeIn_X4_bringTime : GoodIn wsX7_mountTimeIn (wsV RX7 138 RX4 yX4_bringTime wsX4_bringTime) := goodIn_app (goodIn_of _ (by decide +kernel)) ggX7_mountTimeIn_X4_bringTime
theorem dX7_mountTimeIn_0 : decode cX7_mountTimeIn 0 = .ok (.aload_n 0, 1) := by decide +kernel
theorem dX7_mountTimeIn_1 : decode cX7_mountTimeIn 1 = .ok (.getfield 19, 3) := by decide +kernel
theorem dX7_mountTimeIn_4 : decode cX7_mountTimeIn 4 = .ok (.iload_n 1, 1) := by decide +kernel
theorem dX7_mountTimeIn_5 : decode cX7_mountTimeIn 5 = .ok (.invokevirtual 74, 3) := by decide +kernel
theorem dX7_mountTimeIn_8 : decode cX7_mountTimeIn 8 = .ok (.ifCond .eq 14, 3) := by decide +kernel
theorem dX7_mountTimeIn_11 : decode cX7_mountTimeIn 11 = .ok (.aload_n 0, 1) := by decide +kernel
theorem dX7_mountTimeIn_12 : decode cX7_mountTimeIn 12 = .ok (.getfield 19, 3) := by decide +kernel
theorem dX7_mountTimeIn_15 : decode cX7_mountTimeIn 15 = .ok (.iload_n 2, 1) := by decide +kernel
theorem dX7_mountTimeIn_16 : decode cX7_mountTimeIn 16 = .ok (.invokevirtual 101, 3) := by decide +kernel
theorem dX7_mountTimeIn_19 : decode cX7_mountTimeIn 19 = .ok (.ifCond .ne 6, 3) := by decide +kernel
theorem dX7_mountTimeIn_22 : decode cX7_mountTimeIn 22 = .ok (.ldc 87, 2) := by decide +kernel
theorem dX7_mountTimeIn_24 : decode cX7_mountTimeIn 24 = .ok (.ireturn, 1) := by decide +kernel
theorem dX7_mountTimeIn_25 : decode cX7_mountTimeIn 25 = .ok (.aload_n 0, 1) := by decide +kernel
theorem dX7_mountTimeIn_26 : decode cX7_mountTimeIn 26 = .ok (.getfield 19, 3) := by decide +kernel
theorem dX7_mountTimeIn_29 : decode cX7_mountTimeIn 29 = .ok (.iload_n 1, 1) := by decide +kernel
theorem dX7_mountTimeIn_30 : decode cX7_mountTimeIn 30 = .ok (.invokevirtual 95, 3) := by decide +kernel
theorem dX7_mountTimeIn_33 : decode cX7_mountTimeIn 33 = .ok (.istore_n 3, 1) := by decide +kernel
theorem dX7_mountTimeIn_34 : decode cX7_mountTimeIn 34 = .ok (.iload_n 3, 1) := by decide +kernel
theorem dX7_mountTimeIn_35 : decode cX7_mountTimeIn 35 = .ok (.iconst (-1), 1) := by decide +kernel
theorem dX7_mountTimeIn_36 : decode cX7_mountTimeIn 36 = .ok (.if_icmp .eq 13, 3) := by decide +kernel
theorem dX7_mountTimeIn_39 : decode cX7_mountTimeIn 39 = .ok (.iload_n 3, 1) := by decide +kernel
theorem dX7_mountTimeIn_40 : decode cX7_mountTimeIn 40 = .ok (.iload_n 2, 1) := by decide +kernel
theorem dX7_mountTimeIn_41 : decode cX7_mountTimeIn 41 = .ok (.if_icmp .eq 8, 3) := by decide +kernel
theorem dX7_mountTimeIn_44 : decode cX7_mountTimeIn 44 = .ok (.ldc 73, 2) := by decide +kernel
theorem dX7_mountTimeIn_46 : decode cX7_mountTimeIn 46 = .ok (.goto 12, 3) := by decide +kernel
theorem dX7_mountTimeIn_49 : decode cX7_mountTimeIn 49 = .ok (.aload_n 0, 1) := by decide +kernel
theorem dX7_mountTimeIn_50 : decode cX7_mountTimeIn 50 = .ok (.getfield 19, 3) := by decide +kernel
theorem dX7_mountTimeIn_53 : decode cX7_mountTimeIn 53 = .ok (.iload_n 1, 1) := by decide +kernel
theorem dX7_mountTimeIn_54 : decode cX7_mountTimeIn 54 = .ok (.iload_n 2, 1) := by decide +kernel
theorem dX7_mountTimeIn_55 : decode cX7_mountTimeIn 55 = .ok (.invokevirtual 138, 3) := by decide +kernel
theorem dX7_mountTimeIn_58 : decode cX7_mountTimeIn 58 = .ok (.ireturn, 1) := by decide +kernel
set_option maxRecDepth 20000 in
theorem ggX7_freeSectors_X4_hasPlatter : GoodIn wsX7_freeSectors wsX4_hasPlatter := goodIn_r _ [8, 9, 26, 27, 28, 29, 30, 31, 32, 33, 34, 35, 36, 37, 38, 39, 40, 41, 42, 43] (by decide +kernel) (by decide +kernel)
set_option maxRecDepth 20000 in
theorem gX7_freeSectors_X4_hasPlatter : GoodIn wsX7_freeSectors (wsV RX7 74 RX4 yX4_hasPlatter wsX4_hasPlatter) := goodIn_app (goodIn_of _ (by decide +kernel)) ggX7_freeSectors_X4_hasPlatter
set_option maxRecDepth 20000 in
theorem ggX7_freeSectors_X3_unused : GoodIn wsX7_freeSectors wsX3_unused := goodIn_r _ [14, 15, 16, 44, 45, 46, 47, 48, 49, 50, 51, 52] (by decide +kernel) (by decide +kernel)
set_option maxRecDepth 20000 in
theorem gX7_freeSectors_X3_unused : GoodIn wsX7_freeSectors (wsV RX7 142 RX3 yX3_unused wsX3_unused) := goodIn_app (goodIn_of _ (by decide +kernel)) ggX7_freeSectors_X3_unused
theorem dX7_freeSectors_0 : decode cX7_freeSectors 0 = .ok (.aload_n 0, 1) := by decide +kernel
theorem dX7_freeSectors_1 : decode cX7_freeSectors 1 = .ok (.getfield 19, 3) := by decide +kernel
theorem dX7_freeSectors_4 : decode cX7_freeSectors 4 = .ok (.iload_n 1, 1) := by decide +kernel
theorem dX7_freeSectors_5 : decode cX7_freeSectors 5 = .ok (.invokevirtual 74, 3) := by decide +kernel
theorem dX7_freeSectors_8 : decode cX7_freeSectors 8 = .ok (.ifCond .eq 18, 3) := by decide +kernel
theorem dX7_freeSectors_11 : decode cX7_freeSectors 11 = .ok (.aload_n 0, 1) := by decide +kernel
theorem dX7_freeSectors_12 : decode cX7_freeSectors 12 = .ok (.getfield 19, 3) := by decide +kernel
theorem dX7_freeSectors_15 : decode cX7_freeSectors 15 = .ok (.getfield 78, 3) := by decide +kernel
theorem dX7_freeSectors_18 : decode cX7_freeSectors 18 = .ok (.iload_n 1, 1) := by decide +kernel
theorem dX7_freeSectors_19 : decode cX7_freeSectors 19 = .ok (.aaload, 1) := by decide +kernel
theorem dX7_freeSectors_20 : decode cX7_freeSectors 20 = .ok (.invokevirtual 142, 3) := by decide +kernel
theorem dX7_freeSectors_23 : decode cX7_freeSectors 23 = .ok (.goto 5, 3) := by decide +kernel
theorem dX7_freeSectors_26 : decode cX7_freeSectors 26 = .ok (.ldc 87, 2) := by decide +kernel
theorem dX7_freeSectors_28 : decode cX7_freeSectors 28 = .ok (.ireturn, 1) := by decide +kernel
set_option maxRecDepth 20000 in
theorem ggX7_sessionCount_X4_hasPlatter : GoodIn wsX7_sessionCount wsX4_hasPlatter := goodIn_r _ [9, 10, 20, 21, 22, 23, 24, 25, 26, 27, 28, 29, 30, 31, 32, 33, 34, 35, 36, 37] (by decide +kernel) (by decide +kernel)
set_option maxRecDepth 20000 in
theorem gX7_sessionCount_X4_hasPlatter : GoodIn wsX7_sessionCount (wsV RX7 74 RX4 yX4_hasPlatter wsX4_hasPlatter) := goodIn_app (goodIn_of _ (by decide +kernel)) ggX7_sessionCount_X4_hasPlatter
theorem dX7_sessionCount_0 : decode cX7_sessionCount 0 = .ok (.aload_n 0, 1) := by decide +kernel
theorem dX7_sessionCount_1 : decode cX7_sessionCount 1 = .ok (.getfield 19, 3) := by decide +kernel
theorem dX7_sessionCount_4 : decode cX7_sessionCount 4 = .ok (.iload_n 1, 1) := by decide +kernel
theorem dX7_sessionCount_5 : decode cX7_sessionCount 5 = .ok (.invokevirtual 74, 3) := by decide +kernel
theorem dX7_sessionCount_8 : decode cX7_sessionCount 8 = .ok (.ifCond .eq 18, 3) := by decide +kernel
theorem dX7_sessionCount_11 : decode cX7_sessionCount 11 = .ok (.aload_n 0, 1) := by decide +kernel
theorem dX7_sessionCount_12 : decode cX7_sessionCount 12 = .ok (.getfield 19, 3) := by decide +kernel
theorem dX7_sessionCount_15 : decode cX7_sessionCount 15 = .ok (.getfield 78, 3) := by decide +kernel
theorem dX7_sessionCount_18 : decode cX7_sessionCount 18 = .ok (.iload_n 1, 1) := by decide +kernel
theorem dX7_sessionCount_19 : decode cX7_sessionCount 19 = .ok (.aaload, 1) := by decide +kernel
theorem dX7_sessionCount_20 : decode cX7_sessionCount 20 = .ok (.getfield 146, 3) := by decide +kernel
theorem dX7_sessionCount_23 : decode cX7_sessionCount 23 = .ok (.goto 5, 3) := by decide +kernel
theorem dX7_sessionCount_26 : decode cX7_sessionCount 26 = .ok (.ldc 87, 2) := by decide +kernel
theorem dX7_sessionCount_28 : decode cX7_sessionCount 28 = .ok (.ireturn, 1) := by decide +kernel
set_option maxRecDepth 20000 in
theorem ggX7_hasOpenSession_X4_hasPlatter : GoodIn wsX7_hasOpenSession wsX4_hasPlatter := goodIn_r _ [9, 10, 20, 21, 22, 23, 24, 25, 26, 27, 28, 29, 30, 31, 32, 33, 34, 35, 36, 37] (by decide +kernel) (by decide +kernel)
set_option maxRecDepth 20000 in
theorem gX7_hasOpenSession_X4_hasPlatter : GoodIn wsX7_hasOpenSession (wsV RX7 74 RX4 yX4_hasPlatter wsX4_hasPlatter) := goodIn_app (goodIn_of _ (by decide +kernel)) ggX7_hasOpenSession_X4_hasPlatter
theorem dX7_hasOpenSession_0 : decode cX7_hasOpenSession 0 = .ok (.aload_n 0, 1) := by decide +kernel
theorem dX7_hasOpenSession_1 : decode cX7_hasOpenSession 1 = .ok (.getfield 19, 3) := by decide +kernel
theorem dX7_hasOpenSession_4 : decode cX7_hasOpenSession 4 = .ok (.iload_n 1, 1) := by decide +kernel
theorem dX7_hasOpenSession_5 : decode cX7_hasOpenSession 5 = .ok (.invokevirtual 74, 3) := by decide +kernel
theorem dX7_hasOpenSession_8 : decode cX7_hasOpenSession 8 = .ok (.ifCond .ne 6, 3) := by decide +kernel
theorem dX7_hasOpenSession_11 : decode cX7_hasOpenSession 11 = .ok (.ldc 87, 2) := by decide +kernel
theorem dX7_hasOpenSession_13 : decode cX7_hasOpenSession 13 = .ok (.ireturn, 1) := by decide +kernel
theorem dX7_hasOpenSession_14 : decode cX7_hasOpenSession 14 = .ok (.aload_n 0, 1) := by decide +kernel
theorem dX7_hasOpenSession_15 : decode cX7_hasOpenSession 15 = .ok (.getfield 19, 3) := by decide +kernel
theorem dX7_hasOpenSession_18 : decode cX7_hasOpenSession 18 = .ok (.getfield 78, 3) := by decide +kernel
theorem dX7_hasOpenSession_21 : decode cX7_hasOpenSession 21 = .ok (.iload_n 1, 1) := by decide +kernel
theorem dX7_hasOpenSession_22 : decode cX7_hasOpenSession 22 = .ok (.aaload, 1) := by decide +kernel
theorem dX7_hasOpenSession_23 : decode cX7_hasOpenSession 23 = .ok (.getfield 149, 3) := by decide +kernel
theorem dX7_hasOpenSession_26 : decode cX7_hasOpenSession 26 = .ok (.ifCond .eq 7, 3) := by decide +kernel
theorem dX7_hasOpenSession_29 : decode cX7_hasOpenSession 29 = .ok (.iconst 1, 1) := by decide +kernel
theorem dX7_hasOpenSession_30 : decode cX7_hasOpenSession 30 = .ok (.goto 4, 3) := by decide +kernel
theorem dX7_hasOpenSession_33 : decode cX7_hasOpenSession 33 = .ok (.iconst 0, 1) := by decide +kernel
theorem dX7_hasOpenSession_34 : decode cX7_hasOpenSession 34 = .ok (.ireturn, 1) := by decide +kernel
set_option maxRecDepth 20000 in
theorem ggX7_sessionStart_X4_hasSession : GoodIn wsX7_sessionStart wsX4_hasSession := goodIn_r _ [9, 10, 11, 12, 13, 14, 8, 15, 16, 26, 27, 28, 29, 30, 31, 32, 33, 34, 35, 36, 37, 38, 39, 40, 41, 42, 43, 44, 45, 46, 47, 48, 49, 50, 51, 52] (by decide +kernel) (by decide +kernel)
set_option maxRecDepth 20000 in
theorem gX7_sessionStart_X4_hasSession : GoodIn wsX7_sessionStart (wsV RX7 153 RX4 yX4_hasSession wsX4_hasSession) := goodIn_app (goodIn_of _ (by decide +kernel)) ggX7_sessionStart_X4_hasSession
theorem dX7_sessionStart_0 : decode cX7_sessionStart 0 = .ok (.aload_n 0, 1) := by decide +kernel
theorem dX7_sessionStart_1 : decode cX7_sessionStart 1 = .ok (.getfield 19, 3) := by decide +kernel
theorem dX7_sessionStart_4 : decode cX7_sessionStart 4 = .ok (.iload_n 1, 1) := by decide +kernel
theorem dX7_sessionStart_5 : decode cX7_sessionStart 5 = .ok (.iload_n 2, 1) := by decide +kernel
theorem dX7_sessionStart_6 : decode cX7_sessionStart 6 = .ok (.invokevirtual 153, 3) := by decide +kernel
theorem dX7_sessionStart_9 : decode cX7_sessionStart 9 = .ok (.ifCond .ne 6, 3) := by decide +kernel
theorem dX7_sessionStart_12 : decode cX7_sessionStart 12 = .ok (.ldc 87, 2) := by decide +kernel
theorem dX7_sessionStart_14 : decode cX7_sessionStart 14 = .ok (.ireturn, 1) := by decide +kernel
theorem dX7_sessionStart_15 : decode cX7_sessionStart 15 = .ok (.aload_n 0, 1) := by decide +kernel
theorem dX7_sessionStart_16 : decode cX7_sessionStart 16 = .ok (.getfield 19, 3) := by decide +kernel
theorem dX7_sessionStart_19 : decode cX7_sessionStart 19 = .ok (.getfield 78, 3) := by decide +kernel
theorem dX7_sessionStart_22 : decode cX7_sessionStart 22 = .ok (.iload_n 1, 1) := by decide +kernel
theorem dX7_sessionStart_23 : decode cX7_sessionStart 23 = .ok (.aaload, 1) := by decide +kernel
theorem dX7_sessionStart_24 : decode cX7_sessionStart 24 = .ok (.getfield 157, 3) := by decide +kernel
theorem dX7_sessionStart_27 : decode cX7_sessionStart 27 = .ok (.iload_n 2, 1) := by decide +kernel
theorem dX7_sessionStart_28 : decode cX7_sessionStart 28 = .ok (.iaload, 1) := by decide +kernel
theorem dX7_sessionStart_29 : decode cX7_sessionStart 29 = .ok (.ireturn, 1) := by decide +kernel
set_option maxRecDepth 20000 in
theorem ggX7_sessionSize_X4_hasSession : GoodIn wsX7_sessionSize wsX4_hasSession := goodIn_r _ [9, 10, 11, 12, 13, 14, 8, 15, 16, 26, 27, 28, 29, 30, 31, 32, 33, 34, 35, 36, 37, 38, 39, 40, 41, 42, 43, 44, 45, 46, 47, 48, 49, 50, 51, 52] (by decide +kernel) (by decide +kernel)
set_option maxRecDepth 20000 in
theorem gX7_sessionSize_X4_hasSession : GoodIn wsX7_sessionSize (wsV RX7 153 RX4 yX4_hasSession wsX4_hasSession) := goodIn_app (goodIn_of _ (by decide +kernel)) ggX7_sessionSize_X4_hasSession
theorem dX7_sessionSize_0 : decode cX7_sessionSize 0 = .ok (.aload_n 0, 1) := by decide +kernel
theorem dX7_sessionSize_1 : decode cX7_sessionSize 1 = .ok (.getfield 19, 3) := by decide +kernel
theorem dX7_sessionSize_4 : decode cX7_sessionSize 4 = .ok (.iload_n 1, 1) := by decide +kernel
theorem dX7_sessionSize_5 : decode cX7_sessionSize 5 = .ok (.iload_n 2, 1) := by decide +kernel
theorem dX7_sessionSize_6 : decode cX7_sessionSize 6 = .ok (.invokevirtual 153, 3) := by decide +kernel
theorem dX7_sessionSize_9 : decode cX7_sessionSize 9 = .ok (.ifCond .ne 6, 3) := by decide +kernel
theorem dX7_sessionSize_12 : decode cX7_sessionSize 12 = .ok (.ldc 87, 2) := by decide +kernel
theorem dX7_sessionSize_14 : decode cX7_sessionSize 14 = .ok (.ireturn, 1) := by decide +kernel
theorem dX7_sessionSize_15 : decode cX7_sessionSize 15 = .ok (.aload_n 0, 1) := by decide +kernel
theorem dX7_sessionSize_16 : decode cX7_sessionSize 16 = .ok (.getfield 19, 3) := by decide +kernel
theorem dX7_sessionSize_19 : decode cX7_sessionSize 19 = .ok (.getfield 78, 3) := by decide +kernel
theorem dX7_sessionSize_22 : decode cX7_sessionSize 22 = .ok (.iload_n 1, 1) := by decide +kernel
theorem dX7_sessionSize_23 : decode cX7_sessionSize 23 = .ok (.aaload, 1) := by decide +kernel
theorem dX7_sessionSize_24 : decode cX7_sessionSize 24 = .ok (.getfield 161, 3) := by decide +kernel
theorem dX7_sessionSize_27 : decode cX7_sessionSize 27 = .ok (.iload_n 2, 1) := by decide +kernel
theorem dX7_sessionSize_28 : decode cX7_sessionSize 28 = .ok (.iaload, 1) := by decide +kernel
theorem dX7_sessionSize_29 : decode cX7_sessionSize 29 = .ok (.ireturn, 1) := by decide +kernel
set_option maxRecDepth 20000 in
theorem ggX7_sparesLeft_X4_hasPlatter : GoodIn wsX7_sparesLeft wsX4_hasPlatter := goodIn_r _ [9, 10, 20, 21, 22, 23, 24, 25, 26, 27, 28, 29, 30, 31, 32, 33, 34, 35, 36, 37] (by decide +kernel) (by decide +kernel)
set_option maxRecDepth 20000 in
theorem gX7_sparesLeft_X4_hasPlatter : GoodIn wsX7_sparesLeft (wsV RX7 74 RX4 yX4_hasPlatter wsX4_hasPlatter) := goodIn_app (goodIn_of _ (by decide +kernel)) ggX7_sparesLeft_X4_hasPlatter
theorem dX7_sparesLeft_0 : decode cX7_sparesLeft 0 = .ok (.aload_n 0, 1) := by decide +kernel
theorem dX7_sparesLeft_1 : decode cX7_sparesLeft 1 = .ok (.getfield 19, 3) := by decide +kernel
theorem dX7_sparesLeft_4 : decode cX7_sparesLeft 4 = .ok (.iload_n 1, 1) := by decide +kernel
theorem dX7_sparesLeft_5 : decode cX7_sparesLeft 5 = .ok (.invokevirtual 74, 3) := by decide +kernel
theorem dX7_sparesLeft_8 : decode cX7_sparesLeft 8 = .ok (.ifCond .eq 18, 3) := by decide +kernel
theorem dX7_sparesLeft_11 : decode cX7_sparesLeft 11 = .ok (.aload_n 0, 1) := by decide +kernel
theorem dX7_sparesLeft_12 : decode cX7_sparesLeft 12 = .ok (.getfield 19, 3) := by decide +kernel
theorem dX7_sparesLeft_15 : decode cX7_sparesLeft 15 = .ok (.getfield 78, 3) := by decide +kernel
theorem dX7_sparesLeft_18 : decode cX7_sparesLeft 18 = .ok (.iload_n 1, 1) := by decide +kernel
theorem dX7_sparesLeft_19 : decode cX7_sparesLeft 19 = .ok (.aaload, 1) := by decide +kernel
theorem dX7_sparesLeft_20 : decode cX7_sparesLeft 20 = .ok (.getfield 164, 3) := by decide +kernel
theorem dX7_sparesLeft_23 : decode cX7_sparesLeft 23 = .ok (.goto 5, 3) := by decide +kernel
theorem dX7_sparesLeft_26 : decode cX7_sparesLeft 26 = .ok (.ldc 87, 2) := by decide +kernel
theorem dX7_sparesLeft_28 : decode cX7_sparesLeft 28 = .ok (.ireturn, 1) := by decide +kernel
set_option maxRecDepth 20000 in
theorem ggX7_staleSectors_X4_hasPlatter : GoodIn wsX7_staleSectors wsX4_hasPlatter := goodIn_r _ [7, 8, 32, 33, 34, 35, 36, 37, 38, 39, 40, 41, 42, 43, 44, 45, 46, 47, 48, 49] (by decide +kernel) (by decide +kernel)
set_option maxRecDepth 20000 in
theorem gX7_staleSectors_X4_hasPlatter : GoodIn wsX7_staleSectors (wsV RX7 74 RX4 yX4_hasPlatter wsX4_hasPlatter) := goodIn_app (goodIn_of _ (by decide +kernel)) ggX7_staleSectors_X4_hasPlatter
set_option maxRecDepth 20000 in
theorem ggX7_staleSectors_X4_countStale : GoodIn wsX7_staleSectors wsX4_countStale := goodIn_r _ [12, 13, 14, 15, 16, 17, 18, 19, 6, 20, 21, 22, 32, 33, 34, 35, 36, 37, 38, 39, 40, 41, 42, 43, 44, 45, 46, 47, 48, 49, 50, 51, 52, 53, 54, 55, 56] (by decide +kernel) (by decide +kernel)
set_option maxRecDepth 20000 in
theorem gX7_staleSectors_X4_countStale : GoodIn wsX7_staleSectors (wsV RX7 167 RX4 yX4_countStale wsX4_countStale) := goodIn_app (goodIn_of _ (by decide +kernel)) ggX7_staleSectors_X4_countStale
theorem dX7_staleSectors_0 : decode cX7_staleSectors 0 = .ok (.aload_n 0, 1) := by decide +kernel
theorem dX7_staleSectors_1 : decode cX7_staleSectors 1 = .ok (.getfield 19, 3) := by decide +kernel
theorem dX7_staleSectors_4 : decode cX7_staleSectors 4 = .ok (.iload_n 1, 1) := by decide +kernel
theorem dX7_staleSectors_5 : decode cX7_staleSectors 5 = .ok (.invokevirtual 74, 3) := by decide +kernel
theorem dX7_staleSectors_8 : decode cX7_staleSectors 8 = .ok (.ifCond .eq 14, 3) := by decide +kernel
theorem dX7_staleSectors_11 : decode cX7_staleSectors 11 = .ok (.aload_n 0, 1) := by decide +kernel
theorem dX7_staleSectors_12 : decode cX7_staleSectors 12 = .ok (.getfield 19, 3) := by decide +kernel
theorem dX7_staleSectors_15 : decode cX7_staleSectors 15 = .ok (.iload_n 1, 1) := by decide +kernel
theorem dX7_staleSectors_16 : decode cX7_staleSectors 16 = .ok (.invokevirtual 167, 3) := by decide +kernel
theorem dX7_staleSectors_19 : decode cX7_staleSectors 19 = .ok (.goto 5, 3) := by decide +kernel
theorem dX7_staleSectors_22 : decode cX7_staleSectors 22 = .ok (.ldc 87, 2) := by decide +kernel
theorem dX7_staleSectors_24 : decode cX7_staleSectors 24 = .ok (.ireturn, 1) := by decide +kernel
set_option maxRecDepth 20000 in
theorem ggX7_sectorKind_X4_hasSector : GoodIn wsX7_sectorKind wsX4_hasSector := goodIn_r _ [7, 8, 9, 10, 11, 12, 6, 13, 14, 55, 56, 57, 58, 59, 60, 61, 62, 63, 64, 65, 66, 67, 68, 69, 70, 71, 72, 73, 74, 75, 76, 77, 78, 79, 80, 81] (by decide +kernel) (by decide +kernel)
set_option maxRecDepth 20000 in
theorem gX7_sectorKind_X4_hasSector : GoodIn wsX7_sectorKind (wsV RX7 170 RX4 yX4_hasSector wsX4_hasSector) := goodIn_app (goodIn_of _ (by decide +kernel)) ggX7_sectorKind_X4_hasSector
set_option maxRecDepth 20000 in
theorem ggX7_sectorKind_X4_kindOfSector : GoodIn wsX7_sectorKind wsX4_kindOfSector := goodIn_r _ [18, 8, 19, 20, 21, 22, 6, 23, 24, 25, 26, 27, 28, 29, 30, 31, 32, 33, 34, 35, 36, 37, 38, 39, 40, 41, 42, 43, 44, 45, 55, 56, 57, 58, 59, 60, 61, 62, 63, 64, 65, 66, 67, 68, 69, 70, 71, 72, 73, 74, 75, 76, 77, 78, 79, 80, 81, 82, 83, 84, 85, 86, 87, 88] (by decide +kernel) (by decide +kernel)
set_option maxRecDepth 20000 in
theorem gX7_sectorKind_X4_kindOfSector : GoodIn wsX7_sectorKind (wsV RX7 173 RX4 yX4_kindOfSector wsX4_kindOfSector) := goodIn_app (goodIn_of _ (by decide +kernel)) ggX7_sectorKind_X4_kindOfSector
theorem dX7_sectorKind_0 : decode cX7_sectorKind 0 = .ok (.aload_n 0, 1) := by decide +kernel
theorem dX7_sectorKind_1 : decode cX7_sectorKind 1 = .ok (.getfield 19, 3) := by decide +kernel
theorem dX7_sectorKind_4 : decode cX7_sectorKind 4 = .ok (.iload_n 1, 1) := by decide +kernel
theorem dX7_sectorKind_5 : decode cX7_sectorKind 5 = .ok (.iload_n 2, 1) := by decide +kernel
theorem dX7_sectorKind_6 : decode cX7_sectorKind 6 = .ok (.invokevirtual 170, 3) := by decide +kernel
theorem dX7_sectorKind_9 : decode cX7_sectorKind 9 = .ok (.ifCond .eq 15, 3) := by decide +kernel
theorem dX7_sectorKind_12 : decode cX7_sectorKind 12 = .ok (.aload_n 0, 1) := by decide +kernel
theorem dX7_sectorKind_13 : decode cX7_sectorKind 13 = .ok (.getfield 19, 3) := by decide +kernel
theorem dX7_sectorKind_16 : decode cX7_sectorKind 16 = .ok (.iload_n 1, 1) := by decide +kernel
theorem dX7_sectorKind_17 : decode cX7_sectorKind 17 = .ok (.iload_n 2, 1) := by decide +kernel
theorem dX7_sectorKind_18 : decode cX7_sectorKind 18 = .ok (.invokevirtual 173, 3) := by decide +kernel
theorem dX7_sectorKind_21 : decode cX7_sectorKind 21 = .ok (.goto 5, 3) := by decide +kernel
theorem dX7_sectorKind_24 : decode cX7_sectorKind 24 = .ok (.ldc 87, 2) := by decide +kernel
theorem dX7_sectorKind_26 : decode cX7_sectorKind 26 = .ok (.ireturn, 1) := by decide +kernel
theorem dX7_bitsOfShare_0 : decode cX7_bitsOfShare 0 = .ok (.iload_n 0, 1) := by decide +kernel
theorem dX7_bitsOfShare_1 : decode cX7_bitsOfShare 1 = .ok (.ifCond .le 7, 3) := by decide +kernel
theorem dX7_bitsOfShare_4 : decode cX7_bitsOfShare 4 = .ok (.iload_n 1, 1) := by decide +kernel
theorem dX7_bitsOfShare_5 : decode cX7_bitsOfShare 5 = .ok (.ifCond .gt 5, 3) := by decide +kernel
theorem dX7_bitsOfShare_8 : decode cX7_bitsOfShare 8 = .ok (.iconst 0, 1) := by decide +kernel
theorem dX7_bitsOfShare_9 : decode cX7_bitsOfShare 9 = .ok (.ireturn, 1) := by decide +kernel
theorem dX7_bitsOfShare_10 : decode cX7_bitsOfShare 10 = .ok (.ldc2_w 185, 3) := by decide +kernel
theorem dX7_bitsOfShare_13 : decode cX7_bitsOfShare 13 = .ok (.lstore_n 2, 1) := by decide +kernel
theorem dX7_bitsOfShare_14 : decode cX7_bitsOfShare 14 = .ok (.iconst 0, 1) := by decide +kernel
theorem dX7_bitsOfShare_15 : decode cX7_bitsOfShare 15 = .ok (.istore 4, 2) := by decide +kernel
theorem dX7_bitsOfShare_17 : decode cX7_bitsOfShare 17 = .ok (.iload 4, 2) := by decide +kernel
theorem dX7_bitsOfShare_19 : decode cX7_bitsOfShare 19 = .ok (.bipush 40, 2) := by decide +kernel
theorem dX7_bitsOfShare_21 : decode cX7_bitsOfShare 21 = .ok (.if_icmp .ge 22, 3) := by decide +kernel
theorem dX7_bitsOfShare_24 : decode cX7_bitsOfShare 24 = .ok (.iload_n 0, 1) := by decide +kernel
theorem dX7_bitsOfShare_25 : decode cX7_bitsOfShare 25 = .ok (.i2l, 1) := by decide +kernel
theorem dX7_bitsOfShare_26 : decode cX7_bitsOfShare 26 = .ok (.iload 4, 2) := by decide +kernel
theorem dX7_bitsOfShare_28 : decode cX7_bitsOfShare 28 = .ok (.lshl, 1) := by decide +kernel
theorem dX7_bitsOfShare_29 : decode cX7_bitsOfShare 29 = .ok (.iload_n 1, 1) := by decide +kernel
theorem dX7_bitsOfShare_30 : decode cX7_bitsOfShare 30 = .ok (.i2l, 1) := by decide +kernel
theorem dX7_bitsOfShare_31 : decode cX7_bitsOfShare 31 = .ok (.ldiv, 1) := by decide +kernel
theorem dX7_bitsOfShare_32 : decode cX7_bitsOfShare 32 = .ok (.lload_n 2, 1) := by decide +kernel
theorem dX7_bitsOfShare_33 : decode cX7_bitsOfShare 33 = .ok (.lcmp, 1) := by decide +kernel
theorem dX7_bitsOfShare_34 : decode cX7_bitsOfShare 34 = .ok (.ifCond .ge 9, 3) := by decide +kernel
theorem dX7_bitsOfShare_37 : decode cX7_bitsOfShare 37 = .ok (.iinc 4 1, 3) := by decide +kernel
theorem dX7_bitsOfShare_40 : decode cX7_bitsOfShare 40 = .ok (.goto (-23), 3) := by decide +kernel
theorem dX7_bitsOfShare_43 : decode cX7_bitsOfShare 43 = .ok (.iload_n 0, 1) := by decide +kernel
theorem dX7_bitsOfShare_44 : decode cX7_bitsOfShare 44 = .ok (.i2l, 1) := by decide +kernel
theorem dX7_bitsOfShare_45 : decode cX7_bitsOfShare 45 = .ok (.iload 4, 2) := by decide +kernel
theorem dX7_bitsOfShare_47 : decode cX7_bitsOfShare 47 = .ok (.lshl, 1) := by decide +kernel
theorem dX7_bitsOfShare_48 : decode cX7_bitsOfShare 48 = .ok (.lstore 5, 2) := by decide +kernel
theorem dX7_bitsOfShare_50 : decode cX7_bitsOfShare 50 = .ok (.lload 5, 2) := by decide +kernel
theorem dX7_bitsOfShare_52 : decode cX7_bitsOfShare 52 = .ok (.iload_n 1, 1) := by decide +kernel
theorem dX7_bitsOfShare_53 : decode cX7_bitsOfShare 53 = .ok (.i2l, 1) := by decide +kernel
theorem dX7_bitsOfShare_54 : decode cX7_bitsOfShare 54 = .ok (.ldiv, 1) := by decide +kernel
theorem dX7_bitsOfShare_55 : decode cX7_bitsOfShare 55 = .ok (.lstore 7, 2) := by decide +kernel
theorem dX7_bitsOfShare_57 : decode cX7_bitsOfShare 57 = .ok (.ldc2_w 187, 3) := by decide +kernel
theorem dX7_bitsOfShare_60 : decode cX7_bitsOfShare 60 = .ok (.lload 5, 2) := by decide +kernel
theorem dX7_bitsOfShare_62 : decode cX7_bitsOfShare 62 = .ok (.iload_n 1, 1) := by decide +kernel
theorem dX7_bitsOfShare_63 : decode cX7_bitsOfShare 63 = .ok (.i2l, 1) := by decide +kernel
theorem dX7_bitsOfShare_64 : decode cX7_bitsOfShare 64 = .ok (.lrem, 1) := by decide +kernel
theorem dX7_bitsOfShare_65 : decode cX7_bitsOfShare 65 = .ok (.lmul, 1) := by decide +kernel
theorem dX7_bitsOfShare_66 : decode cX7_bitsOfShare 66 = .ok (.iload_n 1, 1) := by decide +kernel
theorem dX7_bitsOfShare_67 : decode cX7_bitsOfShare 67 = .ok (.i2l, 1) := by decide +kernel
theorem dX7_bitsOfShare_68 : decode cX7_bitsOfShare 68 = .ok (.lcmp, 1) := by decide +kernel
theorem dX7_bitsOfShare_69 : decode cX7_bitsOfShare 69 = .ok (.ifCond .lt 9, 3) := by decide +kernel
theorem dX7_bitsOfShare_72 : decode cX7_bitsOfShare 72 = .ok (.lload 7, 2) := by decide +kernel
theorem dX7_bitsOfShare_74 : decode cX7_bitsOfShare 74 = .ok (.lconst 1, 1) := by decide +kernel
theorem dX7_bitsOfShare_75 : decode cX7_bitsOfShare 75 = .ok (.ladd, 1) := by decide +kernel
theorem dX7_bitsOfShare_76 : decode cX7_bitsOfShare 76 = .ok (.lstore 7, 2) := by decide +kernel
theorem dX7_bitsOfShare_78 : decode cX7_bitsOfShare 78 = .ok (.sipush 150, 3) := by decide +kernel
theorem dX7_bitsOfShare_81 : decode cX7_bitsOfShare 81 = .ok (.iload 4, 2) := by decide +kernel
theorem dX7_bitsOfShare_83 : decode cX7_bitsOfShare 83 = .ok (.isub, 1) := by decide +kernel
theorem dX7_bitsOfShare_84 : decode cX7_bitsOfShare 84 = .ok (.istore 9, 2) := by decide +kernel
theorem dX7_bitsOfShare_86 : decode cX7_bitsOfShare 86 = .ok (.iload 9, 2) := by decide +kernel
theorem dX7_bitsOfShare_88 : decode cX7_bitsOfShare 88 = .ok (.bipush 23, 2) := by decide +kernel
theorem dX7_bitsOfShare_90 : decode cX7_bitsOfShare 90 = .ok (.ishl, 1) := by decide +kernel
theorem dX7_bitsOfShare_91 : decode cX7_bitsOfShare 91 = .ok (.lload 7, 2) := by decide +kernel
theorem dX7_bitsOfShare_93 : decode cX7_bitsOfShare 93 = .ok (.lload_n 2, 1) := by decide +kernel
theorem dX7_bitsOfShare_94 : decode cX7_bitsOfShare 94 = .ok (.lsub, 1) := by decide +kernel
theorem dX7_bitsOfShare_95 : decode cX7_bitsOfShare 95 = .ok (.l2i, 1) := by decide +kernel
theorem dX7_bitsOfShare_96 : decode cX7_bitsOfShare 96 = .ok (.iadd, 1) := by decide +kernel
theorem dX7_bitsOfShare_97 : decode cX7_bitsOfShare 97 = .ok (.ireturn, 1) := by decide +kernel
set_option maxRecDepth 20000 in
theorem ggX7_fillBits_X4_hasPlatter : GoodIn wsX7_fillBits wsX4_hasPlatter := goodIn_r _ [10, 11, 27, 28, 29, 30, 31, 32, 33, 34, 35, 36, 37, 38, 39, 40, 41, 42, 43, 44] (by decide +kernel) (by decide +kernel)
set_option maxRecDepth 20000 in
theorem gX7_fillBits_X4_hasPlatter : GoodIn wsX7_fillBits (wsV RX7 74 RX4 yX4_hasPlatter wsX4_hasPlatter) := goodIn_app (goodIn_of _ (by decide +kernel)) ggX7_fillBits_X4_hasPlatter
set_option maxRecDepth 20000 in
theorem ggX7_fillBits_X7_bitsOfShare : GoodIn wsX7_fillBits wsX7_bitsOfShare := goodIn_r _ [15, 16, 17] (by decide +kernel) (by decide +kernel)
set_option maxRecDepth 20000 in
theorem gX7_fillBits_X7_bitsOfShare : GoodIn wsX7_fillBits (va_wsS RX7 182 yX7_bitsOfShare wsX7_bitsOfShare) := goodIn_app (goodIn_of _ (by decide +kernel)) ggX7_fillBits_X7_bitsOfShare
theorem dX7_fillBits_0 : decode cX7_fillBits 0 = .ok (.aload_n 0, 1) := by decide +kernel
theorem dX7_fillBits_1 : decode cX7_fillBits 1 = .ok (.getfield 19, 3) := by decide +kernel
theorem dX7_fillBits_4 : decode cX7_fillBits 4 = .ok (.iload_n 1, 1) := by decide +kernel
theorem dX7_fillBits_5 : decode cX7_fillBits 5 = .ok (.invokevirtual 74, 3) := by decide +kernel
theorem dX7_fillBits_8 : decode cX7_fillBits 8 = .ok (.ifCond .ne 6, 3) := by decide +kernel
theorem dX7_fillBits_11 : decode cX7_fillBits 11 = .ok (.ldc 87, 2) := by decide +kernel
theorem dX7_fillBits_13 : decode cX7_fillBits 13 = .ok (.ireturn, 1) := by decide +kernel
theorem dX7_fillBits_14 : decode cX7_fillBits 14 = .ok (.aload_n 0, 1) := by decide +kernel
theorem dX7_fillBits_15 : decode cX7_fillBits 15 = .ok (.getfield 19, 3) := by decide +kernel
theorem dX7_fillBits_18 : decode cX7_fillBits 18 = .ok (.getfield 78, 3) := by decide +kernel
theorem dX7_fillBits_21 : decode cX7_fillBits 21 = .ok (.iload_n 1, 1) := by decide +kernel
theorem dX7_fillBits_22 : decode cX7_fillBits 22 = .ok (.aaload, 1) := by decide +kernel
theorem dX7_fillBits_23 : decode cX7_fillBits 23 = .ok (.astore_n 2, 1) := by decide +kernel
theorem dX7_fillBits_24 : decode cX7_fillBits 24 = .ok (.aload_n 2, 1) := by decide +kernel
theorem dX7_fillBits_25 : decode cX7_fillBits 25 = .ok (.getfield 176, 3) := by decide +kernel
theorem dX7_fillBits_28 : decode cX7_fillBits 28 = .ok (.aload_n 2, 1) := by decide +kernel
theorem dX7_fillBits_29 : decode cX7_fillBits 29 = .ok (.getfield 179, 3) := by decide +kernel
theorem dX7_fillBits_32 : decode cX7_fillBits 32 = .ok (.invokestatic 182, 3) := by decide +kernel
theorem dX7_fillBits_35 : decode cX7_fillBits 35 = .ok (.ireturn, 1) := by decide +kernel
set_option maxRecDepth 20000 in
theorem ggX7_cleanRun_X4_hasPlatter : GoodIn wsX7_cleanRun wsX4_hasPlatter := goodIn_r _ [8, 9, 35, 36, 37, 38, 39, 40, 41, 42, 43, 44, 45, 46, 47, 48, 49, 50, 51, 52] (by decide +kernel) (by decide +kernel)
set_option maxRecDepth 20000 in
theorem gX7_cleanRun_X4_hasPlatter : GoodIn wsX7_cleanRun (wsV RX7 74 RX4 yX4_hasPlatter wsX4_hasPlatter) := goodIn_app (goodIn_of _ (by decide +kernel)) ggX7_cleanRun_X4_hasPlatter
set_option maxRecDepth 20000 in
theorem ggX7_cleanRun_X3_longestCleanRun : GoodIn wsX7_cleanRun wsX3_longestCleanRun := goodIn_r _ [14, 15, 16, 17, 18, 19, 20, 21, 22, 23, 13, 24, 25, 53, 54, 55, 56, 57, 58, 59, 60, 61] (by decide +kernel) (by decide +kernel)
set_option maxRecDepth 20000 in
theorem gX7_cleanRun_X3_longestCleanRun : GoodIn wsX7_cleanRun (wsV RX7 189 RX3 yX3_longestCleanRun wsX3_longestCleanRun) := goodIn_app (goodIn_of _ (by decide +kernel)) ggX7_cleanRun_X3_longestCleanRun
theorem dX7_cleanRun_0 : decode cX7_cleanRun 0 = .ok (.aload_n 0, 1) := by decide +kernel
theorem dX7_cleanRun_1 : decode cX7_cleanRun 1 = .ok (.getfield 19, 3) := by decide +kernel
theorem dX7_cleanRun_4 : decode cX7_cleanRun 4 = .ok (.iload_n 1, 1) := by decide +kernel
theorem dX7_cleanRun_5 : decode cX7_cleanRun 5 = .ok (.invokevirtual 74, 3) := by decide +kernel
theorem dX7_cleanRun_8 : decode cX7_cleanRun 8 = .ok (.ifCond .eq 18, 3) := by decide +kernel
theorem dX7_cleanRun_11 : decode cX7_cleanRun 11 = .ok (.aload_n 0, 1) := by decide +kernel
theorem dX7_cleanRun_12 : decode cX7_cleanRun 12 = .ok (.getfield 19, 3) := by decide +kernel
theorem dX7_cleanRun_15 : decode cX7_cleanRun 15 = .ok (.getfield 78, 3) := by decide +kernel
theorem dX7_cleanRun_18 : decode cX7_cleanRun 18 = .ok (.iload_n 1, 1) := by decide +kernel
theorem dX7_cleanRun_19 : decode cX7_cleanRun 19 = .ok (.aaload, 1) := by decide +kernel
theorem dX7_cleanRun_20 : decode cX7_cleanRun 20 = .ok (.invokevirtual 189, 3) := by decide +kernel
theorem dX7_cleanRun_23 : decode cX7_cleanRun 23 = .ok (.goto 5, 3) := by decide +kernel
theorem dX7_cleanRun_26 : decode cX7_cleanRun 26 = .ok (.ldc 87, 2) := by decide +kernel
theorem dX7_cleanRun_28 : decode cX7_cleanRun 28 = .ok (.ireturn, 1) := by decide +kernel
theorem dX7_isSize_0 : decode cX7_isSize 0 = .ok (.iload_n 0, 1) := by decide +kernel
theorem dX7_isSize_1 : decode cX7_isSize 1 = .ok (.iconst 1, 1) := by decide +kernel
theorem dX7_isSize_2 : decode cX7_isSize 2 = .ok (.if_icmp .lt 14, 3) := by decide +kernel
theorem dX7_isSize_5 : decode cX7_isSize 5 = .ok (.iload_n 0, 1) := by decide +kernel
theorem dX7_isSize_6 : decode cX7_isSize 6 = .ok (.sipush 300, 3) := by decide +kernel
theorem dX7_isSize_9 : decode cX7_isSize 9 = .ok (.if_icmp .gt 7, 3) := by decide +kernel
theorem dX7_isSize_12 : decode cX7_isSize 12 = .ok (.iconst 1, 1) := by decide +kernel
theorem dX7_isSize_13 : decode cX7_isSize 13 = .ok (.goto 4, 3) := by decide +kernel
theorem dX7_isSize_16 : decode cX7_isSize 16 = .ok (.iconst 0, 1) := by decide +kernel
theorem dX7_isSize_17 : decode cX7_isSize 17 = .ok (.ireturn, 1) := by decide +kernel
set_option maxRecDepth 20000 in
theorem ggX7_bestPlatter_X7_isSize : GoodIn wsX7_bestPlatter wsX7_isSize := goodIn_r _ [10] (by decide +kernel) (by decide +kernel)
set_option maxRecDepth 20000 in
theorem gX7_bestPlatter_X7_isSize : GoodIn wsX7_bestPlatter (va_wsS RX7 192 yX7_isSize wsX7_isSize) := goodIn_app (goodIn_of _ (by decide +kernel)) ggX7_bestPlatter_X7_isSize
set_option maxRecDepth 20000 in
theorem ggX7_bestPlatter_X3_canTake : GoodIn wsX7_bestPlatter wsX3_canTake := goodIn_r _ [15, 16, 17, 18, 19, 20, 21, 14, 22, 23, 24, 25, 26, 27, 28, 29, 30, 31, 32, 33, 105, 106, 107, 108, 109, 110, 111, 112, 113] (by decide +kernel) (by decide +kernel)
set_option maxRecDepth 20000 in
theorem gX7_bestPlatter_X3_canTake : GoodIn wsX7_bestPlatter (wsV RX7 198 RX3 yX3_canTake wsX3_canTake) := goodIn_app (goodIn_of _ (by decide +kernel)) ggX7_bestPlatter_X3_canTake
set_option maxRecDepth 20000 in
theorem ggX7_bestPlatter_X4_chosenBringTime : GoodIn wsX7_bestPlatter wsX4_chosenBringTime := goodIn_r _ [38, 39, 40, 41, 37, 42, 43, 44, 45, 46, 47, 48, 49, 50, 51, 52, 53, 54, 55, 56, 57, 58, 59, 60, 61, 62, 63, 64, 65, 66, 67, 68, 69, 70, 71, 72, 87, 88, 89, 90, 91, 92, 93, 94, 95, 96, 97, 98, 99, 100, 101, 102, 103, 104, 114, 115, 116, 105, 106, 107, 108, 109, 110, 111, 112, 113] (by decide +kernel) (by decide +kernel)
set_option maxRecDepth 20000 in
theorem gX7_bestPlatter_X4_chosenBringTime : GoodIn wsX7_bestPlatter (wsV RX7 131 RX4 yX4_chosenBringTime wsX4_chosenBringTime) := goodIn_app (goodIn_of _ (by decide +kernel)) ggX7_bestPlatter_X4_chosenBringTime
set_option maxRecDepth 20000 in
theorem ggX7_bestPlatter_X3_unused : GoodIn wsX7_bestPlatter wsX3_unused := goodIn_r _ [22, 23, 24, 105, 106, 107, 108, 109, 110, 111, 112, 113] (by decide +kernel) (by decide +kernel)
set_option maxRecDepth 20000 in
theorem gX7_bestPlatter_X3_unused : GoodIn wsX7_bestPlatter (wsV RX7 142 RX3 yX3_unused wsX3_unused) := goodIn_app (goodIn_of _ (by decide +kernel)) ggX7_bestPlatter_X3_unused
set_option maxRecDepth 20000 in
theorem ggX7_bestPlatter_X7_foundOrNot : GoodIn wsX7_bestPlatter wsX7_foundOrNot := goodIn_r _ [76, 77] (by decide +kernel) (by decide +kernel)
set_option maxRecDepth 20000 in
theorem gX7_bestPlatter_X7_foundOrNot : GoodIn wsX7_bestPlatter (va_wsS RX7 98 yX7_foundOrNot wsX7_foundOrNot) := goodIn_app (goodIn_of _ (by decide +kernel)) ggX7_bestPlatter_X7_foundOrNot
theorem dX7_bestPlatter_0 : decode cX7_bestPlatter 0 = .ok (.iload_n 1, 1) := by decide +kernel
theorem dX7_bestPlatter_1 : decode cX7_bestPlatter 1 = .ok (.invokestatic 192, 3) := by decide +kernel
theorem dX7_bestPlatter_4 : decode cX7_bestPlatter 4 = .ok (.ifCond .ne 6, 3) := by decide +kernel
theorem dX7_bestPlatter_7 : decode cX7_bestPlatter 7 = .ok (.ldc 46, 2) := by decide +kernel
theorem dX7_bestPlatter_9 : decode cX7_bestPlatter 9 = .ok (.ireturn, 1) := by decide +kernel
theorem dX7_bestPlatter_10 : decode cX7_bestPlatter 10 = .ok (.aload_n 0, 1) := by decide +kernel
theorem dX7_bestPlatter_11 : decode cX7_bestPlatter 11 = .ok (.getfield 19, 3) := by decide +kernel
theorem dX7_bestPlatter_14 : decode cX7_bestPlatter 14 = .ok (.getfield 134, 3) := by decide +kernel
theorem dX7_bestPlatter_17 : decode cX7_bestPlatter 17 = .ok (.ifCond .ne 6, 3) := by decide +kernel
theorem dX7_bestPlatter_20 : decode cX7_bestPlatter 20 = .ok (.ldc 137, 2) := by decide +kernel
theorem dX7_bestPlatter_22 : decode cX7_bestPlatter 22 = .ok (.ireturn, 1) := by decide +kernel
theorem dX7_bestPlatter_23 : decode cX7_bestPlatter 23 = .ok (.iconst (-1), 1) := by decide +kernel
theorem dX7_bestPlatter_24 : decode cX7_bestPlatter 24 = .ok (.istore_n 2, 1) := by decide +kernel
theorem dX7_bestPlatter_25 : decode cX7_bestPlatter 25 = .ok (.iconst 0, 1) := by decide +kernel
theorem dX7_bestPlatter_26 : decode cX7_bestPlatter 26 = .ok (.istore_n 3, 1) := by decide +kernel
theorem dX7_bestPlatter_27 : decode cX7_bestPlatter 27 = .ok (.iconst 0, 1) := by decide +kernel
theorem dX7_bestPlatter_28 : decode cX7_bestPlatter 28 = .ok (.istore 4, 2) := by decide +kernel
theorem dX7_bestPlatter_30 : decode cX7_bestPlatter 30 = .ok (.iconst 0, 1) := by decide +kernel
theorem dX7_bestPlatter_31 : decode cX7_bestPlatter 31 = .ok (.istore 5, 2) := by decide +kernel
theorem dX7_bestPlatter_33 : decode cX7_bestPlatter 33 = .ok (.iload 5, 2) := by decide +kernel
theorem dX7_bestPlatter_35 : decode cX7_bestPlatter 35 = .ok (.aload_n 0, 1) := by decide +kernel
theorem dX7_bestPlatter_36 : decode cX7_bestPlatter 36 = .ok (.getfield 19, 3) := by decide +kernel
theorem dX7_bestPlatter_39 : decode cX7_bestPlatter 39 = .ok (.getfield 195, 3) := by decide +kernel
theorem dX7_bestPlatter_42 : decode cX7_bestPlatter 42 = .ok (.if_icmp .ge 82, 3) := by decide +kernel
theorem dX7_bestPlatter_45 : decode cX7_bestPlatter 45 = .ok (.aload_n 0, 1) := by decide +kernel
theorem dX7_bestPlatter_46 : decode cX7_bestPlatter 46 = .ok (.getfield 19, 3) := by decide +kernel
theorem dX7_bestPlatter_49 : decode cX7_bestPlatter 49 = .ok (.getfield 78, 3) := by decide +kernel
theorem dX7_bestPlatter_52 : decode cX7_bestPlatter 52 = .ok (.iload 5, 2) := by decide +kernel
theorem dX7_bestPlatter_54 : decode cX7_bestPlatter 54 = .ok (.aaload, 1) := by decide +kernel
theorem dX7_bestPlatter_55 : decode cX7_bestPlatter 55 = .ok (.astore 6, 2) := by decide +kernel
theorem dX7_bestPlatter_57 : decode cX7_bestPlatter 57 = .ok (.aload 6, 2) := by decide +kernel
theorem dX7_bestPlatter_59 : decode cX7_bestPlatter 59 = .ok (.iload_n 1, 1) := by decide +kernel
theorem dX7_bestPlatter_60 : decode cX7_bestPlatter 60 = .ok (.invokevirtual 198, 3) := by decide +kernel
theorem dX7_bestPlatter_63 : decode cX7_bestPlatter 63 = .ok (.ifCond .eq 55, 3) := by decide +kernel
theorem dX7_bestPlatter_66 : decode cX7_bestPlatter 66 = .ok (.aload_n 0, 1) := by decide +kernel
theorem dX7_bestPlatter_67 : decode cX7_bestPlatter 67 = .ok (.getfield 19, 3) := by decide +kernel
theorem dX7_bestPlatter_70 : decode cX7_bestPlatter 70 = .ok (.iload 5, 2) := by decide +kernel
theorem dX7_bestPlatter_72 : decode cX7_bestPlatter 72 = .ok (.invokevirtual 131, 3) := by decide +kernel
theorem dX7_bestPlatter_75 : decode cX7_bestPlatter 75 = .ok (.istore 7, 2) := by decide +kernel
theorem dX7_bestPlatter_77 : decode cX7_bestPlatter 77 = .ok (.aload 6, 2) := by decide +kernel
theorem dX7_bestPlatter_79 : decode cX7_bestPlatter 79 = .ok (.invokevirtual 142, 3) := by decide +kernel
theorem dX7_bestPlatter_82 : decode cX7_bestPlatter 82 = .ok (.istore 8, 2) := by decide +kernel
theorem dX7_bestPlatter_84 : decode cX7_bestPlatter 84 = .ok (.iload_n 2, 1) := by decide +kernel
theorem dX7_bestPlatter_85 : decode cX7_bestPlatter 85 = .ok (.iconst (-1), 1) := by decide +kernel
theorem dX7_bestPlatter_86 : decode cX7_bestPlatter 86 = .ok (.if_icmp .eq 22, 3) := by decide +kernel
theorem dX7_bestPlatter_89 : decode cX7_bestPlatter 89 = .ok (.iload 7, 2) := by decide +kernel
theorem dX7_bestPlatter_91 : decode cX7_bestPlatter 91 = .ok (.iload_n 3, 1) := by decide +kernel
theorem dX7_bestPlatter_92 : decode cX7_bestPlatter 92 = .ok (.if_icmp .lt 16, 3) := by decide +kernel
theorem dX7_bestPlatter_95 : decode cX7_bestPlatter 95 = .ok (.iload 7, 2) := by decide +kernel
theorem dX7_bestPlatter_97 : decode cX7_bestPlatter 97 = .ok (.iload_n 3, 1) := by decide +kernel
theorem dX7_bestPlatter_98 : decode cX7_bestPlatter 98 = .ok (.if_icmp .ne 20, 3) := by decide +kernel
theorem dX7_bestPlatter_101 : decode cX7_bestPlatter 101 = .ok (.iload 8, 2) := by decide +kernel
theorem dX7_bestPlatter_103 : decode cX7_bestPlatter 103 = .ok (.iload 4, 2) := by decide +kernel
theorem dX7_bestPlatter_105 : decode cX7_bestPlatter 105 = .ok (.if_icmp .ge 13, 3) := by decide +kernel
theorem dX7_bestPlatter_108 : decode cX7_bestPlatter 108 = .ok (.iload 5, 2) := by decide +kernel
theorem dX7_bestPlatter_110 : decode cX7_bestPlatter 110 = .ok (.istore_n 2, 1) := by decide +kernel
theorem dX7_bestPlatter_111 : decode cX7_bestPlatter 111 = .ok (.iload 7, 2) := by decide +kernel
theorem dX7_bestPlatter_113 : decode cX7_bestPlatter 113 = .ok (.istore_n 3, 1) := by decide +kernel
theorem dX7_bestPlatter_114 : decode cX7_bestPlatter 114 = .ok (.iload 8, 2) := by decide +kernel
theorem dX7_bestPlatter_116 : decode cX7_bestPlatter 116 = .ok (.istore 4, 2) := by decide +kernel
theorem dX7_bestPlatter_118 : decode cX7_bestPlatter 118 = .ok (.iinc 5 1, 3) := by decide +kernel
theorem dX7_bestPlatter_121 : decode cX7_bestPlatter 121 = .ok (.goto (-88), 3) := by decide +kernel
theorem dX7_bestPlatter_124 : decode cX7_bestPlatter 124 = .ok (.iload_n 2, 1) := by decide +kernel
theorem dX7_bestPlatter_125 : decode cX7_bestPlatter 125 = .ok (.invokestatic 98, 3) := by decide +kernel
theorem dX7_bestPlatter_128 : decode cX7_bestPlatter 128 = .ok (.ireturn, 1) := by decide +kernel
set_option maxRecDepth 20000 in
theorem ggX7_versionCount_X4_hasFile : GoodIn wsX7_versionCount wsX4_hasFile := goodIn_r _ [7, 8, 25, 26, 27, 28, 29, 30, 31, 32, 33, 34, 35, 36, 37, 38, 39, 40, 41, 42] (by decide +kernel) (by decide +kernel)
set_option maxRecDepth 20000 in
theorem gX7_versionCount_X4_hasFile : GoodIn wsX7_versionCount (wsV RX7 201 RX4 yX4_hasFile wsX4_hasFile) := goodIn_app (goodIn_of _ (by decide +kernel)) ggX7_versionCount_X4_hasFile
set_option maxRecDepth 20000 in
theorem ggX7_versionCount_X4_countVersions : GoodIn wsX7_versionCount wsX4_countVersions := goodIn_r _ [12, 13, 14, 15, 25, 26, 27, 28, 29, 30, 31, 32, 33, 34, 35, 36, 37, 38, 39, 40, 41, 42, 43, 44, 45, 46, 47, 48, 49] (by decide +kernel) (by decide +kernel)
set_option maxRecDepth 20000 in
theorem gX7_versionCount_X4_countVersions : GoodIn wsX7_versionCount (wsV RX7 204 RX4 yX4_countVersions wsX4_countVersions) := goodIn_app (goodIn_of _ (by decide +kernel)) ggX7_versionCount_X4_countVersions
theorem dX7_versionCount_0 : decode cX7_versionCount 0 = .ok (.aload_n 0, 1) := by decide +kernel
theorem dX7_versionCount_1 : decode cX7_versionCount 1 = .ok (.getfield 19, 3) := by decide +kernel
theorem dX7_versionCount_4 : decode cX7_versionCount 4 = .ok (.iload_n 1, 1) := by decide +kernel
theorem dX7_versionCount_5 : decode cX7_versionCount 5 = .ok (.invokevirtual 201, 3) := by decide +kernel
theorem dX7_versionCount_8 : decode cX7_versionCount 8 = .ok (.ifCond .eq 14, 3) := by decide +kernel
theorem dX7_versionCount_11 : decode cX7_versionCount 11 = .ok (.aload_n 0, 1) := by decide +kernel
theorem dX7_versionCount_12 : decode cX7_versionCount 12 = .ok (.getfield 19, 3) := by decide +kernel
theorem dX7_versionCount_15 : decode cX7_versionCount 15 = .ok (.iload_n 1, 1) := by decide +kernel
theorem dX7_versionCount_16 : decode cX7_versionCount 16 = .ok (.invokevirtual 204, 3) := by decide +kernel
theorem dX7_versionCount_19 : decode cX7_versionCount 19 = .ok (.goto 5, 3) := by decide +kernel
theorem dX7_versionCount_22 : decode cX7_versionCount 22 = .ok (.ldc 87, 2) := by decide +kernel
theorem dX7_versionCount_24 : decode cX7_versionCount 24 = .ok (.ireturn, 1) := by decide +kernel
set_option maxRecDepth 20000 in
theorem ggX7_filePlatter_X4_hasFile : GoodIn wsX7_filePlatter wsX4_hasFile := goodIn_r _ [8, 9, 32, 33, 34, 35, 36, 37, 38, 39, 40, 41, 42, 43, 44, 45, 46, 47, 48, 49] (by decide +kernel) (by decide +kernel)
set_option maxRecDepth 20000 in
theorem gX7_filePlatter_X4_hasFile : GoodIn wsX7_filePlatter (wsV RX7 201 RX4 yX4_hasFile wsX4_hasFile) := goodIn_app (goodIn_of _ (by decide +kernel)) ggX7_filePlatter_X4_hasFile
set_option maxRecDepth 20000 in
theorem ggX7_filePlatter_X4_currentVersion : GoodIn wsX7_filePlatter wsX4_currentVersion := goodIn_r _ [13, 14, 15, 32, 33, 34, 35, 36, 37, 38, 39, 40, 41, 42, 43, 44, 45, 46, 47, 48, 49] (by decide +kernel) (by decide +kernel)
set_option maxRecDepth 20000 in
theorem gX7_filePlatter_X4_currentVersion : GoodIn wsX7_filePlatter (wsV RX7 207 RX4 yX4_currentVersion wsX4_currentVersion) := goodIn_app (goodIn_of _ (by decide +kernel)) ggX7_filePlatter_X4_currentVersion
theorem dX7_filePlatter_0 : decode cX7_filePlatter 0 = .ok (.aload_n 0, 1) := by decide +kernel
theorem dX7_filePlatter_1 : decode cX7_filePlatter 1 = .ok (.getfield 19, 3) := by decide +kernel
theorem dX7_filePlatter_4 : decode cX7_filePlatter 4 = .ok (.iload_n 1, 1) := by decide +kernel
theorem dX7_filePlatter_5 : decode cX7_filePlatter 5 = .ok (.invokevirtual 201, 3) := by decide +kernel
theorem dX7_filePlatter_8 : decode cX7_filePlatter 8 = .ok (.ifCond .eq 17, 3) := by decide +kernel
theorem dX7_filePlatter_11 : decode cX7_filePlatter 11 = .ok (.aload_n 0, 1) := by decide +kernel
theorem dX7_filePlatter_12 : decode cX7_filePlatter 12 = .ok (.getfield 19, 3) := by decide +kernel
theorem dX7_filePlatter_15 : decode cX7_filePlatter 15 = .ok (.iload_n 1, 1) := by decide +kernel
theorem dX7_filePlatter_16 : decode cX7_filePlatter 16 = .ok (.invokevirtual 207, 3) := by decide +kernel
theorem dX7_filePlatter_19 : decode cX7_filePlatter 19 = .ok (.getfield 211, 3) := by decide +kernel
theorem dX7_filePlatter_22 : decode cX7_filePlatter 22 = .ok (.goto 5, 3) := by decide +kernel
theorem dX7_filePlatter_25 : decode cX7_filePlatter 25 = .ok (.ldc 87, 2) := by decide +kernel
theorem dX7_filePlatter_27 : decode cX7_filePlatter 27 = .ok (.ireturn, 1) := by decide +kernel
set_option maxRecDepth 20000 in
theorem ggX7_fileStart_X4_hasFile : GoodIn wsX7_fileStart wsX4_hasFile := goodIn_r _ [8, 9, 32, 33, 34, 35, 36, 37, 38, 39, 40, 41, 42, 43, 44, 45, 46, 47, 48, 49] (by decide +kernel) (by decide +kernel)
set_option maxRecDepth 20000 in
theorem gX7_fileStart_X4_hasFile : GoodIn wsX7_fileStart (wsV RX7 201 RX4 yX4_hasFile wsX4_hasFile) := goodIn_app (goodIn_of _ (by decide +kernel)) ggX7_fileStart_X4_hasFile
set_option maxRecDepth 20000 in
theorem ggX7_fileStart_X4_currentVersion : GoodIn wsX7_fileStart wsX4_currentVersion := goodIn_r _ [13, 14, 15, 32, 33, 34, 35, 36, 37, 38, 39, 40, 41, 42, 43, 44, 45, 46, 47, 48, 49] (by decide +kernel) (by decide +kernel)
set_option maxRecDepth 20000 in
theorem gX7_fileStart_X4_currentVersion : GoodIn wsX7_fileStart (wsV RX7 207 RX4 yX4_currentVersion wsX4_currentVersion) := goodIn_app (goodIn_of _ (by decide +kernel)) ggX7_fileStart_X4_currentVersion
theorem dX7_fileStart_0 : decode cX7_fileStart 0 = .ok (.aload_n 0, 1) := by decide +kernel
theorem dX7_fileStart_1 : decode cX7_fileStart 1 = .ok (.getfield 19, 3) := by decide +kernel
theorem dX7_fileStart_4 : decode cX7_fileStart 4 = .ok (.iload_n 1, 1) := by decide +kernel
theorem dX7_fileStart_5 : decode cX7_fileStart 5 = .ok (.invokevirtual 201, 3) := by decide +kernel
theorem dX7_fileStart_8 : decode cX7_fileStart 8 = .ok (.ifCond .eq 17, 3) := by decide +kernel
theorem dX7_fileStart_11 : decode cX7_fileStart 11 = .ok (.aload_n 0, 1) := by decide +kernel
theorem dX7_fileStart_12 : decode cX7_fileStart 12 = .ok (.getfield 19, 3) := by decide +kernel
theorem dX7_fileStart_15 : decode cX7_fileStart 15 = .ok (.iload_n 1, 1) := by decide +kernel
theorem dX7_fileStart_16 : decode cX7_fileStart 16 = .ok (.invokevirtual 207, 3) := by decide +kernel
theorem dX7_fileStart_19 : decode cX7_fileStart 19 = .ok (.getfield 214, 3) := by decide +kernel
theorem dX7_fileStart_22 : decode cX7_fileStart 22 = .ok (.goto 5, 3) := by decide +kernel
theorem dX7_fileStart_25 : decode cX7_fileStart 25 = .ok (.ldc 87, 2) := by decide +kernel
theorem dX7_fileStart_27 : decode cX7_fileStart 27 = .ok (.ireturn, 1) := by decide +kernel
set_option maxRecDepth 20000 in
theorem ggX7_fileSize_X4_hasFile : GoodIn wsX7_fileSize wsX4_hasFile := goodIn_r _ [8, 9, 32, 33, 34, 35, 36, 37, 38, 39, 40, 41, 42, 43, 44, 45, 46, 47, 48, 49] (by decide +kernel) (by decide +kernel)
set_option maxRecDepth 20000 in
theorem gX7_fileSize_X4_hasFile : GoodIn wsX7_fileSize (wsV RX7 201 RX4 yX4_hasFile wsX4_hasFile) := goodIn_app (goodIn_of _ (by decide +kernel)) ggX7_fileSize_X4_hasFile
set_option maxRecDepth 20000 in
theorem ggX7_fileSize_X4_currentVersion : GoodIn wsX7_fileSize wsX4_currentVersion := goodIn_r _ [13, 14, 15, 32, 33, 34, 35, 36, 37, 38, 39, 40, 41, 42, 43, 44, 45, 46, 47, 48, 49] (by decide +kernel) (by decide +kernel)
set_option maxRecDepth 20000 in
theorem gX7_fileSize_X4_currentVersion : GoodIn wsX7_fileSize (wsV RX7 207 RX4 yX4_currentVersion wsX4_currentVersion) := goodIn_app (goodIn_of _ (by decide +kernel)) ggX7_fileSize_X4_currentVersion
theorem dX7_fileSize_0 : decode cX7_fileSize 0 = .ok (.aload_n 0, 1) := by decide +kernel
theorem dX7_fileSize_1 : decode cX7_fileSize 1 = .ok (.getfield 19, 3) := by decide +kernel
theorem dX7_fileSize_4 : decode cX7_fileSize 4 = .ok (.iload_n 1, 1) := by decide +kernel
theorem dX7_fileSize_5 : decode cX7_fileSize 5 = .ok (.invokevirtual 201, 3) := by decide +kernel
theorem dX7_fileSize_8 : decode cX7_fileSize 8 = .ok (.ifCond .eq 17, 3) := by decide +kernel
theorem dX7_fileSize_11 : decode cX7_fileSize 11 = .ok (.aload_n 0, 1) := by decide +kernel
theorem dX7_fileSize_12 : decode cX7_fileSize 12 = .ok (.getfield 19, 3) := by decide +kernel
theorem dX7_fileSize_15 : decode cX7_fileSize 15 = .ok (.iload_n 1, 1) := by decide +kernel
theorem dX7_fileSize_16 : decode cX7_fileSize 16 = .ok (.invokevirtual 207, 3) := by decide +kernel
theorem dX7_fileSize_19 : decode cX7_fileSize 19 = .ok (.getfield 217, 3) := by decide +kernel
theorem dX7_fileSize_22 : decode cX7_fileSize 22 = .ok (.goto 5, 3) := by decide +kernel
theorem dX7_fileSize_25 : decode cX7_fileSize 25 = .ok (.ldc 87, 2) := by decide +kernel
theorem dX7_fileSize_27 : decode cX7_fileSize 27 = .ok (.ireturn, 1) := by decide +kernel
set_option maxRecDepth 20000 in
theorem ggX7_fileSession_X4_hasFile : GoodIn wsX7_fileSession wsX4_hasFile := goodIn_r _ [8, 9, 32, 33, 34, 35, 36, 37, 38, 39, 40, 41, 42, 43, 44, 45, 46, 47, 48, 49] (by decide +kernel) (by decide +kernel)
set_option maxRecDepth 20000 in
theorem gX7_fileSession_X4_hasFile : GoodIn wsX7_fileSession (wsV RX7 201 RX4 yX4_hasFile wsX4_hasFile) := goodIn_app (goodIn_of _ (by decide +kernel)) ggX7_fileSession_X4_hasFile
set_option maxRecDepth 20000 in
theorem ggX7_fileSession_X4_currentVersion : GoodIn wsX7_fileSession wsX4_currentVersion := goodIn_r _ [13, 14, 15, 32, 33, 34, 35, 36, 37, 38, 39, 40, 41, 42, 43, 44, 45, 46, 47, 48, 49] (by decide +kernel) (by decide +kernel)
set_option maxRecDepth 20000 in
theorem gX7_fileSession_X4_currentVersion : GoodIn wsX7_fileSession (wsV RX7 207 RX4 yX4_currentVersion wsX4_currentVersion) := goodIn_app (goodIn_of _ (by decide +kernel)) ggX7_fileSession_X4_currentVersion
theorem dX7_fileSession_0 : decode cX7_fileSession 0 = .ok (.aload_n 0, 1) := by decide +kernel
theorem dX7_fileSession_1 : decode cX7_fileSession 1 = .ok (.getfield 19, 3) := by decide +kernel
theorem dX7_fileSession_4 : decode cX7_fileSession 4 = .ok (.iload_n 1, 1) := by decide +kernel
theorem dX7_fileSession_5 : decode cX7_fileSession 5 = .ok (.invokevirtual 201, 3) := by decide +kernel
theorem dX7_fileSession_8 : decode cX7_fileSession 8 = .ok (.ifCond .eq 17, 3) := by decide +kernel
theorem dX7_fileSession_11 : decode cX7_fileSession 11 = .ok (.aload_n 0, 1) := by decide +kernel
theorem dX7_fileSession_12 : decode cX7_fileSession 12 = .ok (.getfield 19, 3) := by decide +kernel
theorem dX7_fileSession_15 : decode cX7_fileSession 15 = .ok (.iload_n 1, 1) := by decide +kernel
theorem dX7_fileSession_16 : decode cX7_fileSession 16 = .ok (.invokevirtual 207, 3) := by decide +kernel
theorem dX7_fileSession_19 : decode cX7_fileSession 19 = .ok (.getfield 220, 3) := by decide +kernel
theorem dX7_fileSession_22 : decode cX7_fileSession 22 = .ok (.goto 5, 3) := by decide +kernel
theorem dX7_fileSession_25 : decode cX7_fileSession 25 = .ok (.ldc 87, 2) := by decide +kernel
theorem dX7_fileSession_27 : decode cX7_fileSession 27 = .ok (.ireturn, 1) := by decide +kernel
set_option maxRecDepth 20000 in
theorem ggX7_remappedSectors_X4_hasFile : GoodIn wsX7_remappedSectors wsX4_hasFile := goodIn_r _ [8, 9, 32, 33, 34, 35, 36, 37, 38, 39, 40, 41, 42, 43, 44, 45, 46, 47, 48, 49] (by decide +kernel) (by decide +kernel)
set_option maxRecDepth 20000 in
theorem gX7_remappedSectors_X4_hasFile : GoodIn wsX7_remappedSectors (wsV RX7 201 RX4 yX4_hasFile wsX4_hasFile) := goodIn_app (goodIn_of _ (by decide +kernel)) ggX7_remappedSectors_X4_hasFile
set_option maxRecDepth 20000 in
theorem ggX7_remappedSectors_X4_currentVersion : GoodIn wsX7_remappedSectors wsX4_currentVersion := goodIn_r _ [13, 14, 15, 32, 33, 34, 35, 36, 37, 38, 39, 40, 41, 42, 43, 44, 45, 46, 47, 48, 49] (by decide +kernel) (by decide +kernel)
set_option maxRecDepth 20000 in
theorem gX7_remappedSectors_X4_currentVersion : GoodIn wsX7_remappedSectors (wsV RX7 207 RX4 yX4_currentVersion wsX4_currentVersion) := goodIn_app (goodIn_of _ (by decide +kernel)) ggX7_remappedSectors_X4_currentVersion
theorem dX7_remappedSectors_0 : decode cX7_remappedSectors 0 = .ok (.aload_n 0, 1) := by decide +kernel
theorem dX7_remappedSectors_1 : decode cX7_remappedSectors 1 = .ok (.getfield 19, 3) := by decide +kernel
theorem dX7_remappedSectors_4 : decode cX7_remappedSectors 4 = .ok (.iload_n 1, 1) := by decide +kernel
theorem dX7_remappedSectors_5 : decode cX7_remappedSectors 5 = .ok (.invokevirtual 201, 3) := by decide +kernel
theorem dX7_remappedSectors_8 : decode cX7_remappedSectors 8 = .ok (.ifCond .eq 17, 3) := by decide +kernel
theorem dX7_remappedSectors_11 : decode cX7_remappedSectors 11 = .ok (.aload_n 0, 1) := by decide +kernel
theorem dX7_remappedSectors_12 : decode cX7_remappedSectors 12 = .ok (.getfield 19, 3) := by decide +kernel
theorem dX7_remappedSectors_15 : decode cX7_remappedSectors 15 = .ok (.iload_n 1, 1) := by decide +kernel
theorem dX7_remappedSectors_16 : decode cX7_remappedSectors 16 = .ok (.invokevirtual 207, 3) := by decide +kernel
theorem dX7_remappedSectors_19 : decode cX7_remappedSectors 19 = .ok (.getfield 223, 3) := by decide +kernel
theorem dX7_remappedSectors_22 : decode cX7_remappedSectors 22 = .ok (.goto 5, 3) := by decide +kernel
theorem dX7_remappedSectors_25 : decode cX7_remappedSectors 25 = .ok (.ldc 87, 2) := by decide +kernel
theorem dX7_remappedSectors_27 : decode cX7_remappedSectors 27 = .ok (.ireturn, 1) := by decide +kernel
set_option maxRecDepth 20000 in
theorem ggX7_fileState_X4_hasFile : GoodIn wsX7_fileState wsX4_hasFile := goodIn_r _ [8, 9, 52, 53, 54, 55, 56, 57, 58, 59, 60, 61, 62, 63, 64, 65, 66, 67, 68, 69] (by decide +kernel) (by decide +kernel)
set_option maxRecDepth 20000 in
theorem gX7_fileState_X4_hasFile : GoodIn wsX7_fileState (wsV RX7 201 RX4 yX4_hasFile wsX4_hasFile) := goodIn_app (goodIn_of _ (by decide +kernel)) ggX7_fileState_X4_hasFile
set_option maxRecDepth 20000 in
theorem ggX7_fileState_X4_currentVersion : GoodIn wsX7_fileState wsX4_currentVersion := goodIn_r _ [13, 14, 15, 52, 53, 54, 55, 56, 57, 58, 59, 60, 61, 62, 63, 64, 65, 66, 67, 68, 69] (by decide +kernel) (by decide +kernel)
set_option maxRecDepth 20000 in
theorem gX7_fileState_X4_currentVersion : GoodIn wsX7_fileState (wsV RX7 207 RX4 yX4_currentVersion wsX4_currentVersion) := goodIn_app (goodIn_of _ (by decide +kernel)) ggX7_fileState_X4_currentVersion
set_option maxRecDepth 20000 in
theorem ggX7_fileState_X4_isReadable : GoodIn wsX7_fileState wsX4_isReadable := goodIn_r _ [19, 20, 11, 12, 7, 13, 14, 15, 21, 22, 23, 24, 25, 26, 27, 28, 29, 30, 31, 32, 33, 34, 35, 52, 53, 54, 55, 56, 57, 58, 59, 60, 61, 62, 63, 64, 65, 66, 67, 68, 69, 45, 46, 47, 48, 49, 50, 51, 70, 71, 72, 73, 74, 75, 76, 77, 78] (by decide +kernel) (by decide +kernel)
set_option maxRecDepth 20000 in
theorem gX7_fileState_X4_isReadable : GoodIn wsX7_fileState (wsV RX7 229 RX4 yX4_isReadable wsX4_isReadable) := goodIn_app (goodIn_of _ (by decide +kernel)) ggX7_fileState_X4_isReadable
theorem dX7_fileState_0 : decode cX7_fileState 0 = .ok (.aload_n 0, 1) := by decide +kernel
theorem dX7_fileState_1 : decode cX7_fileState 1 = .ok (.getfield 19, 3) := by decide +kernel
theorem dX7_fileState_4 : decode cX7_fileState 4 = .ok (.iload_n 1, 1) := by decide +kernel
theorem dX7_fileState_5 : decode cX7_fileState 5 = .ok (.invokevirtual 201, 3) := by decide +kernel
theorem dX7_fileState_8 : decode cX7_fileState 8 = .ok (.ifCond .ne 6, 3) := by decide +kernel
theorem dX7_fileState_11 : decode cX7_fileState 11 = .ok (.ldc 87, 2) := by decide +kernel
theorem dX7_fileState_13 : decode cX7_fileState 13 = .ok (.ireturn, 1) := by decide +kernel
theorem dX7_fileState_14 : decode cX7_fileState 14 = .ok (.aload_n 0, 1) := by decide +kernel
theorem dX7_fileState_15 : decode cX7_fileState 15 = .ok (.getfield 19, 3) := by decide +kernel
theorem dX7_fileState_18 : decode cX7_fileState 18 = .ok (.iload_n 1, 1) := by decide +kernel
theorem dX7_fileState_19 : decode cX7_fileState 19 = .ok (.invokevirtual 207, 3) := by decide +kernel
theorem dX7_fileState_22 : decode cX7_fileState 22 = .ok (.getfield 226, 3) := by decide +kernel
theorem dX7_fileState_25 : decode cX7_fileState 25 = .ok (.ifCond .eq 5, 3) := by decide +kernel
theorem dX7_fileState_28 : decode cX7_fileState 28 = .ok (.iconst 1, 1) := by decide +kernel
theorem dX7_fileState_29 : decode cX7_fileState 29 = .ok (.ireturn, 1) := by decide +kernel
theorem dX7_fileState_30 : decode cX7_fileState 30 = .ok (.aload_n 0, 1) := by decide +kernel
theorem dX7_fileState_31 : decode cX7_fileState 31 = .ok (.getfield 19, 3) := by decide +kernel
theorem dX7_fileState_34 : decode cX7_fileState 34 = .ok (.iload_n 1, 1) := by decide +kernel
theorem dX7_fileState_35 : decode cX7_fileState 35 = .ok (.invokevirtual 229, 3) := by decide +kernel
theorem dX7_fileState_38 : decode cX7_fileState 38 = .ok (.ifCond .eq 7, 3) := by decide +kernel
theorem dX7_fileState_41 : decode cX7_fileState 41 = .ok (.iconst 0, 1) := by decide +kernel
theorem dX7_fileState_42 : decode cX7_fileState 42 = .ok (.goto 4, 3) := by decide +kernel
theorem dX7_fileState_45 : decode cX7_fileState 45 = .ok (.iconst 2, 1) := by decide +kernel
theorem dX7_fileState_46 : decode cX7_fileState 46 = .ok (.ireturn, 1) := by decide +kernel
set_option maxRecDepth 20000 in
theorem ggX7_readProblem_X4_hasFile : GoodIn wsX7_readProblem wsX4_hasFile := goodIn_r _ [10, 11, 46, 47, 48, 49, 50, 51, 52, 53, 54, 55, 56, 57, 58, 59, 60, 61, 62, 63] (by decide +kernel) (by decide +kernel)
set_option maxRecDepth 20000 in
theorem gX7_readProblem_X4_hasFile : GoodIn wsX7_readProblem (wsV RX7 201 RX4 yX4_hasFile wsX4_hasFile) := goodIn_app (goodIn_of _ (by decide +kernel)) ggX7_readProblem_X4_hasFile
set_option maxRecDepth 20000 in
theorem ggX7_readProblem_X4_isReadable : GoodIn wsX7_readProblem wsX4_isReadable := goodIn_r _ [15, 16, 17, 18, 9, 19, 20, 21, 22, 23, 24, 25, 26, 27, 28, 29, 30, 31, 32, 33, 34, 35, 36, 46, 47, 48, 49, 50, 51, 52, 53, 54, 55, 56, 57, 58, 59, 60, 61, 62, 63, 64, 65, 66, 67, 68, 69, 70, 71, 72, 73, 74, 75, 76, 77, 78, 79] (by decide +kernel) (by decide +kernel)
set_option maxRecDepth 20000 in
theorem gX7_readProblem_X4_isReadable : GoodIn wsX7_readProblem (wsV RX7 229 RX4 yX4_isReadable wsX4_isReadable) := goodIn_app (goodIn_of _ (by decide +kernel)) ggX7_readProblem_X4_isReadable
theorem dX7_readProblem_0 : decode cX7_readProblem 0 = .ok (.aload_n 0, 1) := by decide +kernel
theorem dX7_readProblem_1 : decode cX7_readProblem 1 = .ok (.getfield 19, 3) := by decide +kernel
theorem dX7_readProblem_4 : decode cX7_readProblem 4 = .ok (.iload_n 1, 1) := by decide +kernel
theorem dX7_readProblem_5 : decode cX7_readProblem 5 = .ok (.invokevirtual 201, 3) := by decide +kernel
theorem dX7_readProblem_8 : decode cX7_readProblem 8 = .ok (.ifCond .ne 6, 3) := by decide +kernel
theorem dX7_readProblem_11 : decode cX7_readProblem 11 = .ok (.ldc 87, 2) := by decide +kernel
theorem dX7_readProblem_13 : decode cX7_readProblem 13 = .ok (.ireturn, 1) := by decide +kernel
theorem dX7_readProblem_14 : decode cX7_readProblem 14 = .ok (.aload_n 0, 1) := by decide +kernel
theorem dX7_readProblem_15 : decode cX7_readProblem 15 = .ok (.getfield 19, 3) := by decide +kernel
theorem dX7_readProblem_18 : decode cX7_readProblem 18 = .ok (.getfield 134, 3) := by decide +kernel
theorem dX7_readProblem_21 : decode cX7_readProblem 21 = .ok (.ifCond .ne 6, 3) := by decide +kernel
theorem dX7_readProblem_24 : decode cX7_readProblem 24 = .ok (.ldc 137, 2) := by decide +kernel
theorem dX7_readProblem_26 : decode cX7_readProblem 26 = .ok (.ireturn, 1) := by decide +kernel
theorem dX7_readProblem_27 : decode cX7_readProblem 27 = .ok (.aload_n 0, 1) := by decide +kernel
theorem dX7_readProblem_28 : decode cX7_readProblem 28 = .ok (.getfield 19, 3) := by decide +kernel
theorem dX7_readProblem_31 : decode cX7_readProblem 31 = .ok (.iload_n 1, 1) := by decide +kernel
theorem dX7_readProblem_32 : decode cX7_readProblem 32 = .ok (.invokevirtual 229, 3) := by decide +kernel
theorem dX7_readProblem_35 : decode cX7_readProblem 35 = .ok (.ifCond .eq 7, 3) := by decide +kernel
theorem dX7_readProblem_38 : decode cX7_readProblem 38 = .ok (.iconst 0, 1) := by decide +kernel
theorem dX7_readProblem_39 : decode cX7_readProblem 39 = .ok (.goto 5, 3) := by decide +kernel
theorem dX7_readProblem_42 : decode cX7_readProblem 42 = .ok (.ldc 239, 2) := by decide +kernel
theorem dX7_readProblem_44 : decode cX7_readProblem 44 = .ok (.ireturn, 1) := by decide +kernel
set_option maxRecDepth 20000 in
theorem ggX7_readTime_X7_readProblem : GoodIn wsX7_readTime wsX7_readProblem := goodIn_r _ [7, 1, 8, 9, 10, 11, 12, 13, 14, 15, 16, 17, 18, 19, 20, 21, 22, 23, 24, 25, 26, 27, 28, 29, 30, 31, 32, 33, 34, 35, 36, 37, 38, 39, 40, 41, 42, 87, 88, 89, 90, 91, 92, 93, 94, 95, 103, 104, 105, 106, 107, 108, 109, 110, 111, 112, 113, 114, 115, 116, 117, 118, 119, 120, 96, 97, 98, 99, 100, 101, 102, 121, 122, 123, 124, 125, 126, 127, 128, 129] (by decide +kernel) (by decide +kernel)
set_option maxRecDepth 20000 in
theorem gX7_readTime_X7_readProblem : GoodIn wsX7_readTime (wsV RX7 232 RX7 yX7_readProblem wsX7_readProblem) := goodIn_app (goodIn_of _ (by decide +kernel)) ggX7_readTime_X7_readProblem
set_option maxRecDepth 20000 in
theorem ggX7_readTime_X4_currentVersion : GoodIn wsX7_readTime wsX4_currentVersion := goodIn_r _ [25, 26, 27, 103, 104, 105, 106, 107, 108, 109, 110, 111, 112, 113, 114, 115, 116, 117, 118, 119, 120] (by decide +kernel) (by decide +kernel)
set_option maxRecDepth 20000 in
theorem gX7_readTime_X4_currentVersion : GoodIn wsX7_readTime (wsV RX7 207 RX4 yX4_currentVersion wsX4_currentVersion) := goodIn_app (goodIn_of _ (by decide +kernel)) ggX7_readTime_X4_currentVersion
set_option maxRecDepth 20000 in
theorem ggX7_readTime_X4_chosenBringTime : GoodIn wsX7_readTime wsX4_chosenBringTime := goodIn_r _ [47, 48, 49, 50, 15, 51, 52, 53, 54, 55, 56, 57, 58, 59, 60, 61, 62, 63, 64, 65, 66, 67, 68, 69, 70, 71, 72, 73, 74, 75, 33, 76, 77, 78, 79, 80, 103, 104, 105, 106, 107, 108, 109, 110, 111, 112, 113, 114, 115, 116, 117, 118, 119, 120, 130, 131, 132, 121, 122, 123, 124, 125, 126, 127, 128, 129] (by decide +kernel) (by decide +kernel)
set_option maxRecDepth 20000 in
theorem gX7_readTime_X4_chosenBringTime : GoodIn wsX7_readTime (wsV RX7 131 RX4 yX4_chosenBringTime wsX4_chosenBringTime) := goodIn_app (goodIn_of _ (by decide +kernel)) ggX7_readTime_X4_chosenBringTime
set_option maxRecDepth 20000 in
theorem ggX7_readTime_X4_sectorsReadTime : GoodIn wsX7_readTime wsX4_sectorsReadTime := goodIn_r _ [84, 69, 85, 86, 103, 104, 105, 106, 107, 108, 109, 110, 111, 112, 113, 114, 115, 116, 117, 118, 119, 120, 96, 97, 98, 99, 100, 101, 102] (by decide +kernel) (by decide +kernel)
set_option maxRecDepth 20000 in
theorem gX7_readTime_X4_sectorsReadTime : GoodIn wsX7_readTime (wsV RX7 235 RX4 yX4_sectorsReadTime wsX4_sectorsReadTime) := goodIn_app (goodIn_of _ (by decide +kernel)) ggX7_readTime_X4_sectorsReadTime
theorem dX7_readTime_0 : decode cX7_readTime 0 = .ok (.aload_n 0, 1) := by decide +kernel
theorem dX7_readTime_1 : decode cX7_readTime 1 = .ok (.iload_n 1, 1) := by decide +kernel
theorem dX7_readTime_2 : decode cX7_readTime 2 = .ok (.invokevirtual 232, 3) := by decide +kernel
theorem dX7_readTime_5 : decode cX7_readTime 5 = .ok (.istore_n 2, 1) := by decide +kernel
theorem dX7_readTime_6 : decode cX7_readTime 6 = .ok (.iload_n 2, 1) := by decide +kernel
theorem dX7_readTime_7 : decode cX7_readTime 7 = .ok (.ifCond .eq 5, 3) := by decide +kernel
theorem dX7_readTime_10 : decode cX7_readTime 10 = .ok (.iload_n 2, 1) := by decide +kernel
theorem dX7_readTime_11 : decode cX7_readTime 11 = .ok (.ireturn, 1) := by decide +kernel
theorem dX7_readTime_12 : decode cX7_readTime 12 = .ok (.aload_n 0, 1) := by decide +kernel
theorem dX7_readTime_13 : decode cX7_readTime 13 = .ok (.getfield 19, 3) := by decide +kernel
theorem dX7_readTime_16 : decode cX7_readTime 16 = .ok (.iload_n 1, 1) := by decide +kernel
theorem dX7_readTime_17 : decode cX7_readTime 17 = .ok (.invokevirtual 207, 3) := by decide +kernel
theorem dX7_readTime_20 : decode cX7_readTime 20 = .ok (.astore_n 3, 1) := by decide +kernel
theorem dX7_readTime_21 : decode cX7_readTime 21 = .ok (.aload_n 0, 1) := by decide +kernel
theorem dX7_readTime_22 : decode cX7_readTime 22 = .ok (.getfield 19, 3) := by decide +kernel
theorem dX7_readTime_25 : decode cX7_readTime 25 = .ok (.aload_n 3, 1) := by decide +kernel
theorem dX7_readTime_26 : decode cX7_readTime 26 = .ok (.getfield 211, 3) := by decide +kernel
theorem dX7_readTime_29 : decode cX7_readTime 29 = .ok (.invokevirtual 131, 3) := by decide +kernel
theorem dX7_readTime_32 : decode cX7_readTime 32 = .ok (.aload_n 0, 1) := by decide +kernel
theorem dX7_readTime_33 : decode cX7_readTime 33 = .ok (.getfield 19, 3) := by decide +kernel
theorem dX7_readTime_36 : decode cX7_readTime 36 = .ok (.aload_n 3, 1) := by decide +kernel
theorem dX7_readTime_37 : decode cX7_readTime 37 = .ok (.invokevirtual 235, 3) := by decide +kernel
theorem dX7_readTime_40 : decode cX7_readTime 40 = .ok (.iadd, 1) := by decide +kernel
theorem dX7_readTime_41 : decode cX7_readTime 41 = .ok (.ireturn, 1) := by decide +kernel
set_option maxRecDepth 20000 in
theorem ggX7_lastGoodVersion_X4_hasFile : GoodIn wsX7_lastGoodVersion wsX4_hasFile := goodIn_r _ [7, 8, 45, 46, 47, 48, 49, 50, 51, 52, 53, 54, 55, 56, 57, 58, 59, 60, 61, 62] (by decide +kernel) (by decide +kernel)
set_option maxRecDepth 20000 in
theorem gX7_lastGoodVersion_X4_hasFile : GoodIn wsX7_lastGoodVersion (wsV RX7 201 RX4 yX4_hasFile wsX4_hasFile) := goodIn_app (goodIn_of _ (by decide +kernel)) ggX7_lastGoodVersion_X4_hasFile
set_option maxRecDepth 20000 in
theorem ggX7_lastGoodVersion_X4_lastGood : GoodIn wsX7_lastGoodVersion wsX4_lastGood := goodIn_r _ [12, 13, 14, 15, 16, 17, 18, 6, 19, 20, 21, 22, 23, 24, 25, 26, 27, 28, 29, 30, 45, 46, 47, 48, 49, 50, 51, 52, 53, 54, 55, 56, 57, 58, 59, 60, 61, 62, 63, 64, 65, 66, 67, 68, 69, 70, 71, 72, 73, 74, 75, 76, 77, 78] (by decide +kernel) (by decide +kernel)
set_option maxRecDepth 20000 in
theorem gX7_lastGoodVersion_X4_lastGood : GoodIn wsX7_lastGoodVersion (wsV RX7 240 RX4 yX4_lastGood wsX4_lastGood) := goodIn_app (goodIn_of _ (by decide +kernel)) ggX7_lastGoodVersion_X4_lastGood
set_option maxRecDepth 20000 in
theorem ggX7_lastGoodVersion_X7_foundOrNot : GoodIn wsX7_lastGoodVersion wsX7_foundOrNot := goodIn_r _ [34, 35] (by decide +kernel) (by decide +kernel)
set_option maxRecDepth 20000 in
theorem gX7_lastGoodVersion_X7_foundOrNot : GoodIn wsX7_lastGoodVersion (va_wsS RX7 98 yX7_foundOrNot wsX7_foundOrNot) := goodIn_app (goodIn_of _ (by decide +kernel)) ggX7_lastGoodVersion_X7_foundOrNot
theorem dX7_lastGoodVersion_0 : decode cX7_lastGoodVersion 0 = .ok (.aload_n 0, 1) := by decide +kernel
theorem dX7_lastGoodVersion_1 : decode cX7_lastGoodVersion 1 = .ok (.getfield 19, 3) := by decide +kernel
theorem dX7_lastGoodVersion_4 : decode cX7_lastGoodVersion 4 = .ok (.iload_n 1, 1) := by decide +kernel
theorem dX7_lastGoodVersion_5 : decode cX7_lastGoodVersion 5 = .ok (.invokevirtual 201, 3) := by decide +kernel
theorem dX7_lastGoodVersion_8 : decode cX7_lastGoodVersion 8 = .ok (.ifCond .eq 17, 3) := by decide +kernel
theorem dX7_lastGoodVersion_11 : decode cX7_lastGoodVersion 11 = .ok (.aload_n 0, 1) := by decide +kernel
theorem dX7_lastGoodVersion_12 : decode cX7_lastGoodVersion 12 = .ok (.getfield 19, 3) := by decide +kernel
theorem dX7_lastGoodVersion_15 : decode cX7_lastGoodVersion 15 = .ok (.iload_n 1, 1) := by decide +kernel
theorem dX7_lastGoodVersion_16 : decode cX7_lastGoodVersion 16 = .ok (.invokevirtual 240, 3) := by decide +kernel
theorem dX7_lastGoodVersion_19 : decode cX7_lastGoodVersion 19 = .ok (.invokestatic 98, 3) := by decide +kernel
theorem dX7_lastGoodVersion_22 : decode cX7_lastGoodVersion 22 = .ok (.goto 5, 3) := by decide +kernel
theorem dX7_lastGoodVersion_25 : decode cX7_lastGoodVersion 25 = .ok (.ldc 87, 2) := by decide +kernel
theorem dX7_lastGoodVersion_27 : decode cX7_lastGoodVersion 27 = .ok (.ireturn, 1) := by decide +kernel
set_option maxRecDepth 20000 in
theorem ggX7_fileOfSector_X4_hasSector : GoodIn wsX7_fileOfSector wsX4_hasSector := goodIn_r _ [10, 11, 12, 13, 14, 15, 9, 16, 17, 41, 42, 43, 44, 45, 46, 47, 48, 49, 50, 51, 52, 53, 54, 55, 56, 57, 58, 66, 67, 68, 69, 70, 71, 72, 73, 74] (by decide +kernel) (by decide +kernel)
set_option maxRecDepth 20000 in
theorem gX7_fileOfSector_X4_hasSector : GoodIn wsX7_fileOfSector (wsV RX7 170 RX4 yX4_hasSector wsX4_hasSector) := goodIn_app (goodIn_of _ (by decide +kernel)) ggX7_fileOfSector_X4_hasSector
set_option maxRecDepth 20000 in
theorem ggX7_fileOfSector_X4_versionAt : GoodIn wsX7_fileOfSector wsX4_versionAt := goodIn_r _ [21, 22, 23, 24, 25, 26, 27, 28, 29, 30, 31, 41, 42, 43, 44, 45, 46, 47, 48, 49, 50, 51, 52, 53, 54, 55, 56, 57, 58, 59, 60, 61, 62, 63, 64, 65] (by decide +kernel) (by decide +kernel)
set_option maxRecDepth 20000 in
theorem gX7_fileOfSector_X4_versionAt : GoodIn wsX7_fileOfSector (wsV RX7 243 RX4 yX4_versionAt wsX4_versionAt) := goodIn_app (goodIn_of _ (by decide +kernel)) ggX7_fileOfSector_X4_versionAt
theorem dX7_fileOfSector_0 : decode cX7_fileOfSector 0 = .ok (.aload_n 0, 1) := by decide +kernel
theorem dX7_fileOfSector_1 : decode cX7_fileOfSector 1 = .ok (.getfield 19, 3) := by decide +kernel
theorem dX7_fileOfSector_4 : decode cX7_fileOfSector 4 = .ok (.iload_n 1, 1) := by decide +kernel
theorem dX7_fileOfSector_5 : decode cX7_fileOfSector 5 = .ok (.iload_n 2, 1) := by decide +kernel
theorem dX7_fileOfSector_6 : decode cX7_fileOfSector 6 = .ok (.invokevirtual 170, 3) := by decide +kernel
theorem dX7_fileOfSector_9 : decode cX7_fileOfSector 9 = .ok (.ifCond .ne 6, 3) := by decide +kernel
theorem dX7_fileOfSector_12 : decode cX7_fileOfSector 12 = .ok (.ldc 87, 2) := by decide +kernel
theorem dX7_fileOfSector_14 : decode cX7_fileOfSector 14 = .ok (.ireturn, 1) := by decide +kernel
theorem dX7_fileOfSector_15 : decode cX7_fileOfSector 15 = .ok (.aload_n 0, 1) := by decide +kernel
theorem dX7_fileOfSector_16 : decode cX7_fileOfSector 16 = .ok (.getfield 19, 3) := by decide +kernel
theorem dX7_fileOfSector_19 : decode cX7_fileOfSector 19 = .ok (.iload_n 1, 1) := by decide +kernel
theorem dX7_fileOfSector_20 : decode cX7_fileOfSector 20 = .ok (.iload_n 2, 1) := by decide +kernel
theorem dX7_fileOfSector_21 : decode cX7_fileOfSector 21 = .ok (.invokevirtual 243, 3) := by decide +kernel
theorem dX7_fileOfSector_24 : decode cX7_fileOfSector 24 = .ok (.istore_n 3, 1) := by decide +kernel
theorem dX7_fileOfSector_25 : decode cX7_fileOfSector 25 = .ok (.iload_n 3, 1) := by decide +kernel
theorem dX7_fileOfSector_26 : decode cX7_fileOfSector 26 = .ok (.iconst (-1), 1) := by decide +kernel
theorem dX7_fileOfSector_27 : decode cX7_fileOfSector 27 = .ok (.if_icmp .ne 8, 3) := by decide +kernel
theorem dX7_fileOfSector_30 : decode cX7_fileOfSector 30 = .ok (.ldc 73, 2) := by decide +kernel
theorem dX7_fileOfSector_32 : decode cX7_fileOfSector 32 = .ok (.goto 15, 3) := by decide +kernel
theorem dX7_fileOfSector_35 : decode cX7_fileOfSector 35 = .ok (.aload_n 0, 1) := by decide +kernel
theorem dX7_fileOfSector_36 : decode cX7_fileOfSector 36 = .ok (.getfield 19, 3) := by decide +kernel
theorem dX7_fileOfSector_39 : decode cX7_fileOfSector 39 = .ok (.getfield 246, 3) := by decide +kernel
theorem dX7_fileOfSector_42 : decode cX7_fileOfSector 42 = .ok (.iload_n 3, 1) := by decide +kernel
theorem dX7_fileOfSector_43 : decode cX7_fileOfSector 43 = .ok (.aaload, 1) := by decide +kernel
theorem dX7_fileOfSector_44 : decode cX7_fileOfSector 44 = .ok (.getfield 250, 3) := by decide +kernel
theorem dX7_fileOfSector_47 : decode cX7_fileOfSector 47 = .ok (.ireturn, 1) := by decide +kernel
abbrev rm_X7_feed : Room := { frames := 1, cells := 0, slots := 0, locals := 22 }
set_option maxRecDepth 100000 in
set_option maxHeartbeats 4000000 in
theorem ct_X7_feed (l : Launch) (g : GT) (hfl : 1 ≤ gf g) (cs : CT) (mt : MT) (a1 : Int32) (a2 : Int32) (a3 : Int32) (a4 : Int32) (a5 : Int32) {q : (Int32 × SD)} (hf : f_X7_feed (k_rd cs) a1 a2 a3 a4 a5 = some q) : Met l yX7_feed wsX7_feed rm_X7_feed (cPre g ((cs, mt)) [.ref (adr g.1 7 0), .int a1, .int a2, .int a3, .int a4, .int a5]) (cQi g q.1 (((kR cs q.2 (k_rn cs)), mt))) 0 0 (gA g) := by
  have i_5 : ∀ w ∈ u_ws RX5 TX5 9, w ∈ wsX7_feed := by decide +kernel
  have i_7 : ∀ w ∈ u_ws RX7 TX7 9, w ∈ wsX7_feed := by decide +kernel
  refine x_met (by decide) rfl (Nat.le_of_ble_eq_true rfl) ?_
  intro p e s m below meth c hx hb hr hml hts hown hlocks hK hW hS ls hl
  have hown : s.vm.findClass RX7 = some m.cls := hown
  have hl : lv_has ls 6 [(0, .ref (adr g.1 7 0)), (1, .int a1), (2, .int a2), (3, .int a3), (4, .int a4), (5, .int a5)] := hl
  rw [f_X7_feed] at hf
  refine lv_aload_n hx hb dX7_feed_0 rfl (lv_at hl 0 rfl) ?_
  refine x_get (i := g.1) (k := 7) (j := 0) (t := 0) hx hb hts i_7 hown hK hW ⟨⟨hfl, rfl⟩, by decide⟩ rfl ⟨by decide, by decide, rfl⟩ (hts (.fieldLink RX7 10 "OpticalJukebox" "reader" "LOpticalJukebox$TextReader;") (by decide +kernel)) (v := .ref (adr (g.1 + 1) 5 0)) rfl dX7_feed_1 ?_
  refine x_get (i := (g.1 + 1)) (k := 5) (j := 0) (t := 1) hx hb hts i_5 hown hK hW ⟨⟨hfl, rfl⟩, by decide⟩ rfl ⟨by decide, by decide, rfl⟩ (hts (.fieldLink RX7 37 "OpticalJukebox$TextReader" "fed" "I") (by decide +kernel)) (rfl) dX7_feed_4 ?_
  refine lv_bipush (v := 20) hx hb dX7_feed_7 (by decide) ?_
  refine lv_iadd hx hb dX7_feed_9 ?_
  refine lv_sipush (v := 900) hx hb dX7_feed_10 (by decide) ?_
  refine lv_icmp_le (tgt := 19) hx hb dX7_feed_13 (by decide) (fun hc => ?_) (fun hc => ?_)
  · have hf := x_iteT hf hc
    refine lv_aload_n hx hb dX7_feed_19 rfl (lv_at hl 0 rfl) ?_
    refine x_get (i := g.1) (k := 7) (j := 0) (t := 0) hx hb hts i_7 hown hK hW ⟨⟨hfl, rfl⟩, by decide⟩ rfl ⟨by decide, by decide, rfl⟩ (hts (.fieldLink RX7 10 "OpticalJukebox" "reader" "LOpticalJukebox$TextReader;") (by decide +kernel)) (v := .ref (adr (g.1 + 1) 5 0)) rfl dX7_feed_20 ?_
    refine lv_iload_n hx hb dX7_feed_23 rfl (lv_at hl 1 rfl) ?_
    obtain ⟨q1, h_q1, hf⟩ := x_bindE hf
    refine x_cv0 (x_rV ⟨hx, hb, hml, hown, hts⟩ (ct_X5_appendFourBytes l g hfl (cs, mt) (k_rd cs) (k_rn cs) (a1) h_q1) (cwV 1 hts gX7_feed_X5_appendFourBytes rfl rfl rfl (by decide +kernel) ⟨Nat.le_of_ble_eq_true rfl, Nat.le_of_ble_eq_true rfl⟩) hK hW hS (x_recv (i := (g.1 + 1)) (k := 5) (j := 0) hK hW ⟨⟨hfl, rfl⟩, by decide⟩ rfl (by decide)) rfl hl.1 (rest := []) rfl (Nat.le_of_ble_eq_true rfl) dX7_feed_24 ⟨Nat.le_of_ble_eq_true rfl, Nat.le_of_ble_eq_true rfl⟩) hS (fun H locs hW hS => ?_)
    have hW : World g (((kR cs q1 (k_rn cs)), mt)) H := hW
    refine lv_aload_n hx hb dX7_feed_27 rfl (lv_at hl 0 rfl) ?_
    refine x_get (i := g.1) (k := 7) (j := 0) (t := 0) hx hb hts i_7 hown hK hW ⟨⟨hfl, rfl⟩, by decide⟩ rfl ⟨by decide, by decide, rfl⟩ (hts (.fieldLink RX7 10 "OpticalJukebox" "reader" "LOpticalJukebox$TextReader;") (by decide +kernel)) (v := .ref (adr (g.1 + 1) 5 0)) rfl dX7_feed_28 ?_
    refine lv_iload_n hx hb dX7_feed_31 rfl (lv_at hl 2 rfl) ?_
    obtain ⟨q2, h_q2, hf⟩ := x_bindE hf
    refine x_cv0 (x_rV ⟨hx, hb, hml, hown, hts⟩ (ct_X5_appendFourBytes l g hfl (cs, mt) q1 (k_rn cs) (a2) h_q2) (cwV 1 hts gX7_feed_X5_appendFourBytes rfl rfl rfl (by decide +kernel) ⟨Nat.le_of_ble_eq_true rfl, Nat.le_of_ble_eq_true rfl⟩) hK hW hS (x_recv (i := (g.1 + 1)) (k := 5) (j := 0) hK hW ⟨⟨hfl, rfl⟩, by decide⟩ rfl (by decide)) rfl hl.1 (rest := []) rfl (Nat.le_of_ble_eq_true rfl) dX7_feed_32 ⟨Nat.le_of_ble_eq_true rfl, Nat.le_of_ble_eq_true rfl⟩) hS (fun H locs hW hS => ?_)
    have hW : World g (((kR cs q2 (k_rn cs)), mt)) H := hW
    refine lv_aload_n hx hb dX7_feed_35 rfl (lv_at hl 0 rfl) ?_
    refine x_get (i := g.1) (k := 7) (j := 0) (t := 0) hx hb hts i_7 hown hK hW ⟨⟨hfl, rfl⟩, by decide⟩ rfl ⟨by decide, by decide, rfl⟩ (hts (.fieldLink RX7 10 "OpticalJukebox" "reader" "LOpticalJukebox$TextReader;") (by decide +kernel)) (v := .ref (adr (g.1 + 1) 5 0)) rfl dX7_feed_36 ?_
    refine lv_iload_n hx hb dX7_feed_39 rfl (lv_at hl 3 rfl) ?_
    obtain ⟨q3, h_q3, hf⟩ := x_bindE hf
    refine x_cv0 (x_rV ⟨hx, hb, hml, hown, hts⟩ (ct_X5_appendFourBytes l g hfl (cs, mt) q2 (k_rn cs) (a3) h_q3) (cwV 1 hts gX7_feed_X5_appendFourBytes rfl rfl rfl (by decide +kernel) ⟨Nat.le_of_ble_eq_true rfl, Nat.le_of_ble_eq_true rfl⟩) hK hW hS (x_recv (i := (g.1 + 1)) (k := 5) (j := 0) hK hW ⟨⟨hfl, rfl⟩, by decide⟩ rfl (by decide)) rfl hl.1 (rest := []) rfl (Nat.le_of_ble_eq_true rfl) dX7_feed_40 ⟨Nat.le_of_ble_eq_true rfl, Nat.le_of_ble_eq_true rfl⟩) hS (fun H locs hW hS => ?_)
    have hW : World g (((kR cs q3 (k_rn cs)), mt)) H := hW
    refine lv_aload_n hx hb dX7_feed_43 rfl (lv_at hl 0 rfl) ?_
    refine x_get (i := g.1) (k := 7) (j := 0) (t := 0) hx hb hts i_7 hown hK hW ⟨⟨hfl, rfl⟩, by decide⟩ rfl ⟨by decide, by decide, rfl⟩ (hts (.fieldLink RX7 10 "OpticalJukebox" "reader" "LOpticalJukebox$TextReader;") (by decide +kernel)) (v := .ref (adr (g.1 + 1) 5 0)) rfl dX7_feed_44 ?_
    refine lv_iload hx hb dX7_feed_47 (lv_at hl 4 rfl) ?_
    obtain ⟨q4, h_q4, hf⟩ := x_bindE hf
    refine x_cv0 (x_rV ⟨hx, hb, hml, hown, hts⟩ (ct_X5_appendFourBytes l g hfl (cs, mt) q3 (k_rn cs) (a4) h_q4) (cwV 1 hts gX7_feed_X5_appendFourBytes rfl rfl rfl (by decide +kernel) ⟨Nat.le_of_ble_eq_true rfl, Nat.le_of_ble_eq_true rfl⟩) hK hW hS (x_recv (i := (g.1 + 1)) (k := 5) (j := 0) hK hW ⟨⟨hfl, rfl⟩, by decide⟩ rfl (by decide)) rfl hl.1 (rest := []) rfl (Nat.le_of_ble_eq_true rfl) dX7_feed_49 ⟨Nat.le_of_ble_eq_true rfl, Nat.le_of_ble_eq_true rfl⟩) hS (fun H locs hW hS => ?_)
    have hW : World g (((kR cs q4 (k_rn cs)), mt)) H := hW
    refine lv_aload_n hx hb dX7_feed_52 rfl (lv_at hl 0 rfl) ?_
    refine x_get (i := g.1) (k := 7) (j := 0) (t := 0) hx hb hts i_7 hown hK hW ⟨⟨hfl, rfl⟩, by decide⟩ rfl ⟨by decide, by decide, rfl⟩ (hts (.fieldLink RX7 10 "OpticalJukebox" "reader" "LOpticalJukebox$TextReader;") (by decide +kernel)) (v := .ref (adr (g.1 + 1) 5 0)) rfl dX7_feed_53 ?_
    refine lv_iload hx hb dX7_feed_56 (lv_at hl 5 rfl) ?_
    obtain ⟨q5, h_q5, hf⟩ := x_bindE hf
    refine x_cv0 (x_rV ⟨hx, hb, hml, hown, hts⟩ (ct_X5_appendFourBytes l g hfl (cs, mt) q4 (k_rn cs) (a5) h_q5) (cwV 1 hts gX7_feed_X5_appendFourBytes rfl rfl rfl (by decide +kernel) ⟨Nat.le_of_ble_eq_true rfl, Nat.le_of_ble_eq_true rfl⟩) hK hW hS (x_recv (i := (g.1 + 1)) (k := 5) (j := 0) hK hW ⟨⟨hfl, rfl⟩, by decide⟩ rfl (by decide)) rfl hl.1 (rest := []) rfl (Nat.le_of_ble_eq_true rfl) dX7_feed_58 ⟨Nat.le_of_ble_eq_true rfl, Nat.le_of_ble_eq_true rfl⟩) hS (fun H locs hW hS => ?_)
    have hW : World g (((kR cs q5 (k_rn cs)), mt)) H := hW
    refine lv_aload_n hx hb dX7_feed_61 rfl (lv_at hl 0 rfl) ?_
    refine x_get (i := g.1) (k := 7) (j := 0) (t := 0) hx hb hts i_7 hown hK hW ⟨⟨hfl, rfl⟩, by decide⟩ rfl ⟨by decide, by decide, rfl⟩ (hts (.fieldLink RX7 10 "OpticalJukebox" "reader" "LOpticalJukebox$TextReader;") (by decide +kernel)) (v := .ref (adr (g.1 + 1) 5 0)) rfl dX7_feed_62 ?_
    refine x_get (i := (g.1 + 1)) (k := 5) (j := 0) (t := 1) hx hb hts i_5 hown hK hW ⟨⟨hfl, rfl⟩, by decide⟩ rfl ⟨by decide, by decide, rfl⟩ (hts (.fieldLink RX7 37 "OpticalJukebox$TextReader" "fed" "I") (by decide +kernel)) (rfl) dX7_feed_65 ?_
    cases hf
    exact x_iret hx hb hr hlocks hK hW hS rfl dX7_feed_68
  · have hf := x_iteF hf hc
    refine lv_ldc (v := -1000003) hx hb hown (hts (.constant RX7 41 (-1000003)) (by decide +kernel)) dX7_feed_16 ?_
    cases hf
    exact x_iret hx hb hr hlocks hK hW hS rfl dX7_feed_18
abbrev rm_X7_errorKind : Room := { frames := 0, cells := 0, slots := 0, locals := 0 }
set_option maxRecDepth 100000 in
set_option maxHeartbeats 4000000 in
theorem ct_X7_errorKind (l : Launch) (g : GT) (hfl : 1 ≤ gf g) (cs : CT) (mt : MT) {q : Int32} (hf : f_X7_errorKind (k_jd cs)  = some q) : Met l yX7_errorKind wsX7_errorKind rm_X7_errorKind (cPre g ((cs, mt)) [.ref (adr g.1 7 0)]) (cQi g q ((cs, mt))) 0 0 (gA g) := by
  have i_7 : ∀ w ∈ u_ws RX7 TX7 9, w ∈ wsX7_errorKind := by decide +kernel
  refine x_met (by decide) rfl (Nat.le_of_ble_eq_true rfl) ?_
  intro p e s m below meth c hx hb hr hml hts hown hlocks hK hW hS ls hl
  have hown : s.vm.findClass RX7 = some m.cls := hown
  have hl : lv_has ls 1 [(0, .ref (adr g.1 7 0))] := hl
  rw [f_X7_errorKind] at hf
  refine lv_aload_n hx hb dX7_errorKind_0 rfl (lv_at hl 0 rfl) ?_
  refine x_get (i := g.1) (k := 7) (j := 0) (t := 1) hx hb hts i_7 hown hK hW ⟨⟨hfl, rfl⟩, by decide⟩ rfl ⟨by decide, by decide, rfl⟩ (hts (.fieldLink RX7 54 "OpticalJukebox" "latestErrorKind" "I") (by decide +kernel)) (rfl) dX7_errorKind_1 ?_
  cases hf
  exact x_iret hx hb hr hlocks hK hW hS rfl dX7_errorKind_4
abbrev rm_X7_errorPosition : Room := { frames := 0, cells := 0, slots := 0, locals := 0 }
set_option maxRecDepth 100000 in
set_option maxHeartbeats 4000000 in
theorem ct_X7_errorPosition (l : Launch) (g : GT) (hfl : 1 ≤ gf g) (cs : CT) (mt : MT) {q : Int32} (hf : f_X7_errorPosition (k_jd cs)  = some q) : Met l yX7_errorPosition wsX7_errorPosition rm_X7_errorPosition (cPre g ((cs, mt)) [.ref (adr g.1 7 0)]) (cQi g q ((cs, mt))) 0 0 (gA g) := by
  have i_7 : ∀ w ∈ u_ws RX7 TX7 9, w ∈ wsX7_errorPosition := by decide +kernel
  refine x_met (by decide) rfl (Nat.le_of_ble_eq_true rfl) ?_
  intro p e s m below meth c hx hb hr hml hts hown hlocks hK hW hS ls hl
  have hown : s.vm.findClass RX7 = some m.cls := hown
  have hl : lv_has ls 1 [(0, .ref (adr g.1 7 0))] := hl
  rw [f_X7_errorPosition] at hf
  refine lv_aload_n hx hb dX7_errorPosition_0 rfl (lv_at hl 0 rfl) ?_
  refine x_get (i := g.1) (k := 7) (j := 0) (t := 1) hx hb hts i_7 hown hK hW ⟨⟨hfl, rfl⟩, by decide⟩ rfl ⟨by decide, by decide, rfl⟩ (hts (.fieldLink RX7 54 "OpticalJukebox" "latestErrorKind" "I") (by decide +kernel)) (rfl) dX7_errorPosition_1 ?_
  refine lv_if_ne (tgt := 12) hx hb dX7_errorPosition_4 (by decide) (fun hc => ?_) (fun hc => ?_)
  · have hf := x_iteF hf hc
    refine lv_aload_n hx hb dX7_errorPosition_12 rfl (lv_at hl 0 rfl) ?_
    refine x_get (i := g.1) (k := 7) (j := 0) (t := 2) hx hb hts i_7 hown hK hW ⟨⟨hfl, rfl⟩, by decide⟩ rfl ⟨by decide, by decide, rfl⟩ (hts (.fieldLink RX7 60 "OpticalJukebox" "latestErrorPlace" "I") (by decide +kernel)) (rfl) dX7_errorPosition_13 ?_
    cases hf
    exact x_iret hx hb hr hlocks hK hW hS rfl dX7_errorPosition_16
  · have hf := x_iteT hf hc
    refine lv_ldc (v := -1000005) hx hb hown (hts (.constant RX7 73 (-1000005)) (by decide +kernel)) dX7_errorPosition_7 ?_
    refine lv_goto (tgt := 16) hx hb dX7_errorPosition_9 (by decide) ?_
    cases hf
    exact x_iret hx hb hr hlocks hK hW hS rfl dX7_errorPosition_16
abbrev rm_X7_homeSlot : Room := { frames := 1, cells := 0, slots := 0, locals := 21 }
set_option maxRecDepth 100000 in
set_option maxHeartbeats 4000000 in
theorem ct_X7_homeSlot (l : Launch) (g : GT) (hfl : 1 ≤ gf g) (cs : CT) (mt : MT) (a1 : Int32) {q : Int32} (hf : f_X7_homeSlot (k_xs cs (k_st cs)) a1 = some q) : Met l yX7_homeSlot wsX7_homeSlot rm_X7_homeSlot (cPre g ((cs, mt)) [.ref (adr g.1 7 0), .int a1]) (cQi g q ((cs, mt))) 0 0 (gA g) := by
  have i_3 : ∀ w ∈ u_ws RX3 TX3 9, w ∈ wsX7_homeSlot := by decide +kernel
  have i_4 : ∀ w ∈ u_ws RX4 TX4 18, w ∈ wsX7_homeSlot := by decide +kernel
  have i_7 : ∀ w ∈ u_ws RX7 TX7 9, w ∈ wsX7_homeSlot := by decide +kernel
  refine x_met (by decide) rfl (Nat.le_of_ble_eq_true rfl) ?_
  intro p e s m below meth c hx hb hr hml hts hown hlocks hK hW hS ls hl
  have hown : s.vm.findClass RX7 = some m.cls := hown
  have hl : lv_has ls 2 [(0, .ref (adr g.1 7 0)), (1, .int a1)] := hl
  rw [f_X7_homeSlot] at hf
  refine lv_aload_n hx hb dX7_homeSlot_0 rfl (lv_at hl 0 rfl) ?_
  refine x_get (i := g.1) (k := 7) (j := 0) (t := 3) hx hb hts i_7 hown hK hW ⟨⟨hfl, rfl⟩, by decide⟩ rfl ⟨by decide, by decide, rfl⟩ (hts (.fieldLink RX7 19 "OpticalJukebox" "state" "LOpticalJukebox$State;") (by decide +kernel)) (v := .ref (adr (k_st cs) 4 0)) rfl dX7_homeSlot_1 ?_
  refine lv_iload_n hx hb dX7_homeSlot_4 rfl (lv_at hl 1 rfl) ?_
  obtain ⟨q1, h_q1, hf⟩ := x_bindE hf
  refine x_ci0 (x_rV ⟨hx, hb, hml, hown, hts⟩ (ct_X4_hasPlatter l g (cs, mt) (k_st cs) hW.2.2.2.1 (k_xs cs (k_st cs)) (a1) h_q1) (cwV 1 hts gX7_homeSlot_X4_hasPlatter rfl rfl rfl (by decide +kernel) ⟨Nat.le_of_ble_eq_true rfl, Nat.le_of_ble_eq_true rfl⟩) hK (w_self_sd hW) hS (x_recv (i := (k_st cs)) (k := 4) (j := 0) hK hW ⟨hW.2.2.2.1, by decide⟩ rfl (by decide)) rfl hl.1 (rest := []) rfl (Nat.le_of_ble_eq_true rfl) dX7_homeSlot_5 ⟨Nat.le_of_ble_eq_true rfl, Nat.le_of_ble_eq_true rfl⟩) hS (fun H locs hW hS => ?_)
  have hW := w_unself_sd hW
  have hW : World g ((cs, mt)) H := hW
  refine W.eq (g2 := F0 m 8 ls [.int q1]) rfl ?_
  refine lv_if_eq (tgt := 26) hx hb dX7_homeSlot_8 (by decide) (fun hc => ?_) (fun hc => ?_)
  · have hf := x_iteT hf hc
    refine lv_ldc (v := -1000001) hx hb hown (hts (.constant RX7 87 (-1000001)) (by decide +kernel)) dX7_homeSlot_26 ?_
    cases hf
    exact x_iret hx hb hr hlocks hK hW hS rfl dX7_homeSlot_28
  · have hf := x_iteF hf hc
    refine lv_aload_n hx hb dX7_homeSlot_11 rfl (lv_at hl 0 rfl) ?_
    refine x_get (i := g.1) (k := 7) (j := 0) (t := 3) hx hb hts i_7 hown hK hW ⟨⟨hfl, rfl⟩, by decide⟩ rfl ⟨by decide, by decide, rfl⟩ (hts (.fieldLink RX7 19 "OpticalJukebox" "state" "LOpticalJukebox$State;") (by decide +kernel)) (v := .ref (adr (k_st cs) 4 0)) rfl dX7_homeSlot_12 ?_
    refine x_get (i := (k_st cs)) (k := 4) (j := 0) (t := 5) hx hb hts i_4 hown hK hW ⟨hW.2.2.2.1, by decide⟩ rfl ⟨by decide, by decide, rfl⟩ (hts (.fieldLink RX7 78 "OpticalJukebox$State" "platters" "[LOpticalJukebox$Platter;") (by decide +kernel)) (v := .ref (adr (k_st cs) 12 0)) rfl dX7_homeSlot_15 ?_
    refine lv_iload_n hx hb dX7_homeSlot_18 rfl (lv_at hl 1 rfl) ?_
    obtain ⟨hg2, hf⟩ := x_guardE hf
    refine x_aald (i := (k_st cs)) (k := 12) (j := 0) hx hb hK hW ⟨hW.2.2.2.1, by decide⟩ (by decide) rfl rfl hg2 dX7_homeSlot_19 ?_
    refine W.eq (g2 := F0 m 20 ls [.ref (adr (k_st cs) 3 (a1).toNatClampNeg)]) rfl ?_
    refine x_get (i := (k_st cs)) (k := 3) (j := (a1).toNatClampNeg) (t := 0) hx hb hts i_3 hown hK hW ⟨hW.2.2.2.1, (x_lt hg2)⟩ rfl ⟨by decide, by decide, rfl⟩ (hts (.fieldLink RX7 82 "OpticalJukebox$Platter" "home" "I") (by decide +kernel)) (rfl) dX7_homeSlot_20 ?_
    refine lv_goto (tgt := 28) hx hb dX7_homeSlot_23 (by decide) ?_
    cases hf
    exact x_iret hx hb hr hlocks hK hW hS rfl dX7_homeSlot_28
abbrev rm_X7_platterInSlot : Room := { frames := 1, cells := 0, slots := 0, locals := 22 }
set_option maxRecDepth 100000 in
set_option maxHeartbeats 4000000 in
theorem ct_X7_platterInSlot (l : Launch) (g : GT) (hfl : 1 ≤ gf g) (cs : CT) (mt : MT) (a1 : Int32) {q : Int32} (hf : f_X7_platterInSlot (k_xs cs (k_st cs)) a1 = some q) : Met l yX7_platterInSlot wsX7_platterInSlot rm_X7_platterInSlot (cPre g ((cs, mt)) [.ref (adr g.1 7 0), .int a1]) (cQi g q ((cs, mt))) 0 0 (gA g) := by
  have i_7 : ∀ w ∈ u_ws RX7 TX7 9, w ∈ wsX7_platterInSlot := by decide +kernel
  refine x_met (by decide) rfl (Nat.le_of_ble_eq_true rfl) ?_
  intro p e s m below meth c hx hb hr hml hts hown hlocks hK hW hS ls hl
  have hown : s.vm.findClass RX7 = some m.cls := hown
  have hl : lv_has ls 3 [(0, .ref (adr g.1 7 0)), (1, .int a1)] := hl
  rw [f_X7_platterInSlot] at hf
  refine lv_aload_n hx hb dX7_platterInSlot_0 rfl (lv_at hl 0 rfl) ?_
  refine x_get (i := g.1) (k := 7) (j := 0) (t := 3) hx hb hts i_7 hown hK hW ⟨⟨hfl, rfl⟩, by decide⟩ rfl ⟨by decide, by decide, rfl⟩ (hts (.fieldLink RX7 19 "OpticalJukebox" "state" "LOpticalJukebox$State;") (by decide +kernel)) (v := .ref (adr (k_st cs) 4 0)) rfl dX7_platterInSlot_1 ?_
  refine lv_iload_n hx hb dX7_platterInSlot_4 rfl (lv_at hl 1 rfl) ?_
  obtain ⟨q1, h_q1, hf⟩ := x_bindE hf
  refine x_ci0 (x_rV ⟨hx, hb, hml, hown, hts⟩ (ct_X4_hasSlot l g (cs, mt) (k_st cs) hW.2.2.2.1 (k_xs cs (k_st cs)) (a1) h_q1) (cwV 1 hts gX7_platterInSlot_X4_hasSlot rfl rfl rfl (by decide +kernel) ⟨Nat.le_of_ble_eq_true rfl, Nat.le_of_ble_eq_true rfl⟩) hK (w_self_sd hW) hS (x_recv (i := (k_st cs)) (k := 4) (j := 0) hK hW ⟨hW.2.2.2.1, by decide⟩ rfl (by decide)) rfl hl.1 (rest := []) rfl (Nat.le_of_ble_eq_true rfl) dX7_platterInSlot_5 ⟨Nat.le_of_ble_eq_true rfl, Nat.le_of_ble_eq_true rfl⟩) hS (fun H locs hW hS => ?_)
  have hW := w_unself_sd hW
  have hW : World g ((cs, mt)) H := hW
  refine W.eq (g2 := F0 m 8 ls [.int q1]) rfl ?_
  refine lv_if_ne (tgt := 14) hx hb dX7_platterInSlot_8 (by decide) (fun hc => ?_) (fun hc => ?_)
  · have hf := x_iteF hf hc
    refine lv_aload_n hx hb dX7_platterInSlot_14 rfl (lv_at hl 0 rfl) ?_
    refine x_get (i := g.1) (k := 7) (j := 0) (t := 3) hx hb hts i_7 hown hK hW ⟨⟨hfl, rfl⟩, by decide⟩ rfl ⟨by decide, by decide, rfl⟩ (hts (.fieldLink RX7 19 "OpticalJukebox" "state" "LOpticalJukebox$State;") (by decide +kernel)) (v := .ref (adr (k_st cs) 4 0)) rfl dX7_platterInSlot_15 ?_
    refine lv_iload_n hx hb dX7_platterInSlot_18 rfl (lv_at hl 1 rfl) ?_
    obtain ⟨q2, h_q2, hf⟩ := x_bindE hf
    refine x_ci0 (x_rV ⟨hx, hb, hml, hown, hts⟩ (ct_X4_platterWithHome l g (cs, mt) (k_st cs) hW.2.2.2.1 (k_xs cs (k_st cs)) (a1) h_q2) (cwV 1 hts gX7_platterInSlot_X4_platterWithHome rfl rfl rfl (by decide +kernel) ⟨Nat.le_of_ble_eq_true rfl, Nat.le_of_ble_eq_true rfl⟩) hK (w_self_sd hW) hS (x_recv (i := (k_st cs)) (k := 4) (j := 0) hK hW ⟨hW.2.2.2.1, by decide⟩ rfl (by decide)) rfl hl.1 (rest := []) rfl (Nat.le_of_ble_eq_true rfl) dX7_platterInSlot_19 ⟨Nat.le_of_ble_eq_true rfl, Nat.le_of_ble_eq_true rfl⟩) hS (fun H locs hW hS => ?_)
    have hW := w_unself_sd hW
    have hW : World g ((cs, mt)) H := hW
    refine W.eq (g2 := F0 m 22 ls [.int q2]) rfl ?_
    refine lv_istore_n (lv' := [(2, .int q2), (0, .ref (adr g.1 7 0)), (1, .int a1)]) hx hb dX7_platterInSlot_22 rfl hl (by decide) rfl (fun ls hl => ?_)
    refine lv_iload_n hx hb dX7_platterInSlot_23 rfl (lv_at hl 0 rfl) ?_
    refine lv_iconst (v := -1) hx hb dX7_platterInSlot_24 (by decide) ?_
    refine lv_icmp_eq (tgt := 40) hx hb dX7_platterInSlot_25 (by decide) (fun hc => ?_) (fun hc => ?_)
    · have hf := x_iteT hf hc
      refine lv_ldc (v := -1000005) hx hb hown (hts (.constant RX7 73 (-1000005)) (by decide +kernel)) dX7_platterInSlot_40 ?_
      refine lv_goto (tgt := 46) hx hb dX7_platterInSlot_42 (by decide) ?_
      cases hf
      exact x_iret hx hb hr hlocks hK hW hS rfl dX7_platterInSlot_46
    · have hf := x_iteF hf hc
      refine lv_aload_n hx hb dX7_platterInSlot_28 rfl (lv_at hl 1 rfl) ?_
      refine x_get (i := g.1) (k := 7) (j := 0) (t := 3) hx hb hts i_7 hown hK hW ⟨⟨hfl, rfl⟩, by decide⟩ rfl ⟨by decide, by decide, rfl⟩ (hts (.fieldLink RX7 19 "OpticalJukebox" "state" "LOpticalJukebox$State;") (by decide +kernel)) (v := .ref (adr (k_st cs) 4 0)) rfl dX7_platterInSlot_29 ?_
      refine lv_iload_n hx hb dX7_platterInSlot_32 rfl (lv_at hl 0 rfl) ?_
      obtain ⟨q3, h_q3, hf⟩ := x_bindE hf
      refine x_ci0 (x_rV ⟨hx, hb, hml, hown, hts⟩ (ct_X4_driveHolding l g (cs, mt) (k_st cs) hW.2.2.2.1 (k_xs cs (k_st cs)) (q2) h_q3) (cwV 1 hts gX7_platterInSlot_X4_driveHolding rfl rfl rfl (by decide +kernel) ⟨Nat.le_of_ble_eq_true rfl, Nat.le_of_ble_eq_true rfl⟩) hK (w_self_sd hW) hS (x_recv (i := (k_st cs)) (k := 4) (j := 0) hK hW ⟨hW.2.2.2.1, by decide⟩ rfl (by decide)) rfl hl.1 (rest := []) rfl (Nat.le_of_ble_eq_true rfl) dX7_platterInSlot_33 ⟨Nat.le_of_ble_eq_true rfl, Nat.le_of_ble_eq_true rfl⟩) hS (fun H locs hW hS => ?_)
      have hW := w_unself_sd hW
      have hW : World g ((cs, mt)) H := hW
      refine W.eq (g2 := F0 m 36 ls [.int q3]) rfl ?_
      refine lv_iconst (v := -1) hx hb dX7_platterInSlot_36 (by decide) ?_
      refine lv_icmp_eq (tgt := 45) hx hb dX7_platterInSlot_37 (by decide) (fun hc => ?_) (fun hc => ?_)
      · have hf := x_iteT hf hc
        refine lv_iload_n hx hb dX7_platterInSlot_45 rfl (lv_at hl 0 rfl) ?_
        cases hf
        exact x_iret hx hb hr hlocks hK hW hS rfl dX7_platterInSlot_46
      · have hf := x_iteF hf hc
        refine lv_ldc (v := -1000005) hx hb hown (hts (.constant RX7 73 (-1000005)) (by decide +kernel)) dX7_platterInSlot_40 ?_
        refine lv_goto (tgt := 46) hx hb dX7_platterInSlot_42 (by decide) ?_
        cases hf
        exact x_iret hx hb hr hlocks hK hW hS rfl dX7_platterInSlot_46
  · have hf := x_iteT hf hc
    refine lv_ldc (v := -1000001) hx hb hown (hts (.constant RX7 87 (-1000001)) (by decide +kernel)) dX7_platterInSlot_11 ?_
    cases hf
    exact x_iret hx hb hr hlocks hK hW hS rfl dX7_platterInSlot_13
abbrev rm_X7_foundOrNot : Room := { frames := 0, cells := 0, slots := 0, locals := 0 }
set_option maxRecDepth 100000 in
set_option maxHeartbeats 4000000 in
theorem ct_X7_foundOrNot (l : Launch) (g : GT) (w : WT) (a0 : Int32) {q : Int32} (hf : f_X7_foundOrNot  a0 = some q) : Met l yX7_foundOrNot wsX7_foundOrNot rm_X7_foundOrNot (cPre g (w) [.int a0]) (cQi g q (w)) 0 0 (gA g) := by
  refine x_met (by decide) rfl (Nat.le_of_ble_eq_true rfl) ?_
  intro p e s m below meth c hx hb hr hml hts hown hlocks hK hW hS ls hl
  have hown : s.vm.findClass RX7 = some m.cls := hown
  have hl : lv_has ls 1 [(0, .int a0)] := hl
  rw [f_X7_foundOrNot] at hf
  refine lv_iload_n hx hb dX7_foundOrNot_0 rfl (lv_at hl 0 rfl) ?_
  refine lv_iconst (v := -1) hx hb dX7_foundOrNot_1 (by decide) ?_
  refine lv_icmp_ne (tgt := 10) hx hb dX7_foundOrNot_2 (by decide) (fun hc => ?_) (fun hc => ?_)
  · have hf := x_iteF hf hc
    refine lv_iload_n hx hb dX7_foundOrNot_10 rfl (lv_at hl 0 rfl) ?_
    cases hf
    exact x_iret hx hb hr hlocks hK hW hS rfl dX7_foundOrNot_11
  · have hf := x_iteT hf hc
    refine lv_ldc (v := -1000005) hx hb hown (hts (.constant RX7 73 (-1000005)) (by decide +kernel)) dX7_foundOrNot_5 ?_
    refine lv_goto (tgt := 11) hx hb dX7_foundOrNot_7 (by decide) ?_
    cases hf
    exact x_iret hx hb hr hlocks hK hW hS rfl dX7_foundOrNot_11
abbrev rm_X7_driveOf : Room := { frames := 1, cells := 0, slots := 0, locals := 22 }
set_option maxRecDepth 100000 in
set_option maxHeartbeats 4000000 in
theorem ct_X7_driveOf (l : Launch) (g : GT) (hfl : 1 ≤ gf g) (cs : CT) (mt : MT) (a1 : Int32) {q : Int32} (hf : f_X7_driveOf (k_xs cs (k_st cs)) a1 = some q) : Met l yX7_driveOf wsX7_driveOf rm_X7_driveOf (cPre g ((cs, mt)) [.ref (adr g.1 7 0), .int a1]) (cQi g q ((cs, mt))) 0 0 (gA g) := by
  have i_7 : ∀ w ∈ u_ws RX7 TX7 9, w ∈ wsX7_driveOf := by decide +kernel
  refine x_met (by decide) rfl (Nat.le_of_ble_eq_true rfl) ?_
  intro p e s m below meth c hx hb hr hml hts hown hlocks hK hW hS ls hl
  have hown : s.vm.findClass RX7 = some m.cls := hown
  have hl : lv_has ls 2 [(0, .ref (adr g.1 7 0)), (1, .int a1)] := hl
  rw [f_X7_driveOf] at hf
  refine lv_aload_n hx hb dX7_driveOf_0 rfl (lv_at hl 0 rfl) ?_
  refine x_get (i := g.1) (k := 7) (j := 0) (t := 3) hx hb hts i_7 hown hK hW ⟨⟨hfl, rfl⟩, by decide⟩ rfl ⟨by decide, by decide, rfl⟩ (hts (.fieldLink RX7 19 "OpticalJukebox" "state" "LOpticalJukebox$State;") (by decide +kernel)) (v := .ref (adr (k_st cs) 4 0)) rfl dX7_driveOf_1 ?_
  refine lv_iload_n hx hb dX7_driveOf_4 rfl (lv_at hl 1 rfl) ?_
  obtain ⟨q1, h_q1, hf⟩ := x_bindE hf
  refine x_ci0 (x_rV ⟨hx, hb, hml, hown, hts⟩ (ct_X4_hasPlatter l g (cs, mt) (k_st cs) hW.2.2.2.1 (k_xs cs (k_st cs)) (a1) h_q1) (cwV 1 hts gX7_driveOf_X4_hasPlatter rfl rfl rfl (by decide +kernel) ⟨Nat.le_of_ble_eq_true rfl, Nat.le_of_ble_eq_true rfl⟩) hK (w_self_sd hW) hS (x_recv (i := (k_st cs)) (k := 4) (j := 0) hK hW ⟨hW.2.2.2.1, by decide⟩ rfl (by decide)) rfl hl.1 (rest := []) rfl (Nat.le_of_ble_eq_true rfl) dX7_driveOf_5 ⟨Nat.le_of_ble_eq_true rfl, Nat.le_of_ble_eq_true rfl⟩) hS (fun H locs hW hS => ?_)
  have hW := w_unself_sd hW
  have hW : World g ((cs, mt)) H := hW
  refine W.eq (g2 := F0 m 8 ls [.int q1]) rfl ?_
  refine lv_if_ne (tgt := 14) hx hb dX7_driveOf_8 (by decide) (fun hc => ?_) (fun hc => ?_)
  · have hf := x_iteF hf hc
    refine lv_aload_n hx hb dX7_driveOf_14 rfl (lv_at hl 0 rfl) ?_
    refine x_get (i := g.1) (k := 7) (j := 0) (t := 3) hx hb hts i_7 hown hK hW ⟨⟨hfl, rfl⟩, by decide⟩ rfl ⟨by decide, by decide, rfl⟩ (hts (.fieldLink RX7 19 "OpticalJukebox" "state" "LOpticalJukebox$State;") (by decide +kernel)) (v := .ref (adr (k_st cs) 4 0)) rfl dX7_driveOf_15 ?_
    refine lv_iload_n hx hb dX7_driveOf_18 rfl (lv_at hl 1 rfl) ?_
    obtain ⟨q2, h_q2, hf⟩ := x_bindE hf
    refine x_ci0 (x_rV ⟨hx, hb, hml, hown, hts⟩ (ct_X4_driveHolding l g (cs, mt) (k_st cs) hW.2.2.2.1 (k_xs cs (k_st cs)) (a1) h_q2) (cwV 1 hts gX7_driveOf_X4_driveHolding rfl rfl rfl (by decide +kernel) ⟨Nat.le_of_ble_eq_true rfl, Nat.le_of_ble_eq_true rfl⟩) hK (w_self_sd hW) hS (x_recv (i := (k_st cs)) (k := 4) (j := 0) hK hW ⟨hW.2.2.2.1, by decide⟩ rfl (by decide)) rfl hl.1 (rest := []) rfl (Nat.le_of_ble_eq_true rfl) dX7_driveOf_19 ⟨Nat.le_of_ble_eq_true rfl, Nat.le_of_ble_eq_true rfl⟩) hS (fun H locs hW hS => ?_)
    have hW := w_unself_sd hW
    have hW : World g ((cs, mt)) H := hW
    refine W.eq (g2 := F0 m 22 ls [.int q2]) rfl ?_
    obtain ⟨q3, h_q3, hf⟩ := x_bindE hf
    refine x_ci0 (x_rS ⟨hx, hb, hml, hown, hts⟩ (ct_X7_foundOrNot l g ((cs, mt)) (q2) h_q3) (va_cwS 1 hts gX7_driveOf_X7_foundOrNot rfl rfl rfl (by decide +kernel) ⟨Nat.le_of_ble_eq_true rfl, Nat.le_of_ble_eq_true rfl⟩) hK hW hS rfl hl.1 (rest := []) rfl (Nat.le_of_ble_eq_true rfl) dX7_driveOf_22 ⟨Nat.le_of_ble_eq_true rfl, Nat.le_of_ble_eq_true rfl⟩) hS (fun H locs hW hS => ?_)
    have hW : World g ((cs, mt)) H := hW
    refine W.eq (g2 := F0 m 25 ls [.int q3]) rfl ?_
    cases hf
    exact x_iret hx hb hr hlocks hK hW hS rfl dX7_driveOf_25
  · have hf := x_iteT hf hc
    refine lv_ldc (v := -1000001) hx hb hown (hts (.constant RX7 87 (-1000001)) (by decide +kernel)) dX7_driveOf_11 ?_
    cases hf
    exact x_iret hx hb hr hlocks hK hW hS rfl dX7_driveOf_13
abbrev rm_X7_platterInDrive : Room := { frames := 1, cells := 0, slots := 0, locals := 21 }
set_option maxRecDepth 100000 in
set_option maxHeartbeats 4000000 in
theorem ct_X7_platterInDrive (l : Launch) (g : GT) (hfl : 1 ≤ gf g) (cs : CT) (mt : MT) (a1 : Int32) {q : Int32} (hf : f_X7_platterInDrive (k_xs cs (k_st cs)) a1 = some q) : Met l yX7_platterInDrive wsX7_platterInDrive rm_X7_platterInDrive (cPre g ((cs, mt)) [.ref (adr g.1 7 0), .int a1]) (cQi g q ((cs, mt))) 0 0 (gA g) := by
  have i_0 : ∀ w ∈ u_ws RX0 TX0 3, w ∈ wsX7_platterInDrive := by decide +kernel
  have i_4 : ∀ w ∈ u_ws RX4 TX4 18, w ∈ wsX7_platterInDrive := by decide +kernel
  have i_7 : ∀ w ∈ u_ws RX7 TX7 9, w ∈ wsX7_platterInDrive := by decide +kernel
  refine x_met (by decide) rfl (Nat.le_of_ble_eq_true rfl) ?_
  intro p e s m below meth c hx hb hr hml hts hown hlocks hK hW hS ls hl
  have hown : s.vm.findClass RX7 = some m.cls := hown
  have hl : lv_has ls 2 [(0, .ref (adr g.1 7 0)), (1, .int a1)] := hl
  rw [f_X7_platterInDrive] at hf
  refine lv_aload_n hx hb dX7_platterInDrive_0 rfl (lv_at hl 0 rfl) ?_
  refine x_get (i := g.1) (k := 7) (j := 0) (t := 3) hx hb hts i_7 hown hK hW ⟨⟨hfl, rfl⟩, by decide⟩ rfl ⟨by decide, by decide, rfl⟩ (hts (.fieldLink RX7 19 "OpticalJukebox" "state" "LOpticalJukebox$State;") (by decide +kernel)) (v := .ref (adr (k_st cs) 4 0)) rfl dX7_platterInDrive_1 ?_
  refine lv_iload_n hx hb dX7_platterInDrive_4 rfl (lv_at hl 1 rfl) ?_
  obtain ⟨q1, h_q1, hf⟩ := x_bindE hf
  refine x_ci0 (x_rV ⟨hx, hb, hml, hown, hts⟩ (ct_X4_hasDrive l g (cs, mt) (k_st cs) hW.2.2.2.1 (k_xs cs (k_st cs)) (a1) h_q1) (cwV 1 hts gX7_platterInDrive_X4_hasDrive rfl rfl rfl (by decide +kernel) ⟨Nat.le_of_ble_eq_true rfl, Nat.le_of_ble_eq_true rfl⟩) hK (w_self_sd hW) hS (x_recv (i := (k_st cs)) (k := 4) (j := 0) hK hW ⟨hW.2.2.2.1, by decide⟩ rfl (by decide)) rfl hl.1 (rest := []) rfl (Nat.le_of_ble_eq_true rfl) dX7_platterInDrive_5 ⟨Nat.le_of_ble_eq_true rfl, Nat.le_of_ble_eq_true rfl⟩) hS (fun H locs hW hS => ?_)
  have hW := w_unself_sd hW
  have hW : World g ((cs, mt)) H := hW
  refine W.eq (g2 := F0 m 8 ls [.int q1]) rfl ?_
  refine lv_if_eq (tgt := 29) hx hb dX7_platterInDrive_8 (by decide) (fun hc => ?_) (fun hc => ?_)
  · have hf := x_iteT hf hc
    refine lv_ldc (v := -1000001) hx hb hown (hts (.constant RX7 87 (-1000001)) (by decide +kernel)) dX7_platterInDrive_29 ?_
    cases hf
    exact x_iret hx hb hr hlocks hK hW hS rfl dX7_platterInDrive_31
  · have hf := x_iteF hf hc
    refine lv_aload_n hx hb dX7_platterInDrive_11 rfl (lv_at hl 0 rfl) ?_
    refine x_get (i := g.1) (k := 7) (j := 0) (t := 3) hx hb hts i_7 hown hK hW ⟨⟨hfl, rfl⟩, by decide⟩ rfl ⟨by decide, by decide, rfl⟩ (hts (.fieldLink RX7 19 "OpticalJukebox" "state" "LOpticalJukebox$State;") (by decide +kernel)) (v := .ref (adr (k_st cs) 4 0)) rfl dX7_platterInDrive_12 ?_
    refine x_get (i := (k_st cs)) (k := 4) (j := 0) (t := 2) hx hb hts i_4 hown hK hW ⟨hW.2.2.2.1, by decide⟩ rfl ⟨by decide, by decide, rfl⟩ (hts (.fieldLink RX7 104 "OpticalJukebox$State" "drives" "[LOpticalJukebox$Drive;") (by decide +kernel)) (v := .ref (adr (k_st cs) 11 0)) rfl dX7_platterInDrive_15 ?_
    refine lv_iload_n hx hb dX7_platterInDrive_18 rfl (lv_at hl 1 rfl) ?_
    obtain ⟨hg2, hf⟩ := x_guardE hf
    refine x_aald (i := (k_st cs)) (k := 11) (j := 0) hx hb hK hW ⟨hW.2.2.2.1, by decide⟩ (by decide) rfl rfl hg2 dX7_platterInDrive_19 ?_
    refine W.eq (g2 := F0 m 20 ls [.ref (adr (k_st cs) 0 (a1).toNatClampNeg)]) rfl ?_
    refine x_get (i := (k_st cs)) (k := 0) (j := (a1).toNatClampNeg) (t := 1) hx hb hts i_0 hown hK hW ⟨hW.2.2.2.1, (x_lt hg2)⟩ rfl ⟨by decide, by decide, rfl⟩ (hts (.fieldLink RX7 108 "OpticalJukebox$Drive" "platter" "I") (by decide +kernel)) (rfl) dX7_platterInDrive_20 ?_
    obtain ⟨q3, h_q3, hf⟩ := x_bindE hf
    refine x_ci0 (x_rS ⟨hx, hb, hml, hown, hts⟩ (ct_X7_foundOrNot l g ((cs, mt)) (((k_xs cs (k_st cs)) 0 (a1).toNatClampNeg 1)) h_q3) (va_cwS 1 hts gX7_platterInDrive_X7_foundOrNot rfl rfl rfl (by decide +kernel) ⟨Nat.le_of_ble_eq_true rfl, Nat.le_of_ble_eq_true rfl⟩) hK hW hS rfl hl.1 (rest := []) rfl (Nat.le_of_ble_eq_true rfl) dX7_platterInDrive_23 ⟨Nat.le_of_ble_eq_true rfl, Nat.le_of_ble_eq_true rfl⟩) hS (fun H locs hW hS => ?_)
    have hW : World g ((cs, mt)) H := hW
    refine W.eq (g2 := F0 m 26 ls [.int q3]) rfl ?_
    refine lv_goto (tgt := 31) hx hb dX7_platterInDrive_26 (by decide) ?_
    cases hf
    exact x_iret hx hb hr hlocks hK hW hS rfl dX7_platterInDrive_31
abbrev rm_X7_pickerPosition : Room := { frames := 0, cells := 0, slots := 0, locals := 0 }
set_option maxRecDepth 100000 in
set_option maxHeartbeats 4000000 in
theorem ct_X7_pickerPosition (l : Launch) (g : GT) (hfl : 1 ≤ gf g) (cs : CT) (mt : MT) {q : Int32} (hf : f_X7_pickerPosition (k_xs cs (k_st cs))  = some q) : Met l yX7_pickerPosition wsX7_pickerPosition rm_X7_pickerPosition (cPre g ((cs, mt)) [.ref (adr g.1 7 0)]) (cQi g q ((cs, mt))) 0 0 (gA g) := by
  have i_4 : ∀ w ∈ u_ws RX4 TX4 18, w ∈ wsX7_pickerPosition := by decide +kernel
  have i_7 : ∀ w ∈ u_ws RX7 TX7 9, w ∈ wsX7_pickerPosition := by decide +kernel
  refine x_met (by decide) rfl (Nat.le_of_ble_eq_true rfl) ?_
  intro p e s m below meth c hx hb hr hml hts hown hlocks hK hW hS ls hl
  have hown : s.vm.findClass RX7 = some m.cls := hown
  have hl : lv_has ls 1 [(0, .ref (adr g.1 7 0))] := hl
  rw [f_X7_pickerPosition] at hf
  refine lv_aload_n hx hb dX7_pickerPosition_0 rfl (lv_at hl 0 rfl) ?_
  refine x_get (i := g.1) (k := 7) (j := 0) (t := 3) hx hb hts i_7 hown hK hW ⟨⟨hfl, rfl⟩, by decide⟩ rfl ⟨by decide, by decide, rfl⟩ (hts (.fieldLink RX7 19 "OpticalJukebox" "state" "LOpticalJukebox$State;") (by decide +kernel)) (v := .ref (adr (k_st cs) 4 0)) rfl dX7_pickerPosition_1 ?_
  refine x_get (i := (k_st cs)) (k := 4) (j := 0) (t := 14) hx hb hts i_4 hown hK hW ⟨hW.2.2.2.1, by decide⟩ rfl ⟨by decide, by decide, rfl⟩ (hts (.fieldLink RX7 113 "OpticalJukebox$State" "picker" "I") (by decide +kernel)) (rfl) dX7_pickerPosition_4 ?_
  cases hf
  exact x_iret hx hb hr hlocks hK hW hS rfl dX7_pickerPosition_7
abbrev rm_X7_clock : Room := { frames := 0, cells := 0, slots := 0, locals := 0 }
set_option maxRecDepth 100000 in
set_option maxHeartbeats 4000000 in
theorem ct_X7_clock (l : Launch) (g : GT) (hfl : 1 ≤ gf g) (cs : CT) (mt : MT) {q : Int32} (hf : f_X7_clock (k_xs cs (k_st cs))  = some q) : Met l yX7_clock wsX7_clock rm_X7_clock (cPre g ((cs, mt)) [.ref (adr g.1 7 0)]) (cQi g q ((cs, mt))) 0 0 (gA g) := by
  have i_4 : ∀ w ∈ u_ws RX4 TX4 18, w ∈ wsX7_clock := by decide +kernel
  have i_7 : ∀ w ∈ u_ws RX7 TX7 9, w ∈ wsX7_clock := by decide +kernel
  refine x_met (by decide) rfl (Nat.le_of_ble_eq_true rfl) ?_
  intro p e s m below meth c hx hb hr hml hts hown hlocks hK hW hS ls hl
  have hown : s.vm.findClass RX7 = some m.cls := hown
  have hl : lv_has ls 1 [(0, .ref (adr g.1 7 0))] := hl
  rw [f_X7_clock] at hf
  refine lv_aload_n hx hb dX7_clock_0 rfl (lv_at hl 0 rfl) ?_
  refine x_get (i := g.1) (k := 7) (j := 0) (t := 3) hx hb hts i_7 hown hK hW ⟨⟨hfl, rfl⟩, by decide⟩ rfl ⟨by decide, by decide, rfl⟩ (hts (.fieldLink RX7 19 "OpticalJukebox" "state" "LOpticalJukebox$State;") (by decide +kernel)) (v := .ref (adr (k_st cs) 4 0)) rfl dX7_clock_1 ?_
  refine x_get (i := (k_st cs)) (k := 4) (j := 0) (t := 15) hx hb hts i_4 hown hK hW ⟨hW.2.2.2.1, by decide⟩ rfl ⟨by decide, by decide, rfl⟩ (hts (.fieldLink RX7 116 "OpticalJukebox$State" "clock" "I") (by decide +kernel)) (rfl) dX7_clock_4 ?_
  cases hf
  exact x_iret hx hb hr hlocks hK hW hS rfl dX7_clock_7
abbrev rm_X7_exchanges : Room := { frames := 0, cells := 0, slots := 0, locals := 0 }
set_option maxRecDepth 100000 in
set_option maxHeartbeats 4000000 in
theorem ct_X7_exchanges (l : Launch) (g : GT) (hfl : 1 ≤ gf g) (cs : CT) (mt : MT) {q : Int32} (hf : f_X7_exchanges (k_xs cs (k_st cs))  = some q) : Met l yX7_exchanges wsX7_exchanges rm_X7_exchanges (cPre g ((cs, mt)) [.ref (adr g.1 7 0)]) (cQi g q ((cs, mt))) 0 0 (gA g) := by
  have i_4 : ∀ w ∈ u_ws RX4 TX4 18, w ∈ wsX7_exchanges := by decide +kernel
  have i_7 : ∀ w ∈ u_ws RX7 TX7 9, w ∈ wsX7_exchanges := by decide +kernel
  refine x_met (by decide) rfl (Nat.le_of_ble_eq_true rfl) ?_
  intro p e s m below meth c hx hb hr hml hts hown hlocks hK hW hS ls hl
  have hown : s.vm.findClass RX7 = some m.cls := hown
  have hl : lv_has ls 1 [(0, .ref (adr g.1 7 0))] := hl
  rw [f_X7_exchanges] at hf
  refine lv_aload_n hx hb dX7_exchanges_0 rfl (lv_at hl 0 rfl) ?_
  refine x_get (i := g.1) (k := 7) (j := 0) (t := 3) hx hb hts i_7 hown hK hW ⟨⟨hfl, rfl⟩, by decide⟩ rfl ⟨by decide, by decide, rfl⟩ (hts (.fieldLink RX7 19 "OpticalJukebox" "state" "LOpticalJukebox$State;") (by decide +kernel)) (v := .ref (adr (k_st cs) 4 0)) rfl dX7_exchanges_1 ?_
  refine x_get (i := (k_st cs)) (k := 4) (j := 0) (t := 16) hx hb hts i_4 hown hK hW ⟨hW.2.2.2.1, by decide⟩ rfl ⟨by decide, by decide, rfl⟩ (hts (.fieldLink RX7 119 "OpticalJukebox$State" "exchanges" "I") (by decide +kernel)) (rfl) dX7_exchanges_4 ?_
  cases hf
  exact x_iret hx hb hr hlocks hK hW hS rfl dX7_exchanges_7
abbrev rm_X7_travel : Room := { frames := 0, cells := 0, slots := 0, locals := 0 }
set_option maxRecDepth 100000 in
set_option maxHeartbeats 4000000 in
theorem ct_X7_travel (l : Launch) (g : GT) (hfl : 1 ≤ gf g) (cs : CT) (mt : MT) {q : Int32} (hf : f_X7_travel (k_xs cs (k_st cs))  = some q) : Met l yX7_travel wsX7_travel rm_X7_travel (cPre g ((cs, mt)) [.ref (adr g.1 7 0)]) (cQi g q ((cs, mt))) 0 0 (gA g) := by
  have i_4 : ∀ w ∈ u_ws RX4 TX4 18, w ∈ wsX7_travel := by decide +kernel
  have i_7 : ∀ w ∈ u_ws RX7 TX7 9, w ∈ wsX7_travel := by decide +kernel
  refine x_met (by decide) rfl (Nat.le_of_ble_eq_true rfl) ?_
  intro p e s m below meth c hx hb hr hml hts hown hlocks hK hW hS ls hl
  have hown : s.vm.findClass RX7 = some m.cls := hown
  have hl : lv_has ls 1 [(0, .ref (adr g.1 7 0))] := hl
  rw [f_X7_travel] at hf
  refine lv_aload_n hx hb dX7_travel_0 rfl (lv_at hl 0 rfl) ?_
  refine x_get (i := g.1) (k := 7) (j := 0) (t := 3) hx hb hts i_7 hown hK hW ⟨⟨hfl, rfl⟩, by decide⟩ rfl ⟨by decide, by decide, rfl⟩ (hts (.fieldLink RX7 19 "OpticalJukebox" "state" "LOpticalJukebox$State;") (by decide +kernel)) (v := .ref (adr (k_st cs) 4 0)) rfl dX7_travel_1 ?_
  refine x_get (i := (k_st cs)) (k := 4) (j := 0) (t := 17) hx hb hts i_4 hown hK hW ⟨hW.2.2.2.1, by decide⟩ rfl ⟨by decide, by decide, rfl⟩ (hts (.fieldLink RX7 122 "OpticalJukebox$State" "travel" "I") (by decide +kernel)) (rfl) dX7_travel_4 ?_
  cases hf
  exact x_iret hx hb hr hlocks hK hW hS rfl dX7_travel_7
abbrev rm_X7_mountProblem : Room := { frames := 1, cells := 0, slots := 0, locals := 21 }
set_option maxRecDepth 100000 in
set_option maxHeartbeats 4000000 in
theorem ct_X7_mountProblem (l : Launch) (g : GT) (hfl : 1 ≤ gf g) (cs : CT) (mt : MT) (a1 : Int32) {q : Int32} (hf : f_X7_mountProblem (k_xs cs (k_st cs)) a1 = some q) : Met l yX7_mountProblem wsX7_mountProblem rm_X7_mountProblem (cPre g ((cs, mt)) [.ref (adr g.1 7 0), .int a1]) (cQi g q ((cs, mt))) 0 0 (gA g) := by
  have i_4 : ∀ w ∈ u_ws RX4 TX4 18, w ∈ wsX7_mountProblem := by decide +kernel
  have i_7 : ∀ w ∈ u_ws RX7 TX7 9, w ∈ wsX7_mountProblem := by decide +kernel
  refine x_met (by decide) rfl (Nat.le_of_ble_eq_true rfl) ?_
  intro p e s m below meth c hx hb hr hml hts hown hlocks hK hW hS ls hl
  have hown : s.vm.findClass RX7 = some m.cls := hown
  have hl : lv_has ls 2 [(0, .ref (adr g.1 7 0)), (1, .int a1)] := hl
  rw [f_X7_mountProblem] at hf
  refine lv_aload_n hx hb dX7_mountProblem_0 rfl (lv_at hl 0 rfl) ?_
  refine x_get (i := g.1) (k := 7) (j := 0) (t := 3) hx hb hts i_7 hown hK hW ⟨⟨hfl, rfl⟩, by decide⟩ rfl ⟨by decide, by decide, rfl⟩ (hts (.fieldLink RX7 19 "OpticalJukebox" "state" "LOpticalJukebox$State;") (by decide +kernel)) (v := .ref (adr (k_st cs) 4 0)) rfl dX7_mountProblem_1 ?_
  refine lv_iload_n hx hb dX7_mountProblem_4 rfl (lv_at hl 1 rfl) ?_
  obtain ⟨q1, h_q1, hf⟩ := x_bindE hf
  refine x_ci0 (x_rV ⟨hx, hb, hml, hown, hts⟩ (ct_X4_hasPlatter l g (cs, mt) (k_st cs) hW.2.2.2.1 (k_xs cs (k_st cs)) (a1) h_q1) (cwV 1 hts gX7_mountProblem_X4_hasPlatter rfl rfl rfl (by decide +kernel) ⟨Nat.le_of_ble_eq_true rfl, Nat.le_of_ble_eq_true rfl⟩) hK (w_self_sd hW) hS (x_recv (i := (k_st cs)) (k := 4) (j := 0) hK hW ⟨hW.2.2.2.1, by decide⟩ rfl (by decide)) rfl hl.1 (rest := []) rfl (Nat.le_of_ble_eq_true rfl) dX7_mountProblem_5 ⟨Nat.le_of_ble_eq_true rfl, Nat.le_of_ble_eq_true rfl⟩) hS (fun H locs hW hS => ?_)
  have hW := w_unself_sd hW
  have hW : World g ((cs, mt)) H := hW
  refine W.eq (g2 := F0 m 8 ls [.int q1]) rfl ?_
  refine lv_if_ne (tgt := 14) hx hb dX7_mountProblem_8 (by decide) (fun hc => ?_) (fun hc => ?_)
  · have hf := x_iteF hf hc
    refine lv_aload_n hx hb dX7_mountProblem_14 rfl (lv_at hl 0 rfl) ?_
    refine x_get (i := g.1) (k := 7) (j := 0) (t := 3) hx hb hts i_7 hown hK hW ⟨⟨hfl, rfl⟩, by decide⟩ rfl ⟨by decide, by decide, rfl⟩ (hts (.fieldLink RX7 19 "OpticalJukebox" "state" "LOpticalJukebox$State;") (by decide +kernel)) (v := .ref (adr (k_st cs) 4 0)) rfl dX7_mountProblem_15 ?_
    refine x_get (i := (k_st cs)) (k := 4) (j := 0) (t := 3) hx hb hts i_4 hown hK hW ⟨hW.2.2.2.1, by decide⟩ rfl ⟨by decide, by decide, rfl⟩ (hts (.fieldLink RX7 134 "OpticalJukebox$State" "driveCount" "I") (by decide +kernel)) (rfl) dX7_mountProblem_18 ?_
    refine lv_if_ne (tgt := 29) hx hb dX7_mountProblem_21 (by decide) (fun hc => ?_) (fun hc => ?_)
    · have hf := x_iteF hf hc
      refine lv_iconst (v := 0) hx hb dX7_mountProblem_29 (by decide) ?_
      cases hf
      exact x_iret hx hb hr hlocks hK hW hS rfl dX7_mountProblem_30
    · have hf := x_iteT hf hc
      refine lv_ldc (v := -1000007) hx hb hown (hts (.constant RX7 137 (-1000007)) (by decide +kernel)) dX7_mountProblem_24 ?_
      refine lv_goto (tgt := 30) hx hb dX7_mountProblem_26 (by decide) ?_
      cases hf
      exact x_iret hx hb hr hlocks hK hW hS rfl dX7_mountProblem_30
  · have hf := x_iteT hf hc
    refine lv_ldc (v := -1000001) hx hb hown (hts (.constant RX7 87 (-1000001)) (by decide +kernel)) dX7_mountProblem_11 ?_
    cases hf
    exact x_iret hx hb hr hlocks hK hW hS rfl dX7_mountProblem_13
abbrev rm_X7_chosenDrive : Room := { frames := 2, cells := 0, slots := 0, locals := 47 }
set_option maxRecDepth 100000 in
set_option maxHeartbeats 4000000 in
theorem ct_X7_chosenDrive (l : Launch) (g : GT) (hfl : 1 ≤ gf g) (cs : CT) (mt : MT) (a1 : Int32) {q : Int32} (hf : f_X7_chosenDrive (k_xs cs (k_st cs)) a1 = some q) : Met l yX7_chosenDrive wsX7_chosenDrive rm_X7_chosenDrive (cPre g ((cs, mt)) [.ref (adr g.1 7 0), .int a1]) (cQi g q ((cs, mt))) 0 0 (gA g) := by
  have i_7 : ∀ w ∈ u_ws RX7 TX7 9, w ∈ wsX7_chosenDrive := by decide +kernel
  refine x_met (by decide) rfl (Nat.le_of_ble_eq_true rfl) ?_
  intro p e s m below meth c hx hb hr hml hts hown hlocks hK hW hS ls hl
  have hown : s.vm.findClass RX7 = some m.cls := hown
  have hl : lv_has ls 3 [(0, .ref (adr g.1 7 0)), (1, .int a1)] := hl
  rw [f_X7_chosenDrive] at hf
  refine lv_aload_n hx hb dX7_chosenDrive_0 rfl (lv_at hl 0 rfl) ?_
  refine lv_iload_n hx hb dX7_chosenDrive_1 rfl (lv_at hl 1 rfl) ?_
  obtain ⟨q1, h_q1, hf⟩ := x_bindE hf
  refine x_ci0 (x_rV ⟨hx, hb, hml, hown, hts⟩ (ct_X7_mountProblem l g hfl cs mt (a1) h_q1) (cwV 1 hts gX7_chosenDrive_X7_mountProblem rfl rfl rfl (by decide +kernel) ⟨Nat.le_of_ble_eq_true rfl, Nat.le_of_ble_eq_true rfl⟩) hK hW hS (x_recv (i := g.1) (k := 7) (j := 0) hK hW ⟨⟨hfl, rfl⟩, by decide⟩ rfl (by decide)) rfl hl.1 (rest := []) rfl (Nat.le_of_ble_eq_true rfl) dX7_chosenDrive_2 ⟨Nat.le_of_ble_eq_true rfl, Nat.le_of_ble_eq_true rfl⟩) hS (fun H locs hW hS => ?_)
  have hW : World g ((cs, mt)) H := hW
  refine W.eq (g2 := F0 m 5 ls [.int q1]) rfl ?_
  refine lv_istore_n (lv' := [(2, .int q1), (0, .ref (adr g.1 7 0)), (1, .int a1)]) hx hb dX7_chosenDrive_5 rfl hl (by decide) rfl (fun ls hl => ?_)
  refine lv_iload_n hx hb dX7_chosenDrive_6 rfl (lv_at hl 0 rfl) ?_
  refine lv_if_eq (tgt := 14) hx hb dX7_chosenDrive_7 (by decide) (fun hc => ?_) (fun hc => ?_)
  · have hf := x_iteT hf hc
    refine lv_aload_n hx hb dX7_chosenDrive_14 rfl (lv_at hl 1 rfl) ?_
    refine x_get (i := g.1) (k := 7) (j := 0) (t := 3) hx hb hts i_7 hown hK hW ⟨⟨hfl, rfl⟩, by decide⟩ rfl ⟨by decide, by decide, rfl⟩ (hts (.fieldLink RX7 19 "OpticalJukebox" "state" "LOpticalJukebox$State;") (by decide +kernel)) (v := .ref (adr (k_st cs) 4 0)) rfl dX7_chosenDrive_15 ?_
    refine lv_iload_n hx hb dX7_chosenDrive_18 rfl (lv_at hl 2 rfl) ?_
    obtain ⟨q2, h_q2, hf⟩ := x_bindE hf
    refine x_ci0 (x_rV ⟨hx, hb, hml, hown, hts⟩ (ct_X4_driveToChoose l g (cs, mt) (k_st cs) hW.2.2.2.1 (k_xs cs (k_st cs)) (a1) h_q2) (cwV 1 hts gX7_chosenDrive_X4_driveToChoose rfl rfl rfl (by decide +kernel) ⟨Nat.le_of_ble_eq_true rfl, Nat.le_of_ble_eq_true rfl⟩) hK (w_self_sd hW) hS (x_recv (i := (k_st cs)) (k := 4) (j := 0) hK hW ⟨hW.2.2.2.1, by decide⟩ rfl (by decide)) rfl hl.1 (rest := []) rfl (Nat.le_of_ble_eq_true rfl) dX7_chosenDrive_19 ⟨Nat.le_of_ble_eq_true rfl, Nat.le_of_ble_eq_true rfl⟩) hS (fun H locs hW hS => ?_)
    have hW := w_unself_sd hW
    have hW : World g ((cs, mt)) H := hW
    refine W.eq (g2 := F0 m 22 ls [.int q2]) rfl ?_
    cases hf
    exact x_iret hx hb hr hlocks hK hW hS rfl dX7_chosenDrive_22
  · have hf := x_iteF hf hc
    refine lv_iload_n hx hb dX7_chosenDrive_10 rfl (lv_at hl 0 rfl) ?_
    refine lv_goto (tgt := 22) hx hb dX7_chosenDrive_11 (by decide) ?_
    cases hf
    exact x_iret hx hb hr hlocks hK hW hS rfl dX7_chosenDrive_22
abbrev rm_X7_mountTime : Room := { frames := 4, cells := 0, slots := 0, locals := 94 }
set_option maxRecDepth 100000 in
set_option maxHeartbeats 4000000 in
theorem ct_X7_mountTime (l : Launch) (g : GT) (hfl : 1 ≤ gf g) (cs : CT) (mt : MT) (a1 : Int32) {q : Int32} (hf : f_X7_mountTime (k_xs cs (k_st cs)) a1 = some q) : Met l yX7_mountTime wsX7_mountTime rm_X7_mountTime (cPre g ((cs, mt)) [.ref (adr g.1 7 0), .int a1]) (cQi g q ((cs, mt))) 0 0 (gA g) := by
  have i_7 : ∀ w ∈ u_ws RX7 TX7 9, w ∈ wsX7_mountTime := by decide +kernel
  refine x_met (by decide) rfl (Nat.le_of_ble_eq_true rfl) ?_
  intro p e s m below meth c hx hb hr hml hts hown hlocks hK hW hS ls hl
  have hown : s.vm.findClass RX7 = some m.cls := hown
  have hl : lv_has ls 3 [(0, .ref (adr g.1 7 0)), (1, .int a1)] := hl
  rw [f_X7_mountTime] at hf
  refine lv_aload_n hx hb dX7_mountTime_0 rfl (lv_at hl 0 rfl) ?_
  refine lv_iload_n hx hb dX7_mountTime_1 rfl (lv_at hl 1 rfl) ?_
  obtain ⟨q1, h_q1, hf⟩ := x_bindE hf
  refine x_ci0 (x_rV ⟨hx, hb, hml, hown, hts⟩ (ct_X7_mountProblem l g hfl cs mt (a1) h_q1) (cwV 1 hts gX7_mountTime_X7_mountProblem rfl rfl rfl (by decide +kernel) ⟨Nat.le_of_ble_eq_true rfl, Nat.le_of_ble_eq_true rfl⟩) hK hW hS (x_recv (i := g.1) (k := 7) (j := 0) hK hW ⟨⟨hfl, rfl⟩, by decide⟩ rfl (by decide)) rfl hl.1 (rest := []) rfl (Nat.le_of_ble_eq_true rfl) dX7_mountTime_2 ⟨Nat.le_of_ble_eq_true rfl, Nat.le_of_ble_eq_true rfl⟩) hS (fun H locs hW hS => ?_)
  have hW : World g ((cs, mt)) H := hW
  refine W.eq (g2 := F0 m 5 ls [.int q1]) rfl ?_
  refine lv_istore_n (lv' := [(2, .int q1), (0, .ref (adr g.1 7 0)), (1, .int a1)]) hx hb dX7_mountTime_5 rfl hl (by decide) rfl (fun ls hl => ?_)
  refine lv_iload_n hx hb dX7_mountTime_6 rfl (lv_at hl 0 rfl) ?_
  refine lv_if_eq (tgt := 14) hx hb dX7_mountTime_7 (by decide) (fun hc => ?_) (fun hc => ?_)
  · have hf := x_iteT hf hc
    refine lv_aload_n hx hb dX7_mountTime_14 rfl (lv_at hl 1 rfl) ?_
    refine x_get (i := g.1) (k := 7) (j := 0) (t := 3) hx hb hts i_7 hown hK hW ⟨⟨hfl, rfl⟩, by decide⟩ rfl ⟨by decide, by decide, rfl⟩ (hts (.fieldLink RX7 19 "OpticalJukebox" "state" "LOpticalJukebox$State;") (by decide +kernel)) (v := .ref (adr (k_st cs) 4 0)) rfl dX7_mountTime_15 ?_
    refine lv_iload_n hx hb dX7_mountTime_18 rfl (lv_at hl 2 rfl) ?_
    obtain ⟨q2, h_q2, hf⟩ := x_bindE hf
    refine x_ci0 (x_rV ⟨hx, hb, hml, hown, hts⟩ (ct_X4_chosenBringTime l g (cs, mt) (k_st cs) hW.2.2.2.1 (k_xs cs (k_st cs)) (a1) h_q2) (cwV 1 hts gX7_mountTime_X4_chosenBringTime rfl rfl rfl (by decide +kernel) ⟨Nat.le_of_ble_eq_true rfl, Nat.le_of_ble_eq_true rfl⟩) hK (w_self_sd hW) hS (x_recv (i := (k_st cs)) (k := 4) (j := 0) hK hW ⟨hW.2.2.2.1, by decide⟩ rfl (by decide)) rfl hl.1 (rest := []) rfl (Nat.le_of_ble_eq_true rfl) dX7_mountTime_19 ⟨Nat.le_of_ble_eq_true rfl, Nat.le_of_ble_eq_true rfl⟩) hS (fun H locs hW hS => ?_)
    have hW := w_unself_sd hW
    have hW : World g ((cs, mt)) H := hW
    refine W.eq (g2 := F0 m 22 ls [.int q2]) rfl ?_
    cases hf
    exact x_iret hx hb hr hlocks hK hW hS rfl dX7_mountTime_22
  · have hf := x_iteF hf hc
    refine lv_iload_n hx hb dX7_mountTime_10 rfl (lv_at hl 0 rfl) ?_
    refine lv_goto (tgt := 22) hx hb dX7_mountTime_11 (by decide) ?_
    cases hf
    exact x_iret hx hb hr hlocks hK hW hS rfl dX7_mountTime_22
abbrev rm_X7_mountTimeIn : Room := { frames := 3, cells := 0, slots := 0, locals := 72 }
set_option maxRecDepth 100000 in
set_option maxHeartbeats 4000000 in
theorem ct_X7_mountTimeIn (l : Launch) (g : GT) (hfl : 1 ≤ gf g) (cs : CT) (mt : MT) (a1 : Int32) (a2 : Int32) {q : Int32} (hf : f_X7_mountTimeIn (k_xs cs (k_st cs)) a1 a2 = some q) : Met l yX7_mountTimeIn wsX7_mountTimeIn rm_X7_mountTimeIn (cPre g ((cs, mt)) [.ref (adr g.1 7 0), .int a1, .int a2]) (cQi g q ((cs, mt))) 0 0 (gA g) := by
  have i_7 : ∀ w ∈ u_ws RX7 TX7 9, w ∈ wsX7_mountTimeIn := by decide +kernel
  refine x_met (by decide) rfl (Nat.le_of_ble_eq_true rfl) ?_
  intro p e s m below meth c hx hb hr hml hts hown hlocks hK hW hS ls hl
  have hown : s.vm.findClass RX7 = some m.cls := hown
  have hl : lv_has ls 4 [(0, .ref (adr g.1 7 0)), (1, .int a1), (2, .int a2)] := hl
  rw [f_X7_mountTimeIn] at hf
  refine lv_aload_n hx hb dX7_mountTimeIn_0 rfl (lv_at hl 0 rfl) ?_
  refine x_get (i := g.1) (k := 7) (j := 0) (t := 3) hx hb hts i_7 hown hK hW ⟨⟨hfl, rfl⟩, by decide⟩ rfl ⟨by decide, by decide, rfl⟩ (hts (.fieldLink RX7 19 "OpticalJukebox" "state" "LOpticalJukebox$State;") (by decide +kernel)) (v := .ref (adr (k_st cs) 4 0)) rfl dX7_mountTimeIn_1 ?_
  refine lv_iload_n hx hb dX7_mountTimeIn_4 rfl (lv_at hl 1 rfl) ?_
  obtain ⟨q1, h_q1, hf⟩ := x_bindE hf
  refine x_ci0 (x_rV ⟨hx, hb, hml, hown, hts⟩ (ct_X4_hasPlatter l g (cs, mt) (k_st cs) hW.2.2.2.1 (k_xs cs (k_st cs)) (a1) h_q1) (cwV 1 hts gX7_mountTimeIn_X4_hasPlatter rfl rfl rfl (by decide +kernel) ⟨Nat.le_of_ble_eq_true rfl, Nat.le_of_ble_eq_true rfl⟩) hK (w_self_sd hW) hS (x_recv (i := (k_st cs)) (k := 4) (j := 0) hK hW ⟨hW.2.2.2.1, by decide⟩ rfl (by decide)) rfl hl.1 (rest := []) rfl (Nat.le_of_ble_eq_true rfl) dX7_mountTimeIn_5 ⟨Nat.le_of_ble_eq_true rfl, Nat.le_of_ble_eq_true rfl⟩) hS (fun H locs hW hS => ?_)
  have hW := w_unself_sd hW
  have hW : World g ((cs, mt)) H := hW
  refine W.eq (g2 := F0 m 8 ls [.int q1]) rfl ?_
  refine lv_if_eq (tgt := 22) hx hb dX7_mountTimeIn_8 (by decide) (fun hc => ?_) (fun hc => ?_)
  · have hf := x_iteT hf hc
    refine lv_ldc (v := -1000001) hx hb hown (hts (.constant RX7 87 (-1000001)) (by decide +kernel)) dX7_mountTimeIn_22 ?_
    cases hf
    exact x_iret hx hb hr hlocks hK hW hS rfl dX7_mountTimeIn_24
  · have hf := x_iteF hf hc
    refine lv_aload_n hx hb dX7_mountTimeIn_11 rfl (lv_at hl 0 rfl) ?_
    refine x_get (i := g.1) (k := 7) (j := 0) (t := 3) hx hb hts i_7 hown hK hW ⟨⟨hfl, rfl⟩, by decide⟩ rfl ⟨by decide, by decide, rfl⟩ (hts (.fieldLink RX7 19 "OpticalJukebox" "state" "LOpticalJukebox$State;") (by decide +kernel)) (v := .ref (adr (k_st cs) 4 0)) rfl dX7_mountTimeIn_12 ?_
    refine lv_iload_n hx hb dX7_mountTimeIn_15 rfl (lv_at hl 2 rfl) ?_
    obtain ⟨q2, h_q2, hf⟩ := x_bindE hf
    refine x_ci0 (x_rV ⟨hx, hb, hml, hown, hts⟩ (ct_X4_hasDrive l g (cs, mt) (k_st cs) hW.2.2.2.1 (k_xs cs (k_st cs)) (a2) h_q2) (cwV 1 hts gX7_mountTimeIn_X4_hasDrive rfl rfl rfl (by decide +kernel) ⟨Nat.le_of_ble_eq_true rfl, Nat.le_of_ble_eq_true rfl⟩) hK (w_self_sd hW) hS (x_recv (i := (k_st cs)) (k := 4) (j := 0) hK hW ⟨hW.2.2.2.1, by decide⟩ rfl (by decide)) rfl hl.1 (rest := []) rfl (Nat.le_of_ble_eq_true rfl) dX7_mountTimeIn_16 ⟨Nat.le_of_ble_eq_true rfl, Nat.le_of_ble_eq_true rfl⟩) hS (fun H locs hW hS => ?_)
    have hW := w_unself_sd hW
    have hW : World g ((cs, mt)) H := hW
    refine W.eq (g2 := F0 m 19 ls [.int q2]) rfl ?_
    refine lv_if_ne (tgt := 25) hx hb dX7_mountTimeIn_19 (by decide) (fun hc => ?_) (fun hc => ?_)
    · have hf := x_iteF hf hc
      refine lv_aload_n hx hb dX7_mountTimeIn_25 rfl (lv_at hl 0 rfl) ?_
      refine x_get (i := g.1) (k := 7) (j := 0) (t := 3) hx hb hts i_7 hown hK hW ⟨⟨hfl, rfl⟩, by decide⟩ rfl ⟨by decide, by decide, rfl⟩ (hts (.fieldLink RX7 19 "OpticalJukebox" "state" "LOpticalJukebox$State;") (by decide +kernel)) (v := .ref (adr (k_st cs) 4 0)) rfl dX7_mountTimeIn_26 ?_
      refine lv_iload_n hx hb dX7_mountTimeIn_29 rfl (lv_at hl 1 rfl) ?_
      obtain ⟨q3, h_q3, hf⟩ := x_bindE hf
      refine x_ci0 (x_rV ⟨hx, hb, hml, hown, hts⟩ (ct_X4_driveHolding l g (cs, mt) (k_st cs) hW.2.2.2.1 (k_xs cs (k_st cs)) (a1) h_q3) (cwV 1 hts gX7_mountTimeIn_X4_driveHolding rfl rfl rfl (by decide +kernel) ⟨Nat.le_of_ble_eq_true rfl, Nat.le_of_ble_eq_true rfl⟩) hK (w_self_sd hW) hS (x_recv (i := (k_st cs)) (k := 4) (j := 0) hK hW ⟨hW.2.2.2.1, by decide⟩ rfl (by decide)) rfl hl.1 (rest := []) rfl (Nat.le_of_ble_eq_true rfl) dX7_mountTimeIn_30 ⟨Nat.le_of_ble_eq_true rfl, Nat.le_of_ble_eq_true rfl⟩) hS (fun H locs hW hS => ?_)
      have hW := w_unself_sd hW
      have hW : World g ((cs, mt)) H := hW
      refine W.eq (g2 := F0 m 33 ls [.int q3]) rfl ?_
      refine lv_istore_n (lv' := [(3, .int q3), (0, .ref (adr g.1 7 0)), (1, .int a1), (2, .int a2)]) hx hb dX7_mountTimeIn_33 rfl hl (by decide) rfl (fun ls hl => ?_)
      refine lv_iload_n hx hb dX7_mountTimeIn_34 rfl (lv_at hl 0 rfl) ?_
      refine lv_iconst (v := -1) hx hb dX7_mountTimeIn_35 (by decide) ?_
      obtain ⟨K4, eK4, hf⟩ := x_letE hf
      have KK4 : ∀ (_u : Unit) (ls : Array Slot) (H : Heap) (locs : List Loc), lv_has ls 4 [(0, .ref (adr g.1 7 0)), (1, .int a1), (2, .int a2), (3, .int q3)] → World g ((cs, mt)) H → va_S (gA g) s.heap H locs → K4 _u = some q → W p l e rm_X7_mountTimeIn s m [.ref (adr g.1 7 0), .int a1, .int a2].toArray below meth c H locs 0 0 (MQ below (cQi g q ((cs, mt))) [.ref (adr g.1 7 0), .int a1, .int a2].toArray s 0 0 (gA g)) (F0 m 49 ls []) := by
        intro _u ls H locs hl hW hS hf
        subst eK4
        refine lv_aload_n hx hb dX7_mountTimeIn_49 rfl (lv_at hl 0 rfl) ?_
        refine x_get (i := g.1) (k := 7) (j := 0) (t := 3) hx hb hts i_7 hown hK hW ⟨⟨hfl, rfl⟩, by decide⟩ rfl ⟨by decide, by decide, rfl⟩ (hts (.fieldLink RX7 19 "OpticalJukebox" "state" "LOpticalJukebox$State;") (by decide +kernel)) (v := .ref (adr (k_st cs) 4 0)) rfl dX7_mountTimeIn_50 ?_
        refine lv_iload_n hx hb dX7_mountTimeIn_53 rfl (lv_at hl 1 rfl) ?_
        refine lv_iload_n hx hb dX7_mountTimeIn_54 rfl (lv_at hl 2 rfl) ?_
        obtain ⟨q5, h_q5, hf⟩ := x_bindE hf
        refine x_ci0 (x_rV ⟨hx, hb, hml, hown, hts⟩ (ct_X4_bringTime l g (cs, mt) (k_st cs) hW.2.2.2.1 (k_xs cs (k_st cs)) (a1) (a2) h_q5) (cwV 2 hts gX7_mountTimeIn_X4_bringTime rfl rfl rfl (by decide +kernel) ⟨Nat.le_of_ble_eq_true rfl, Nat.le_of_ble_eq_true rfl⟩) hK (w_self_sd hW) hS (x_recv (i := (k_st cs)) (k := 4) (j := 0) hK hW ⟨hW.2.2.2.1, by decide⟩ rfl (by decide)) rfl hl.1 (rest := []) rfl (Nat.le_of_ble_eq_true rfl) dX7_mountTimeIn_55 ⟨Nat.le_of_ble_eq_true rfl, Nat.le_of_ble_eq_true rfl⟩) hS (fun H locs hW hS => ?_)
        have hW := w_unself_sd hW
        have hW : World g ((cs, mt)) H := hW
        refine W.eq (g2 := F0 m 58 ls [.int q5]) rfl ?_
        cases hf
        exact x_iret hx hb hr hlocks hK hW hS rfl dX7_mountTimeIn_58
      clear eK4
      refine lv_icmp_eq (tgt := 49) hx hb dX7_mountTimeIn_36 (by decide) (fun hc => ?_) (fun hc => ?_)
      · have hf := x_iteT hf hc
        exact KK4 (()) ls _ _ (lv_sub hl [1, 2, 3, 0] rfl) hW hS hf
      · have hf := x_iteF hf hc
        refine lv_iload_n hx hb dX7_mountTimeIn_39 rfl (lv_at hl 0 rfl) ?_
        refine lv_iload_n hx hb dX7_mountTimeIn_40 rfl (lv_at hl 3 rfl) ?_
        refine lv_icmp_eq (tgt := 49) hx hb dX7_mountTimeIn_41 (by decide) (fun hc => ?_) (fun hc => ?_)
        · have hf := x_iteT hf hc
          exact KK4 (()) ls _ _ (lv_sub hl [1, 2, 3, 0] rfl) hW hS hf
        · have hf := x_iteF hf hc
          refine lv_ldc (v := -1000005) hx hb hown (hts (.constant RX7 73 (-1000005)) (by decide +kernel)) dX7_mountTimeIn_44 ?_
          refine lv_goto (tgt := 58) hx hb dX7_mountTimeIn_46 (by decide) ?_
          cases hf
          exact x_iret hx hb hr hlocks hK hW hS rfl dX7_mountTimeIn_58
    · have hf := x_iteT hf hc
      refine lv_ldc (v := -1000001) hx hb hown (hts (.constant RX7 87 (-1000001)) (by decide +kernel)) dX7_mountTimeIn_22 ?_
      cases hf
      exact x_iret hx hb hr hlocks hK hW hS rfl dX7_mountTimeIn_24
abbrev rm_X7_freeSectors : Room := { frames := 1, cells := 0, slots := 0, locals := 21 }
set_option maxRecDepth 100000 in
set_option maxHeartbeats 4000000 in
theorem ct_X7_freeSectors (l : Launch) (g : GT) (hfl : 1 ≤ gf g) (cs : CT) (mt : MT) (a1 : Int32) {q : Int32} (hf : f_X7_freeSectors (k_xs cs (k_st cs)) a1 = some q) : Met l yX7_freeSectors wsX7_freeSectors rm_X7_freeSectors (cPre g ((cs, mt)) [.ref (adr g.1 7 0), .int a1]) (cQi g q ((cs, mt))) 0 0 (gA g) := by
  have i_4 : ∀ w ∈ u_ws RX4 TX4 18, w ∈ wsX7_freeSectors := by decide +kernel
  have i_7 : ∀ w ∈ u_ws RX7 TX7 9, w ∈ wsX7_freeSectors := by decide +kernel
  refine x_met (by decide) rfl (Nat.le_of_ble_eq_true rfl) ?_
  intro p e s m below meth c hx hb hr hml hts hown hlocks hK hW hS ls hl
  have hown : s.vm.findClass RX7 = some m.cls := hown
  have hl : lv_has ls 2 [(0, .ref (adr g.1 7 0)), (1, .int a1)] := hl
  rw [f_X7_freeSectors] at hf
  refine lv_aload_n hx hb dX7_freeSectors_0 rfl (lv_at hl 0 rfl) ?_
  refine x_get (i := g.1) (k := 7) (j := 0) (t := 3) hx hb hts i_7 hown hK hW ⟨⟨hfl, rfl⟩, by decide⟩ rfl ⟨by decide, by decide, rfl⟩ (hts (.fieldLink RX7 19 "OpticalJukebox" "state" "LOpticalJukebox$State;") (by decide +kernel)) (v := .ref (adr (k_st cs) 4 0)) rfl dX7_freeSectors_1 ?_
  refine lv_iload_n hx hb dX7_freeSectors_4 rfl (lv_at hl 1 rfl) ?_
  obtain ⟨q1, h_q1, hf⟩ := x_bindE hf
  refine x_ci0 (x_rV ⟨hx, hb, hml, hown, hts⟩ (ct_X4_hasPlatter l g (cs, mt) (k_st cs) hW.2.2.2.1 (k_xs cs (k_st cs)) (a1) h_q1) (cwV 1 hts gX7_freeSectors_X4_hasPlatter rfl rfl rfl (by decide +kernel) ⟨Nat.le_of_ble_eq_true rfl, Nat.le_of_ble_eq_true rfl⟩) hK (w_self_sd hW) hS (x_recv (i := (k_st cs)) (k := 4) (j := 0) hK hW ⟨hW.2.2.2.1, by decide⟩ rfl (by decide)) rfl hl.1 (rest := []) rfl (Nat.le_of_ble_eq_true rfl) dX7_freeSectors_5 ⟨Nat.le_of_ble_eq_true rfl, Nat.le_of_ble_eq_true rfl⟩) hS (fun H locs hW hS => ?_)
  have hW := w_unself_sd hW
  have hW : World g ((cs, mt)) H := hW
  refine W.eq (g2 := F0 m 8 ls [.int q1]) rfl ?_
  refine lv_if_eq (tgt := 26) hx hb dX7_freeSectors_8 (by decide) (fun hc => ?_) (fun hc => ?_)
  · have hf := x_iteT hf hc
    refine lv_ldc (v := -1000001) hx hb hown (hts (.constant RX7 87 (-1000001)) (by decide +kernel)) dX7_freeSectors_26 ?_
    cases hf
    exact x_iret hx hb hr hlocks hK hW hS rfl dX7_freeSectors_28
  · have hf := x_iteF hf hc
    refine lv_aload_n hx hb dX7_freeSectors_11 rfl (lv_at hl 0 rfl) ?_
    refine x_get (i := g.1) (k := 7) (j := 0) (t := 3) hx hb hts i_7 hown hK hW ⟨⟨hfl, rfl⟩, by decide⟩ rfl ⟨by decide, by decide, rfl⟩ (hts (.fieldLink RX7 19 "OpticalJukebox" "state" "LOpticalJukebox$State;") (by decide +kernel)) (v := .ref (adr (k_st cs) 4 0)) rfl dX7_freeSectors_12 ?_
    refine x_get (i := (k_st cs)) (k := 4) (j := 0) (t := 5) hx hb hts i_4 hown hK hW ⟨hW.2.2.2.1, by decide⟩ rfl ⟨by decide, by decide, rfl⟩ (hts (.fieldLink RX7 78 "OpticalJukebox$State" "platters" "[LOpticalJukebox$Platter;") (by decide +kernel)) (v := .ref (adr (k_st cs) 12 0)) rfl dX7_freeSectors_15 ?_
    refine lv_iload_n hx hb dX7_freeSectors_18 rfl (lv_at hl 1 rfl) ?_
    obtain ⟨hg2, hf⟩ := x_guardE hf
    refine x_aald (i := (k_st cs)) (k := 12) (j := 0) hx hb hK hW ⟨hW.2.2.2.1, by decide⟩ (by decide) rfl rfl hg2 dX7_freeSectors_19 ?_
    refine W.eq (g2 := F0 m 20 ls [.ref (adr (k_st cs) 3 (a1).toNatClampNeg)]) rfl ?_
    obtain ⟨q3, h_q3, hf⟩ := x_bindE hf
    refine x_ci0 (x_rV ⟨hx, hb, hml, hown, hts⟩ (ct_X3_unused l g (cs, mt) (k_st cs) hW.2.2.2.1 (k_xs cs (k_st cs)) ((a1).toNatClampNeg) ((x_lt hg2)) h_q3) (cwV 0 hts gX7_freeSectors_X3_unused rfl rfl rfl (by decide +kernel) ⟨Nat.le_of_ble_eq_true rfl, Nat.le_of_ble_eq_true rfl⟩) hK (w_self_sd hW) hS (x_recv (i := (k_st cs)) (k := 3) (j := (a1).toNatClampNeg) hK hW ⟨hW.2.2.2.1, (x_lt hg2)⟩ rfl (by decide)) rfl hl.1 (rest := []) rfl (Nat.le_of_ble_eq_true rfl) dX7_freeSectors_20 ⟨Nat.le_of_ble_eq_true rfl, Nat.le_of_ble_eq_true rfl⟩) hS (fun H locs hW hS => ?_)
    have hW := w_unself_sd hW
    have hW : World g ((cs, mt)) H := hW
    refine W.eq (g2 := F0 m 23 ls [.int q3]) rfl ?_
    refine lv_goto (tgt := 28) hx hb dX7_freeSectors_23 (by decide) ?_
    cases hf
    exact x_iret hx hb hr hlocks hK hW hS rfl dX7_freeSectors_28
abbrev rm_X7_sessionCount : Room := { frames := 1, cells := 0, slots := 0, locals := 21 }
set_option maxRecDepth 100000 in
set_option maxHeartbeats 4000000 in
theorem ct_X7_sessionCount (l : Launch) (g : GT) (hfl : 1 ≤ gf g) (cs : CT) (mt : MT) (a1 : Int32) {q : Int32} (hf : f_X7_sessionCount (k_xs cs (k_st cs)) a1 = some q) : Met l yX7_sessionCount wsX7_sessionCount rm_X7_sessionCount (cPre g ((cs, mt)) [.ref (adr g.1 7 0), .int a1]) (cQi g q ((cs, mt))) 0 0 (gA g) := by
  have i_3 : ∀ w ∈ u_ws RX3 TX3 9, w ∈ wsX7_sessionCount := by decide +kernel
  have i_4 : ∀ w ∈ u_ws RX4 TX4 18, w ∈ wsX7_sessionCount := by decide +kernel
  have i_7 : ∀ w ∈ u_ws RX7 TX7 9, w ∈ wsX7_sessionCount := by decide +kernel
  refine x_met (by decide) rfl (Nat.le_of_ble_eq_true rfl) ?_
  intro p e s m below meth c hx hb hr hml hts hown hlocks hK hW hS ls hl
  have hown : s.vm.findClass RX7 = some m.cls := hown
  have hl : lv_has ls 2 [(0, .ref (adr g.1 7 0)), (1, .int a1)] := hl
  rw [f_X7_sessionCount] at hf
  refine lv_aload_n hx hb dX7_sessionCount_0 rfl (lv_at hl 0 rfl) ?_
  refine x_get (i := g.1) (k := 7) (j := 0) (t := 3) hx hb hts i_7 hown hK hW ⟨⟨hfl, rfl⟩, by decide⟩ rfl ⟨by decide, by decide, rfl⟩ (hts (.fieldLink RX7 19 "OpticalJukebox" "state" "LOpticalJukebox$State;") (by decide +kernel)) (v := .ref (adr (k_st cs) 4 0)) rfl dX7_sessionCount_1 ?_
  refine lv_iload_n hx hb dX7_sessionCount_4 rfl (lv_at hl 1 rfl) ?_
  obtain ⟨q1, h_q1, hf⟩ := x_bindE hf
  refine x_ci0 (x_rV ⟨hx, hb, hml, hown, hts⟩ (ct_X4_hasPlatter l g (cs, mt) (k_st cs) hW.2.2.2.1 (k_xs cs (k_st cs)) (a1) h_q1) (cwV 1 hts gX7_sessionCount_X4_hasPlatter rfl rfl rfl (by decide +kernel) ⟨Nat.le_of_ble_eq_true rfl, Nat.le_of_ble_eq_true rfl⟩) hK (w_self_sd hW) hS (x_recv (i := (k_st cs)) (k := 4) (j := 0) hK hW ⟨hW.2.2.2.1, by decide⟩ rfl (by decide)) rfl hl.1 (rest := []) rfl (Nat.le_of_ble_eq_true rfl) dX7_sessionCount_5 ⟨Nat.le_of_ble_eq_true rfl, Nat.le_of_ble_eq_true rfl⟩) hS (fun H locs hW hS => ?_)
  have hW := w_unself_sd hW
  have hW : World g ((cs, mt)) H := hW
  refine W.eq (g2 := F0 m 8 ls [.int q1]) rfl ?_
  refine lv_if_eq (tgt := 26) hx hb dX7_sessionCount_8 (by decide) (fun hc => ?_) (fun hc => ?_)
  · have hf := x_iteT hf hc
    refine lv_ldc (v := -1000001) hx hb hown (hts (.constant RX7 87 (-1000001)) (by decide +kernel)) dX7_sessionCount_26 ?_
    cases hf
    exact x_iret hx hb hr hlocks hK hW hS rfl dX7_sessionCount_28
  · have hf := x_iteF hf hc
    refine lv_aload_n hx hb dX7_sessionCount_11 rfl (lv_at hl 0 rfl) ?_
    refine x_get (i := g.1) (k := 7) (j := 0) (t := 3) hx hb hts i_7 hown hK hW ⟨⟨hfl, rfl⟩, by decide⟩ rfl ⟨by decide, by decide, rfl⟩ (hts (.fieldLink RX7 19 "OpticalJukebox" "state" "LOpticalJukebox$State;") (by decide +kernel)) (v := .ref (adr (k_st cs) 4 0)) rfl dX7_sessionCount_12 ?_
    refine x_get (i := (k_st cs)) (k := 4) (j := 0) (t := 5) hx hb hts i_4 hown hK hW ⟨hW.2.2.2.1, by decide⟩ rfl ⟨by decide, by decide, rfl⟩ (hts (.fieldLink RX7 78 "OpticalJukebox$State" "platters" "[LOpticalJukebox$Platter;") (by decide +kernel)) (v := .ref (adr (k_st cs) 12 0)) rfl dX7_sessionCount_15 ?_
    refine lv_iload_n hx hb dX7_sessionCount_18 rfl (lv_at hl 1 rfl) ?_
    obtain ⟨hg2, hf⟩ := x_guardE hf
    refine x_aald (i := (k_st cs)) (k := 12) (j := 0) hx hb hK hW ⟨hW.2.2.2.1, by decide⟩ (by decide) rfl rfl hg2 dX7_sessionCount_19 ?_
    refine W.eq (g2 := F0 m 20 ls [.ref (adr (k_st cs) 3 (a1).toNatClampNeg)]) rfl ?_
    refine x_get (i := (k_st cs)) (k := 3) (j := (a1).toNatClampNeg) (t := 4) hx hb hts i_3 hown hK hW ⟨hW.2.2.2.1, (x_lt hg2)⟩ rfl ⟨by decide, by decide, rfl⟩ (hts (.fieldLink RX7 146 "OpticalJukebox$Platter" "sessions" "I") (by decide +kernel)) (rfl) dX7_sessionCount_20 ?_
    refine lv_goto (tgt := 28) hx hb dX7_sessionCount_23 (by decide) ?_
    cases hf
    exact x_iret hx hb hr hlocks hK hW hS rfl dX7_sessionCount_28
abbrev rm_X7_hasOpenSession : Room := { frames := 1, cells := 0, slots := 0, locals := 21 }
set_option maxRecDepth 100000 in
set_option maxHeartbeats 4000000 in
theorem ct_X7_hasOpenSession (l : Launch) (g : GT) (hfl : 1 ≤ gf g) (cs : CT) (mt : MT) (a1 : Int32) {q : Int32} (hf : f_X7_hasOpenSession (k_xs cs (k_st cs)) a1 = some q) : Met l yX7_hasOpenSession wsX7_hasOpenSession rm_X7_hasOpenSession (cPre g ((cs, mt)) [.ref (adr g.1 7 0), .int a1]) (cQi g q ((cs, mt))) 0 0 (gA g) := by
  have i_3 : ∀ w ∈ u_ws RX3 TX3 9, w ∈ wsX7_hasOpenSession := by decide +kernel
  have i_4 : ∀ w ∈ u_ws RX4 TX4 18, w ∈ wsX7_hasOpenSession := by decide +kernel
  have i_7 : ∀ w ∈ u_ws RX7 TX7 9, w ∈ wsX7_hasOpenSession := by decide +kernel
  refine x_met (by decide) rfl (Nat.le_of_ble_eq_true rfl) ?_
  intro p e s m below meth c hx hb hr hml hts hown hlocks hK hW hS ls hl
  have hown : s.vm.findClass RX7 = some m.cls := hown
  have hl : lv_has ls 2 [(0, .ref (adr g.1 7 0)), (1, .int a1)] := hl
  rw [f_X7_hasOpenSession] at hf
  refine lv_aload_n hx hb dX7_hasOpenSession_0 rfl (lv_at hl 0 rfl) ?_
  refine x_get (i := g.1) (k := 7) (j := 0) (t := 3) hx hb hts i_7 hown hK hW ⟨⟨hfl, rfl⟩, by decide⟩ rfl ⟨by decide, by decide, rfl⟩ (hts (.fieldLink RX7 19 "OpticalJukebox" "state" "LOpticalJukebox$State;") (by decide +kernel)) (v := .ref (adr (k_st cs) 4 0)) rfl dX7_hasOpenSession_1 ?_
  refine lv_iload_n hx hb dX7_hasOpenSession_4 rfl (lv_at hl 1 rfl) ?_
  obtain ⟨q1, h_q1, hf⟩ := x_bindE hf
  refine x_ci0 (x_rV ⟨hx, hb, hml, hown, hts⟩ (ct_X4_hasPlatter l g (cs, mt) (k_st cs) hW.2.2.2.1 (k_xs cs (k_st cs)) (a1) h_q1) (cwV 1 hts gX7_hasOpenSession_X4_hasPlatter rfl rfl rfl (by decide +kernel) ⟨Nat.le_of_ble_eq_true rfl, Nat.le_of_ble_eq_true rfl⟩) hK (w_self_sd hW) hS (x_recv (i := (k_st cs)) (k := 4) (j := 0) hK hW ⟨hW.2.2.2.1, by decide⟩ rfl (by decide)) rfl hl.1 (rest := []) rfl (Nat.le_of_ble_eq_true rfl) dX7_hasOpenSession_5 ⟨Nat.le_of_ble_eq_true rfl, Nat.le_of_ble_eq_true rfl⟩) hS (fun H locs hW hS => ?_)
  have hW := w_unself_sd hW
  have hW : World g ((cs, mt)) H := hW
  refine W.eq (g2 := F0 m 8 ls [.int q1]) rfl ?_
  refine lv_if_ne (tgt := 14) hx hb dX7_hasOpenSession_8 (by decide) (fun hc => ?_) (fun hc => ?_)
  · have hf := x_iteF hf hc
    refine lv_aload_n hx hb dX7_hasOpenSession_14 rfl (lv_at hl 0 rfl) ?_
    refine x_get (i := g.1) (k := 7) (j := 0) (t := 3) hx hb hts i_7 hown hK hW ⟨⟨hfl, rfl⟩, by decide⟩ rfl ⟨by decide, by decide, rfl⟩ (hts (.fieldLink RX7 19 "OpticalJukebox" "state" "LOpticalJukebox$State;") (by decide +kernel)) (v := .ref (adr (k_st cs) 4 0)) rfl dX7_hasOpenSession_15 ?_
    refine x_get (i := (k_st cs)) (k := 4) (j := 0) (t := 5) hx hb hts i_4 hown hK hW ⟨hW.2.2.2.1, by decide⟩ rfl ⟨by decide, by decide, rfl⟩ (hts (.fieldLink RX7 78 "OpticalJukebox$State" "platters" "[LOpticalJukebox$Platter;") (by decide +kernel)) (v := .ref (adr (k_st cs) 12 0)) rfl dX7_hasOpenSession_18 ?_
    refine lv_iload_n hx hb dX7_hasOpenSession_21 rfl (lv_at hl 1 rfl) ?_
    obtain ⟨hg2, hf⟩ := x_guardE hf
    refine x_aald (i := (k_st cs)) (k := 12) (j := 0) hx hb hK hW ⟨hW.2.2.2.1, by decide⟩ (by decide) rfl rfl hg2 dX7_hasOpenSession_22 ?_
    refine W.eq (g2 := F0 m 23 ls [.ref (adr (k_st cs) 3 (a1).toNatClampNeg)]) rfl ?_
    refine x_get (i := (k_st cs)) (k := 3) (j := (a1).toNatClampNeg) (t := 5) hx hb hts i_3 hown hK hW ⟨hW.2.2.2.1, (x_lt hg2)⟩ rfl ⟨by decide, by decide, rfl⟩ (hts (.fieldLink RX7 149 "OpticalJukebox$Platter" "open" "Z") (by decide +kernel)) (rfl) dX7_hasOpenSession_23 ?_
    refine lv_if_eq (tgt := 33) hx hb dX7_hasOpenSession_26 (by decide) (fun hc => ?_) (fun hc => ?_)
    · have hf := x_iteT hf hc
      refine lv_iconst (v := 0) hx hb dX7_hasOpenSession_33 (by decide) ?_
      cases hf
      exact x_iret hx hb hr hlocks hK hW hS rfl dX7_hasOpenSession_34
    · have hf := x_iteF hf hc
      refine lv_iconst (v := 1) hx hb dX7_hasOpenSession_29 (by decide) ?_
      refine lv_goto (tgt := 34) hx hb dX7_hasOpenSession_30 (by decide) ?_
      cases hf
      exact x_iret hx hb hr hlocks hK hW hS rfl dX7_hasOpenSession_34
  · have hf := x_iteT hf hc
    refine lv_ldc (v := -1000001) hx hb hown (hts (.constant RX7 87 (-1000001)) (by decide +kernel)) dX7_hasOpenSession_11 ?_
    cases hf
    exact x_iret hx hb hr hlocks hK hW hS rfl dX7_hasOpenSession_13
abbrev rm_X7_sessionStart : Room := { frames := 2, cells := 0, slots := 0, locals := 43 }
set_option maxRecDepth 100000 in
set_option maxHeartbeats 4000000 in
theorem ct_X7_sessionStart (l : Launch) (g : GT) (hfl : 1 ≤ gf g) (cs : CT) (mt : MT) (a1 : Int32) (a2 : Int32) {q : Int32} (hf : f_X7_sessionStart (k_xs cs (k_st cs)) a1 a2 = some q) : Met l yX7_sessionStart wsX7_sessionStart rm_X7_sessionStart (cPre g ((cs, mt)) [.ref (adr g.1 7 0), .int a1, .int a2]) (cQi g q ((cs, mt))) 0 0 (gA g) := by
  have i_3 : ∀ w ∈ u_ws RX3 TX3 9, w ∈ wsX7_sessionStart := by decide +kernel
  have i_4 : ∀ w ∈ u_ws RX4 TX4 18, w ∈ wsX7_sessionStart := by decide +kernel
  have i_7 : ∀ w ∈ u_ws RX7 TX7 9, w ∈ wsX7_sessionStart := by decide +kernel
  refine x_met (by decide) rfl (Nat.le_of_ble_eq_true rfl) ?_
  intro p e s m below meth c hx hb hr hml hts hown hlocks hK hW hS ls hl
  have hown : s.vm.findClass RX7 = some m.cls := hown
  have hl : lv_has ls 3 [(0, .ref (adr g.1 7 0)), (1, .int a1), (2, .int a2)] := hl
  rw [f_X7_sessionStart] at hf
  refine lv_aload_n hx hb dX7_sessionStart_0 rfl (lv_at hl 0 rfl) ?_
  refine x_get (i := g.1) (k := 7) (j := 0) (t := 3) hx hb hts i_7 hown hK hW ⟨⟨hfl, rfl⟩, by decide⟩ rfl ⟨by decide, by decide, rfl⟩ (hts (.fieldLink RX7 19 "OpticalJukebox" "state" "LOpticalJukebox$State;") (by decide +kernel)) (v := .ref (adr (k_st cs) 4 0)) rfl dX7_sessionStart_1 ?_
  refine lv_iload_n hx hb dX7_sessionStart_4 rfl (lv_at hl 1 rfl) ?_
  refine lv_iload_n hx hb dX7_sessionStart_5 rfl (lv_at hl 2 rfl) ?_
  obtain ⟨q1, h_q1, hf⟩ := x_bindE hf
  refine x_ci0 (x_rV ⟨hx, hb, hml, hown, hts⟩ (ct_X4_hasSession l g (cs, mt) (k_st cs) hW.2.2.2.1 (k_xs cs (k_st cs)) (a1) (a2) h_q1) (cwV 2 hts gX7_sessionStart_X4_hasSession rfl rfl rfl (by decide +kernel) ⟨Nat.le_of_ble_eq_true rfl, Nat.le_of_ble_eq_true rfl⟩) hK (w_self_sd hW) hS (x_recv (i := (k_st cs)) (k := 4) (j := 0) hK hW ⟨hW.2.2.2.1, by decide⟩ rfl (by decide)) rfl hl.1 (rest := []) rfl (Nat.le_of_ble_eq_true rfl) dX7_sessionStart_6 ⟨Nat.le_of_ble_eq_true rfl, Nat.le_of_ble_eq_true rfl⟩) hS (fun H locs hW hS => ?_)
  have hW := w_unself_sd hW
  have hW : World g ((cs, mt)) H := hW
  refine W.eq (g2 := F0 m 9 ls [.int q1]) rfl ?_
  refine lv_if_ne (tgt := 15) hx hb dX7_sessionStart_9 (by decide) (fun hc => ?_) (fun hc => ?_)
  · have hf := x_iteF hf hc
    refine lv_aload_n hx hb dX7_sessionStart_15 rfl (lv_at hl 0 rfl) ?_
    refine x_get (i := g.1) (k := 7) (j := 0) (t := 3) hx hb hts i_7 hown hK hW ⟨⟨hfl, rfl⟩, by decide⟩ rfl ⟨by decide, by decide, rfl⟩ (hts (.fieldLink RX7 19 "OpticalJukebox" "state" "LOpticalJukebox$State;") (by decide +kernel)) (v := .ref (adr (k_st cs) 4 0)) rfl dX7_sessionStart_16 ?_
    refine x_get (i := (k_st cs)) (k := 4) (j := 0) (t := 5) hx hb hts i_4 hown hK hW ⟨hW.2.2.2.1, by decide⟩ rfl ⟨by decide, by decide, rfl⟩ (hts (.fieldLink RX7 78 "OpticalJukebox$State" "platters" "[LOpticalJukebox$Platter;") (by decide +kernel)) (v := .ref (adr (k_st cs) 12 0)) rfl dX7_sessionStart_19 ?_
    refine lv_iload_n hx hb dX7_sessionStart_22 rfl (lv_at hl 1 rfl) ?_
    obtain ⟨hg2, hf⟩ := x_guardE hf
    refine x_aald (i := (k_st cs)) (k := 12) (j := 0) hx hb hK hW ⟨hW.2.2.2.1, by decide⟩ (by decide) rfl rfl hg2 dX7_sessionStart_23 ?_
    refine W.eq (g2 := F0 m 24 ls [.ref (adr (k_st cs) 3 (a1).toNatClampNeg)]) rfl ?_
    refine x_get (i := (k_st cs)) (k := 3) (j := (a1).toNatClampNeg) (t := 6) hx hb hts i_3 hown hK hW ⟨hW.2.2.2.1, (x_lt hg2)⟩ rfl ⟨by decide, by decide, rfl⟩ (hts (.fieldLink RX7 157 "OpticalJukebox$Platter" "sessionStarts" "[I") (by decide +kernel)) (v := .ref (adr (k_st cs) 16 (a1).toNatClampNeg)) rfl dX7_sessionStart_24 ?_
    refine lv_iload_n hx hb dX7_sessionStart_27 rfl (lv_at hl 2 rfl) ?_
    obtain ⟨hg3, hf⟩ := x_guardE hf
    refine x_iald (i := (k_st cs)) (k := 16) (j := (a1).toNatClampNeg) (f := (k_xs cs (k_st cs)) 16 (a1).toNatClampNeg) hx hb hK hW ⟨hW.2.2.2.1, (x_lt hg2)⟩ (by decide) (rfl) rfl hg3 dX7_sessionStart_28 ?_
    cases hf
    exact x_iret hx hb hr hlocks hK hW hS rfl dX7_sessionStart_29
  · have hf := x_iteT hf hc
    refine lv_ldc (v := -1000001) hx hb hown (hts (.constant RX7 87 (-1000001)) (by decide +kernel)) dX7_sessionStart_12 ?_
    cases hf
    exact x_iret hx hb hr hlocks hK hW hS rfl dX7_sessionStart_14
abbrev rm_X7_sessionSize : Room := { frames := 2, cells := 0, slots := 0, locals := 43 }
set_option maxRecDepth 100000 in
set_option maxHeartbeats 4000000 in
theorem ct_X7_sessionSize (l : Launch) (g : GT) (hfl : 1 ≤ gf g) (cs : CT) (mt : MT) (a1 : Int32) (a2 : Int32) {q : Int32} (hf : f_X7_sessionSize (k_xs cs (k_st cs)) a1 a2 = some q) : Met l yX7_sessionSize wsX7_sessionSize rm_X7_sessionSize (cPre g ((cs, mt)) [.ref (adr g.1 7 0), .int a1, .int a2]) (cQi g q ((cs, mt))) 0 0 (gA g) := by
  have i_3 : ∀ w ∈ u_ws RX3 TX3 9, w ∈ wsX7_sessionSize := by decide +kernel
  have i_4 : ∀ w ∈ u_ws RX4 TX4 18, w ∈ wsX7_sessionSize := by decide +kernel
  have i_7 : ∀ w ∈ u_ws RX7 TX7 9, w ∈ wsX7_sessionSize := by decide +kernel
  refine x_met (by decide) rfl (Nat.le_of_ble_eq_true rfl) ?_
  intro p e s m below meth c hx hb hr hml hts hown hlocks hK hW hS ls hl
  have hown : s.vm.findClass RX7 = some m.cls := hown
  have hl : lv_has ls 3 [(0, .ref (adr g.1 7 0)), (1, .int a1), (2, .int a2)] := hl
  rw [f_X7_sessionSize] at hf
  refine lv_aload_n hx hb dX7_sessionSize_0 rfl (lv_at hl 0 rfl) ?_
  refine x_get (i := g.1) (k := 7) (j := 0) (t := 3) hx hb hts i_7 hown hK hW ⟨⟨hfl, rfl⟩, by decide⟩ rfl ⟨by decide, by decide, rfl⟩ (hts (.fieldLink RX7 19 "OpticalJukebox" "state" "LOpticalJukebox$State;") (by decide +kernel)) (v := .ref (adr (k_st cs) 4 0)) rfl dX7_sessionSize_1 ?_
  refine lv_iload_n hx hb dX7_sessionSize_4 rfl (lv_at hl 1 rfl) ?_
  refine lv_iload_n hx hb dX7_sessionSize_5 rfl (lv_at hl 2 rfl) ?_
  obtain ⟨q1, h_q1, hf⟩ := x_bindE hf
  refine x_ci0 (x_rV ⟨hx, hb, hml, hown, hts⟩ (ct_X4_hasSession l g (cs, mt) (k_st cs) hW.2.2.2.1 (k_xs cs (k_st cs)) (a1) (a2) h_q1) (cwV 2 hts gX7_sessionSize_X4_hasSession rfl rfl rfl (by decide +kernel) ⟨Nat.le_of_ble_eq_true rfl, Nat.le_of_ble_eq_true rfl⟩) hK (w_self_sd hW) hS (x_recv (i := (k_st cs)) (k := 4) (j := 0) hK hW ⟨hW.2.2.2.1, by decide⟩ rfl (by decide)) rfl hl.1 (rest := []) rfl (Nat.le_of_ble_eq_true rfl) dX7_sessionSize_6 ⟨Nat.le_of_ble_eq_true rfl, Nat.le_of_ble_eq_true rfl⟩) hS (fun H locs hW hS => ?_)
  have hW := w_unself_sd hW
  have hW : World g ((cs, mt)) H := hW
  refine W.eq (g2 := F0 m 9 ls [.int q1]) rfl ?_
  refine lv_if_ne (tgt := 15) hx hb dX7_sessionSize_9 (by decide) (fun hc => ?_) (fun hc => ?_)
  · have hf := x_iteF hf hc
    refine lv_aload_n hx hb dX7_sessionSize_15 rfl (lv_at hl 0 rfl) ?_
    refine x_get (i := g.1) (k := 7) (j := 0) (t := 3) hx hb hts i_7 hown hK hW ⟨⟨hfl, rfl⟩, by decide⟩ rfl ⟨by decide, by decide, rfl⟩ (hts (.fieldLink RX7 19 "OpticalJukebox" "state" "LOpticalJukebox$State;") (by decide +kernel)) (v := .ref (adr (k_st cs) 4 0)) rfl dX7_sessionSize_16 ?_
    refine x_get (i := (k_st cs)) (k := 4) (j := 0) (t := 5) hx hb hts i_4 hown hK hW ⟨hW.2.2.2.1, by decide⟩ rfl ⟨by decide, by decide, rfl⟩ (hts (.fieldLink RX7 78 "OpticalJukebox$State" "platters" "[LOpticalJukebox$Platter;") (by decide +kernel)) (v := .ref (adr (k_st cs) 12 0)) rfl dX7_sessionSize_19 ?_
    refine lv_iload_n hx hb dX7_sessionSize_22 rfl (lv_at hl 1 rfl) ?_
    obtain ⟨hg2, hf⟩ := x_guardE hf
    refine x_aald (i := (k_st cs)) (k := 12) (j := 0) hx hb hK hW ⟨hW.2.2.2.1, by decide⟩ (by decide) rfl rfl hg2 dX7_sessionSize_23 ?_
    refine W.eq (g2 := F0 m 24 ls [.ref (adr (k_st cs) 3 (a1).toNatClampNeg)]) rfl ?_
    refine x_get (i := (k_st cs)) (k := 3) (j := (a1).toNatClampNeg) (t := 7) hx hb hts i_3 hown hK hW ⟨hW.2.2.2.1, (x_lt hg2)⟩ rfl ⟨by decide, by decide, rfl⟩ (hts (.fieldLink RX7 161 "OpticalJukebox$Platter" "sessionSizes" "[I") (by decide +kernel)) (v := .ref (adr (k_st cs) 17 (a1).toNatClampNeg)) rfl dX7_sessionSize_24 ?_
    refine lv_iload_n hx hb dX7_sessionSize_27 rfl (lv_at hl 2 rfl) ?_
    obtain ⟨hg3, hf⟩ := x_guardE hf
    refine x_iald (i := (k_st cs)) (k := 17) (j := (a1).toNatClampNeg) (f := (k_xs cs (k_st cs)) 17 (a1).toNatClampNeg) hx hb hK hW ⟨hW.2.2.2.1, (x_lt hg2)⟩ (by decide) (rfl) rfl hg3 dX7_sessionSize_28 ?_
    cases hf
    exact x_iret hx hb hr hlocks hK hW hS rfl dX7_sessionSize_29
  · have hf := x_iteT hf hc
    refine lv_ldc (v := -1000001) hx hb hown (hts (.constant RX7 87 (-1000001)) (by decide +kernel)) dX7_sessionSize_12 ?_
    cases hf
    exact x_iret hx hb hr hlocks hK hW hS rfl dX7_sessionSize_14
abbrev rm_X7_sparesLeft : Room := { frames := 1, cells := 0, slots := 0, locals := 21 }
set_option maxRecDepth 100000 in
set_option maxHeartbeats 4000000 in
theorem ct_X7_sparesLeft (l : Launch) (g : GT) (hfl : 1 ≤ gf g) (cs : CT) (mt : MT) (a1 : Int32) {q : Int32} (hf : f_X7_sparesLeft (k_xs cs (k_st cs)) a1 = some q) : Met l yX7_sparesLeft wsX7_sparesLeft rm_X7_sparesLeft (cPre g ((cs, mt)) [.ref (adr g.1 7 0), .int a1]) (cQi g q ((cs, mt))) 0 0 (gA g) := by
  have i_3 : ∀ w ∈ u_ws RX3 TX3 9, w ∈ wsX7_sparesLeft := by decide +kernel
  have i_4 : ∀ w ∈ u_ws RX4 TX4 18, w ∈ wsX7_sparesLeft := by decide +kernel
  have i_7 : ∀ w ∈ u_ws RX7 TX7 9, w ∈ wsX7_sparesLeft := by decide +kernel
  refine x_met (by decide) rfl (Nat.le_of_ble_eq_true rfl) ?_
  intro p e s m below meth c hx hb hr hml hts hown hlocks hK hW hS ls hl
  have hown : s.vm.findClass RX7 = some m.cls := hown
  have hl : lv_has ls 2 [(0, .ref (adr g.1 7 0)), (1, .int a1)] := hl
  rw [f_X7_sparesLeft] at hf
  refine lv_aload_n hx hb dX7_sparesLeft_0 rfl (lv_at hl 0 rfl) ?_
  refine x_get (i := g.1) (k := 7) (j := 0) (t := 3) hx hb hts i_7 hown hK hW ⟨⟨hfl, rfl⟩, by decide⟩ rfl ⟨by decide, by decide, rfl⟩ (hts (.fieldLink RX7 19 "OpticalJukebox" "state" "LOpticalJukebox$State;") (by decide +kernel)) (v := .ref (adr (k_st cs) 4 0)) rfl dX7_sparesLeft_1 ?_
  refine lv_iload_n hx hb dX7_sparesLeft_4 rfl (lv_at hl 1 rfl) ?_
  obtain ⟨q1, h_q1, hf⟩ := x_bindE hf
  refine x_ci0 (x_rV ⟨hx, hb, hml, hown, hts⟩ (ct_X4_hasPlatter l g (cs, mt) (k_st cs) hW.2.2.2.1 (k_xs cs (k_st cs)) (a1) h_q1) (cwV 1 hts gX7_sparesLeft_X4_hasPlatter rfl rfl rfl (by decide +kernel) ⟨Nat.le_of_ble_eq_true rfl, Nat.le_of_ble_eq_true rfl⟩) hK (w_self_sd hW) hS (x_recv (i := (k_st cs)) (k := 4) (j := 0) hK hW ⟨hW.2.2.2.1, by decide⟩ rfl (by decide)) rfl hl.1 (rest := []) rfl (Nat.le_of_ble_eq_true rfl) dX7_sparesLeft_5 ⟨Nat.le_of_ble_eq_true rfl, Nat.le_of_ble_eq_true rfl⟩) hS (fun H locs hW hS => ?_)
  have hW := w_unself_sd hW
  have hW : World g ((cs, mt)) H := hW
  refine W.eq (g2 := F0 m 8 ls [.int q1]) rfl ?_
  refine lv_if_eq (tgt := 26) hx hb dX7_sparesLeft_8 (by decide) (fun hc => ?_) (fun hc => ?_)
  · have hf := x_iteT hf hc
    refine lv_ldc (v := -1000001) hx hb hown (hts (.constant RX7 87 (-1000001)) (by decide +kernel)) dX7_sparesLeft_26 ?_
    cases hf
    exact x_iret hx hb hr hlocks hK hW hS rfl dX7_sparesLeft_28
  · have hf := x_iteF hf hc
    refine lv_aload_n hx hb dX7_sparesLeft_11 rfl (lv_at hl 0 rfl) ?_
    refine x_get (i := g.1) (k := 7) (j := 0) (t := 3) hx hb hts i_7 hown hK hW ⟨⟨hfl, rfl⟩, by decide⟩ rfl ⟨by decide, by decide, rfl⟩ (hts (.fieldLink RX7 19 "OpticalJukebox" "state" "LOpticalJukebox$State;") (by decide +kernel)) (v := .ref (adr (k_st cs) 4 0)) rfl dX7_sparesLeft_12 ?_
    refine x_get (i := (k_st cs)) (k := 4) (j := 0) (t := 5) hx hb hts i_4 hown hK hW ⟨hW.2.2.2.1, by decide⟩ rfl ⟨by decide, by decide, rfl⟩ (hts (.fieldLink RX7 78 "OpticalJukebox$State" "platters" "[LOpticalJukebox$Platter;") (by decide +kernel)) (v := .ref (adr (k_st cs) 12 0)) rfl dX7_sparesLeft_15 ?_
    refine lv_iload_n hx hb dX7_sparesLeft_18 rfl (lv_at hl 1 rfl) ?_
    obtain ⟨hg2, hf⟩ := x_guardE hf
    refine x_aald (i := (k_st cs)) (k := 12) (j := 0) hx hb hK hW ⟨hW.2.2.2.1, by decide⟩ (by decide) rfl rfl hg2 dX7_sparesLeft_19 ?_
    refine W.eq (g2 := F0 m 20 ls [.ref (adr (k_st cs) 3 (a1).toNatClampNeg)]) rfl ?_
    refine x_get (i := (k_st cs)) (k := 3) (j := (a1).toNatClampNeg) (t := 2) hx hb hts i_3 hown hK hW ⟨hW.2.2.2.1, (x_lt hg2)⟩ rfl ⟨by decide, by decide, rfl⟩ (hts (.fieldLink RX7 164 "OpticalJukebox$Platter" "spares" "I") (by decide +kernel)) (rfl) dX7_sparesLeft_20 ?_
    refine lv_goto (tgt := 28) hx hb dX7_sparesLeft_23 (by decide) ?_
    cases hf
    exact x_iret hx hb hr hlocks hK hW hS rfl dX7_sparesLeft_28
abbrev rm_X7_staleSectors : Room := { frames := 2, cells := 0, slots := 0, locals := 44 }
set_option maxRecDepth 100000 in
set_option maxHeartbeats 4000000 in
theorem ct_X7_staleSectors (l : Launch) (g : GT) (hfl : 1 ≤ gf g) (cs : CT) (mt : MT) (a1 : Int32) {q : Int32} (hf : f_X7_staleSectors (k_xs cs (k_st cs)) a1 = some q) : Met l yX7_staleSectors wsX7_staleSectors rm_X7_staleSectors (cPre g ((cs, mt)) [.ref (adr g.1 7 0), .int a1]) (cQi g q ((cs, mt))) 0 0 (gA g) := by
  have i_7 : ∀ w ∈ u_ws RX7 TX7 9, w ∈ wsX7_staleSectors := by decide +kernel
  refine x_met (by decide) rfl (Nat.le_of_ble_eq_true rfl) ?_
  intro p e s m below meth c hx hb hr hml hts hown hlocks hK hW hS ls hl
  have hown : s.vm.findClass RX7 = some m.cls := hown
  have hl : lv_has ls 2 [(0, .ref (adr g.1 7 0)), (1, .int a1)] := hl
  rw [f_X7_staleSectors] at hf
  refine lv_aload_n hx hb dX7_staleSectors_0 rfl (lv_at hl 0 rfl) ?_
  refine x_get (i := g.1) (k := 7) (j := 0) (t := 3) hx hb hts i_7 hown hK hW ⟨⟨hfl, rfl⟩, by decide⟩ rfl ⟨by decide, by decide, rfl⟩ (hts (.fieldLink RX7 19 "OpticalJukebox" "state" "LOpticalJukebox$State;") (by decide +kernel)) (v := .ref (adr (k_st cs) 4 0)) rfl dX7_staleSectors_1 ?_
  refine lv_iload_n hx hb dX7_staleSectors_4 rfl (lv_at hl 1 rfl) ?_
  obtain ⟨q1, h_q1, hf⟩ := x_bindE hf
  refine x_ci0 (x_rV ⟨hx, hb, hml, hown, hts⟩ (ct_X4_hasPlatter l g (cs, mt) (k_st cs) hW.2.2.2.1 (k_xs cs (k_st cs)) (a1) h_q1) (cwV 1 hts gX7_staleSectors_X4_hasPlatter rfl rfl rfl (by decide +kernel) ⟨Nat.le_of_ble_eq_true rfl, Nat.le_of_ble_eq_true rfl⟩) hK (w_self_sd hW) hS (x_recv (i := (k_st cs)) (k := 4) (j := 0) hK hW ⟨hW.2.2.2.1, by decide⟩ rfl (by decide)) rfl hl.1 (rest := []) rfl (Nat.le_of_ble_eq_true rfl) dX7_staleSectors_5 ⟨Nat.le_of_ble_eq_true rfl, Nat.le_of_ble_eq_true rfl⟩) hS (fun H locs hW hS => ?_)
  have hW := w_unself_sd hW
  have hW : World g ((cs, mt)) H := hW
  refine W.eq (g2 := F0 m 8 ls [.int q1]) rfl ?_
  refine lv_if_eq (tgt := 22) hx hb dX7_staleSectors_8 (by decide) (fun hc => ?_) (fun hc => ?_)
  · have hf := x_iteT hf hc
    refine lv_ldc (v := -1000001) hx hb hown (hts (.constant RX7 87 (-1000001)) (by decide +kernel)) dX7_staleSectors_22 ?_
    cases hf
    exact x_iret hx hb hr hlocks hK hW hS rfl dX7_staleSectors_24
  · have hf := x_iteF hf hc
    refine lv_aload_n hx hb dX7_staleSectors_11 rfl (lv_at hl 0 rfl) ?_
    refine x_get (i := g.1) (k := 7) (j := 0) (t := 3) hx hb hts i_7 hown hK hW ⟨⟨hfl, rfl⟩, by decide⟩ rfl ⟨by decide, by decide, rfl⟩ (hts (.fieldLink RX7 19 "OpticalJukebox" "state" "LOpticalJukebox$State;") (by decide +kernel)) (v := .ref (adr (k_st cs) 4 0)) rfl dX7_staleSectors_12 ?_
    refine lv_iload_n hx hb dX7_staleSectors_15 rfl (lv_at hl 1 rfl) ?_
    obtain ⟨q2, h_q2, hf⟩ := x_bindE hf
    refine x_ci0 (x_rV ⟨hx, hb, hml, hown, hts⟩ (ct_X4_countStale l g (cs, mt) (k_st cs) hW.2.2.2.1 (k_xs cs (k_st cs)) (a1) h_q2) (cwV 1 hts gX7_staleSectors_X4_countStale rfl rfl rfl (by decide +kernel) ⟨Nat.le_of_ble_eq_true rfl, Nat.le_of_ble_eq_true rfl⟩) hK (w_self_sd hW) hS (x_recv (i := (k_st cs)) (k := 4) (j := 0) hK hW ⟨hW.2.2.2.1, by decide⟩ rfl (by decide)) rfl hl.1 (rest := []) rfl (Nat.le_of_ble_eq_true rfl) dX7_staleSectors_16 ⟨Nat.le_of_ble_eq_true rfl, Nat.le_of_ble_eq_true rfl⟩) hS (fun H locs hW hS => ?_)
    have hW := w_unself_sd hW
    have hW : World g ((cs, mt)) H := hW
    refine W.eq (g2 := F0 m 19 ls [.int q2]) rfl ?_
    refine lv_goto (tgt := 24) hx hb dX7_staleSectors_19 (by decide) ?_
    cases hf
    exact x_iret hx hb hr hlocks hK hW hS rfl dX7_staleSectors_24
abbrev rm_X7_sectorKind : Room := { frames := 3, cells := 0, slots := 0, locals := 69 }
set_option maxRecDepth 100000 in
set_option maxHeartbeats 4000000 in
theorem ct_X7_sectorKind (l : Launch) (g : GT) (hfl : 1 ≤ gf g) (cs : CT) (mt : MT) (a1 : Int32) (a2 : Int32) {q : Int32} (hf : f_X7_sectorKind (k_xs cs (k_st cs)) a1 a2 = some q) : Met l yX7_sectorKind wsX7_sectorKind rm_X7_sectorKind (cPre g ((cs, mt)) [.ref (adr g.1 7 0), .int a1, .int a2]) (cQi g q ((cs, mt))) 0 0 (gA g) := by
  have i_7 : ∀ w ∈ u_ws RX7 TX7 9, w ∈ wsX7_sectorKind := by decide +kernel
  refine x_met (by decide) rfl (Nat.le_of_ble_eq_true rfl) ?_
  intro p e s m below meth c hx hb hr hml hts hown hlocks hK hW hS ls hl
  have hown : s.vm.findClass RX7 = some m.cls := hown
  have hl : lv_has ls 3 [(0, .ref (adr g.1 7 0)), (1, .int a1), (2, .int a2)] := hl
  rw [f_X7_sectorKind] at hf
  refine lv_aload_n hx hb dX7_sectorKind_0 rfl (lv_at hl 0 rfl) ?_
  refine x_get (i := g.1) (k := 7) (j := 0) (t := 3) hx hb hts i_7 hown hK hW ⟨⟨hfl, rfl⟩, by decide⟩ rfl ⟨by decide, by decide, rfl⟩ (hts (.fieldLink RX7 19 "OpticalJukebox" "state" "LOpticalJukebox$State;") (by decide +kernel)) (v := .ref (adr (k_st cs) 4 0)) rfl dX7_sectorKind_1 ?_
  refine lv_iload_n hx hb dX7_sectorKind_4 rfl (lv_at hl 1 rfl) ?_
  refine lv_iload_n hx hb dX7_sectorKind_5 rfl (lv_at hl 2 rfl) ?_
  obtain ⟨q1, h_q1, hf⟩ := x_bindE hf
  refine x_ci0 (x_rV ⟨hx, hb, hml, hown, hts⟩ (ct_X4_hasSector l g (cs, mt) (k_st cs) hW.2.2.2.1 (k_xs cs (k_st cs)) (a1) (a2) h_q1) (cwV 2 hts gX7_sectorKind_X4_hasSector rfl rfl rfl (by decide +kernel) ⟨Nat.le_of_ble_eq_true rfl, Nat.le_of_ble_eq_true rfl⟩) hK (w_self_sd hW) hS (x_recv (i := (k_st cs)) (k := 4) (j := 0) hK hW ⟨hW.2.2.2.1, by decide⟩ rfl (by decide)) rfl hl.1 (rest := []) rfl (Nat.le_of_ble_eq_true rfl) dX7_sectorKind_6 ⟨Nat.le_of_ble_eq_true rfl, Nat.le_of_ble_eq_true rfl⟩) hS (fun H locs hW hS => ?_)
  have hW := w_unself_sd hW
  have hW : World g ((cs, mt)) H := hW
  refine W.eq (g2 := F0 m 9 ls [.int q1]) rfl ?_
  refine lv_if_eq (tgt := 24) hx hb dX7_sectorKind_9 (by decide) (fun hc => ?_) (fun hc => ?_)
  · have hf := x_iteT hf hc
    refine lv_ldc (v := -1000001) hx hb hown (hts (.constant RX7 87 (-1000001)) (by decide +kernel)) dX7_sectorKind_24 ?_
    cases hf
    exact x_iret hx hb hr hlocks hK hW hS rfl dX7_sectorKind_26
  · have hf := x_iteF hf hc
    refine lv_aload_n hx hb dX7_sectorKind_12 rfl (lv_at hl 0 rfl) ?_
    refine x_get (i := g.1) (k := 7) (j := 0) (t := 3) hx hb hts i_7 hown hK hW ⟨⟨hfl, rfl⟩, by decide⟩ rfl ⟨by decide, by decide, rfl⟩ (hts (.fieldLink RX7 19 "OpticalJukebox" "state" "LOpticalJukebox$State;") (by decide +kernel)) (v := .ref (adr (k_st cs) 4 0)) rfl dX7_sectorKind_13 ?_
    refine lv_iload_n hx hb dX7_sectorKind_16 rfl (lv_at hl 1 rfl) ?_
    refine lv_iload_n hx hb dX7_sectorKind_17 rfl (lv_at hl 2 rfl) ?_
    obtain ⟨q2, h_q2, hf⟩ := x_bindE hf
    refine x_ci0 (x_rV ⟨hx, hb, hml, hown, hts⟩ (ct_X4_kindOfSector l g (cs, mt) (k_st cs) hW.2.2.2.1 (k_xs cs (k_st cs)) (a1) (a2) h_q2) (cwV 2 hts gX7_sectorKind_X4_kindOfSector rfl rfl rfl (by decide +kernel) ⟨Nat.le_of_ble_eq_true rfl, Nat.le_of_ble_eq_true rfl⟩) hK (w_self_sd hW) hS (x_recv (i := (k_st cs)) (k := 4) (j := 0) hK hW ⟨hW.2.2.2.1, by decide⟩ rfl (by decide)) rfl hl.1 (rest := []) rfl (Nat.le_of_ble_eq_true rfl) dX7_sectorKind_18 ⟨Nat.le_of_ble_eq_true rfl, Nat.le_of_ble_eq_true rfl⟩) hS (fun H locs hW hS => ?_)
    have hW := w_unself_sd hW
    have hW : World g ((cs, mt)) H := hW
    refine W.eq (g2 := F0 m 21 ls [.int q2]) rfl ?_
    refine lv_goto (tgt := 26) hx hb dX7_sectorKind_21 (by decide) ?_
    cases hf
    exact x_iret hx hb hr hlocks hK hW hS rfl dX7_sectorKind_26
abbrev rm_X7_bitsOfShare : Room := { frames := 0, cells := 0, slots := 0, locals := 0 }
set_option maxRecDepth 100000 in
set_option maxHeartbeats 4000000 in
theorem ct_X7_bitsOfShare (l : Launch) (g : GT) (w : WT) (a0 : Int32) (a1 : Int32) {q : Int32} (hf : f_X7_bitsOfShare  a0 a1 = some q) : Met l yX7_bitsOfShare wsX7_bitsOfShare rm_X7_bitsOfShare (cPre g (w) [.int a0, .int a1]) (cQi g q (w)) 0 0 (gA g) := by
  refine x_met (by decide) rfl (Nat.le_of_ble_eq_true rfl) ?_
  intro p e s m below meth c hx hb hr hml hts hown hlocks hK hW hS ls hl
  have hown : s.vm.findClass RX7 = some m.cls := hown
  have hl : lv_has ls 10 [(0, .int a0), (1, .int a1)] := hl
  rw [f_X7_bitsOfShare] at hf
  refine lv_iload_n hx hb dX7_bitsOfShare_0 rfl (lv_at hl 0 rfl) ?_
  refine lv_if_le (tgt := 8) hx hb dX7_bitsOfShare_1 (by decide) (fun hc => ?_) (fun hc => ?_)
  · have hf := x_iteT hf hc
    refine lv_iconst (v := 0) hx hb dX7_bitsOfShare_8 (by decide) ?_
    cases hf
    exact x_iret hx hb hr hlocks hK hW hS rfl dX7_bitsOfShare_9
  · have hf := x_iteF hf hc
    refine lv_iload_n hx hb dX7_bitsOfShare_4 rfl (lv_at hl 1 rfl) ?_
    refine lv_if_gt (tgt := 10) hx hb dX7_bitsOfShare_5 (by decide) (fun hc => ?_) (fun hc => ?_)
    · have hf := x_iteT hf hc
      refine lv_ldc2 (v := 8388608) hx hb hown (hts (.constantLong RX7 185 (8388608)) (by decide +kernel)) dX7_bitsOfShare_10 ?_
      refine lv_lstore_n (lv' := [(2, .long (8388608 : Int64)), (0, .int a0), (1, .int a1)]) hx hb dX7_bitsOfShare_13 rfl hl (by decide) rfl (fun ls hl => ?_)
      refine lv_iconst (v := 0) hx hb dX7_bitsOfShare_14 (by decide) ?_
      refine lv_istore (lv' := [(4, .int (0 : Int32)), (2, .long (8388608 : Int64)), (0, .int a0), (1, .int a1)]) hx hb dX7_bitsOfShare_15 hl (by decide) rfl (fun ls hl => ?_)
      have L17 : ∀ (n : Nat) (v4_17 : Int32) (ls : Array Slot) (H : Heap) (locs : List Loc), lv_has ls 10 [(0, .int a0), (1, .int a1), (2, .long (8388608 : Int64)), (4, .int v4_17)] → World g (w) H → va_S (gA g) s.heap H locs → f_X7_bitsOfShare_L17 a0 a1 n v4_17 = some q → W p l e rm_X7_bitsOfShare s m [.int a0, .int a1].toArray below meth c H locs 0 0 (MQ below (cQi g q (w)) [.int a0, .int a1].toArray s 0 0 (gA g)) (F0 m 17 ls []) := by
        clear hW hS hl
        intro n
        induction n with
        | zero => intro v4_17 ls H locs hl hW hS hf; cases hf
        | succ n_17 ih =>
          intro v4_17 ls H locs hl hW hS hf
          rw [f_X7_bitsOfShare_L17] at hf
          refine lv_iload hx hb dX7_bitsOfShare_17 (lv_at hl 3 rfl) ?_
          refine lv_bipush (v := 40) hx hb dX7_bitsOfShare_19 (by decide) ?_
          obtain ⟨K1, eK1, hf⟩ := x_letE hf
          have KK1 : ∀ (_u : Unit) (ls : Array Slot) (H : Heap) (locs : List Loc), lv_has ls 10 [(0, .int a0), (1, .int a1), (2, .long (8388608 : Int64)), (4, .int v4_17)] → World g (w) H → va_S (gA g) s.heap H locs → K1 _u = some q → W p l e rm_X7_bitsOfShare s m [.int a0, .int a1].toArray below meth c H locs 0 0 (MQ below (cQi g q (w)) [.int a0, .int a1].toArray s 0 0 (gA g)) (F0 m 43 ls []) := by
            intro _u ls H locs hl hW hS hf
            subst eK1
            refine lv_iload_n hx hb dX7_bitsOfShare_43 rfl (lv_at hl 0 rfl) ?_
            refine lv_i2l hx hb dX7_bitsOfShare_44 rfl ?_
            refine lv_iload hx hb dX7_bitsOfShare_45 (lv_at hl 3 rfl) ?_
            refine lv_lshl hx hb dX7_bitsOfShare_47 rfl ?_
            obtain ⟨x2, e_x2, hf⟩ := x_letE hf
            refine x_topl e_x2 ?_
            refine lv_lstore (lv' := [(5, .long x2), (0, .int a0), (1, .int a1), (2, .long (8388608 : Int64)), (4, .int v4_17)]) hx hb dX7_bitsOfShare_48 hl (by decide) rfl (fun ls hl => ?_)
            refine lv_lload hx hb dX7_bitsOfShare_50 (lv_at hl 0 rfl) ?_
            refine lv_iload_n hx hb dX7_bitsOfShare_52 rfl (lv_at hl 2 rfl) ?_
            refine lv_i2l hx hb dX7_bitsOfShare_53 rfl ?_
            obtain ⟨hg3, hf⟩ := x_guardE hf
            refine lv_ldiv hx hb dX7_bitsOfShare_54 hg3 ?_
            obtain ⟨x4, e_x4, hf⟩ := x_letE hf
            refine x_topl e_x4 ?_
            refine lv_lstore (lv' := [(7, .long x4), (5, .long x2), (0, .int a0), (1, .int a1), (2, .long (8388608 : Int64)), (4, .int v4_17)]) hx hb dX7_bitsOfShare_55 hl (by decide) rfl (fun ls hl => ?_)
            refine lv_ldc2 (v := 2) hx hb hown (hts (.constantLong RX7 187 (2)) (by decide +kernel)) dX7_bitsOfShare_57 ?_
            refine lv_lload hx hb dX7_bitsOfShare_60 (lv_at hl 1 rfl) ?_
            refine lv_iload_n hx hb dX7_bitsOfShare_62 rfl (lv_at hl 3 rfl) ?_
            refine lv_i2l hx hb dX7_bitsOfShare_63 rfl ?_
            obtain ⟨hg5, hf⟩ := x_guardE hf
            refine lv_lrem hx hb dX7_bitsOfShare_64 hg5 ?_
            refine lv_lmul hx hb dX7_bitsOfShare_65 ?_
            refine lv_iload_n hx hb dX7_bitsOfShare_66 rfl (lv_at hl 3 rfl) ?_
            refine lv_i2l hx hb dX7_bitsOfShare_67 rfl ?_
            refine W.lcmp hx hb dX7_bitsOfShare_68 ?_
            obtain ⟨K6, eK6, hf⟩ := x_letE hf
            have KK6 : ∀ (y7 : Int64) (ls : Array Slot) (H : Heap) (locs : List Loc), lv_has ls 10 [(0, .int a0), (1, .int a1), (2, .long (8388608 : Int64)), (4, .int v4_17), (5, .long x2), (7, .long y7)] → World g (w) H → va_S (gA g) s.heap H locs → K6 y7 = some q → W p l e rm_X7_bitsOfShare s m [.int a0, .int a1].toArray below meth c H locs 0 0 (MQ below (cQi g q (w)) [.int a0, .int a1].toArray s 0 0 (gA g)) (F0 m 78 ls []) := by
              intro y7 ls H locs hl hW hS hf
              subst eK6
              refine lv_sipush (v := 150) hx hb dX7_bitsOfShare_78 (by decide) ?_
              refine lv_iload hx hb dX7_bitsOfShare_81 (lv_at hl 3 rfl) ?_
              refine lv_isub hx hb dX7_bitsOfShare_83 ?_
              obtain ⟨x8, e_x8, hf⟩ := x_letE hf
              refine x_topi e_x8 ?_
              refine lv_istore (lv' := [(9, .int x8), (0, .int a0), (1, .int a1), (2, .long (8388608 : Int64)), (4, .int v4_17), (5, .long x2), (7, .long y7)]) hx hb dX7_bitsOfShare_84 hl (by decide) rfl (fun ls hl => ?_)
              refine lv_iload hx hb dX7_bitsOfShare_86 (lv_at hl 0 rfl) ?_
              refine lv_bipush (v := 23) hx hb dX7_bitsOfShare_88 (by decide) ?_
              refine lv_ishl hx hb dX7_bitsOfShare_90 ?_
              refine lv_lload hx hb dX7_bitsOfShare_91 (lv_at hl 6 rfl) ?_
              refine lv_lload_n hx hb dX7_bitsOfShare_93 rfl (lv_at hl 3 rfl) ?_
              refine lv_lsub hx hb dX7_bitsOfShare_94 ?_
              refine lv_l2i hx hb dX7_bitsOfShare_95 rfl ?_
              refine lv_iadd hx hb dX7_bitsOfShare_96 ?_
              cases hf
              exact x_iret hx hb hr hlocks hK hW hS rfl dX7_bitsOfShare_97
            clear eK6
            refine lv_if_lt (tgt := 78) hx hb dX7_bitsOfShare_69 (by decide) (fun hc => ?_) (fun hc => ?_)
            · have hf := x_iteT hf hc
              exact KK6 (x4) ls _ _ (lv_sub hl [2, 3, 4, 5, 1, 0] rfl) hW hS hf
            · have hf := x_iteF hf hc
              refine lv_lload hx hb dX7_bitsOfShare_72 (lv_at hl 0 rfl) ?_
              refine lv_lconst (v := 1) hx hb dX7_bitsOfShare_74 (by decide) ?_
              refine lv_ladd hx hb dX7_bitsOfShare_75 ?_
              obtain ⟨x9, e_x9, hf⟩ := x_letE hf
              refine x_topl e_x9 ?_
              refine lv_lstore (lv' := [(7, .long x9), (5, .long x2), (0, .int a0), (1, .int a1), (2, .long (8388608 : Int64)), (4, .int v4_17)]) hx hb dX7_bitsOfShare_76 hl (by decide) rfl (fun ls hl => ?_)
              exact KK6 (x9) ls _ _ (lv_sub hl [2, 3, 4, 5, 1, 0] rfl) hW hS hf
          clear eK1
          refine lv_icmp_ge (tgt := 43) hx hb dX7_bitsOfShare_21 (by decide) (fun hc => ?_) (fun hc => ?_)
          · have hf := x_iteT hf hc
            exact KK1 (()) ls _ _ hl hW hS hf
          · have hf := x_iteF hf hc
            refine lv_iload_n hx hb dX7_bitsOfShare_24 rfl (lv_at hl 0 rfl) ?_
            refine lv_i2l hx hb dX7_bitsOfShare_25 rfl ?_
            refine lv_iload hx hb dX7_bitsOfShare_26 (lv_at hl 3 rfl) ?_
            refine lv_lshl hx hb dX7_bitsOfShare_28 rfl ?_
            refine lv_iload_n hx hb dX7_bitsOfShare_29 rfl (lv_at hl 1 rfl) ?_
            refine lv_i2l hx hb dX7_bitsOfShare_30 rfl ?_
            obtain ⟨hg10, hf⟩ := x_guardE hf
            refine lv_ldiv hx hb dX7_bitsOfShare_31 hg10 ?_
            refine lv_lload_n hx hb dX7_bitsOfShare_32 rfl (lv_at hl 2 rfl) ?_
            refine W.lcmp hx hb dX7_bitsOfShare_33 ?_
            refine lv_if_ge (tgt := 43) hx hb dX7_bitsOfShare_34 (by decide) (fun hc => ?_) (fun hc => ?_)
            · have hf := x_iteT hf hc
              exact KK1 (()) ls _ _ hl hW hS hf
            · have hf := x_iteF hf hc
              obtain ⟨x11, e_x11, hf⟩ := x_letE hf
              refine lv_iinc (v := x11) (lv' := [(4, .int x11), (0, .int a0), (1, .int a1), (2, .long (8388608 : Int64))]) hx hb dX7_bitsOfShare_37 hl (k := 3) rfl (by rw [e_x11]; rfl) (by decide) rfl (fun ls hl => ?_)
              refine lv_goto (tgt := 17) hx hb dX7_bitsOfShare_40 (by decide) ?_
              exact ih (x11) ls _ _ (lv_sub hl [1, 2, 3, 0] rfl) hW hS hf
      exact L17 fuel ((0 : Int32)) ls _ _ (lv_sub hl [2, 3, 1, 0] rfl) hW hS hf
    · have hf := x_iteF hf hc
      refine lv_iconst (v := 0) hx hb dX7_bitsOfShare_8 (by decide) ?_
      cases hf
      exact x_iret hx hb hr hlocks hK hW hS rfl dX7_bitsOfShare_9
abbrev rm_X7_fillBits : Room := { frames := 1, cells := 0, slots := 0, locals := 29 }
set_option maxRecDepth 100000 in
set_option maxHeartbeats 4000000 in
theorem ct_X7_fillBits (l : Launch) (g : GT) (hfl : 1 ≤ gf g) (cs : CT) (mt : MT) (a1 : Int32) {q : Int32} (hf : f_X7_fillBits (k_xs cs (k_st cs)) a1 = some q) : Met l yX7_fillBits wsX7_fillBits rm_X7_fillBits (cPre g ((cs, mt)) [.ref (adr g.1 7 0), .int a1]) (cQi g q ((cs, mt))) 0 0 (gA g) := by
  have i_3 : ∀ w ∈ u_ws RX3 TX3 9, w ∈ wsX7_fillBits := by decide +kernel
  have i_4 : ∀ w ∈ u_ws RX4 TX4 18, w ∈ wsX7_fillBits := by decide +kernel
  have i_7 : ∀ w ∈ u_ws RX7 TX7 9, w ∈ wsX7_fillBits := by decide +kernel
  refine x_met (by decide) rfl (Nat.le_of_ble_eq_true rfl) ?_
  intro p e s m below meth c hx hb hr hml hts hown hlocks hK hW hS ls hl
  have hown : s.vm.findClass RX7 = some m.cls := hown
  have hl : lv_has ls 3 [(0, .ref (adr g.1 7 0)), (1, .int a1)] := hl
  rw [f_X7_fillBits] at hf
  refine lv_aload_n hx hb dX7_fillBits_0 rfl (lv_at hl 0 rfl) ?_
  refine x_get (i := g.1) (k := 7) (j := 0) (t := 3) hx hb hts i_7 hown hK hW ⟨⟨hfl, rfl⟩, by decide⟩ rfl ⟨by decide, by decide, rfl⟩ (hts (.fieldLink RX7 19 "OpticalJukebox" "state" "LOpticalJukebox$State;") (by decide +kernel)) (v := .ref (adr (k_st cs) 4 0)) rfl dX7_fillBits_1 ?_
  refine lv_iload_n hx hb dX7_fillBits_4 rfl (lv_at hl 1 rfl) ?_
  obtain ⟨q1, h_q1, hf⟩ := x_bindE hf
  refine x_ci0 (x_rV ⟨hx, hb, hml, hown, hts⟩ (ct_X4_hasPlatter l g (cs, mt) (k_st cs) hW.2.2.2.1 (k_xs cs (k_st cs)) (a1) h_q1) (cwV 1 hts gX7_fillBits_X4_hasPlatter rfl rfl rfl (by decide +kernel) ⟨Nat.le_of_ble_eq_true rfl, Nat.le_of_ble_eq_true rfl⟩) hK (w_self_sd hW) hS (x_recv (i := (k_st cs)) (k := 4) (j := 0) hK hW ⟨hW.2.2.2.1, by decide⟩ rfl (by decide)) rfl hl.1 (rest := []) rfl (Nat.le_of_ble_eq_true rfl) dX7_fillBits_5 ⟨Nat.le_of_ble_eq_true rfl, Nat.le_of_ble_eq_true rfl⟩) hS (fun H locs hW hS => ?_)
  have hW := w_unself_sd hW
  have hW : World g ((cs, mt)) H := hW
  refine W.eq (g2 := F0 m 8 ls [.int q1]) rfl ?_
  refine lv_if_ne (tgt := 14) hx hb dX7_fillBits_8 (by decide) (fun hc => ?_) (fun hc => ?_)
  · have hf := x_iteF hf hc
    refine lv_aload_n hx hb dX7_fillBits_14 rfl (lv_at hl 0 rfl) ?_
    refine x_get (i := g.1) (k := 7) (j := 0) (t := 3) hx hb hts i_7 hown hK hW ⟨⟨hfl, rfl⟩, by decide⟩ rfl ⟨by decide, by decide, rfl⟩ (hts (.fieldLink RX7 19 "OpticalJukebox" "state" "LOpticalJukebox$State;") (by decide +kernel)) (v := .ref (adr (k_st cs) 4 0)) rfl dX7_fillBits_15 ?_
    refine x_get (i := (k_st cs)) (k := 4) (j := 0) (t := 5) hx hb hts i_4 hown hK hW ⟨hW.2.2.2.1, by decide⟩ rfl ⟨by decide, by decide, rfl⟩ (hts (.fieldLink RX7 78 "OpticalJukebox$State" "platters" "[LOpticalJukebox$Platter;") (by decide +kernel)) (v := .ref (adr (k_st cs) 12 0)) rfl dX7_fillBits_18 ?_
    refine lv_iload_n hx hb dX7_fillBits_21 rfl (lv_at hl 1 rfl) ?_
    obtain ⟨hg2, hf⟩ := x_guardE hf
    refine x_aald (i := (k_st cs)) (k := 12) (j := 0) hx hb hK hW ⟨hW.2.2.2.1, by decide⟩ (by decide) rfl rfl hg2 dX7_fillBits_22 ?_
    refine W.eq (g2 := F0 m 23 ls [.ref (adr (k_st cs) 3 (a1).toNatClampNeg)]) rfl ?_
    refine lv_astore_n (lv' := [(2, .ref (adr (k_st cs) 3 (a1).toNatClampNeg)), (0, .ref (adr g.1 7 0)), (1, .int a1)]) hx hb dX7_fillBits_23 rfl hl (by decide) rfl (fun ls hl => ?_)
    refine lv_aload_n hx hb dX7_fillBits_24 rfl (lv_at hl 0 rfl) ?_
    refine x_get (i := (k_st cs)) (k := 3) (j := (a1).toNatClampNeg) (t := 3) hx hb hts i_3 hown hK hW ⟨hW.2.2.2.1, (x_lt hg2)⟩ rfl ⟨by decide, by decide, rfl⟩ (hts (.fieldLink RX7 176 "OpticalJukebox$Platter" "end" "I") (by decide +kernel)) (rfl) dX7_fillBits_25 ?_
    refine lv_aload_n hx hb dX7_fillBits_28 rfl (lv_at hl 0 rfl) ?_
    refine x_get (i := (k_st cs)) (k := 3) (j := (a1).toNatClampNeg) (t := 1) hx hb hts i_3 hown hK hW ⟨hW.2.2.2.1, (x_lt hg2)⟩ rfl ⟨by decide, by decide, rfl⟩ (hts (.fieldLink RX7 179 "OpticalJukebox$Platter" "capacity" "I") (by decide +kernel)) (rfl) dX7_fillBits_29 ?_
    obtain ⟨q3, h_q3, hf⟩ := x_bindE hf
    refine x_ci0 (x_rS ⟨hx, hb, hml, hown, hts⟩ (ct_X7_bitsOfShare l g ((cs, mt)) (((k_xs cs (k_st cs)) 3 (a1).toNatClampNeg 3)) (((k_xs cs (k_st cs)) 3 (a1).toNatClampNeg 1)) h_q3) (va_cwS 2 hts gX7_fillBits_X7_bitsOfShare rfl rfl rfl (by decide +kernel) ⟨Nat.le_of_ble_eq_true rfl, Nat.le_of_ble_eq_true rfl⟩) hK hW hS rfl hl.1 (rest := []) rfl (Nat.le_of_ble_eq_true rfl) dX7_fillBits_32 ⟨Nat.le_of_ble_eq_true rfl, Nat.le_of_ble_eq_true rfl⟩) hS (fun H locs hW hS => ?_)
    have hW : World g ((cs, mt)) H := hW
    refine W.eq (g2 := F0 m 35 ls [.int q3]) rfl ?_
    cases hf
    exact x_iret hx hb hr hlocks hK hW hS rfl dX7_fillBits_35
  · have hf := x_iteT hf hc
    refine lv_ldc (v := -1000001) hx hb hown (hts (.constant RX7 87 (-1000001)) (by decide +kernel)) dX7_fillBits_11 ?_
    cases hf
    exact x_iret hx hb hr hlocks hK hW hS rfl dX7_fillBits_13
abbrev rm_X7_cleanRun : Room := { frames := 2, cells := 0, slots := 0, locals := 44 }
set_option maxRecDepth 100000 in
set_option maxHeartbeats 4000000 in
theorem ct_X7_cleanRun (l : Launch) (g : GT) (hfl : 1 ≤ gf g) (cs : CT) (mt : MT) (a1 : Int32) {q : Int32} (hf : f_X7_cleanRun (k_xs cs (k_st cs)) a1 = some q) : Met l yX7_cleanRun wsX7_cleanRun rm_X7_cleanRun (cPre g ((cs, mt)) [.ref (adr g.1 7 0), .int a1]) (cQi g q ((cs, mt))) 0 0 (gA g) := by
  have i_4 : ∀ w ∈ u_ws RX4 TX4 18, w ∈ wsX7_cleanRun := by decide +kernel
  have i_7 : ∀ w ∈ u_ws RX7 TX7 9, w ∈ wsX7_cleanRun := by decide +kernel
  refine x_met (by decide) rfl (Nat.le_of_ble_eq_true rfl) ?_
  intro p e s m below meth c hx hb hr hml hts hown hlocks hK hW hS ls hl
  have hown : s.vm.findClass RX7 = some m.cls := hown
  have hl : lv_has ls 2 [(0, .ref (adr g.1 7 0)), (1, .int a1)] := hl
  rw [f_X7_cleanRun] at hf
  refine lv_aload_n hx hb dX7_cleanRun_0 rfl (lv_at hl 0 rfl) ?_
  refine x_get (i := g.1) (k := 7) (j := 0) (t := 3) hx hb hts i_7 hown hK hW ⟨⟨hfl, rfl⟩, by decide⟩ rfl ⟨by decide, by decide, rfl⟩ (hts (.fieldLink RX7 19 "OpticalJukebox" "state" "LOpticalJukebox$State;") (by decide +kernel)) (v := .ref (adr (k_st cs) 4 0)) rfl dX7_cleanRun_1 ?_
  refine lv_iload_n hx hb dX7_cleanRun_4 rfl (lv_at hl 1 rfl) ?_
  obtain ⟨q1, h_q1, hf⟩ := x_bindE hf
  refine x_ci0 (x_rV ⟨hx, hb, hml, hown, hts⟩ (ct_X4_hasPlatter l g (cs, mt) (k_st cs) hW.2.2.2.1 (k_xs cs (k_st cs)) (a1) h_q1) (cwV 1 hts gX7_cleanRun_X4_hasPlatter rfl rfl rfl (by decide +kernel) ⟨Nat.le_of_ble_eq_true rfl, Nat.le_of_ble_eq_true rfl⟩) hK (w_self_sd hW) hS (x_recv (i := (k_st cs)) (k := 4) (j := 0) hK hW ⟨hW.2.2.2.1, by decide⟩ rfl (by decide)) rfl hl.1 (rest := []) rfl (Nat.le_of_ble_eq_true rfl) dX7_cleanRun_5 ⟨Nat.le_of_ble_eq_true rfl, Nat.le_of_ble_eq_true rfl⟩) hS (fun H locs hW hS => ?_)
  have hW := w_unself_sd hW
  have hW : World g ((cs, mt)) H := hW
  refine W.eq (g2 := F0 m 8 ls [.int q1]) rfl ?_
  refine lv_if_eq (tgt := 26) hx hb dX7_cleanRun_8 (by decide) (fun hc => ?_) (fun hc => ?_)
  · have hf := x_iteT hf hc
    refine lv_ldc (v := -1000001) hx hb hown (hts (.constant RX7 87 (-1000001)) (by decide +kernel)) dX7_cleanRun_26 ?_
    cases hf
    exact x_iret hx hb hr hlocks hK hW hS rfl dX7_cleanRun_28
  · have hf := x_iteF hf hc
    refine lv_aload_n hx hb dX7_cleanRun_11 rfl (lv_at hl 0 rfl) ?_
    refine x_get (i := g.1) (k := 7) (j := 0) (t := 3) hx hb hts i_7 hown hK hW ⟨⟨hfl, rfl⟩, by decide⟩ rfl ⟨by decide, by decide, rfl⟩ (hts (.fieldLink RX7 19 "OpticalJukebox" "state" "LOpticalJukebox$State;") (by decide +kernel)) (v := .ref (adr (k_st cs) 4 0)) rfl dX7_cleanRun_12 ?_
    refine x_get (i := (k_st cs)) (k := 4) (j := 0) (t := 5) hx hb hts i_4 hown hK hW ⟨hW.2.2.2.1, by decide⟩ rfl ⟨by decide, by decide, rfl⟩ (hts (.fieldLink RX7 78 "OpticalJukebox$State" "platters" "[LOpticalJukebox$Platter;") (by decide +kernel)) (v := .ref (adr (k_st cs) 12 0)) rfl dX7_cleanRun_15 ?_
    refine lv_iload_n hx hb dX7_cleanRun_18 rfl (lv_at hl 1 rfl) ?_
    obtain ⟨hg2, hf⟩ := x_guardE hf
    refine x_aald (i := (k_st cs)) (k := 12) (j := 0) hx hb hK hW ⟨hW.2.2.2.1, by decide⟩ (by decide) rfl rfl hg2 dX7_cleanRun_19 ?_
    refine W.eq (g2 := F0 m 20 ls [.ref (adr (k_st cs) 3 (a1).toNatClampNeg)]) rfl ?_
    obtain ⟨q3, h_q3, hf⟩ := x_bindE hf
    refine x_ci0 (x_rV ⟨hx, hb, hml, hown, hts⟩ (ct_X3_longestCleanRun l g (cs, mt) (k_st cs) hW.2.2.2.1 (k_xs cs (k_st cs)) ((a1).toNatClampNeg) ((x_lt hg2)) h_q3) (cwV 0 hts gX7_cleanRun_X3_longestCleanRun rfl rfl rfl (by decide +kernel) ⟨Nat.le_of_ble_eq_true rfl, Nat.le_of_ble_eq_true rfl⟩) hK (w_self_sd hW) hS (x_recv (i := (k_st cs)) (k := 3) (j := (a1).toNatClampNeg) hK hW ⟨hW.2.2.2.1, (x_lt hg2)⟩ rfl (by decide)) rfl hl.1 (rest := []) rfl (Nat.le_of_ble_eq_true rfl) dX7_cleanRun_20 ⟨Nat.le_of_ble_eq_true rfl, Nat.le_of_ble_eq_true rfl⟩) hS (fun H locs hW hS => ?_)
    have hW := w_unself_sd hW
    have hW : World g ((cs, mt)) H := hW
    refine W.eq (g2 := F0 m 23 ls [.int q3]) rfl ?_
    refine lv_goto (tgt := 28) hx hb dX7_cleanRun_23 (by decide) ?_
    cases hf
    exact x_iret hx hb hr hlocks hK hW hS rfl dX7_cleanRun_28
abbrev rm_X7_isSize : Room := { frames := 0, cells := 0, slots := 0, locals := 0 }
set_option maxRecDepth 100000 in
set_option maxHeartbeats 4000000 in
theorem ct_X7_isSize (l : Launch) (g : GT) (w : WT) (a0 : Int32) {q : Int32} (hf : f_X7_isSize  a0 = some q) : Met l yX7_isSize wsX7_isSize rm_X7_isSize (cPre g (w) [.int a0]) (cQi g q (w)) 0 0 (gA g) := by
  refine x_met (by decide) rfl (Nat.le_of_ble_eq_true rfl) ?_
  intro p e s m below meth c hx hb hr hml hts hown hlocks hK hW hS ls hl
  have hown : s.vm.findClass RX7 = some m.cls := hown
  have hl : lv_has ls 1 [(0, .int a0)] := hl
  rw [f_X7_isSize] at hf
  refine lv_iload_n hx hb dX7_isSize_0 rfl (lv_at hl 0 rfl) ?_
  refine lv_iconst (v := 1) hx hb dX7_isSize_1 (by decide) ?_
  refine lv_icmp_lt (tgt := 16) hx hb dX7_isSize_2 (by decide) (fun hc => ?_) (fun hc => ?_)
  · have hf := x_iteT hf hc
    refine lv_iconst (v := 0) hx hb dX7_isSize_16 (by decide) ?_
    cases hf
    exact x_zret hx hb hr hlocks hK hW hS (Or.inl rfl) rfl dX7_isSize_17
  · have hf := x_iteF hf hc
    refine lv_iload_n hx hb dX7_isSize_5 rfl (lv_at hl 0 rfl) ?_
    refine lv_sipush (v := 300) hx hb dX7_isSize_6 (by decide) ?_
    refine lv_icmp_gt (tgt := 16) hx hb dX7_isSize_9 (by decide) (fun hc => ?_) (fun hc => ?_)
    · have hf := x_iteT hf hc
      refine lv_iconst (v := 0) hx hb dX7_isSize_16 (by decide) ?_
      cases hf
      exact x_zret hx hb hr hlocks hK hW hS (Or.inl rfl) rfl dX7_isSize_17
    · have hf := x_iteF hf hc
      refine lv_iconst (v := 1) hx hb dX7_isSize_12 (by decide) ?_
      refine lv_goto (tgt := 17) hx hb dX7_isSize_13 (by decide) ?_
      cases hf
      exact x_zret hx hb hr hlocks hK hW hS (Or.inr rfl) rfl dX7_isSize_17
abbrev rm_X7_bestPlatter : Room := { frames := 4, cells := 0, slots := 0, locals := 94 }
set_option maxRecDepth 100000 in
set_option maxHeartbeats 4000000 in
theorem ct_X7_bestPlatter (l : Launch) (g : GT) (hfl : 1 ≤ gf g) (cs : CT) (mt : MT) (a1 : Int32) {q : Int32} (hf : f_X7_bestPlatter (k_xs cs (k_st cs)) a1 = some q) : Met l yX7_bestPlatter wsX7_bestPlatter rm_X7_bestPlatter (cPre g ((cs, mt)) [.ref (adr g.1 7 0), .int a1]) (cQi g q ((cs, mt))) 0 0 (gA g) := by
  have i_4 : ∀ w ∈ u_ws RX4 TX4 18, w ∈ wsX7_bestPlatter := by decide +kernel
  have i_7 : ∀ w ∈ u_ws RX7 TX7 9, w ∈ wsX7_bestPlatter := by decide +kernel
  refine x_met (by decide) rfl (Nat.le_of_ble_eq_true rfl) ?_
  intro p e s m below meth c hx hb hr hml hts hown hlocks hK hW hS ls hl
  have hown : s.vm.findClass RX7 = some m.cls := hown
  have hl : lv_has ls 9 [(0, .ref (adr g.1 7 0)), (1, .int a1)] := hl
  rw [f_X7_bestPlatter] at hf
  refine lv_iload_n hx hb dX7_bestPlatter_0 rfl (lv_at hl 1 rfl) ?_
  obtain ⟨q1, h_q1, hf⟩ := x_bindE hf
  refine x_ci0 (x_rS ⟨hx, hb, hml, hown, hts⟩ (ct_X7_isSize l g ((cs, mt)) (a1) h_q1) (va_cwS 1 hts gX7_bestPlatter_X7_isSize rfl rfl rfl (by decide +kernel) ⟨Nat.le_of_ble_eq_true rfl, Nat.le_of_ble_eq_true rfl⟩) hK hW hS rfl hl.1 (rest := []) rfl (Nat.le_of_ble_eq_true rfl) dX7_bestPlatter_1 ⟨Nat.le_of_ble_eq_true rfl, Nat.le_of_ble_eq_true rfl⟩) hS (fun H locs hW hS => ?_)
  have hW : World g ((cs, mt)) H := hW
  refine W.eq (g2 := F0 m 4 ls [.int q1]) rfl ?_
  refine lv_if_ne (tgt := 10) hx hb dX7_bestPlatter_4 (by decide) (fun hc => ?_) (fun hc => ?_)
  · have hf := x_iteF hf hc
    refine lv_aload_n hx hb dX7_bestPlatter_10 rfl (lv_at hl 0 rfl) ?_
    refine x_get (i := g.1) (k := 7) (j := 0) (t := 3) hx hb hts i_7 hown hK hW ⟨⟨hfl, rfl⟩, by decide⟩ rfl ⟨by decide, by decide, rfl⟩ (hts (.fieldLink RX7 19 "OpticalJukebox" "state" "LOpticalJukebox$State;") (by decide +kernel)) (v := .ref (adr (k_st cs) 4 0)) rfl dX7_bestPlatter_11 ?_
    refine x_get (i := (k_st cs)) (k := 4) (j := 0) (t := 3) hx hb hts i_4 hown hK hW ⟨hW.2.2.2.1, by decide⟩ rfl ⟨by decide, by decide, rfl⟩ (hts (.fieldLink RX7 134 "OpticalJukebox$State" "driveCount" "I") (by decide +kernel)) (rfl) dX7_bestPlatter_14 ?_
    refine lv_if_ne (tgt := 23) hx hb dX7_bestPlatter_17 (by decide) (fun hc => ?_) (fun hc => ?_)
    · have hf := x_iteF hf hc
      refine lv_iconst (v := -1) hx hb dX7_bestPlatter_23 (by decide) ?_
      refine lv_istore_n (lv' := [(2, .int (-1 : Int32)), (0, .ref (adr g.1 7 0)), (1, .int a1)]) hx hb dX7_bestPlatter_24 rfl hl (by decide) rfl (fun ls hl => ?_)
      refine lv_iconst (v := 0) hx hb dX7_bestPlatter_25 (by decide) ?_
      refine lv_istore_n (lv' := [(3, .int (0 : Int32)), (2, .int (-1 : Int32)), (0, .ref (adr g.1 7 0)), (1, .int a1)]) hx hb dX7_bestPlatter_26 rfl hl (by decide) rfl (fun ls hl => ?_)
      refine lv_iconst (v := 0) hx hb dX7_bestPlatter_27 (by decide) ?_
      refine lv_istore (lv' := [(4, .int (0 : Int32)), (3, .int (0 : Int32)), (2, .int (-1 : Int32)), (0, .ref (adr g.1 7 0)), (1, .int a1)]) hx hb dX7_bestPlatter_28 hl (by decide) rfl (fun ls hl => ?_)
      refine lv_iconst (v := 0) hx hb dX7_bestPlatter_30 (by decide) ?_
      refine lv_istore (lv' := [(5, .int (0 : Int32)), (4, .int (0 : Int32)), (3, .int (0 : Int32)), (2, .int (-1 : Int32)), (0, .ref (adr g.1 7 0)), (1, .int a1)]) hx hb dX7_bestPlatter_31 hl (by decide) rfl (fun ls hl => ?_)
      have L33 : ∀ (n : Nat) (v2_33 : Int32) (v3_33 : Int32) (v4_33 : Int32) (v5_33 : Int32) (ls : Array Slot) (H : Heap) (locs : List Loc), lv_has ls 9 [(0, .ref (adr g.1 7 0)), (1, .int a1), (2, .int v2_33), (3, .int v3_33), (4, .int v4_33), (5, .int v5_33)] → World g ((cs, mt)) H → va_S (gA g) s.heap H locs → f_X7_bestPlatter_L33 (k_xs cs (k_st cs)) a1 n v2_33 v3_33 v4_33 v5_33 = some q → W p l e rm_X7_bestPlatter s m [.ref (adr g.1 7 0), .int a1].toArray below meth c H locs 0 0 (MQ below (cQi g q ((cs, mt))) [.ref (adr g.1 7 0), .int a1].toArray s 0 0 (gA g)) (F0 m 33 ls []) := by
        clear hW hS hl
        intro n
        induction n with
        | zero => intro v2_33 v3_33 v4_33 v5_33 ls H locs hl hW hS hf; cases hf
        | succ n_33 ih =>
          intro v2_33 v3_33 v4_33 v5_33 ls H locs hl hW hS hf
          rw [f_X7_bestPlatter_L33] at hf
          refine lv_iload hx hb dX7_bestPlatter_33 (lv_at hl 5 rfl) ?_
          refine lv_aload_n hx hb dX7_bestPlatter_35 rfl (lv_at hl 0 rfl) ?_
          refine x_get (i := g.1) (k := 7) (j := 0) (t := 3) hx hb hts i_7 hown hK hW ⟨⟨hfl, rfl⟩, by decide⟩ rfl ⟨by decide, by decide, rfl⟩ (hts (.fieldLink RX7 19 "OpticalJukebox" "state" "LOpticalJukebox$State;") (by decide +kernel)) (v := .ref (adr (k_st cs) 4 0)) rfl dX7_bestPlatter_36 ?_
          refine x_get (i := (k_st cs)) (k := 4) (j := 0) (t := 6) hx hb hts i_4 hown hK hW ⟨hW.2.2.2.1, by decide⟩ rfl ⟨by decide, by decide, rfl⟩ (hts (.fieldLink RX7 195 "OpticalJukebox$State" "platterCount" "I") (by decide +kernel)) (rfl) dX7_bestPlatter_39 ?_
          refine lv_icmp_ge (tgt := 124) hx hb dX7_bestPlatter_42 (by decide) (fun hc => ?_) (fun hc => ?_)
          · have hf := x_iteT hf hc
            refine lv_iload_n hx hb dX7_bestPlatter_124 rfl (lv_at hl 2 rfl) ?_
            obtain ⟨q2, h_q2, hf⟩ := x_bindE hf
            refine x_ci0 (x_rS ⟨hx, hb, hml, hown, hts⟩ (ct_X7_foundOrNot l g ((cs, mt)) (v2_33) h_q2) (va_cwS 1 hts gX7_bestPlatter_X7_foundOrNot rfl rfl rfl (by decide +kernel) ⟨Nat.le_of_ble_eq_true rfl, Nat.le_of_ble_eq_true rfl⟩) hK hW hS rfl hl.1 (rest := []) rfl (Nat.le_of_ble_eq_true rfl) dX7_bestPlatter_125 ⟨Nat.le_of_ble_eq_true rfl, Nat.le_of_ble_eq_true rfl⟩) hS (fun H locs hW hS => ?_)
            have hW : World g ((cs, mt)) H := hW
            refine W.eq (g2 := F0 m 128 ls [.int q2]) rfl ?_
            cases hf
            exact x_iret hx hb hr hlocks hK hW hS rfl dX7_bestPlatter_128
          · have hf := x_iteF hf hc
            refine lv_aload_n hx hb dX7_bestPlatter_45 rfl (lv_at hl 0 rfl) ?_
            refine x_get (i := g.1) (k := 7) (j := 0) (t := 3) hx hb hts i_7 hown hK hW ⟨⟨hfl, rfl⟩, by decide⟩ rfl ⟨by decide, by decide, rfl⟩ (hts (.fieldLink RX7 19 "OpticalJukebox" "state" "LOpticalJukebox$State;") (by decide +kernel)) (v := .ref (adr (k_st cs) 4 0)) rfl dX7_bestPlatter_46 ?_
            refine x_get (i := (k_st cs)) (k := 4) (j := 0) (t := 5) hx hb hts i_4 hown hK hW ⟨hW.2.2.2.1, by decide⟩ rfl ⟨by decide, by decide, rfl⟩ (hts (.fieldLink RX7 78 "OpticalJukebox$State" "platters" "[LOpticalJukebox$Platter;") (by decide +kernel)) (v := .ref (adr (k_st cs) 12 0)) rfl dX7_bestPlatter_49 ?_
            refine lv_iload hx hb dX7_bestPlatter_52 (lv_at hl 5 rfl) ?_
            obtain ⟨hg3, hf⟩ := x_guardE hf
            refine x_aald (i := (k_st cs)) (k := 12) (j := 0) hx hb hK hW ⟨hW.2.2.2.1, by decide⟩ (by decide) rfl rfl hg3 dX7_bestPlatter_54 ?_
            refine W.eq (g2 := F0 m 55 ls [.ref (adr (k_st cs) 3 (v5_33).toNatClampNeg)]) rfl ?_
            refine lv_astore (lv' := [(6, .ref (adr (k_st cs) 3 (v5_33).toNatClampNeg)), (0, .ref (adr g.1 7 0)), (1, .int a1), (2, .int v2_33), (3, .int v3_33), (4, .int v4_33), (5, .int v5_33)]) hx hb dX7_bestPlatter_55 hl (by decide) rfl (fun ls hl => ?_)
            refine lv_aload hx hb dX7_bestPlatter_57 (lv_at hl 0 rfl) ?_
            refine lv_iload_n hx hb dX7_bestPlatter_59 rfl (lv_at hl 2 rfl) ?_
            obtain ⟨q4, h_q4, hf⟩ := x_bindE hf
            refine x_ci0 (x_rV ⟨hx, hb, hml, hown, hts⟩ (ct_X3_canTake l g (cs, mt) (k_st cs) hW.2.2.2.1 (k_xs cs (k_st cs)) ((v5_33).toNatClampNeg) ((x_lt hg3)) (a1) h_q4) (cwV 1 hts gX7_bestPlatter_X3_canTake rfl rfl rfl (by decide +kernel) ⟨Nat.le_of_ble_eq_true rfl, Nat.le_of_ble_eq_true rfl⟩) hK (w_self_sd hW) hS (x_recv (i := (k_st cs)) (k := 3) (j := (v5_33).toNatClampNeg) hK hW ⟨hW.2.2.2.1, (x_lt hg3)⟩ rfl (by decide)) rfl hl.1 (rest := []) rfl (Nat.le_of_ble_eq_true rfl) dX7_bestPlatter_60 ⟨Nat.le_of_ble_eq_true rfl, Nat.le_of_ble_eq_true rfl⟩) hS (fun H locs hW hS => ?_)
            have hW := w_unself_sd hW
            have hW : World g ((cs, mt)) H := hW
            refine W.eq (g2 := F0 m 63 ls [.int q4]) rfl ?_
            refine lv_if_eq (tgt := 118) hx hb dX7_bestPlatter_63 (by decide) (fun hc => ?_) (fun hc => ?_)
            · have hf := x_iteT hf hc
              obtain ⟨x5, e_x5, hf⟩ := x_letE hf
              refine lv_iinc (v := x5) (lv' := [(5, .int x5), (6, .ref (adr (k_st cs) 3 (v5_33).toNatClampNeg)), (0, .ref (adr g.1 7 0)), (1, .int a1), (2, .int v2_33), (3, .int v3_33), (4, .int v4_33)]) hx hb dX7_bestPlatter_118 hl (k := 6) rfl (by rw [e_x5]; rfl) (by decide) rfl (fun ls hl => ?_)
              refine lv_goto (tgt := 33) hx hb dX7_bestPlatter_121 (by decide) ?_
              exact ih (v2_33) (v3_33) (v4_33) (x5) ls _ _ (lv_sub hl [2, 3, 4, 5, 6, 0] rfl) hW hS hf
            · have hf := x_iteF hf hc
              refine lv_aload_n hx hb dX7_bestPlatter_66 rfl (lv_at hl 1 rfl) ?_
              refine x_get (i := g.1) (k := 7) (j := 0) (t := 3) hx hb hts i_7 hown hK hW ⟨⟨hfl, rfl⟩, by decide⟩ rfl ⟨by decide, by decide, rfl⟩ (hts (.fieldLink RX7 19 "OpticalJukebox" "state" "LOpticalJukebox$State;") (by decide +kernel)) (v := .ref (adr (k_st cs) 4 0)) rfl dX7_bestPlatter_67 ?_
              refine lv_iload hx hb dX7_bestPlatter_70 (lv_at hl 6 rfl) ?_
              obtain ⟨q6, h_q6, hf⟩ := x_bindE hf
              refine x_ci0 (x_rV ⟨hx, hb, hml, hown, hts⟩ (ct_X4_chosenBringTime l g (cs, mt) (k_st cs) hW.2.2.2.1 (k_xs cs (k_st cs)) (v5_33) h_q6) (cwV 1 hts gX7_bestPlatter_X4_chosenBringTime rfl rfl rfl (by decide +kernel) ⟨Nat.le_of_ble_eq_true rfl, Nat.le_of_ble_eq_true rfl⟩) hK (w_self_sd hW) hS (x_recv (i := (k_st cs)) (k := 4) (j := 0) hK hW ⟨hW.2.2.2.1, by decide⟩ rfl (by decide)) rfl hl.1 (rest := []) rfl (Nat.le_of_ble_eq_true rfl) dX7_bestPlatter_72 ⟨Nat.le_of_ble_eq_true rfl, Nat.le_of_ble_eq_true rfl⟩) hS (fun H locs hW hS => ?_)
              have hW := w_unself_sd hW
              have hW : World g ((cs, mt)) H := hW
              refine W.eq (g2 := F0 m 75 ls [.int q6]) rfl ?_
              refine lv_istore (lv' := [(7, .int q6), (6, .ref (adr (k_st cs) 3 (v5_33).toNatClampNeg)), (0, .ref (adr g.1 7 0)), (1, .int a1), (2, .int v2_33), (3, .int v3_33), (4, .int v4_33), (5, .int v5_33)]) hx hb dX7_bestPlatter_75 hl (by decide) rfl (fun ls hl => ?_)
              refine lv_aload hx hb dX7_bestPlatter_77 (lv_at hl 1 rfl) ?_
              obtain ⟨q7, h_q7, hf⟩ := x_bindE hf
              refine x_ci0 (x_rV ⟨hx, hb, hml, hown, hts⟩ (ct_X3_unused l g (cs, mt) (k_st cs) hW.2.2.2.1 (k_xs cs (k_st cs)) ((v5_33).toNatClampNeg) ((x_lt hg3)) h_q7) (cwV 0 hts gX7_bestPlatter_X3_unused rfl rfl rfl (by decide +kernel) ⟨Nat.le_of_ble_eq_true rfl, Nat.le_of_ble_eq_true rfl⟩) hK (w_self_sd hW) hS (x_recv (i := (k_st cs)) (k := 3) (j := (v5_33).toNatClampNeg) hK hW ⟨hW.2.2.2.1, (x_lt hg3)⟩ rfl (by decide)) rfl hl.1 (rest := []) rfl (Nat.le_of_ble_eq_true rfl) dX7_bestPlatter_79 ⟨Nat.le_of_ble_eq_true rfl, Nat.le_of_ble_eq_true rfl⟩) hS (fun H locs hW hS => ?_)
              have hW := w_unself_sd hW
              have hW : World g ((cs, mt)) H := hW
              refine W.eq (g2 := F0 m 82 ls [.int q7]) rfl ?_
              refine lv_istore (lv' := [(8, .int q7), (7, .int q6), (6, .ref (adr (k_st cs) 3 (v5_33).toNatClampNeg)), (0, .ref (adr g.1 7 0)), (1, .int a1), (2, .int v2_33), (3, .int v3_33), (4, .int v4_33), (5, .int v5_33)]) hx hb dX7_bestPlatter_82 hl (by decide) rfl (fun ls hl => ?_)
              refine lv_iload_n hx hb dX7_bestPlatter_84 rfl (lv_at hl 5 rfl) ?_
              refine lv_iconst (v := -1) hx hb dX7_bestPlatter_85 (by decide) ?_
              obtain ⟨K8, eK8, hf⟩ := x_letE hf
              have KK8 : ∀ (_u : Unit) (ls : Array Slot) (H : Heap) (locs : List Loc), lv_has ls 9 [(0, .ref (adr g.1 7 0)), (1, .int a1), (2, .int v2_33), (3, .int v3_33), (4, .int v4_33), (5, .int v5_33), (6, .ref (adr (k_st cs) 3 (v5_33).toNatClampNeg)), (7, .int q6), (8, .int q7)] → World g ((cs, mt)) H → va_S (gA g) s.heap H locs → K8 _u = some q → W p l e rm_X7_bestPlatter s m [.ref (adr g.1 7 0), .int a1].toArray below meth c H locs 0 0 (MQ below (cQi g q ((cs, mt))) [.ref (adr g.1 7 0), .int a1].toArray s 0 0 (gA g)) (F0 m 108 ls []) := by
                intro _u ls H locs hl hW hS hf
                subst eK8
                refine lv_iload hx hb dX7_bestPlatter_108 (lv_at hl 5 rfl) ?_
                refine lv_istore_n (lv' := [(2, .int v5_33), (0, .ref (adr g.1 7 0)), (1, .int a1), (3, .int v3_33), (4, .int v4_33), (5, .int v5_33), (6, .ref (adr (k_st cs) 3 (v5_33).toNatClampNeg)), (7, .int q6), (8, .int q7)]) hx hb dX7_bestPlatter_110 rfl hl (by decide) rfl (fun ls hl => ?_)
                refine lv_iload hx hb dX7_bestPlatter_111 (lv_at hl 7 rfl) ?_
                refine lv_istore_n (lv' := [(3, .int q6), (2, .int v5_33), (0, .ref (adr g.1 7 0)), (1, .int a1), (4, .int v4_33), (5, .int v5_33), (6, .ref (adr (k_st cs) 3 (v5_33).toNatClampNeg)), (7, .int q6), (8, .int q7)]) hx hb dX7_bestPlatter_113 rfl hl (by decide) rfl (fun ls hl => ?_)
                refine lv_iload hx hb dX7_bestPlatter_114 (lv_at hl 8 rfl) ?_
                refine lv_istore (lv' := [(4, .int q7), (3, .int q6), (2, .int v5_33), (0, .ref (adr g.1 7 0)), (1, .int a1), (5, .int v5_33), (6, .ref (adr (k_st cs) 3 (v5_33).toNatClampNeg)), (7, .int q6), (8, .int q7)]) hx hb dX7_bestPlatter_116 hl (by decide) rfl (fun ls hl => ?_)
                obtain ⟨x9, e_x9, hf⟩ := x_letE hf
                refine lv_iinc (v := x9) (lv' := [(5, .int x9), (4, .int q7), (3, .int q6), (2, .int v5_33), (0, .ref (adr g.1 7 0)), (1, .int a1), (6, .ref (adr (k_st cs) 3 (v5_33).toNatClampNeg)), (7, .int q6), (8, .int q7)]) hx hb dX7_bestPlatter_118 hl (k := 5) rfl (by rw [e_x9]; rfl) (by decide) rfl (fun ls hl => ?_)
                refine lv_goto (tgt := 33) hx hb dX7_bestPlatter_121 (by decide) ?_
                exact ih (v5_33) (q6) (q7) (x9) ls _ _ (lv_sub hl [4, 5, 3, 2, 1, 0] rfl) hW hS hf
              clear eK8
              refine lv_icmp_eq (tgt := 108) hx hb dX7_bestPlatter_86 (by decide) (fun hc => ?_) (fun hc => ?_)
              · have hf := x_iteT hf hc
                exact KK8 (()) ls _ _ (lv_sub hl [3, 4, 5, 6, 7, 8, 2, 1, 0] rfl) hW hS hf
              · have hf := x_iteF hf hc
                refine lv_iload hx hb dX7_bestPlatter_89 (lv_at hl 1 rfl) ?_
                refine lv_iload_n hx hb dX7_bestPlatter_91 rfl (lv_at hl 6 rfl) ?_
                refine lv_icmp_lt (tgt := 108) hx hb dX7_bestPlatter_92 (by decide) (fun hc => ?_) (fun hc => ?_)
                · have hf := x_iteT hf hc
                  exact KK8 (()) ls _ _ (lv_sub hl [3, 4, 5, 6, 7, 8, 2, 1, 0] rfl) hW hS hf
                · have hf := x_iteF hf hc
                  refine lv_iload hx hb dX7_bestPlatter_95 (lv_at hl 1 rfl) ?_
                  refine lv_iload_n hx hb dX7_bestPlatter_97 rfl (lv_at hl 6 rfl) ?_
                  refine lv_icmp_ne (tgt := 118) hx hb dX7_bestPlatter_98 (by decide) (fun hc => ?_) (fun hc => ?_)
                  · have hf := x_iteF hf hc
                    obtain ⟨x10, e_x10, hf⟩ := x_letE hf
                    refine lv_iinc (v := x10) (lv' := [(5, .int x10), (8, .int q7), (7, .int q6), (6, .ref (adr (k_st cs) 3 (v5_33).toNatClampNeg)), (0, .ref (adr g.1 7 0)), (1, .int a1), (2, .int v2_33), (3, .int v3_33), (4, .int v4_33)]) hx hb dX7_bestPlatter_118 hl (k := 8) rfl (by rw [e_x10]; rfl) (by decide) rfl (fun ls hl => ?_)
                    refine lv_goto (tgt := 33) hx hb dX7_bestPlatter_121 (by decide) ?_
                    exact ih (v2_33) (v3_33) (v4_33) (x10) ls _ _ (lv_sub hl [4, 5, 6, 7, 8, 0] rfl) hW hS hf
                  · have hf := x_iteT hf hc
                    refine lv_iload hx hb dX7_bestPlatter_101 (lv_at hl 0 rfl) ?_
                    refine lv_iload hx hb dX7_bestPlatter_103 (lv_at hl 7 rfl) ?_
                    refine lv_icmp_ge (tgt := 118) hx hb dX7_bestPlatter_105 (by decide) (fun hc => ?_) (fun hc => ?_)
                    · have hf := x_iteT hf hc
                      obtain ⟨x11, e_x11, hf⟩ := x_letE hf
                      refine lv_iinc (v := x11) (lv' := [(5, .int x11), (8, .int q7), (7, .int q6), (6, .ref (adr (k_st cs) 3 (v5_33).toNatClampNeg)), (0, .ref (adr g.1 7 0)), (1, .int a1), (2, .int v2_33), (3, .int v3_33), (4, .int v4_33)]) hx hb dX7_bestPlatter_118 hl (k := 8) rfl (by rw [e_x11]; rfl) (by decide) rfl (fun ls hl => ?_)
                      refine lv_goto (tgt := 33) hx hb dX7_bestPlatter_121 (by decide) ?_
                      exact ih (v2_33) (v3_33) (v4_33) (x11) ls _ _ (lv_sub hl [4, 5, 6, 7, 8, 0] rfl) hW hS hf
                    · have hf := x_iteF hf hc
                      exact KK8 (()) ls _ _ (lv_sub hl [3, 4, 5, 6, 7, 8, 2, 1, 0] rfl) hW hS hf
      exact L33 fuel ((-1 : Int32)) ((0 : Int32)) ((0 : Int32)) ((0 : Int32)) ls _ _ (lv_sub hl [4, 5, 3, 2, 1, 0] rfl) hW hS hf
    · have hf := x_iteT hf hc
      refine lv_ldc (v := -1000007) hx hb hown (hts (.constant RX7 137 (-1000007)) (by decide +kernel)) dX7_bestPlatter_20 ?_
      cases hf
      exact x_iret hx hb hr hlocks hK hW hS rfl dX7_bestPlatter_22
  · have hf := x_iteT hf hc
    refine lv_ldc (v := -1000002) hx hb hown (hts (.constant RX7 46 (-1000002)) (by decide +kernel)) dX7_bestPlatter_7 ?_
    cases hf
    exact x_iret hx hb hr hlocks hK hW hS rfl dX7_bestPlatter_9
abbrev rm_X7_versionCount : Room := { frames := 1, cells := 0, slots := 0, locals := 23 }
set_option maxRecDepth 100000 in
set_option maxHeartbeats 4000000 in
theorem ct_X7_versionCount (l : Launch) (g : GT) (hfl : 1 ≤ gf g) (cs : CT) (mt : MT) (a1 : Int32) {q : Int32} (hf : f_X7_versionCount (k_xs cs (k_st cs)) a1 = some q) : Met l yX7_versionCount wsX7_versionCount rm_X7_versionCount (cPre g ((cs, mt)) [.ref (adr g.1 7 0), .int a1]) (cQi g q ((cs, mt))) 0 0 (gA g) := by
  have i_7 : ∀ w ∈ u_ws RX7 TX7 9, w ∈ wsX7_versionCount := by decide +kernel
  refine x_met (by decide) rfl (Nat.le_of_ble_eq_true rfl) ?_
  intro p e s m below meth c hx hb hr hml hts hown hlocks hK hW hS ls hl
  have hown : s.vm.findClass RX7 = some m.cls := hown
  have hl : lv_has ls 2 [(0, .ref (adr g.1 7 0)), (1, .int a1)] := hl
  rw [f_X7_versionCount] at hf
  refine lv_aload_n hx hb dX7_versionCount_0 rfl (lv_at hl 0 rfl) ?_
  refine x_get (i := g.1) (k := 7) (j := 0) (t := 3) hx hb hts i_7 hown hK hW ⟨⟨hfl, rfl⟩, by decide⟩ rfl ⟨by decide, by decide, rfl⟩ (hts (.fieldLink RX7 19 "OpticalJukebox" "state" "LOpticalJukebox$State;") (by decide +kernel)) (v := .ref (adr (k_st cs) 4 0)) rfl dX7_versionCount_1 ?_
  refine lv_iload_n hx hb dX7_versionCount_4 rfl (lv_at hl 1 rfl) ?_
  obtain ⟨q1, h_q1, hf⟩ := x_bindE hf
  refine x_ci0 (x_rV ⟨hx, hb, hml, hown, hts⟩ (ct_X4_hasFile l g (cs, mt) (k_st cs) hW.2.2.2.1 (k_xs cs (k_st cs)) (a1) h_q1) (cwV 1 hts gX7_versionCount_X4_hasFile rfl rfl rfl (by decide +kernel) ⟨Nat.le_of_ble_eq_true rfl, Nat.le_of_ble_eq_true rfl⟩) hK (w_self_sd hW) hS (x_recv (i := (k_st cs)) (k := 4) (j := 0) hK hW ⟨hW.2.2.2.1, by decide⟩ rfl (by decide)) rfl hl.1 (rest := []) rfl (Nat.le_of_ble_eq_true rfl) dX7_versionCount_5 ⟨Nat.le_of_ble_eq_true rfl, Nat.le_of_ble_eq_true rfl⟩) hS (fun H locs hW hS => ?_)
  have hW := w_unself_sd hW
  have hW : World g ((cs, mt)) H := hW
  refine W.eq (g2 := F0 m 8 ls [.int q1]) rfl ?_
  refine lv_if_eq (tgt := 22) hx hb dX7_versionCount_8 (by decide) (fun hc => ?_) (fun hc => ?_)
  · have hf := x_iteT hf hc
    refine lv_ldc (v := -1000001) hx hb hown (hts (.constant RX7 87 (-1000001)) (by decide +kernel)) dX7_versionCount_22 ?_
    cases hf
    exact x_iret hx hb hr hlocks hK hW hS rfl dX7_versionCount_24
  · have hf := x_iteF hf hc
    refine lv_aload_n hx hb dX7_versionCount_11 rfl (lv_at hl 0 rfl) ?_
    refine x_get (i := g.1) (k := 7) (j := 0) (t := 3) hx hb hts i_7 hown hK hW ⟨⟨hfl, rfl⟩, by decide⟩ rfl ⟨by decide, by decide, rfl⟩ (hts (.fieldLink RX7 19 "OpticalJukebox" "state" "LOpticalJukebox$State;") (by decide +kernel)) (v := .ref (adr (k_st cs) 4 0)) rfl dX7_versionCount_12 ?_
    refine lv_iload_n hx hb dX7_versionCount_15 rfl (lv_at hl 1 rfl) ?_
    obtain ⟨q2, h_q2, hf⟩ := x_bindE hf
    refine x_ci0 (x_rV ⟨hx, hb, hml, hown, hts⟩ (ct_X4_countVersions l g (cs, mt) (k_st cs) hW.2.2.2.1 (k_xs cs (k_st cs)) (a1) h_q2) (cwV 1 hts gX7_versionCount_X4_countVersions rfl rfl rfl (by decide +kernel) ⟨Nat.le_of_ble_eq_true rfl, Nat.le_of_ble_eq_true rfl⟩) hK (w_self_sd hW) hS (x_recv (i := (k_st cs)) (k := 4) (j := 0) hK hW ⟨hW.2.2.2.1, by decide⟩ rfl (by decide)) rfl hl.1 (rest := []) rfl (Nat.le_of_ble_eq_true rfl) dX7_versionCount_16 ⟨Nat.le_of_ble_eq_true rfl, Nat.le_of_ble_eq_true rfl⟩) hS (fun H locs hW hS => ?_)
    have hW := w_unself_sd hW
    have hW : World g ((cs, mt)) H := hW
    refine W.eq (g2 := F0 m 19 ls [.int q2]) rfl ?_
    refine lv_goto (tgt := 24) hx hb dX7_versionCount_19 (by decide) ?_
    cases hf
    exact x_iret hx hb hr hlocks hK hW hS rfl dX7_versionCount_24
abbrev rm_X7_filePlatter : Room := { frames := 1, cells := 0, slots := 0, locals := 21 }
set_option maxRecDepth 100000 in
set_option maxHeartbeats 4000000 in
theorem ct_X7_filePlatter (l : Launch) (g : GT) (hfl : 1 ≤ gf g) (cs : CT) (mt : MT) (a1 : Int32) {q : Int32} (hf : f_X7_filePlatter (k_xs cs (k_st cs)) a1 = some q) : Met l yX7_filePlatter wsX7_filePlatter rm_X7_filePlatter (cPre g ((cs, mt)) [.ref (adr g.1 7 0), .int a1]) (cQi g q ((cs, mt))) 0 0 (gA g) := by
  have i_6 : ∀ w ∈ u_ws RX6 TX6 7, w ∈ wsX7_filePlatter := by decide +kernel
  have i_7 : ∀ w ∈ u_ws RX7 TX7 9, w ∈ wsX7_filePlatter := by decide +kernel
  refine x_met (by decide) rfl (Nat.le_of_ble_eq_true rfl) ?_
  intro p e s m below meth c hx hb hr hml hts hown hlocks hK hW hS ls hl
  have hown : s.vm.findClass RX7 = some m.cls := hown
  have hl : lv_has ls 2 [(0, .ref (adr g.1 7 0)), (1, .int a1)] := hl
  rw [f_X7_filePlatter] at hf
  refine lv_aload_n hx hb dX7_filePlatter_0 rfl (lv_at hl 0 rfl) ?_
  refine x_get (i := g.1) (k := 7) (j := 0) (t := 3) hx hb hts i_7 hown hK hW ⟨⟨hfl, rfl⟩, by decide⟩ rfl ⟨by decide, by decide, rfl⟩ (hts (.fieldLink RX7 19 "OpticalJukebox" "state" "LOpticalJukebox$State;") (by decide +kernel)) (v := .ref (adr (k_st cs) 4 0)) rfl dX7_filePlatter_1 ?_
  refine lv_iload_n hx hb dX7_filePlatter_4 rfl (lv_at hl 1 rfl) ?_
  obtain ⟨q1, h_q1, hf⟩ := x_bindE hf
  refine x_ci0 (x_rV ⟨hx, hb, hml, hown, hts⟩ (ct_X4_hasFile l g (cs, mt) (k_st cs) hW.2.2.2.1 (k_xs cs (k_st cs)) (a1) h_q1) (cwV 1 hts gX7_filePlatter_X4_hasFile rfl rfl rfl (by decide +kernel) ⟨Nat.le_of_ble_eq_true rfl, Nat.le_of_ble_eq_true rfl⟩) hK (w_self_sd hW) hS (x_recv (i := (k_st cs)) (k := 4) (j := 0) hK hW ⟨hW.2.2.2.1, by decide⟩ rfl (by decide)) rfl hl.1 (rest := []) rfl (Nat.le_of_ble_eq_true rfl) dX7_filePlatter_5 ⟨Nat.le_of_ble_eq_true rfl, Nat.le_of_ble_eq_true rfl⟩) hS (fun H locs hW hS => ?_)
  have hW := w_unself_sd hW
  have hW : World g ((cs, mt)) H := hW
  refine W.eq (g2 := F0 m 8 ls [.int q1]) rfl ?_
  refine lv_if_eq (tgt := 25) hx hb dX7_filePlatter_8 (by decide) (fun hc => ?_) (fun hc => ?_)
  · have hf := x_iteT hf hc
    refine lv_ldc (v := -1000001) hx hb hown (hts (.constant RX7 87 (-1000001)) (by decide +kernel)) dX7_filePlatter_25 ?_
    cases hf
    exact x_iret hx hb hr hlocks hK hW hS rfl dX7_filePlatter_27
  · have hf := x_iteF hf hc
    refine lv_aload_n hx hb dX7_filePlatter_11 rfl (lv_at hl 0 rfl) ?_
    refine x_get (i := g.1) (k := 7) (j := 0) (t := 3) hx hb hts i_7 hown hK hW ⟨⟨hfl, rfl⟩, by decide⟩ rfl ⟨by decide, by decide, rfl⟩ (hts (.fieldLink RX7 19 "OpticalJukebox" "state" "LOpticalJukebox$State;") (by decide +kernel)) (v := .ref (adr (k_st cs) 4 0)) rfl dX7_filePlatter_12 ?_
    refine lv_iload_n hx hb dX7_filePlatter_15 rfl (lv_at hl 1 rfl) ?_
    obtain ⟨q2, h_q2, hf⟩ := x_bindE hf
    refine x_cr0 (x_rV ⟨hx, hb, hml, hown, hts⟩ (ct_X4_currentVersion l g (cs, mt) (k_st cs) hW.2.2.2.1 (k_xs cs (k_st cs)) (a1) h_q2) (cwV 1 hts gX7_filePlatter_X4_currentVersion rfl rfl rfl (by decide +kernel) ⟨Nat.le_of_ble_eq_true rfl, Nat.le_of_ble_eq_true rfl⟩) hK (w_self_sd hW) hS (x_recv (i := (k_st cs)) (k := 4) (j := 0) hK hW ⟨hW.2.2.2.1, by decide⟩ rfl (by decide)) rfl hl.1 (rest := []) rfl (Nat.le_of_ble_eq_true rfl) dX7_filePlatter_16 ⟨Nat.le_of_ble_eq_true rfl, Nat.le_of_ble_eq_true rfl⟩) hS (fun H locs hW hS => ?_)
    have hW := w_unself_sd hW
    have hW : World g ((cs, mt)) H := hW
    refine W.eq (g2 := F0 m 19 ls [.ref (adr (k_st cs) 6 q2)]) rfl ?_
    refine x_get (i := (k_st cs)) (k := 6) (j := q2) (t := 1) hx hb hts i_6 hown hK hW ⟨hW.2.2.2.1, (b_X4_currentVersion h_q2)⟩ rfl ⟨by decide, by decide, rfl⟩ (hts (.fieldLink RX7 211 "OpticalJukebox$Version" "platter" "I") (by decide +kernel)) (rfl) dX7_filePlatter_19 ?_
    refine lv_goto (tgt := 27) hx hb dX7_filePlatter_22 (by decide) ?_
    cases hf
    exact x_iret hx hb hr hlocks hK hW hS rfl dX7_filePlatter_27
abbrev rm_X7_fileStart : Room := { frames := 1, cells := 0, slots := 0, locals := 21 }
set_option maxRecDepth 100000 in
set_option maxHeartbeats 4000000 in
theorem ct_X7_fileStart (l : Launch) (g : GT) (hfl : 1 ≤ gf g) (cs : CT) (mt : MT) (a1 : Int32) {q : Int32} (hf : f_X7_fileStart (k_xs cs (k_st cs)) a1 = some q) : Met l yX7_fileStart wsX7_fileStart rm_X7_fileStart (cPre g ((cs, mt)) [.ref (adr g.1 7 0), .int a1]) (cQi g q ((cs, mt))) 0 0 (gA g) := by
  have i_6 : ∀ w ∈ u_ws RX6 TX6 7, w ∈ wsX7_fileStart := by decide +kernel
  have i_7 : ∀ w ∈ u_ws RX7 TX7 9, w ∈ wsX7_fileStart := by decide +kernel
  refine x_met (by decide) rfl (Nat.le_of_ble_eq_true rfl) ?_
  intro p e s m below meth c hx hb hr hml hts hown hlocks hK hW hS ls hl
  have hown : s.vm.findClass RX7 = some m.cls := hown
  have hl : lv_has ls 2 [(0, .ref (adr g.1 7 0)), (1, .int a1)] := hl
  rw [f_X7_fileStart] at hf
  refine lv_aload_n hx hb dX7_fileStart_0 rfl (lv_at hl 0 rfl) ?_
  refine x_get (i := g.1) (k := 7) (j := 0) (t := 3) hx hb hts i_7 hown hK hW ⟨⟨hfl, rfl⟩, by decide⟩ rfl ⟨by decide, by decide, rfl⟩ (hts (.fieldLink RX7 19 "OpticalJukebox" "state" "LOpticalJukebox$State;") (by decide +kernel)) (v := .ref (adr (k_st cs) 4 0)) rfl dX7_fileStart_1 ?_
  refine lv_iload_n hx hb dX7_fileStart_4 rfl (lv_at hl 1 rfl) ?_
  obtain ⟨q1, h_q1, hf⟩ := x_bindE hf
  refine x_ci0 (x_rV ⟨hx, hb, hml, hown, hts⟩ (ct_X4_hasFile l g (cs, mt) (k_st cs) hW.2.2.2.1 (k_xs cs (k_st cs)) (a1) h_q1) (cwV 1 hts gX7_fileStart_X4_hasFile rfl rfl rfl (by decide +kernel) ⟨Nat.le_of_ble_eq_true rfl, Nat.le_of_ble_eq_true rfl⟩) hK (w_self_sd hW) hS (x_recv (i := (k_st cs)) (k := 4) (j := 0) hK hW ⟨hW.2.2.2.1, by decide⟩ rfl (by decide)) rfl hl.1 (rest := []) rfl (Nat.le_of_ble_eq_true rfl) dX7_fileStart_5 ⟨Nat.le_of_ble_eq_true rfl, Nat.le_of_ble_eq_true rfl⟩) hS (fun H locs hW hS => ?_)
  have hW := w_unself_sd hW
  have hW : World g ((cs, mt)) H := hW
  refine W.eq (g2 := F0 m 8 ls [.int q1]) rfl ?_
  refine lv_if_eq (tgt := 25) hx hb dX7_fileStart_8 (by decide) (fun hc => ?_) (fun hc => ?_)
  · have hf := x_iteT hf hc
    refine lv_ldc (v := -1000001) hx hb hown (hts (.constant RX7 87 (-1000001)) (by decide +kernel)) dX7_fileStart_25 ?_
    cases hf
    exact x_iret hx hb hr hlocks hK hW hS rfl dX7_fileStart_27
  · have hf := x_iteF hf hc
    refine lv_aload_n hx hb dX7_fileStart_11 rfl (lv_at hl 0 rfl) ?_
    refine x_get (i := g.1) (k := 7) (j := 0) (t := 3) hx hb hts i_7 hown hK hW ⟨⟨hfl, rfl⟩, by decide⟩ rfl ⟨by decide, by decide, rfl⟩ (hts (.fieldLink RX7 19 "OpticalJukebox" "state" "LOpticalJukebox$State;") (by decide +kernel)) (v := .ref (adr (k_st cs) 4 0)) rfl dX7_fileStart_12 ?_
    refine lv_iload_n hx hb dX7_fileStart_15 rfl (lv_at hl 1 rfl) ?_
    obtain ⟨q2, h_q2, hf⟩ := x_bindE hf
    refine x_cr0 (x_rV ⟨hx, hb, hml, hown, hts⟩ (ct_X4_currentVersion l g (cs, mt) (k_st cs) hW.2.2.2.1 (k_xs cs (k_st cs)) (a1) h_q2) (cwV 1 hts gX7_fileStart_X4_currentVersion rfl rfl rfl (by decide +kernel) ⟨Nat.le_of_ble_eq_true rfl, Nat.le_of_ble_eq_true rfl⟩) hK (w_self_sd hW) hS (x_recv (i := (k_st cs)) (k := 4) (j := 0) hK hW ⟨hW.2.2.2.1, by decide⟩ rfl (by decide)) rfl hl.1 (rest := []) rfl (Nat.le_of_ble_eq_true rfl) dX7_fileStart_16 ⟨Nat.le_of_ble_eq_true rfl, Nat.le_of_ble_eq_true rfl⟩) hS (fun H locs hW hS => ?_)
    have hW := w_unself_sd hW
    have hW : World g ((cs, mt)) H := hW
    refine W.eq (g2 := F0 m 19 ls [.ref (adr (k_st cs) 6 q2)]) rfl ?_
    refine x_get (i := (k_st cs)) (k := 6) (j := q2) (t := 2) hx hb hts i_6 hown hK hW ⟨hW.2.2.2.1, (b_X4_currentVersion h_q2)⟩ rfl ⟨by decide, by decide, rfl⟩ (hts (.fieldLink RX7 214 "OpticalJukebox$Version" "start" "I") (by decide +kernel)) (rfl) dX7_fileStart_19 ?_
    refine lv_goto (tgt := 27) hx hb dX7_fileStart_22 (by decide) ?_
    cases hf
    exact x_iret hx hb hr hlocks hK hW hS rfl dX7_fileStart_27
abbrev rm_X7_fileSize : Room := { frames := 1, cells := 0, slots := 0, locals := 21 }
set_option maxRecDepth 100000 in
set_option maxHeartbeats 4000000 in
theorem ct_X7_fileSize (l : Launch) (g : GT) (hfl : 1 ≤ gf g) (cs : CT) (mt : MT) (a1 : Int32) {q : Int32} (hf : f_X7_fileSize (k_xs cs (k_st cs)) a1 = some q) : Met l yX7_fileSize wsX7_fileSize rm_X7_fileSize (cPre g ((cs, mt)) [.ref (adr g.1 7 0), .int a1]) (cQi g q ((cs, mt))) 0 0 (gA g) := by
  have i_6 : ∀ w ∈ u_ws RX6 TX6 7, w ∈ wsX7_fileSize := by decide +kernel
  have i_7 : ∀ w ∈ u_ws RX7 TX7 9, w ∈ wsX7_fileSize := by decide +kernel
  refine x_met (by decide) rfl (Nat.le_of_ble_eq_true rfl) ?_
  intro p e s m below meth c hx hb hr hml hts hown hlocks hK hW hS ls hl
  have hown : s.vm.findClass RX7 = some m.cls := hown
  have hl : lv_has ls 2 [(0, .ref (adr g.1 7 0)), (1, .int a1)] := hl
  rw [f_X7_fileSize] at hf
  refine lv_aload_n hx hb dX7_fileSize_0 rfl (lv_at hl 0 rfl) ?_
  refine x_get (i := g.1) (k := 7) (j := 0) (t := 3) hx hb hts i_7 hown hK hW ⟨⟨hfl, rfl⟩, by decide⟩ rfl ⟨by decide, by decide, rfl⟩ (hts (.fieldLink RX7 19 "OpticalJukebox" "state" "LOpticalJukebox$State;") (by decide +kernel)) (v := .ref (adr (k_st cs) 4 0)) rfl dX7_fileSize_1 ?_
  refine lv_iload_n hx hb dX7_fileSize_4 rfl (lv_at hl 1 rfl) ?_
  obtain ⟨q1, h_q1, hf⟩ := x_bindE hf
  refine x_ci0 (x_rV ⟨hx, hb, hml, hown, hts⟩ (ct_X4_hasFile l g (cs, mt) (k_st cs) hW.2.2.2.1 (k_xs cs (k_st cs)) (a1) h_q1) (cwV 1 hts gX7_fileSize_X4_hasFile rfl rfl rfl (by decide +kernel) ⟨Nat.le_of_ble_eq_true rfl, Nat.le_of_ble_eq_true rfl⟩) hK (w_self_sd hW) hS (x_recv (i := (k_st cs)) (k := 4) (j := 0) hK hW ⟨hW.2.2.2.1, by decide⟩ rfl (by decide)) rfl hl.1 (rest := []) rfl (Nat.le_of_ble_eq_true rfl) dX7_fileSize_5 ⟨Nat.le_of_ble_eq_true rfl, Nat.le_of_ble_eq_true rfl⟩) hS (fun H locs hW hS => ?_)
  have hW := w_unself_sd hW
  have hW : World g ((cs, mt)) H := hW
  refine W.eq (g2 := F0 m 8 ls [.int q1]) rfl ?_
  refine lv_if_eq (tgt := 25) hx hb dX7_fileSize_8 (by decide) (fun hc => ?_) (fun hc => ?_)
  · have hf := x_iteT hf hc
    refine lv_ldc (v := -1000001) hx hb hown (hts (.constant RX7 87 (-1000001)) (by decide +kernel)) dX7_fileSize_25 ?_
    cases hf
    exact x_iret hx hb hr hlocks hK hW hS rfl dX7_fileSize_27
  · have hf := x_iteF hf hc
    refine lv_aload_n hx hb dX7_fileSize_11 rfl (lv_at hl 0 rfl) ?_
    refine x_get (i := g.1) (k := 7) (j := 0) (t := 3) hx hb hts i_7 hown hK hW ⟨⟨hfl, rfl⟩, by decide⟩ rfl ⟨by decide, by decide, rfl⟩ (hts (.fieldLink RX7 19 "OpticalJukebox" "state" "LOpticalJukebox$State;") (by decide +kernel)) (v := .ref (adr (k_st cs) 4 0)) rfl dX7_fileSize_12 ?_
    refine lv_iload_n hx hb dX7_fileSize_15 rfl (lv_at hl 1 rfl) ?_
    obtain ⟨q2, h_q2, hf⟩ := x_bindE hf
    refine x_cr0 (x_rV ⟨hx, hb, hml, hown, hts⟩ (ct_X4_currentVersion l g (cs, mt) (k_st cs) hW.2.2.2.1 (k_xs cs (k_st cs)) (a1) h_q2) (cwV 1 hts gX7_fileSize_X4_currentVersion rfl rfl rfl (by decide +kernel) ⟨Nat.le_of_ble_eq_true rfl, Nat.le_of_ble_eq_true rfl⟩) hK (w_self_sd hW) hS (x_recv (i := (k_st cs)) (k := 4) (j := 0) hK hW ⟨hW.2.2.2.1, by decide⟩ rfl (by decide)) rfl hl.1 (rest := []) rfl (Nat.le_of_ble_eq_true rfl) dX7_fileSize_16 ⟨Nat.le_of_ble_eq_true rfl, Nat.le_of_ble_eq_true rfl⟩) hS (fun H locs hW hS => ?_)
    have hW := w_unself_sd hW
    have hW : World g ((cs, mt)) H := hW
    refine W.eq (g2 := F0 m 19 ls [.ref (adr (k_st cs) 6 q2)]) rfl ?_
    refine x_get (i := (k_st cs)) (k := 6) (j := q2) (t := 3) hx hb hts i_6 hown hK hW ⟨hW.2.2.2.1, (b_X4_currentVersion h_q2)⟩ rfl ⟨by decide, by decide, rfl⟩ (hts (.fieldLink RX7 217 "OpticalJukebox$Version" "size" "I") (by decide +kernel)) (rfl) dX7_fileSize_19 ?_
    refine lv_goto (tgt := 27) hx hb dX7_fileSize_22 (by decide) ?_
    cases hf
    exact x_iret hx hb hr hlocks hK hW hS rfl dX7_fileSize_27
abbrev rm_X7_fileSession : Room := { frames := 1, cells := 0, slots := 0, locals := 21 }
set_option maxRecDepth 100000 in
set_option maxHeartbeats 4000000 in
theorem ct_X7_fileSession (l : Launch) (g : GT) (hfl : 1 ≤ gf g) (cs : CT) (mt : MT) (a1 : Int32) {q : Int32} (hf : f_X7_fileSession (k_xs cs (k_st cs)) a1 = some q) : Met l yX7_fileSession wsX7_fileSession rm_X7_fileSession (cPre g ((cs, mt)) [.ref (adr g.1 7 0), .int a1]) (cQi g q ((cs, mt))) 0 0 (gA g) := by
  have i_6 : ∀ w ∈ u_ws RX6 TX6 7, w ∈ wsX7_fileSession := by decide +kernel
  have i_7 : ∀ w ∈ u_ws RX7 TX7 9, w ∈ wsX7_fileSession := by decide +kernel
  refine x_met (by decide) rfl (Nat.le_of_ble_eq_true rfl) ?_
  intro p e s m below meth c hx hb hr hml hts hown hlocks hK hW hS ls hl
  have hown : s.vm.findClass RX7 = some m.cls := hown
  have hl : lv_has ls 2 [(0, .ref (adr g.1 7 0)), (1, .int a1)] := hl
  rw [f_X7_fileSession] at hf
  refine lv_aload_n hx hb dX7_fileSession_0 rfl (lv_at hl 0 rfl) ?_
  refine x_get (i := g.1) (k := 7) (j := 0) (t := 3) hx hb hts i_7 hown hK hW ⟨⟨hfl, rfl⟩, by decide⟩ rfl ⟨by decide, by decide, rfl⟩ (hts (.fieldLink RX7 19 "OpticalJukebox" "state" "LOpticalJukebox$State;") (by decide +kernel)) (v := .ref (adr (k_st cs) 4 0)) rfl dX7_fileSession_1 ?_
  refine lv_iload_n hx hb dX7_fileSession_4 rfl (lv_at hl 1 rfl) ?_
  obtain ⟨q1, h_q1, hf⟩ := x_bindE hf
  refine x_ci0 (x_rV ⟨hx, hb, hml, hown, hts⟩ (ct_X4_hasFile l g (cs, mt) (k_st cs) hW.2.2.2.1 (k_xs cs (k_st cs)) (a1) h_q1) (cwV 1 hts gX7_fileSession_X4_hasFile rfl rfl rfl (by decide +kernel) ⟨Nat.le_of_ble_eq_true rfl, Nat.le_of_ble_eq_true rfl⟩) hK (w_self_sd hW) hS (x_recv (i := (k_st cs)) (k := 4) (j := 0) hK hW ⟨hW.2.2.2.1, by decide⟩ rfl (by decide)) rfl hl.1 (rest := []) rfl (Nat.le_of_ble_eq_true rfl) dX7_fileSession_5 ⟨Nat.le_of_ble_eq_true rfl, Nat.le_of_ble_eq_true rfl⟩) hS (fun H locs hW hS => ?_)
  have hW := w_unself_sd hW
  have hW : World g ((cs, mt)) H := hW
  refine W.eq (g2 := F0 m 8 ls [.int q1]) rfl ?_
  refine lv_if_eq (tgt := 25) hx hb dX7_fileSession_8 (by decide) (fun hc => ?_) (fun hc => ?_)
  · have hf := x_iteT hf hc
    refine lv_ldc (v := -1000001) hx hb hown (hts (.constant RX7 87 (-1000001)) (by decide +kernel)) dX7_fileSession_25 ?_
    cases hf
    exact x_iret hx hb hr hlocks hK hW hS rfl dX7_fileSession_27
  · have hf := x_iteF hf hc
    refine lv_aload_n hx hb dX7_fileSession_11 rfl (lv_at hl 0 rfl) ?_
    refine x_get (i := g.1) (k := 7) (j := 0) (t := 3) hx hb hts i_7 hown hK hW ⟨⟨hfl, rfl⟩, by decide⟩ rfl ⟨by decide, by decide, rfl⟩ (hts (.fieldLink RX7 19 "OpticalJukebox" "state" "LOpticalJukebox$State;") (by decide +kernel)) (v := .ref (adr (k_st cs) 4 0)) rfl dX7_fileSession_12 ?_
    refine lv_iload_n hx hb dX7_fileSession_15 rfl (lv_at hl 1 rfl) ?_
    obtain ⟨q2, h_q2, hf⟩ := x_bindE hf
    refine x_cr0 (x_rV ⟨hx, hb, hml, hown, hts⟩ (ct_X4_currentVersion l g (cs, mt) (k_st cs) hW.2.2.2.1 (k_xs cs (k_st cs)) (a1) h_q2) (cwV 1 hts gX7_fileSession_X4_currentVersion rfl rfl rfl (by decide +kernel) ⟨Nat.le_of_ble_eq_true rfl, Nat.le_of_ble_eq_true rfl⟩) hK (w_self_sd hW) hS (x_recv (i := (k_st cs)) (k := 4) (j := 0) hK hW ⟨hW.2.2.2.1, by decide⟩ rfl (by decide)) rfl hl.1 (rest := []) rfl (Nat.le_of_ble_eq_true rfl) dX7_fileSession_16 ⟨Nat.le_of_ble_eq_true rfl, Nat.le_of_ble_eq_true rfl⟩) hS (fun H locs hW hS => ?_)
    have hW := w_unself_sd hW
    have hW : World g ((cs, mt)) H := hW
    refine W.eq (g2 := F0 m 19 ls [.ref (adr (k_st cs) 6 q2)]) rfl ?_
    refine x_get (i := (k_st cs)) (k := 6) (j := q2) (t := 4) hx hb hts i_6 hown hK hW ⟨hW.2.2.2.1, (b_X4_currentVersion h_q2)⟩ rfl ⟨by decide, by decide, rfl⟩ (hts (.fieldLink RX7 220 "OpticalJukebox$Version" "session" "I") (by decide +kernel)) (rfl) dX7_fileSession_19 ?_
    refine lv_goto (tgt := 27) hx hb dX7_fileSession_22 (by decide) ?_
    cases hf
    exact x_iret hx hb hr hlocks hK hW hS rfl dX7_fileSession_27
abbrev rm_X7_remappedSectors : Room := { frames := 1, cells := 0, slots := 0, locals := 21 }
set_option maxRecDepth 100000 in
set_option maxHeartbeats 4000000 in
theorem ct_X7_remappedSectors (l : Launch) (g : GT) (hfl : 1 ≤ gf g) (cs : CT) (mt : MT) (a1 : Int32) {q : Int32} (hf : f_X7_remappedSectors (k_xs cs (k_st cs)) a1 = some q) : Met l yX7_remappedSectors wsX7_remappedSectors rm_X7_remappedSectors (cPre g ((cs, mt)) [.ref (adr g.1 7 0), .int a1]) (cQi g q ((cs, mt))) 0 0 (gA g) := by
  have i_6 : ∀ w ∈ u_ws RX6 TX6 7, w ∈ wsX7_remappedSectors := by decide +kernel
  have i_7 : ∀ w ∈ u_ws RX7 TX7 9, w ∈ wsX7_remappedSectors := by decide +kernel
  refine x_met (by decide) rfl (Nat.le_of_ble_eq_true rfl) ?_
  intro p e s m below meth c hx hb hr hml hts hown hlocks hK hW hS ls hl
  have hown : s.vm.findClass RX7 = some m.cls := hown
  have hl : lv_has ls 2 [(0, .ref (adr g.1 7 0)), (1, .int a1)] := hl
  rw [f_X7_remappedSectors] at hf
  refine lv_aload_n hx hb dX7_remappedSectors_0 rfl (lv_at hl 0 rfl) ?_
  refine x_get (i := g.1) (k := 7) (j := 0) (t := 3) hx hb hts i_7 hown hK hW ⟨⟨hfl, rfl⟩, by decide⟩ rfl ⟨by decide, by decide, rfl⟩ (hts (.fieldLink RX7 19 "OpticalJukebox" "state" "LOpticalJukebox$State;") (by decide +kernel)) (v := .ref (adr (k_st cs) 4 0)) rfl dX7_remappedSectors_1 ?_
  refine lv_iload_n hx hb dX7_remappedSectors_4 rfl (lv_at hl 1 rfl) ?_
  obtain ⟨q1, h_q1, hf⟩ := x_bindE hf
  refine x_ci0 (x_rV ⟨hx, hb, hml, hown, hts⟩ (ct_X4_hasFile l g (cs, mt) (k_st cs) hW.2.2.2.1 (k_xs cs (k_st cs)) (a1) h_q1) (cwV 1 hts gX7_remappedSectors_X4_hasFile rfl rfl rfl (by decide +kernel) ⟨Nat.le_of_ble_eq_true rfl, Nat.le_of_ble_eq_true rfl⟩) hK (w_self_sd hW) hS (x_recv (i := (k_st cs)) (k := 4) (j := 0) hK hW ⟨hW.2.2.2.1, by decide⟩ rfl (by decide)) rfl hl.1 (rest := []) rfl (Nat.le_of_ble_eq_true rfl) dX7_remappedSectors_5 ⟨Nat.le_of_ble_eq_true rfl, Nat.le_of_ble_eq_true rfl⟩) hS (fun H locs hW hS => ?_)
  have hW := w_unself_sd hW
  have hW : World g ((cs, mt)) H := hW
  refine W.eq (g2 := F0 m 8 ls [.int q1]) rfl ?_
  refine lv_if_eq (tgt := 25) hx hb dX7_remappedSectors_8 (by decide) (fun hc => ?_) (fun hc => ?_)
  · have hf := x_iteT hf hc
    refine lv_ldc (v := -1000001) hx hb hown (hts (.constant RX7 87 (-1000001)) (by decide +kernel)) dX7_remappedSectors_25 ?_
    cases hf
    exact x_iret hx hb hr hlocks hK hW hS rfl dX7_remappedSectors_27
  · have hf := x_iteF hf hc
    refine lv_aload_n hx hb dX7_remappedSectors_11 rfl (lv_at hl 0 rfl) ?_
    refine x_get (i := g.1) (k := 7) (j := 0) (t := 3) hx hb hts i_7 hown hK hW ⟨⟨hfl, rfl⟩, by decide⟩ rfl ⟨by decide, by decide, rfl⟩ (hts (.fieldLink RX7 19 "OpticalJukebox" "state" "LOpticalJukebox$State;") (by decide +kernel)) (v := .ref (adr (k_st cs) 4 0)) rfl dX7_remappedSectors_12 ?_
    refine lv_iload_n hx hb dX7_remappedSectors_15 rfl (lv_at hl 1 rfl) ?_
    obtain ⟨q2, h_q2, hf⟩ := x_bindE hf
    refine x_cr0 (x_rV ⟨hx, hb, hml, hown, hts⟩ (ct_X4_currentVersion l g (cs, mt) (k_st cs) hW.2.2.2.1 (k_xs cs (k_st cs)) (a1) h_q2) (cwV 1 hts gX7_remappedSectors_X4_currentVersion rfl rfl rfl (by decide +kernel) ⟨Nat.le_of_ble_eq_true rfl, Nat.le_of_ble_eq_true rfl⟩) hK (w_self_sd hW) hS (x_recv (i := (k_st cs)) (k := 4) (j := 0) hK hW ⟨hW.2.2.2.1, by decide⟩ rfl (by decide)) rfl hl.1 (rest := []) rfl (Nat.le_of_ble_eq_true rfl) dX7_remappedSectors_16 ⟨Nat.le_of_ble_eq_true rfl, Nat.le_of_ble_eq_true rfl⟩) hS (fun H locs hW hS => ?_)
    have hW := w_unself_sd hW
    have hW : World g ((cs, mt)) H := hW
    refine W.eq (g2 := F0 m 19 ls [.ref (adr (k_st cs) 6 q2)]) rfl ?_
    refine x_get (i := (k_st cs)) (k := 6) (j := q2) (t := 5) hx hb hts i_6 hown hK hW ⟨hW.2.2.2.1, (b_X4_currentVersion h_q2)⟩ rfl ⟨by decide, by decide, rfl⟩ (hts (.fieldLink RX7 223 "OpticalJukebox$Version" "remapped" "I") (by decide +kernel)) (rfl) dX7_remappedSectors_19 ?_
    refine lv_goto (tgt := 27) hx hb dX7_remappedSectors_22 (by decide) ?_
    cases hf
    exact x_iret hx hb hr hlocks hK hW hS rfl dX7_remappedSectors_27
abbrev rm_X7_fileState : Room := { frames := 3, cells := 0, slots := 0, locals := 63 }
set_option maxRecDepth 100000 in
set_option maxHeartbeats 4000000 in
theorem ct_X7_fileState (l : Launch) (g : GT) (hfl : 1 ≤ gf g) (cs : CT) (mt : MT) (a1 : Int32) {q : Int32} (hf : f_X7_fileState (k_xs cs (k_st cs)) a1 = some q) : Met l yX7_fileState wsX7_fileState rm_X7_fileState (cPre g ((cs, mt)) [.ref (adr g.1 7 0), .int a1]) (cQi g q ((cs, mt))) 0 0 (gA g) := by
  have i_6 : ∀ w ∈ u_ws RX6 TX6 7, w ∈ wsX7_fileState := by decide +kernel
  have i_7 : ∀ w ∈ u_ws RX7 TX7 9, w ∈ wsX7_fileState := by decide +kernel
  refine x_met (by decide) rfl (Nat.le_of_ble_eq_true rfl) ?_
  intro p e s m below meth c hx hb hr hml hts hown hlocks hK hW hS ls hl
  have hown : s.vm.findClass RX7 = some m.cls := hown
  have hl : lv_has ls 2 [(0, .ref (adr g.1 7 0)), (1, .int a1)] := hl
  rw [f_X7_fileState] at hf
  refine lv_aload_n hx hb dX7_fileState_0 rfl (lv_at hl 0 rfl) ?_
  refine x_get (i := g.1) (k := 7) (j := 0) (t := 3) hx hb hts i_7 hown hK hW ⟨⟨hfl, rfl⟩, by decide⟩ rfl ⟨by decide, by decide, rfl⟩ (hts (.fieldLink RX7 19 "OpticalJukebox" "state" "LOpticalJukebox$State;") (by decide +kernel)) (v := .ref (adr (k_st cs) 4 0)) rfl dX7_fileState_1 ?_
  refine lv_iload_n hx hb dX7_fileState_4 rfl (lv_at hl 1 rfl) ?_
  obtain ⟨q1, h_q1, hf⟩ := x_bindE hf
  refine x_ci0 (x_rV ⟨hx, hb, hml, hown, hts⟩ (ct_X4_hasFile l g (cs, mt) (k_st cs) hW.2.2.2.1 (k_xs cs (k_st cs)) (a1) h_q1) (cwV 1 hts gX7_fileState_X4_hasFile rfl rfl rfl (by decide +kernel) ⟨Nat.le_of_ble_eq_true rfl, Nat.le_of_ble_eq_true rfl⟩) hK (w_self_sd hW) hS (x_recv (i := (k_st cs)) (k := 4) (j := 0) hK hW ⟨hW.2.2.2.1, by decide⟩ rfl (by decide)) rfl hl.1 (rest := []) rfl (Nat.le_of_ble_eq_true rfl) dX7_fileState_5 ⟨Nat.le_of_ble_eq_true rfl, Nat.le_of_ble_eq_true rfl⟩) hS (fun H locs hW hS => ?_)
  have hW := w_unself_sd hW
  have hW : World g ((cs, mt)) H := hW
  refine W.eq (g2 := F0 m 8 ls [.int q1]) rfl ?_
  refine lv_if_ne (tgt := 14) hx hb dX7_fileState_8 (by decide) (fun hc => ?_) (fun hc => ?_)
  · have hf := x_iteF hf hc
    refine lv_aload_n hx hb dX7_fileState_14 rfl (lv_at hl 0 rfl) ?_
    refine x_get (i := g.1) (k := 7) (j := 0) (t := 3) hx hb hts i_7 hown hK hW ⟨⟨hfl, rfl⟩, by decide⟩ rfl ⟨by decide, by decide, rfl⟩ (hts (.fieldLink RX7 19 "OpticalJukebox" "state" "LOpticalJukebox$State;") (by decide +kernel)) (v := .ref (adr (k_st cs) 4 0)) rfl dX7_fileState_15 ?_
    refine lv_iload_n hx hb dX7_fileState_18 rfl (lv_at hl 1 rfl) ?_
    obtain ⟨q2, h_q2, hf⟩ := x_bindE hf
    refine x_cr0 (x_rV ⟨hx, hb, hml, hown, hts⟩ (ct_X4_currentVersion l g (cs, mt) (k_st cs) hW.2.2.2.1 (k_xs cs (k_st cs)) (a1) h_q2) (cwV 1 hts gX7_fileState_X4_currentVersion rfl rfl rfl (by decide +kernel) ⟨Nat.le_of_ble_eq_true rfl, Nat.le_of_ble_eq_true rfl⟩) hK (w_self_sd hW) hS (x_recv (i := (k_st cs)) (k := 4) (j := 0) hK hW ⟨hW.2.2.2.1, by decide⟩ rfl (by decide)) rfl hl.1 (rest := []) rfl (Nat.le_of_ble_eq_true rfl) dX7_fileState_19 ⟨Nat.le_of_ble_eq_true rfl, Nat.le_of_ble_eq_true rfl⟩) hS (fun H locs hW hS => ?_)
    have hW := w_unself_sd hW
    have hW : World g ((cs, mt)) H := hW
    refine W.eq (g2 := F0 m 22 ls [.ref (adr (k_st cs) 6 q2)]) rfl ?_
    refine x_get (i := (k_st cs)) (k := 6) (j := q2) (t := 6) hx hb hts i_6 hown hK hW ⟨hW.2.2.2.1, (b_X4_currentVersion h_q2)⟩ rfl ⟨by decide, by decide, rfl⟩ (hts (.fieldLink RX7 226 "OpticalJukebox$Version" "damaged" "Z") (by decide +kernel)) (rfl) dX7_fileState_22 ?_
    refine lv_if_eq (tgt := 30) hx hb dX7_fileState_25 (by decide) (fun hc => ?_) (fun hc => ?_)
    · have hf := x_iteT hf hc
      refine lv_aload_n hx hb dX7_fileState_30 rfl (lv_at hl 0 rfl) ?_
      refine x_get (i := g.1) (k := 7) (j := 0) (t := 3) hx hb hts i_7 hown hK hW ⟨⟨hfl, rfl⟩, by decide⟩ rfl ⟨by decide, by decide, rfl⟩ (hts (.fieldLink RX7 19 "OpticalJukebox" "state" "LOpticalJukebox$State;") (by decide +kernel)) (v := .ref (adr (k_st cs) 4 0)) rfl dX7_fileState_31 ?_
      refine lv_iload_n hx hb dX7_fileState_34 rfl (lv_at hl 1 rfl) ?_
      obtain ⟨q3, h_q3, hf⟩ := x_bindE hf
      refine x_ci0 (x_rV ⟨hx, hb, hml, hown, hts⟩ (ct_X4_isReadable l g (cs, mt) (k_st cs) hW.2.2.2.1 (k_xs cs (k_st cs)) (a1) h_q3) (cwV 1 hts gX7_fileState_X4_isReadable rfl rfl rfl (by decide +kernel) ⟨Nat.le_of_ble_eq_true rfl, Nat.le_of_ble_eq_true rfl⟩) hK (w_self_sd hW) hS (x_recv (i := (k_st cs)) (k := 4) (j := 0) hK hW ⟨hW.2.2.2.1, by decide⟩ rfl (by decide)) rfl hl.1 (rest := []) rfl (Nat.le_of_ble_eq_true rfl) dX7_fileState_35 ⟨Nat.le_of_ble_eq_true rfl, Nat.le_of_ble_eq_true rfl⟩) hS (fun H locs hW hS => ?_)
      have hW := w_unself_sd hW
      have hW : World g ((cs, mt)) H := hW
      refine W.eq (g2 := F0 m 38 ls [.int q3]) rfl ?_
      refine lv_if_eq (tgt := 45) hx hb dX7_fileState_38 (by decide) (fun hc => ?_) (fun hc => ?_)
      · have hf := x_iteT hf hc
        refine lv_iconst (v := 2) hx hb dX7_fileState_45 (by decide) ?_
        cases hf
        exact x_iret hx hb hr hlocks hK hW hS rfl dX7_fileState_46
      · have hf := x_iteF hf hc
        refine lv_iconst (v := 0) hx hb dX7_fileState_41 (by decide) ?_
        refine lv_goto (tgt := 46) hx hb dX7_fileState_42 (by decide) ?_
        cases hf
        exact x_iret hx hb hr hlocks hK hW hS rfl dX7_fileState_46
    · have hf := x_iteF hf hc
      refine lv_iconst (v := 1) hx hb dX7_fileState_28 (by decide) ?_
      cases hf
      exact x_iret hx hb hr hlocks hK hW hS rfl dX7_fileState_29
  · have hf := x_iteT hf hc
    refine lv_ldc (v := -1000001) hx hb hown (hts (.constant RX7 87 (-1000001)) (by decide +kernel)) dX7_fileState_11 ?_
    cases hf
    exact x_iret hx hb hr hlocks hK hW hS rfl dX7_fileState_13
abbrev rm_X7_readProblem : Room := { frames := 3, cells := 0, slots := 0, locals := 63 }
set_option maxRecDepth 100000 in
set_option maxHeartbeats 4000000 in
theorem ct_X7_readProblem (l : Launch) (g : GT) (hfl : 1 ≤ gf g) (cs : CT) (mt : MT) (a1 : Int32) {q : Int32} (hf : f_X7_readProblem (k_xs cs (k_st cs)) a1 = some q) : Met l yX7_readProblem wsX7_readProblem rm_X7_readProblem (cPre g ((cs, mt)) [.ref (adr g.1 7 0), .int a1]) (cQi g q ((cs, mt))) 0 0 (gA g) := by
  have i_4 : ∀ w ∈ u_ws RX4 TX4 18, w ∈ wsX7_readProblem := by decide +kernel
  have i_7 : ∀ w ∈ u_ws RX7 TX7 9, w ∈ wsX7_readProblem := by decide +kernel
  refine x_met (by decide) rfl (Nat.le_of_ble_eq_true rfl) ?_
  intro p e s m below meth c hx hb hr hml hts hown hlocks hK hW hS ls hl
  have hown : s.vm.findClass RX7 = some m.cls := hown
  have hl : lv_has ls 2 [(0, .ref (adr g.1 7 0)), (1, .int a1)] := hl
  rw [f_X7_readProblem] at hf
  refine lv_aload_n hx hb dX7_readProblem_0 rfl (lv_at hl 0 rfl) ?_
  refine x_get (i := g.1) (k := 7) (j := 0) (t := 3) hx hb hts i_7 hown hK hW ⟨⟨hfl, rfl⟩, by decide⟩ rfl ⟨by decide, by decide, rfl⟩ (hts (.fieldLink RX7 19 "OpticalJukebox" "state" "LOpticalJukebox$State;") (by decide +kernel)) (v := .ref (adr (k_st cs) 4 0)) rfl dX7_readProblem_1 ?_
  refine lv_iload_n hx hb dX7_readProblem_4 rfl (lv_at hl 1 rfl) ?_
  obtain ⟨q1, h_q1, hf⟩ := x_bindE hf
  refine x_ci0 (x_rV ⟨hx, hb, hml, hown, hts⟩ (ct_X4_hasFile l g (cs, mt) (k_st cs) hW.2.2.2.1 (k_xs cs (k_st cs)) (a1) h_q1) (cwV 1 hts gX7_readProblem_X4_hasFile rfl rfl rfl (by decide +kernel) ⟨Nat.le_of_ble_eq_true rfl, Nat.le_of_ble_eq_true rfl⟩) hK (w_self_sd hW) hS (x_recv (i := (k_st cs)) (k := 4) (j := 0) hK hW ⟨hW.2.2.2.1, by decide⟩ rfl (by decide)) rfl hl.1 (rest := []) rfl (Nat.le_of_ble_eq_true rfl) dX7_readProblem_5 ⟨Nat.le_of_ble_eq_true rfl, Nat.le_of_ble_eq_true rfl⟩) hS (fun H locs hW hS => ?_)
  have hW := w_unself_sd hW
  have hW : World g ((cs, mt)) H := hW
  refine W.eq (g2 := F0 m 8 ls [.int q1]) rfl ?_
  refine lv_if_ne (tgt := 14) hx hb dX7_readProblem_8 (by decide) (fun hc => ?_) (fun hc => ?_)
  · have hf := x_iteF hf hc
    refine lv_aload_n hx hb dX7_readProblem_14 rfl (lv_at hl 0 rfl) ?_
    refine x_get (i := g.1) (k := 7) (j := 0) (t := 3) hx hb hts i_7 hown hK hW ⟨⟨hfl, rfl⟩, by decide⟩ rfl ⟨by decide, by decide, rfl⟩ (hts (.fieldLink RX7 19 "OpticalJukebox" "state" "LOpticalJukebox$State;") (by decide +kernel)) (v := .ref (adr (k_st cs) 4 0)) rfl dX7_readProblem_15 ?_
    refine x_get (i := (k_st cs)) (k := 4) (j := 0) (t := 3) hx hb hts i_4 hown hK hW ⟨hW.2.2.2.1, by decide⟩ rfl ⟨by decide, by decide, rfl⟩ (hts (.fieldLink RX7 134 "OpticalJukebox$State" "driveCount" "I") (by decide +kernel)) (rfl) dX7_readProblem_18 ?_
    refine lv_if_ne (tgt := 27) hx hb dX7_readProblem_21 (by decide) (fun hc => ?_) (fun hc => ?_)
    · have hf := x_iteF hf hc
      refine lv_aload_n hx hb dX7_readProblem_27 rfl (lv_at hl 0 rfl) ?_
      refine x_get (i := g.1) (k := 7) (j := 0) (t := 3) hx hb hts i_7 hown hK hW ⟨⟨hfl, rfl⟩, by decide⟩ rfl ⟨by decide, by decide, rfl⟩ (hts (.fieldLink RX7 19 "OpticalJukebox" "state" "LOpticalJukebox$State;") (by decide +kernel)) (v := .ref (adr (k_st cs) 4 0)) rfl dX7_readProblem_28 ?_
      refine lv_iload_n hx hb dX7_readProblem_31 rfl (lv_at hl 1 rfl) ?_
      obtain ⟨q2, h_q2, hf⟩ := x_bindE hf
      refine x_ci0 (x_rV ⟨hx, hb, hml, hown, hts⟩ (ct_X4_isReadable l g (cs, mt) (k_st cs) hW.2.2.2.1 (k_xs cs (k_st cs)) (a1) h_q2) (cwV 1 hts gX7_readProblem_X4_isReadable rfl rfl rfl (by decide +kernel) ⟨Nat.le_of_ble_eq_true rfl, Nat.le_of_ble_eq_true rfl⟩) hK (w_self_sd hW) hS (x_recv (i := (k_st cs)) (k := 4) (j := 0) hK hW ⟨hW.2.2.2.1, by decide⟩ rfl (by decide)) rfl hl.1 (rest := []) rfl (Nat.le_of_ble_eq_true rfl) dX7_readProblem_32 ⟨Nat.le_of_ble_eq_true rfl, Nat.le_of_ble_eq_true rfl⟩) hS (fun H locs hW hS => ?_)
      have hW := w_unself_sd hW
      have hW : World g ((cs, mt)) H := hW
      refine W.eq (g2 := F0 m 35 ls [.int q2]) rfl ?_
      refine lv_if_eq (tgt := 42) hx hb dX7_readProblem_35 (by decide) (fun hc => ?_) (fun hc => ?_)
      · have hf := x_iteT hf hc
        refine lv_ldc (v := -1000008) hx hb hown (hts (.constant RX7 239 (-1000008)) (by decide +kernel)) dX7_readProblem_42 ?_
        cases hf
        exact x_iret hx hb hr hlocks hK hW hS rfl dX7_readProblem_44
      · have hf := x_iteF hf hc
        refine lv_iconst (v := 0) hx hb dX7_readProblem_38 (by decide) ?_
        refine lv_goto (tgt := 44) hx hb dX7_readProblem_39 (by decide) ?_
        cases hf
        exact x_iret hx hb hr hlocks hK hW hS rfl dX7_readProblem_44
    · have hf := x_iteT hf hc
      refine lv_ldc (v := -1000007) hx hb hown (hts (.constant RX7 137 (-1000007)) (by decide +kernel)) dX7_readProblem_24 ?_
      cases hf
      exact x_iret hx hb hr hlocks hK hW hS rfl dX7_readProblem_26
  · have hf := x_iteT hf hc
    refine lv_ldc (v := -1000001) hx hb hown (hts (.constant RX7 87 (-1000001)) (by decide +kernel)) dX7_readProblem_11 ?_
    cases hf
    exact x_iret hx hb hr hlocks hK hW hS rfl dX7_readProblem_13
abbrev rm_X7_readTime : Room := { frames := 4, cells := 0, slots := 0, locals := 94 }
set_option maxRecDepth 100000 in
set_option maxHeartbeats 4000000 in
theorem ct_X7_readTime (l : Launch) (g : GT) (hfl : 1 ≤ gf g) (cs : CT) (mt : MT) (a1 : Int32) {q : Int32} (hf : f_X7_readTime (k_xs cs (k_st cs)) a1 = some q) : Met l yX7_readTime wsX7_readTime rm_X7_readTime (cPre g ((cs, mt)) [.ref (adr g.1 7 0), .int a1]) (cQi g q ((cs, mt))) 0 0 (gA g) := by
  have i_6 : ∀ w ∈ u_ws RX6 TX6 7, w ∈ wsX7_readTime := by decide +kernel
  have i_7 : ∀ w ∈ u_ws RX7 TX7 9, w ∈ wsX7_readTime := by decide +kernel
  refine x_met (by decide) rfl (Nat.le_of_ble_eq_true rfl) ?_
  intro p e s m below meth c hx hb hr hml hts hown hlocks hK hW hS ls hl
  have hown : s.vm.findClass RX7 = some m.cls := hown
  have hl : lv_has ls 4 [(0, .ref (adr g.1 7 0)), (1, .int a1)] := hl
  rw [f_X7_readTime] at hf
  refine lv_aload_n hx hb dX7_readTime_0 rfl (lv_at hl 0 rfl) ?_
  refine lv_iload_n hx hb dX7_readTime_1 rfl (lv_at hl 1 rfl) ?_
  obtain ⟨q1, h_q1, hf⟩ := x_bindE hf
  refine x_ci0 (x_rV ⟨hx, hb, hml, hown, hts⟩ (ct_X7_readProblem l g hfl cs mt (a1) h_q1) (cwV 1 hts gX7_readTime_X7_readProblem rfl rfl rfl (by decide +kernel) ⟨Nat.le_of_ble_eq_true rfl, Nat.le_of_ble_eq_true rfl⟩) hK hW hS (x_recv (i := g.1) (k := 7) (j := 0) hK hW ⟨⟨hfl, rfl⟩, by decide⟩ rfl (by decide)) rfl hl.1 (rest := []) rfl (Nat.le_of_ble_eq_true rfl) dX7_readTime_2 ⟨Nat.le_of_ble_eq_true rfl, Nat.le_of_ble_eq_true rfl⟩) hS (fun H locs hW hS => ?_)
  have hW : World g ((cs, mt)) H := hW
  refine W.eq (g2 := F0 m 5 ls [.int q1]) rfl ?_
  refine lv_istore_n (lv' := [(2, .int q1), (0, .ref (adr g.1 7 0)), (1, .int a1)]) hx hb dX7_readTime_5 rfl hl (by decide) rfl (fun ls hl => ?_)
  refine lv_iload_n hx hb dX7_readTime_6 rfl (lv_at hl 0 rfl) ?_
  refine lv_if_eq (tgt := 12) hx hb dX7_readTime_7 (by decide) (fun hc => ?_) (fun hc => ?_)
  · have hf := x_iteT hf hc
    refine lv_aload_n hx hb dX7_readTime_12 rfl (lv_at hl 1 rfl) ?_
    refine x_get (i := g.1) (k := 7) (j := 0) (t := 3) hx hb hts i_7 hown hK hW ⟨⟨hfl, rfl⟩, by decide⟩ rfl ⟨by decide, by decide, rfl⟩ (hts (.fieldLink RX7 19 "OpticalJukebox" "state" "LOpticalJukebox$State;") (by decide +kernel)) (v := .ref (adr (k_st cs) 4 0)) rfl dX7_readTime_13 ?_
    refine lv_iload_n hx hb dX7_readTime_16 rfl (lv_at hl 2 rfl) ?_
    obtain ⟨q2, h_q2, hf⟩ := x_bindE hf
    refine x_cr0 (x_rV ⟨hx, hb, hml, hown, hts⟩ (ct_X4_currentVersion l g (cs, mt) (k_st cs) hW.2.2.2.1 (k_xs cs (k_st cs)) (a1) h_q2) (cwV 1 hts gX7_readTime_X4_currentVersion rfl rfl rfl (by decide +kernel) ⟨Nat.le_of_ble_eq_true rfl, Nat.le_of_ble_eq_true rfl⟩) hK (w_self_sd hW) hS (x_recv (i := (k_st cs)) (k := 4) (j := 0) hK hW ⟨hW.2.2.2.1, by decide⟩ rfl (by decide)) rfl hl.1 (rest := []) rfl (Nat.le_of_ble_eq_true rfl) dX7_readTime_17 ⟨Nat.le_of_ble_eq_true rfl, Nat.le_of_ble_eq_true rfl⟩) hS (fun H locs hW hS => ?_)
    have hW := w_unself_sd hW
    have hW : World g ((cs, mt)) H := hW
    refine W.eq (g2 := F0 m 20 ls [.ref (adr (k_st cs) 6 q2)]) rfl ?_
    refine lv_astore_n (lv' := [(3, .ref (adr (k_st cs) 6 q2)), (2, .int q1), (0, .ref (adr g.1 7 0)), (1, .int a1)]) hx hb dX7_readTime_20 rfl hl (by decide) rfl (fun ls hl => ?_)
    refine lv_aload_n hx hb dX7_readTime_21 rfl (lv_at hl 2 rfl) ?_
    refine x_get (i := g.1) (k := 7) (j := 0) (t := 3) hx hb hts i_7 hown hK hW ⟨⟨hfl, rfl⟩, by decide⟩ rfl ⟨by decide, by decide, rfl⟩ (hts (.fieldLink RX7 19 "OpticalJukebox" "state" "LOpticalJukebox$State;") (by decide +kernel)) (v := .ref (adr (k_st cs) 4 0)) rfl dX7_readTime_22 ?_
    refine lv_aload_n hx hb dX7_readTime_25 rfl (lv_at hl 0 rfl) ?_
    refine x_get (i := (k_st cs)) (k := 6) (j := q2) (t := 1) hx hb hts i_6 hown hK hW ⟨hW.2.2.2.1, (b_X4_currentVersion h_q2)⟩ rfl ⟨by decide, by decide, rfl⟩ (hts (.fieldLink RX7 211 "OpticalJukebox$Version" "platter" "I") (by decide +kernel)) (rfl) dX7_readTime_26 ?_
    obtain ⟨q3, h_q3, hf⟩ := x_bindE hf
    refine x_ci0 (x_rV ⟨hx, hb, hml, hown, hts⟩ (ct_X4_chosenBringTime l g (cs, mt) (k_st cs) hW.2.2.2.1 (k_xs cs (k_st cs)) (((k_xs cs (k_st cs)) 6 q2 1)) h_q3) (cwV 1 hts gX7_readTime_X4_chosenBringTime rfl rfl rfl (by decide +kernel) ⟨Nat.le_of_ble_eq_true rfl, Nat.le_of_ble_eq_true rfl⟩) hK (w_self_sd hW) hS (x_recv (i := (k_st cs)) (k := 4) (j := 0) hK hW ⟨hW.2.2.2.1, by decide⟩ rfl (by decide)) rfl hl.1 (rest := []) rfl (Nat.le_of_ble_eq_true rfl) dX7_readTime_29 ⟨Nat.le_of_ble_eq_true rfl, Nat.le_of_ble_eq_true rfl⟩) hS (fun H locs hW hS => ?_)
    have hW := w_unself_sd hW
    have hW : World g ((cs, mt)) H := hW
    refine W.eq (g2 := F0 m 32 ls [.int q3]) rfl ?_
    refine lv_aload_n hx hb dX7_readTime_32 rfl (lv_at hl 2 rfl) ?_
    refine x_get (i := g.1) (k := 7) (j := 0) (t := 3) hx hb hts i_7 hown hK hW ⟨⟨hfl, rfl⟩, by decide⟩ rfl ⟨by decide, by decide, rfl⟩ (hts (.fieldLink RX7 19 "OpticalJukebox" "state" "LOpticalJukebox$State;") (by decide +kernel)) (v := .ref (adr (k_st cs) 4 0)) rfl dX7_readTime_33 ?_
    refine lv_aload_n hx hb dX7_readTime_36 rfl (lv_at hl 0 rfl) ?_
    obtain ⟨q4, h_q4, hf⟩ := x_bindE hf
    refine x_ci0 (x_rV ⟨hx, hb, hml, hown, hts⟩ (ct_X4_sectorsReadTime l g (cs, mt) (k_st cs) hW.2.2.2.1 (k_xs cs (k_st cs)) (q2) ((b_X4_currentVersion h_q2)) h_q4) (cwV 1 hts gX7_readTime_X4_sectorsReadTime rfl rfl rfl (by decide +kernel) ⟨Nat.le_of_ble_eq_true rfl, Nat.le_of_ble_eq_true rfl⟩) hK (w_self_sd hW) hS (x_recv (i := (k_st cs)) (k := 4) (j := 0) hK hW ⟨hW.2.2.2.1, by decide⟩ rfl (by decide)) rfl hl.1 (rest := [.int q3]) rfl (Nat.le_of_ble_eq_true rfl) dX7_readTime_37 ⟨Nat.le_of_ble_eq_true rfl, Nat.le_of_ble_eq_true rfl⟩) hS (fun H locs hW hS => ?_)
    have hW := w_unself_sd hW
    have hW : World g ((cs, mt)) H := hW
    refine W.eq (g2 := F0 m 40 ls [.int q4, .int q3]) rfl ?_
    refine lv_iadd hx hb dX7_readTime_40 ?_
    cases hf
    exact x_iret hx hb hr hlocks hK hW hS rfl dX7_readTime_41
  · have hf := x_iteF hf hc
    refine lv_iload_n hx hb dX7_readTime_10 rfl (lv_at hl 0 rfl) ?_
    cases hf
    exact x_iret hx hb hr hlocks hK hW hS rfl dX7_readTime_11
abbrev rm_X7_lastGoodVersion : Room := { frames := 3, cells := 0, slots := 0, locals := 66 }
set_option maxRecDepth 100000 in
set_option maxHeartbeats 4000000 in
theorem ct_X7_lastGoodVersion (l : Launch) (g : GT) (hfl : 1 ≤ gf g) (cs : CT) (mt : MT) (a1 : Int32) {q : Int32} (hf : f_X7_lastGoodVersion (k_xs cs (k_st cs)) a1 = some q) : Met l yX7_lastGoodVersion wsX7_lastGoodVersion rm_X7_lastGoodVersion (cPre g ((cs, mt)) [.ref (adr g.1 7 0), .int a1]) (cQi g q ((cs, mt))) 0 0 (gA g) := by
  have i_7 : ∀ w ∈ u_ws RX7 TX7 9, w ∈ wsX7_lastGoodVersion := by decide +kernel
  refine x_met (by decide) rfl (Nat.le_of_ble_eq_true rfl) ?_
  intro p e s m below meth c hx hb hr hml hts hown hlocks hK hW hS ls hl
  have hown : s.vm.findClass RX7 = some m.cls := hown
  have hl : lv_has ls 2 [(0, .ref (adr g.1 7 0)), (1, .int a1)] := hl
  rw [f_X7_lastGoodVersion] at hf
  refine lv_aload_n hx hb dX7_lastGoodVersion_0 rfl (lv_at hl 0 rfl) ?_
  refine x_get (i := g.1) (k := 7) (j := 0) (t := 3) hx hb hts i_7 hown hK hW ⟨⟨hfl, rfl⟩, by decide⟩ rfl ⟨by decide, by decide, rfl⟩ (hts (.fieldLink RX7 19 "OpticalJukebox" "state" "LOpticalJukebox$State;") (by decide +kernel)) (v := .ref (adr (k_st cs) 4 0)) rfl dX7_lastGoodVersion_1 ?_
  refine lv_iload_n hx hb dX7_lastGoodVersion_4 rfl (lv_at hl 1 rfl) ?_
  obtain ⟨q1, h_q1, hf⟩ := x_bindE hf
  refine x_ci0 (x_rV ⟨hx, hb, hml, hown, hts⟩ (ct_X4_hasFile l g (cs, mt) (k_st cs) hW.2.2.2.1 (k_xs cs (k_st cs)) (a1) h_q1) (cwV 1 hts gX7_lastGoodVersion_X4_hasFile rfl rfl rfl (by decide +kernel) ⟨Nat.le_of_ble_eq_true rfl, Nat.le_of_ble_eq_true rfl⟩) hK (w_self_sd hW) hS (x_recv (i := (k_st cs)) (k := 4) (j := 0) hK hW ⟨hW.2.2.2.1, by decide⟩ rfl (by decide)) rfl hl.1 (rest := []) rfl (Nat.le_of_ble_eq_true rfl) dX7_lastGoodVersion_5 ⟨Nat.le_of_ble_eq_true rfl, Nat.le_of_ble_eq_true rfl⟩) hS (fun H locs hW hS => ?_)
  have hW := w_unself_sd hW
  have hW : World g ((cs, mt)) H := hW
  refine W.eq (g2 := F0 m 8 ls [.int q1]) rfl ?_
  refine lv_if_eq (tgt := 25) hx hb dX7_lastGoodVersion_8 (by decide) (fun hc => ?_) (fun hc => ?_)
  · have hf := x_iteT hf hc
    refine lv_ldc (v := -1000001) hx hb hown (hts (.constant RX7 87 (-1000001)) (by decide +kernel)) dX7_lastGoodVersion_25 ?_
    cases hf
    exact x_iret hx hb hr hlocks hK hW hS rfl dX7_lastGoodVersion_27
  · have hf := x_iteF hf hc
    refine lv_aload_n hx hb dX7_lastGoodVersion_11 rfl (lv_at hl 0 rfl) ?_
    refine x_get (i := g.1) (k := 7) (j := 0) (t := 3) hx hb hts i_7 hown hK hW ⟨⟨hfl, rfl⟩, by decide⟩ rfl ⟨by decide, by decide, rfl⟩ (hts (.fieldLink RX7 19 "OpticalJukebox" "state" "LOpticalJukebox$State;") (by decide +kernel)) (v := .ref (adr (k_st cs) 4 0)) rfl dX7_lastGoodVersion_12 ?_
    refine lv_iload_n hx hb dX7_lastGoodVersion_15 rfl (lv_at hl 1 rfl) ?_
    obtain ⟨q2, h_q2, hf⟩ := x_bindE hf
    refine x_ci0 (x_rV ⟨hx, hb, hml, hown, hts⟩ (ct_X4_lastGood l g (cs, mt) (k_st cs) hW.2.2.2.1 (k_xs cs (k_st cs)) (a1) h_q2) (cwV 1 hts gX7_lastGoodVersion_X4_lastGood rfl rfl rfl (by decide +kernel) ⟨Nat.le_of_ble_eq_true rfl, Nat.le_of_ble_eq_true rfl⟩) hK (w_self_sd hW) hS (x_recv (i := (k_st cs)) (k := 4) (j := 0) hK hW ⟨hW.2.2.2.1, by decide⟩ rfl (by decide)) rfl hl.1 (rest := []) rfl (Nat.le_of_ble_eq_true rfl) dX7_lastGoodVersion_16 ⟨Nat.le_of_ble_eq_true rfl, Nat.le_of_ble_eq_true rfl⟩) hS (fun H locs hW hS => ?_)
    have hW := w_unself_sd hW
    have hW : World g ((cs, mt)) H := hW
    refine W.eq (g2 := F0 m 19 ls [.int q2]) rfl ?_
    obtain ⟨q3, h_q3, hf⟩ := x_bindE hf
    refine x_ci0 (x_rS ⟨hx, hb, hml, hown, hts⟩ (ct_X7_foundOrNot l g ((cs, mt)) (q2) h_q3) (va_cwS 1 hts gX7_lastGoodVersion_X7_foundOrNot rfl rfl rfl (by decide +kernel) ⟨Nat.le_of_ble_eq_true rfl, Nat.le_of_ble_eq_true rfl⟩) hK hW hS rfl hl.1 (rest := []) rfl (Nat.le_of_ble_eq_true rfl) dX7_lastGoodVersion_19 ⟨Nat.le_of_ble_eq_true rfl, Nat.le_of_ble_eq_true rfl⟩) hS (fun H locs hW hS => ?_)
    have hW : World g ((cs, mt)) H := hW
    refine W.eq (g2 := F0 m 22 ls [.int q3]) rfl ?_
    refine lv_goto (tgt := 27) hx hb dX7_lastGoodVersion_22 (by decide) ?_
    cases hf
    exact x_iret hx hb hr hlocks hK hW hS rfl dX7_lastGoodVersion_27
abbrev rm_X7_fileOfSector : Room := { frames := 2, cells := 0, slots := 0, locals := 45 }
set_option maxRecDepth 100000 in
set_option maxHeartbeats 4000000 in
theorem ct_X7_fileOfSector (l : Launch) (g : GT) (hfl : 1 ≤ gf g) (cs : CT) (mt : MT) (a1 : Int32) (a2 : Int32) {q : Int32} (hf : f_X7_fileOfSector (k_xs cs (k_st cs)) a1 a2 = some q) : Met l yX7_fileOfSector wsX7_fileOfSector rm_X7_fileOfSector (cPre g ((cs, mt)) [.ref (adr g.1 7 0), .int a1, .int a2]) (cQi g q ((cs, mt))) 0 0 (gA g) := by
  have i_4 : ∀ w ∈ u_ws RX4 TX4 18, w ∈ wsX7_fileOfSector := by decide +kernel
  have i_6 : ∀ w ∈ u_ws RX6 TX6 7, w ∈ wsX7_fileOfSector := by decide +kernel
  have i_7 : ∀ w ∈ u_ws RX7 TX7 9, w ∈ wsX7_fileOfSector := by decide +kernel
  refine x_met (by decide) rfl (Nat.le_of_ble_eq_true rfl) ?_
  intro p e s m below meth c hx hb hr hml hts hown hlocks hK hW hS ls hl
  have hown : s.vm.findClass RX7 = some m.cls := hown
  have hl : lv_has ls 4 [(0, .ref (adr g.1 7 0)), (1, .int a1), (2, .int a2)] := hl
  rw [f_X7_fileOfSector] at hf
  refine lv_aload_n hx hb dX7_fileOfSector_0 rfl (lv_at hl 0 rfl) ?_
  refine x_get (i := g.1) (k := 7) (j := 0) (t := 3) hx hb hts i_7 hown hK hW ⟨⟨hfl, rfl⟩, by decide⟩ rfl ⟨by decide, by decide, rfl⟩ (hts (.fieldLink RX7 19 "OpticalJukebox" "state" "LOpticalJukebox$State;") (by decide +kernel)) (v := .ref (adr (k_st cs) 4 0)) rfl dX7_fileOfSector_1 ?_
  refine lv_iload_n hx hb dX7_fileOfSector_4 rfl (lv_at hl 1 rfl) ?_
  refine lv_iload_n hx hb dX7_fileOfSector_5 rfl (lv_at hl 2 rfl) ?_
  obtain ⟨q1, h_q1, hf⟩ := x_bindE hf
  refine x_ci0 (x_rV ⟨hx, hb, hml, hown, hts⟩ (ct_X4_hasSector l g (cs, mt) (k_st cs) hW.2.2.2.1 (k_xs cs (k_st cs)) (a1) (a2) h_q1) (cwV 2 hts gX7_fileOfSector_X4_hasSector rfl rfl rfl (by decide +kernel) ⟨Nat.le_of_ble_eq_true rfl, Nat.le_of_ble_eq_true rfl⟩) hK (w_self_sd hW) hS (x_recv (i := (k_st cs)) (k := 4) (j := 0) hK hW ⟨hW.2.2.2.1, by decide⟩ rfl (by decide)) rfl hl.1 (rest := []) rfl (Nat.le_of_ble_eq_true rfl) dX7_fileOfSector_6 ⟨Nat.le_of_ble_eq_true rfl, Nat.le_of_ble_eq_true rfl⟩) hS (fun H locs hW hS => ?_)
  have hW := w_unself_sd hW
  have hW : World g ((cs, mt)) H := hW
  refine W.eq (g2 := F0 m 9 ls [.int q1]) rfl ?_
  refine lv_if_ne (tgt := 15) hx hb dX7_fileOfSector_9 (by decide) (fun hc => ?_) (fun hc => ?_)
  · have hf := x_iteF hf hc
    refine lv_aload_n hx hb dX7_fileOfSector_15 rfl (lv_at hl 0 rfl) ?_
    refine x_get (i := g.1) (k := 7) (j := 0) (t := 3) hx hb hts i_7 hown hK hW ⟨⟨hfl, rfl⟩, by decide⟩ rfl ⟨by decide, by decide, rfl⟩ (hts (.fieldLink RX7 19 "OpticalJukebox" "state" "LOpticalJukebox$State;") (by decide +kernel)) (v := .ref (adr (k_st cs) 4 0)) rfl dX7_fileOfSector_16 ?_
    refine lv_iload_n hx hb dX7_fileOfSector_19 rfl (lv_at hl 1 rfl) ?_
    refine lv_iload_n hx hb dX7_fileOfSector_20 rfl (lv_at hl 2 rfl) ?_
    obtain ⟨q2, h_q2, hf⟩ := x_bindE hf
    refine x_ci0 (x_rV ⟨hx, hb, hml, hown, hts⟩ (ct_X4_versionAt l g (cs, mt) (k_st cs) hW.2.2.2.1 (k_xs cs (k_st cs)) (a1) (a2) h_q2) (cwV 2 hts gX7_fileOfSector_X4_versionAt rfl rfl rfl (by decide +kernel) ⟨Nat.le_of_ble_eq_true rfl, Nat.le_of_ble_eq_true rfl⟩) hK (w_self_sd hW) hS (x_recv (i := (k_st cs)) (k := 4) (j := 0) hK hW ⟨hW.2.2.2.1, by decide⟩ rfl (by decide)) rfl hl.1 (rest := []) rfl (Nat.le_of_ble_eq_true rfl) dX7_fileOfSector_21 ⟨Nat.le_of_ble_eq_true rfl, Nat.le_of_ble_eq_true rfl⟩) hS (fun H locs hW hS => ?_)
    have hW := w_unself_sd hW
    have hW : World g ((cs, mt)) H := hW
    refine W.eq (g2 := F0 m 24 ls [.int q2]) rfl ?_
    refine lv_istore_n (lv' := [(3, .int q2), (0, .ref (adr g.1 7 0)), (1, .int a1), (2, .int a2)]) hx hb dX7_fileOfSector_24 rfl hl (by decide) rfl (fun ls hl => ?_)
    refine lv_iload_n hx hb dX7_fileOfSector_25 rfl (lv_at hl 0 rfl) ?_
    refine lv_iconst (v := -1) hx hb dX7_fileOfSector_26 (by decide) ?_
    refine lv_icmp_ne (tgt := 35) hx hb dX7_fileOfSector_27 (by decide) (fun hc => ?_) (fun hc => ?_)
    · have hf := x_iteF hf hc
      refine lv_aload_n hx hb dX7_fileOfSector_35 rfl (lv_at hl 1 rfl) ?_
      refine x_get (i := g.1) (k := 7) (j := 0) (t := 3) hx hb hts i_7 hown hK hW ⟨⟨hfl, rfl⟩, by decide⟩ rfl ⟨by decide, by decide, rfl⟩ (hts (.fieldLink RX7 19 "OpticalJukebox" "state" "LOpticalJukebox$State;") (by decide +kernel)) (v := .ref (adr (k_st cs) 4 0)) rfl dX7_fileOfSector_36 ?_
      refine x_get (i := (k_st cs)) (k := 4) (j := 0) (t := 8) hx hb hts i_4 hown hK hW ⟨hW.2.2.2.1, by decide⟩ rfl ⟨by decide, by decide, rfl⟩ (hts (.fieldLink RX7 246 "OpticalJukebox$State" "versions" "[LOpticalJukebox$Version;") (by decide +kernel)) (v := .ref (adr (k_st cs) 13 0)) rfl dX7_fileOfSector_39 ?_
      refine lv_iload_n hx hb dX7_fileOfSector_42 rfl (lv_at hl 0 rfl) ?_
      obtain ⟨hg3, hf⟩ := x_guardE hf
      refine x_aald (i := (k_st cs)) (k := 13) (j := 0) hx hb hK hW ⟨hW.2.2.2.1, by decide⟩ (by decide) rfl rfl hg3 dX7_fileOfSector_43 ?_
      refine W.eq (g2 := F0 m 44 ls [.ref (adr (k_st cs) 6 (q2).toNatClampNeg)]) rfl ?_
      refine x_get (i := (k_st cs)) (k := 6) (j := (q2).toNatClampNeg) (t := 0) hx hb hts i_6 hown hK hW ⟨hW.2.2.2.1, (x_lt hg3)⟩ rfl ⟨by decide, by decide, rfl⟩ (hts (.fieldLink RX7 250 "OpticalJukebox$Version" "file" "I") (by decide +kernel)) (rfl) dX7_fileOfSector_44 ?_
      cases hf
      exact x_iret hx hb hr hlocks hK hW hS rfl dX7_fileOfSector_47
    · have hf := x_iteT hf hc
      refine lv_ldc (v := -1000005) hx hb hown (hts (.constant RX7 73 (-1000005)) (by decide +kernel)) dX7_fileOfSector_30 ?_
      refine lv_goto (tgt := 47) hx hb dX7_fileOfSector_32 (by decide) ?_
      cases hf
      exact x_iret hx hb hr hlocks hK hW hS rfl dX7_fileOfSector_47
  · have hf := x_iteT hf hc
    refine lv_ldc (v := -1000001) hx hb hown (hts (.constant RX7 87 (-1000001)) (by decide +kernel)) dX7_fileOfSector_12 ?_
    cases hf
    exact x_iret hx hb hr hlocks hK hW hS rfl dX7_fileOfSector_14
