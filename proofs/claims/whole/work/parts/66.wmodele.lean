set_option maxRecDepth 20000 in
theorem ggX8_goesOn_X8_good : GoodIn wsX8_goesOn wsX8_good := goodIn_r _ [5, 6, 27, 28, 29, 30, 31, 32, 33, 34, 35, 36, 37, 38, 39, 40, 41, 42, 43, 44, 45, 46, 47, 48, 49, 50, 51, 52, 53] (by decide +kernel) (by decide +kernel)
set_option maxRecDepth 20000 in
theorem gX8_goesOn_X8_good : GoodIn wsX8_goesOn (wsV RX8 333 RX8 yX8_good wsX8_good) := goodIn_app (goodIn_of _ (by decide +kernel)) ggX8_goesOn_X8_good
set_option maxRecDepth 20000 in
theorem ggX8_goesOn_X8_next : GoodIn wsX8_goesOn wsX8_next := goodIn_r _ [10, 11, 12, 13, 14, 15, 16, 17, 18, 19, 20, 21, 22, 4, 23, 24, 25, 26, 27, 28, 29, 30, 31, 32, 33, 34, 35, 36, 37, 38, 39, 40, 41, 42, 43, 44, 45, 46, 47, 48, 49, 50, 51, 52, 53] (by decide +kernel) (by decide +kernel)
set_option maxRecDepth 20000 in
theorem gX8_goesOn_X8_next : GoodIn wsX8_goesOn (wsV RX8 336 RX8 yX8_next wsX8_next) := goodIn_app (goodIn_of _ (by decide +kernel)) ggX8_goesOn_X8_next
theorem dX8_goesOn_0 : decode cX8_goesOn 0 = .ok (.aload_n 0, 1) := by decide +kernel
theorem dX8_goesOn_1 : decode cX8_goesOn 1 = .ok (.invokevirtual 333, 3) := by decide +kernel
theorem dX8_goesOn_4 : decode cX8_goesOn 4 = .ok (.ifCond .eq 7, 3) := by decide +kernel
theorem dX8_goesOn_7 : decode cX8_goesOn 7 = .ok (.aload_n 0, 1) := by decide +kernel
theorem dX8_goesOn_8 : decode cX8_goesOn 8 = .ok (.invokevirtual 336, 3) := by decide +kernel
theorem dX8_goesOn_11 : decode cX8_goesOn 11 = .ok (.return_, 1) := by decide +kernel
set_option maxRecDepth 20000 in
theorem ggX8_isWord_X8_good : GoodIn wsX8_isWord wsX8_good := goodIn_r _ [7, 8, 9, 10, 11, 12, 13, 14, 15, 16, 17, 18, 19, 20, 21, 22, 23, 24, 25, 26, 27, 28, 29, 30, 31, 32, 33, 34, 35] (by decide +kernel) (by decide +kernel)
set_option maxRecDepth 20000 in
theorem gX8_isWord_X8_good : GoodIn wsX8_isWord (wsV RX8 333 RX8 yX8_good wsX8_good) := goodIn_app (goodIn_of _ (by decide +kernel)) ggX8_isWord_X8_good
theorem dX8_isWord_0 : decode cX8_isWord 0 = .ok (.aload_n 0, 1) := by decide +kernel
theorem dX8_isWord_1 : decode cX8_isWord 1 = .ok (.invokevirtual 333, 3) := by decide +kernel
theorem dX8_isWord_4 : decode cX8_isWord 4 = .ok (.ifCond .eq 24, 3) := by decide +kernel
theorem dX8_isWord_7 : decode cX8_isWord 7 = .ok (.aload_n 0, 1) := by decide +kernel
theorem dX8_isWord_8 : decode cX8_isWord 8 = .ok (.getfield 313, 3) := by decide +kernel
theorem dX8_isWord_11 : decode cX8_isWord 11 = .ok (.iconst 1, 1) := by decide +kernel
theorem dX8_isWord_12 : decode cX8_isWord 12 = .ok (.if_icmp .ne 16, 3) := by decide +kernel
theorem dX8_isWord_15 : decode cX8_isWord 15 = .ok (.aload_n 0, 1) := by decide +kernel
theorem dX8_isWord_16 : decode cX8_isWord 16 = .ok (.getfield 316, 3) := by decide +kernel
theorem dX8_isWord_19 : decode cX8_isWord 19 = .ok (.lload_n 1, 1) := by decide +kernel
theorem dX8_isWord_20 : decode cX8_isWord 20 = .ok (.lcmp, 1) := by decide +kernel
theorem dX8_isWord_21 : decode cX8_isWord 21 = .ok (.ifCond .ne 7, 3) := by decide +kernel
theorem dX8_isWord_24 : decode cX8_isWord 24 = .ok (.iconst 1, 1) := by decide +kernel
theorem dX8_isWord_25 : decode cX8_isWord 25 = .ok (.goto 4, 3) := by decide +kernel
theorem dX8_isWord_28 : decode cX8_isWord 28 = .ok (.iconst 0, 1) := by decide +kernel
theorem dX8_isWord_29 : decode cX8_isWord 29 = .ok (.ireturn, 1) := by decide +kernel
set_option maxRecDepth 20000 in
theorem ggX8_isReserved_X8_isWord : GoodIn wsX8_isReserved wsX8_isWord := goodIn_r _ [12, 13, 14, 15, 16, 17, 11, 18, 19, 20, 21, 22, 23, 24, 25, 26, 27, 28, 29, 30, 31, 32, 33, 34, 35, 36, 37, 38, 39, 40, 41, 42, 43, 44, 45, 46] (by decide +kernel) (by decide +kernel)
set_option maxRecDepth 20000 in
theorem gX8_isReserved_X8_isWord : GoodIn wsX8_isReserved (wsV RX8 341 RX8 yX8_isWord wsX8_isWord) := goodIn_app (goodIn_of _ (by decide +kernel)) ggX8_isReserved_X8_isWord
theorem dX8_isReserved_0 : decode cX8_isReserved 0 = .ok (.aload_n 0, 1) := by decide +kernel
theorem dX8_isReserved_1 : decode cX8_isReserved 1 = .ok (.ldc2_w 339, 3) := by decide +kernel
theorem dX8_isReserved_4 : decode cX8_isReserved 4 = .ok (.invokevirtual 341, 3) := by decide +kernel
theorem dX8_isReserved_7 : decode cX8_isReserved 7 = .ok (.ifCond .ne 63, 3) := by decide +kernel
theorem dX8_isReserved_10 : decode cX8_isReserved 10 = .ok (.aload_n 0, 1) := by decide +kernel
theorem dX8_isReserved_11 : decode cX8_isReserved 11 = .ok (.ldc2_w 345, 3) := by decide +kernel
theorem dX8_isReserved_14 : decode cX8_isReserved 14 = .ok (.invokevirtual 341, 3) := by decide +kernel
theorem dX8_isReserved_17 : decode cX8_isReserved 17 = .ok (.ifCond .ne 53, 3) := by decide +kernel
theorem dX8_isReserved_20 : decode cX8_isReserved 20 = .ok (.aload_n 0, 1) := by decide +kernel
theorem dX8_isReserved_21 : decode cX8_isReserved 21 = .ok (.ldc2_w 347, 3) := by decide +kernel
theorem dX8_isReserved_24 : decode cX8_isReserved 24 = .ok (.invokevirtual 341, 3) := by decide +kernel
theorem dX8_isReserved_27 : decode cX8_isReserved 27 = .ok (.ifCond .ne 43, 3) := by decide +kernel
theorem dX8_isReserved_30 : decode cX8_isReserved 30 = .ok (.aload_n 0, 1) := by decide +kernel
theorem dX8_isReserved_31 : decode cX8_isReserved 31 = .ok (.ldc2_w 349, 3) := by decide +kernel
theorem dX8_isReserved_34 : decode cX8_isReserved 34 = .ok (.invokevirtual 341, 3) := by decide +kernel
theorem dX8_isReserved_37 : decode cX8_isReserved 37 = .ok (.ifCond .ne 33, 3) := by decide +kernel
theorem dX8_isReserved_40 : decode cX8_isReserved 40 = .ok (.aload_n 0, 1) := by decide +kernel
theorem dX8_isReserved_41 : decode cX8_isReserved 41 = .ok (.ldc2_w 351, 3) := by decide +kernel
theorem dX8_isReserved_44 : decode cX8_isReserved 44 = .ok (.invokevirtual 341, 3) := by decide +kernel
theorem dX8_isReserved_47 : decode cX8_isReserved 47 = .ok (.ifCond .ne 23, 3) := by decide +kernel
theorem dX8_isReserved_50 : decode cX8_isReserved 50 = .ok (.aload_n 0, 1) := by decide +kernel
theorem dX8_isReserved_51 : decode cX8_isReserved 51 = .ok (.ldc2_w 353, 3) := by decide +kernel
theorem dX8_isReserved_54 : decode cX8_isReserved 54 = .ok (.invokevirtual 341, 3) := by decide +kernel
theorem dX8_isReserved_57 : decode cX8_isReserved 57 = .ok (.ifCond .ne 13, 3) := by decide +kernel
theorem dX8_isReserved_60 : decode cX8_isReserved 60 = .ok (.aload_n 0, 1) := by decide +kernel
theorem dX8_isReserved_61 : decode cX8_isReserved 61 = .ok (.ldc2_w 355, 3) := by decide +kernel
theorem dX8_isReserved_64 : decode cX8_isReserved 64 = .ok (.invokevirtual 341, 3) := by decide +kernel
theorem dX8_isReserved_67 : decode cX8_isReserved 67 = .ok (.ifCond .eq 7, 3) := by decide +kernel
theorem dX8_isReserved_70 : decode cX8_isReserved 70 = .ok (.iconst 1, 1) := by decide +kernel
theorem dX8_isReserved_71 : decode cX8_isReserved 71 = .ok (.goto 4, 3) := by decide +kernel
theorem dX8_isReserved_74 : decode cX8_isReserved 74 = .ok (.iconst 0, 1) := by decide +kernel
theorem dX8_isReserved_75 : decode cX8_isReserved 75 = .ok (.ireturn, 1) := by decide +kernel
set_option maxRecDepth 20000 in
theorem ggX8_sees_X8_must : GoodIn wsX8_sees wsX8_must := goodIn_r _ [7, 8, 1, 9, 10, 18, 19, 20, 21, 22, 23, 24, 25, 26, 27, 28, 29, 30, 31, 32, 33, 34, 35, 36, 37, 38, 39, 40, 41, 42, 43, 44] (by decide +kernel) (by decide +kernel)
set_option maxRecDepth 20000 in
theorem gX8_sees_X8_must : GoodIn wsX8_sees (wsV RX8 357 RX8 yX8_must wsX8_must) := goodIn_app (goodIn_of _ (by decide +kernel)) ggX8_sees_X8_must
set_option maxRecDepth 20000 in
theorem ggX8_sees_X8_isIn : GoodIn wsX8_sees wsX8_isIn := goodIn_r _ [13] (by decide +kernel) (by decide +kernel)
set_option maxRecDepth 20000 in
theorem gX8_sees_X8_isIn : GoodIn wsX8_sees (va_wsS RX8 57 yX8_isIn wsX8_isIn) := goodIn_app (goodIn_of _ (by decide +kernel)) ggX8_sees_X8_isIn
set_option maxRecDepth 20000 in
theorem ggX8_sees_X8_good : GoodIn wsX8_sees wsX8_good := goodIn_r _ [17, 8, 18, 19, 20, 21, 22, 23, 24, 25, 26, 27, 28, 29, 30, 31, 32, 33, 34, 35, 36, 37, 38, 39, 40, 41, 42, 43, 44] (by decide +kernel) (by decide +kernel)
set_option maxRecDepth 20000 in
theorem gX8_sees_X8_good : GoodIn wsX8_sees (wsV RX8 333 RX8 yX8_good wsX8_good) := goodIn_app (goodIn_of _ (by decide +kernel)) ggX8_sees_X8_good
theorem dX8_sees_0 : decode cX8_sees 0 = .ok (.aload_n 0, 1) := by decide +kernel
theorem dX8_sees_1 : decode cX8_sees 1 = .ok (.aload_n 0, 1) := by decide +kernel
theorem dX8_sees_2 : decode cX8_sees 2 = .ok (.getfield 313, 3) := by decide +kernel
theorem dX8_sees_5 : decode cX8_sees 5 = .ok (.iconst 2, 1) := by decide +kernel
theorem dX8_sees_6 : decode cX8_sees 6 = .ok (.if_icmp .ne 7, 3) := by decide +kernel
theorem dX8_sees_9 : decode cX8_sees 9 = .ok (.iconst 1, 1) := by decide +kernel
theorem dX8_sees_10 : decode cX8_sees 10 = .ok (.goto 4, 3) := by decide +kernel
theorem dX8_sees_13 : decode cX8_sees 13 = .ok (.iconst 0, 1) := by decide +kernel
theorem dX8_sees_14 : decode cX8_sees 14 = .ok (.iconst 2, 1) := by decide +kernel
theorem dX8_sees_15 : decode cX8_sees 15 = .ok (.invokevirtual 357, 3) := by decide +kernel
theorem dX8_sees_18 : decode cX8_sees 18 = .ok (.aload_n 0, 1) := by decide +kernel
theorem dX8_sees_19 : decode cX8_sees 19 = .ok (.aload_n 0, 1) := by decide +kernel
theorem dX8_sees_20 : decode cX8_sees 20 = .ok (.getfield 324, 3) := by decide +kernel
theorem dX8_sees_23 : decode cX8_sees 23 = .ok (.i2l, 1) := by decide +kernel
theorem dX8_sees_24 : decode cX8_sees 24 = .ok (.iload_n 1, 1) := by decide +kernel
theorem dX8_sees_25 : decode cX8_sees 25 = .ok (.i2l, 1) := by decide +kernel
theorem dX8_sees_26 : decode cX8_sees 26 = .ok (.iload_n 2, 1) := by decide +kernel
theorem dX8_sees_27 : decode cX8_sees 27 = .ok (.i2l, 1) := by decide +kernel
theorem dX8_sees_28 : decode cX8_sees 28 = .ok (.invokestatic 57, 3) := by decide +kernel
theorem dX8_sees_31 : decode cX8_sees 31 = .ok (.iconst 3, 1) := by decide +kernel
theorem dX8_sees_32 : decode cX8_sees 32 = .ok (.invokevirtual 357, 3) := by decide +kernel
theorem dX8_sees_35 : decode cX8_sees 35 = .ok (.aload_n 0, 1) := by decide +kernel
theorem dX8_sees_36 : decode cX8_sees 36 = .ok (.invokevirtual 333, 3) := by decide +kernel
theorem dX8_sees_39 : decode cX8_sees 39 = .ok (.ifCond .eq 10, 3) := by decide +kernel
theorem dX8_sees_42 : decode cX8_sees 42 = .ok (.aload_n 0, 1) := by decide +kernel
theorem dX8_sees_43 : decode cX8_sees 43 = .ok (.getfield 324, 3) := by decide +kernel
theorem dX8_sees_46 : decode cX8_sees 46 = .ok (.goto 4, 3) := by decide +kernel
theorem dX8_sees_49 : decode cX8_sees 49 = .ok (.iconst 0, 1) := by decide +kernel
theorem dX8_sees_50 : decode cX8_sees 50 = .ok (.ireturn, 1) := by decide +kernel
set_option maxRecDepth 20000 in
theorem ggX8_takes_X8_sees : GoodIn wsX8_takes wsX8_sees := goodIn_r _ [5, 6, 7, 8, 9, 10, 4, 11, 12, 13, 14, 15, 16, 17, 18, 19, 20, 21, 40, 41, 42, 43, 44, 45, 46, 47, 48, 49, 50, 51, 52, 53, 54, 55, 56, 57, 58, 59, 60, 61, 62, 63, 64, 65, 66] (by decide +kernel) (by decide +kernel)
set_option maxRecDepth 20000 in
theorem gX8_takes_X8_sees : GoodIn wsX8_takes (wsV RX8 361 RX8 yX8_sees wsX8_sees) := goodIn_app (goodIn_of _ (by decide +kernel)) ggX8_takes_X8_sees
set_option maxRecDepth 20000 in
theorem ggX8_takes_X8_goesOn : GoodIn wsX8_takes wsX8_goesOn := goodIn_r _ [25, 18, 19, 20, 4, 21, 12, 26, 27, 28, 29, 30, 13, 31, 32, 6, 33, 34, 35, 7, 36, 37, 38, 39, 15, 16, 17, 40, 41, 42, 43, 44, 45, 46, 47, 48, 49, 50, 51, 52, 53, 54, 55, 56, 57, 58, 59, 60, 61, 62, 63, 64, 65, 66] (by decide +kernel) (by decide +kernel)
set_option maxRecDepth 20000 in
theorem gX8_takes_X8_goesOn : GoodIn wsX8_takes (wsV RX8 364 RX8 yX8_goesOn wsX8_goesOn) := goodIn_app (goodIn_of _ (by decide +kernel)) ggX8_takes_X8_goesOn
theorem dX8_takes_0 : decode cX8_takes 0 = .ok (.aload_n 0, 1) := by decide +kernel
theorem dX8_takes_1 : decode cX8_takes 1 = .ok (.iload_n 1, 1) := by decide +kernel
theorem dX8_takes_2 : decode cX8_takes 2 = .ok (.iload_n 2, 1) := by decide +kernel
theorem dX8_takes_3 : decode cX8_takes 3 = .ok (.invokevirtual 361, 3) := by decide +kernel
theorem dX8_takes_6 : decode cX8_takes 6 = .ok (.istore_n 3, 1) := by decide +kernel
theorem dX8_takes_7 : decode cX8_takes 7 = .ok (.aload_n 0, 1) := by decide +kernel
theorem dX8_takes_8 : decode cX8_takes 8 = .ok (.invokevirtual 364, 3) := by decide +kernel
theorem dX8_takes_11 : decode cX8_takes 11 = .ok (.iload_n 3, 1) := by decide +kernel
theorem dX8_takes_12 : decode cX8_takes 12 = .ok (.ireturn, 1) := by decide +kernel
set_option maxRecDepth 20000 in
theorem ggX8_slotsLine_X8_must : GoodIn wsX8_slotsLine wsX8_must := goodIn_r _ [7, 8, 9, 10, 11, 46, 47, 48, 49, 50, 51, 52, 53, 54, 55, 56, 57, 58, 59, 60, 61, 62, 63, 64, 65, 66, 67, 68, 69, 70, 71, 72] (by decide +kernel) (by decide +kernel)
set_option maxRecDepth 20000 in
theorem gX8_slotsLine_X8_must : GoodIn wsX8_slotsLine (wsV RX8 357 RX8 yX8_must wsX8_must) := goodIn_app (goodIn_of _ (by decide +kernel)) ggX8_slotsLine_X8_must
set_option maxRecDepth 20000 in
theorem ggX8_slotsLine_X8_goesOn : GoodIn wsX8_slotsLine wsX8_goesOn := goodIn_r _ [15, 16, 17, 18, 6, 19, 8, 20, 21, 22, 23, 24, 10, 25, 26, 9, 27, 28, 29, 30, 31, 32, 33, 34, 35, 36, 37, 46, 47, 48, 49, 50, 51, 52, 53, 54, 55, 56, 57, 58, 59, 60, 61, 62, 63, 64, 65, 66, 67, 68, 69, 70, 71, 72] (by decide +kernel) (by decide +kernel)
set_option maxRecDepth 20000 in
theorem gX8_slotsLine_X8_goesOn : GoodIn wsX8_slotsLine (wsV RX8 364 RX8 yX8_goesOn wsX8_goesOn) := goodIn_app (goodIn_of _ (by decide +kernel)) ggX8_slotsLine_X8_goesOn
set_option maxRecDepth 20000 in
theorem ggX8_slotsLine_X8_takes : GoodIn wsX8_slotsLine wsX8_takes := goodIn_r _ [41, 42, 43, 44, 6, 45, 9, 30, 3, 4, 5, 7, 8, 10, 11, 35, 36, 37, 16, 17, 18, 19, 12, 13, 14, 15, 20, 21, 22, 23, 24, 25, 26, 27, 28, 29, 31, 32, 33, 34, 46, 47, 48, 49, 50, 51, 52, 53, 54, 55, 56, 57, 58, 59, 60, 61, 62, 63, 64, 65, 66, 67, 68, 69, 70, 71, 72] (by decide +kernel) (by decide +kernel)
set_option maxRecDepth 20000 in
theorem gX8_slotsLine_X8_takes : GoodIn wsX8_slotsLine (wsV RX8 370 RX8 yX8_takes wsX8_takes) := goodIn_app (goodIn_of _ (by decide +kernel)) ggX8_slotsLine_X8_takes
theorem dX8_slotsLine_0 : decode cX8_slotsLine 0 = .ok (.aload_n 0, 1) := by decide +kernel
theorem dX8_slotsLine_1 : decode cX8_slotsLine 1 = .ok (.aload_n 0, 1) := by decide +kernel
theorem dX8_slotsLine_2 : decode cX8_slotsLine 2 = .ok (.getfield 367, 3) := by decide +kernel
theorem dX8_slotsLine_5 : decode cX8_slotsLine 5 = .ok (.ifCond .ne 7, 3) := by decide +kernel
theorem dX8_slotsLine_8 : decode cX8_slotsLine 8 = .ok (.iconst 1, 1) := by decide +kernel
theorem dX8_slotsLine_9 : decode cX8_slotsLine 9 = .ok (.goto 4, 3) := by decide +kernel
theorem dX8_slotsLine_12 : decode cX8_slotsLine 12 = .ok (.iconst 0, 1) := by decide +kernel
theorem dX8_slotsLine_13 : decode cX8_slotsLine 13 = .ok (.iconst 5, 1) := by decide +kernel
theorem dX8_slotsLine_14 : decode cX8_slotsLine 14 = .ok (.invokevirtual 357, 3) := by decide +kernel
theorem dX8_slotsLine_17 : decode cX8_slotsLine 17 = .ok (.aload_n 0, 1) := by decide +kernel
theorem dX8_slotsLine_18 : decode cX8_slotsLine 18 = .ok (.invokevirtual 364, 3) := by decide +kernel
theorem dX8_slotsLine_21 : decode cX8_slotsLine 21 = .ok (.aload_n 0, 1) := by decide +kernel
theorem dX8_slotsLine_22 : decode cX8_slotsLine 22 = .ok (.getfield 13, 3) := by decide +kernel
theorem dX8_slotsLine_25 : decode cX8_slotsLine 25 = .ok (.iconst 0, 1) := by decide +kernel
theorem dX8_slotsLine_26 : decode cX8_slotsLine 26 = .ok (.aload_n 0, 1) := by decide +kernel
theorem dX8_slotsLine_27 : decode cX8_slotsLine 27 = .ok (.iconst 4, 1) := by decide +kernel
theorem dX8_slotsLine_28 : decode cX8_slotsLine 28 = .ok (.bipush 24, 2) := by decide +kernel
theorem dX8_slotsLine_30 : decode cX8_slotsLine 30 = .ok (.invokevirtual 370, 3) := by decide +kernel
theorem dX8_slotsLine_33 : decode cX8_slotsLine 33 = .ok (.iastore, 1) := by decide +kernel
theorem dX8_slotsLine_34 : decode cX8_slotsLine 34 = .ok (.return_, 1) := by decide +kernel
set_option maxRecDepth 20000 in
theorem ggX8_driveLine_X8_must : GoodIn wsX8_driveLine wsX8_must := goodIn_r _ [6, 7, 8, 9, 10, 45, 46, 47, 48, 49, 50, 51, 52, 53, 54, 55, 56, 57, 58, 59, 60, 61, 62, 63, 64, 65, 66, 67, 68, 69, 70, 71] (by decide +kernel) (by decide +kernel)
set_option maxRecDepth 20000 in
theorem gX8_driveLine_X8_must : GoodIn wsX8_driveLine (wsV RX8 357 RX8 yX8_must wsX8_must) := goodIn_app (goodIn_of _ (by decide +kernel)) ggX8_driveLine_X8_must
set_option maxRecDepth 20000 in
theorem ggX8_driveLine_X8_goesOn : GoodIn wsX8_driveLine wsX8_goesOn := goodIn_r _ [14, 15, 16, 17, 5, 18, 7, 19, 20, 21, 22, 23, 9, 24, 25, 8, 26, 27, 28, 29, 30, 31, 32, 33, 34, 35, 36, 45, 46, 47, 48, 49, 50, 51, 52, 53, 54, 55, 56, 57, 58, 59, 60, 61, 62, 63, 64, 65, 66, 67, 68, 69, 70, 71] (by decide +kernel) (by decide +kernel)
set_option maxRecDepth 20000 in
theorem gX8_driveLine_X8_goesOn : GoodIn wsX8_driveLine (wsV RX8 364 RX8 yX8_goesOn wsX8_goesOn) := goodIn_app (goodIn_of _ (by decide +kernel)) ggX8_driveLine_X8_goesOn
set_option maxRecDepth 20000 in
theorem ggX8_driveLine_X8_takes : GoodIn wsX8_driveLine wsX8_takes := goodIn_r _ [40, 41, 42, 43, 5, 44, 8, 29, 2, 3, 4, 6, 7, 9, 10, 34, 35, 36, 15, 16, 17, 18, 11, 12, 13, 14, 19, 20, 21, 22, 23, 24, 25, 26, 27, 28, 30, 31, 32, 33, 45, 46, 47, 48, 49, 50, 51, 52, 53, 54, 55, 56, 57, 58, 59, 60, 61, 62, 63, 64, 65, 66, 67, 68, 69, 70, 71] (by decide +kernel) (by decide +kernel)
set_option maxRecDepth 20000 in
theorem gX8_driveLine_X8_takes : GoodIn wsX8_driveLine (wsV RX8 370 RX8 yX8_takes wsX8_takes) := goodIn_app (goodIn_of _ (by decide +kernel)) ggX8_driveLine_X8_takes
set_option maxRecDepth 20000 in
theorem ggX8_driveLine_X8_good : GoodIn wsX8_driveLine wsX8_good := goodIn_r _ [18, 7, 45, 46, 47, 48, 49, 50, 51, 52, 53, 54, 55, 56, 57, 58, 59, 60, 61, 62, 63, 64, 65, 66, 67, 68, 69, 70, 71] (by decide +kernel) (by decide +kernel)
set_option maxRecDepth 20000 in
theorem gX8_driveLine_X8_good : GoodIn wsX8_driveLine (wsV RX8 333 RX8 yX8_good wsX8_good) := goodIn_app (goodIn_of _ (by decide +kernel)) ggX8_driveLine_X8_good
theorem dX8_driveLine_0 : decode cX8_driveLine 0 = .ok (.aload_n 0, 1) := by decide +kernel
theorem dX8_driveLine_1 : decode cX8_driveLine 1 = .ok (.aload_n 0, 1) := by decide +kernel
theorem dX8_driveLine_2 : decode cX8_driveLine 2 = .ok (.getfield 13, 3) := by decide +kernel
theorem dX8_driveLine_5 : decode cX8_driveLine 5 = .ok (.bipush 6, 2) := by decide +kernel
theorem dX8_driveLine_7 : decode cX8_driveLine 7 = .ok (.iaload, 1) := by decide +kernel
theorem dX8_driveLine_8 : decode cX8_driveLine 8 = .ok (.iconst 4, 1) := by decide +kernel
theorem dX8_driveLine_9 : decode cX8_driveLine 9 = .ok (.if_icmp .ge 7, 3) := by decide +kernel
theorem dX8_driveLine_12 : decode cX8_driveLine 12 = .ok (.iconst 1, 1) := by decide +kernel
theorem dX8_driveLine_13 : decode cX8_driveLine 13 = .ok (.goto 4, 3) := by decide +kernel
theorem dX8_driveLine_16 : decode cX8_driveLine 16 = .ok (.iconst 0, 1) := by decide +kernel
theorem dX8_driveLine_17 : decode cX8_driveLine 17 = .ok (.iconst 5, 1) := by decide +kernel
theorem dX8_driveLine_18 : decode cX8_driveLine 18 = .ok (.invokevirtual 357, 3) := by decide +kernel
theorem dX8_driveLine_21 : decode cX8_driveLine 21 = .ok (.aload_n 0, 1) := by decide +kernel
theorem dX8_driveLine_22 : decode cX8_driveLine 22 = .ok (.invokevirtual 364, 3) := by decide +kernel
theorem dX8_driveLine_25 : decode cX8_driveLine 25 = .ok (.aload_n 0, 1) := by decide +kernel
theorem dX8_driveLine_26 : decode cX8_driveLine 26 = .ok (.iconst 0, 1) := by decide +kernel
theorem dX8_driveLine_27 : decode cX8_driveLine 27 = .ok (.aload_n 0, 1) := by decide +kernel
theorem dX8_driveLine_28 : decode cX8_driveLine 28 = .ok (.getfield 13, 3) := by decide +kernel
theorem dX8_driveLine_31 : decode cX8_driveLine 31 = .ok (.iconst 0, 1) := by decide +kernel
theorem dX8_driveLine_32 : decode cX8_driveLine 32 = .ok (.iaload, 1) := by decide +kernel
theorem dX8_driveLine_33 : decode cX8_driveLine 33 = .ok (.iconst 1, 1) := by decide +kernel
theorem dX8_driveLine_34 : decode cX8_driveLine 34 = .ok (.isub, 1) := by decide +kernel
theorem dX8_driveLine_35 : decode cX8_driveLine 35 = .ok (.invokevirtual 370, 3) := by decide +kernel
theorem dX8_driveLine_38 : decode cX8_driveLine 38 = .ok (.istore_n 1, 1) := by decide +kernel
theorem dX8_driveLine_39 : decode cX8_driveLine 39 = .ok (.aload_n 0, 1) := by decide +kernel
theorem dX8_driveLine_40 : decode cX8_driveLine 40 = .ok (.invokevirtual 333, 3) := by decide +kernel
theorem dX8_driveLine_43 : decode cX8_driveLine 43 = .ok (.ifCond .ne 4, 3) := by decide +kernel
theorem dX8_driveLine_46 : decode cX8_driveLine 46 = .ok (.return_, 1) := by decide +kernel
theorem dX8_driveLine_47 : decode cX8_driveLine 47 = .ok (.aload_n 0, 1) := by decide +kernel
theorem dX8_driveLine_48 : decode cX8_driveLine 48 = .ok (.getfield 13, 3) := by decide +kernel
theorem dX8_driveLine_51 : decode cX8_driveLine 51 = .ok (.bipush 17, 2) := by decide +kernel
theorem dX8_driveLine_53 : decode cX8_driveLine 53 = .ok (.aload_n 0, 1) := by decide +kernel
theorem dX8_driveLine_54 : decode cX8_driveLine 54 = .ok (.getfield 13, 3) := by decide +kernel
theorem dX8_driveLine_57 : decode cX8_driveLine 57 = .ok (.bipush 6, 2) := by decide +kernel
theorem dX8_driveLine_59 : decode cX8_driveLine 59 = .ok (.iaload, 1) := by decide +kernel
theorem dX8_driveLine_60 : decode cX8_driveLine 60 = .ok (.iadd, 1) := by decide +kernel
theorem dX8_driveLine_61 : decode cX8_driveLine 61 = .ok (.iload_n 1, 1) := by decide +kernel
theorem dX8_driveLine_62 : decode cX8_driveLine 62 = .ok (.iastore, 1) := by decide +kernel
theorem dX8_driveLine_63 : decode cX8_driveLine 63 = .ok (.aload_n 0, 1) := by decide +kernel
theorem dX8_driveLine_64 : decode cX8_driveLine 64 = .ok (.getfield 13, 3) := by decide +kernel
theorem dX8_driveLine_67 : decode cX8_driveLine 67 = .ok (.bipush 6, 2) := by decide +kernel
theorem dX8_driveLine_69 : decode cX8_driveLine 69 = .ok (.dup2, 1) := by decide +kernel
theorem dX8_driveLine_70 : decode cX8_driveLine 70 = .ok (.iaload, 1) := by decide +kernel
theorem dX8_driveLine_71 : decode cX8_driveLine 71 = .ok (.iconst 1, 1) := by decide +kernel
theorem dX8_driveLine_72 : decode cX8_driveLine 72 = .ok (.iadd, 1) := by decide +kernel
theorem dX8_driveLine_73 : decode cX8_driveLine 73 = .ok (.iastore, 1) := by decide +kernel
theorem dX8_driveLine_74 : decode cX8_driveLine 74 = .ok (.return_, 1) := by decide +kernel
set_option maxRecDepth 20000 in
theorem ggX8_timeLine_X8_goesOn : GoodIn wsX8_timeLine wsX8_goesOn := goodIn_r _ [6, 7, 8, 9, 5, 10, 11, 12, 13, 14, 15, 16, 17, 18, 19, 20, 21, 22, 23, 24, 25, 26, 27, 28, 29, 30, 31, 45, 46, 47, 48, 49, 50, 51, 52, 53, 54, 55, 56, 57, 58, 59, 60, 61, 62, 63, 64, 65, 66, 67, 68, 69, 70, 71] (by decide +kernel) (by decide +kernel)
set_option maxRecDepth 20000 in
theorem gX8_timeLine_X8_goesOn : GoodIn wsX8_timeLine (wsV RX8 364 RX8 yX8_goesOn wsX8_goesOn) := goodIn_app (goodIn_of _ (by decide +kernel)) ggX8_timeLine_X8_goesOn
set_option maxRecDepth 20000 in
theorem ggX8_timeLine_X8_takes : GoodIn wsX8_timeLine wsX8_takes := goodIn_r _ [35, 36, 37, 38, 5, 39, 20, 24, 40, 41, 42, 43, 11, 17, 44, 29, 30, 31, 7, 8, 9, 10, 2, 3, 4, 6, 12, 13, 14, 15, 16, 18, 19, 21, 22, 23, 25, 26, 27, 28, 45, 46, 47, 48, 49, 50, 51, 52, 53, 54, 55, 56, 57, 58, 59, 60, 61, 62, 63, 64, 65, 66, 67, 68, 69, 70, 71] (by decide +kernel) (by decide +kernel)
set_option maxRecDepth 20000 in
theorem gX8_timeLine_X8_takes : GoodIn wsX8_timeLine (wsV RX8 370 RX8 yX8_takes wsX8_takes) := goodIn_app (goodIn_of _ (by decide +kernel)) ggX8_timeLine_X8_takes
theorem dX8_timeLine_0 : decode cX8_timeLine 0 = .ok (.aload_n 0, 1) := by decide +kernel
theorem dX8_timeLine_1 : decode cX8_timeLine 1 = .ok (.invokevirtual 364, 3) := by decide +kernel
theorem dX8_timeLine_4 : decode cX8_timeLine 4 = .ok (.iconst 0, 1) := by decide +kernel
theorem dX8_timeLine_5 : decode cX8_timeLine 5 = .ok (.istore_n 1, 1) := by decide +kernel
theorem dX8_timeLine_6 : decode cX8_timeLine 6 = .ok (.iload_n 1, 1) := by decide +kernel
theorem dX8_timeLine_7 : decode cX8_timeLine 7 = .ok (.iconst 5, 1) := by decide +kernel
theorem dX8_timeLine_8 : decode cX8_timeLine 8 = .ok (.if_icmp .ge 24, 3) := by decide +kernel
theorem dX8_timeLine_11 : decode cX8_timeLine 11 = .ok (.aload_n 0, 1) := by decide +kernel
theorem dX8_timeLine_12 : decode cX8_timeLine 12 = .ok (.getfield 13, 3) := by decide +kernel
theorem dX8_timeLine_15 : decode cX8_timeLine 15 = .ok (.iconst 1, 1) := by decide +kernel
theorem dX8_timeLine_16 : decode cX8_timeLine 16 = .ok (.iload_n 1, 1) := by decide +kernel
theorem dX8_timeLine_17 : decode cX8_timeLine 17 = .ok (.iadd, 1) := by decide +kernel
theorem dX8_timeLine_18 : decode cX8_timeLine 18 = .ok (.aload_n 0, 1) := by decide +kernel
theorem dX8_timeLine_19 : decode cX8_timeLine 19 = .ok (.iconst 0, 1) := by decide +kernel
theorem dX8_timeLine_20 : decode cX8_timeLine 20 = .ok (.bipush 99, 2) := by decide +kernel
theorem dX8_timeLine_22 : decode cX8_timeLine 22 = .ok (.invokevirtual 370, 3) := by decide +kernel
theorem dX8_timeLine_25 : decode cX8_timeLine 25 = .ok (.iastore, 1) := by decide +kernel
theorem dX8_timeLine_26 : decode cX8_timeLine 26 = .ok (.iinc 1 1, 3) := by decide +kernel
theorem dX8_timeLine_29 : decode cX8_timeLine 29 = .ok (.goto (-23), 3) := by decide +kernel
theorem dX8_timeLine_32 : decode cX8_timeLine 32 = .ok (.return_, 1) := by decide +kernel
set_option maxRecDepth 20000 in
theorem ggX8_platterLine_X8_must : GoodIn wsX8_platterLine wsX8_must := goodIn_r _ [6, 7, 8, 9, 10, 48, 49, 50, 51, 52, 53, 54, 55, 56, 57, 58, 59, 60, 61, 62, 63, 64, 65, 66, 67, 68, 69, 70, 71, 72, 73, 74] (by decide +kernel) (by decide +kernel)
set_option maxRecDepth 20000 in
theorem gX8_platterLine_X8_must : GoodIn wsX8_platterLine (wsV RX8 357 RX8 yX8_must wsX8_must) := goodIn_app (goodIn_of _ (by decide +kernel)) ggX8_platterLine_X8_must
set_option maxRecDepth 20000 in
theorem ggX8_platterLine_X8_goesOn : GoodIn wsX8_platterLine wsX8_goesOn := goodIn_r _ [14, 15, 16, 17, 5, 18, 7, 19, 20, 21, 22, 23, 9, 24, 25, 8, 26, 27, 28, 29, 30, 31, 32, 33, 34, 35, 36, 48, 49, 50, 51, 52, 53, 54, 55, 56, 57, 58, 59, 60, 61, 62, 63, 64, 65, 66, 67, 68, 69, 70, 71, 72, 73, 74] (by decide +kernel) (by decide +kernel)
set_option maxRecDepth 20000 in
theorem gX8_platterLine_X8_goesOn : GoodIn wsX8_platterLine (wsV RX8 364 RX8 yX8_goesOn wsX8_goesOn) := goodIn_app (goodIn_of _ (by decide +kernel)) ggX8_platterLine_X8_goesOn
set_option maxRecDepth 20000 in
theorem ggX8_platterLine_X8_sees : GoodIn wsX8_platterLine wsX8_sees := goodIn_r _ [40, 8, 29, 2, 3, 4, 5, 6, 7, 9, 10, 34, 35, 36, 15, 16, 17, 18, 48, 49, 50, 51, 52, 53, 54, 55, 56, 57, 58, 59, 60, 61, 62, 63, 64, 65, 66, 67, 68, 69, 70, 71, 72, 73, 74] (by decide +kernel) (by decide +kernel)
set_option maxRecDepth 20000 in
theorem gX8_platterLine_X8_sees : GoodIn wsX8_platterLine (wsV RX8 361 RX8 yX8_sees wsX8_sees) := goodIn_app (goodIn_of _ (by decide +kernel)) ggX8_platterLine_X8_sees
set_option maxRecDepth 20000 in
theorem ggX8_platterLine_X8_homeAt : GoodIn wsX8_platterLine wsX8_homeAt := goodIn_r _ [43] (by decide +kernel) (by decide +kernel)
set_option maxRecDepth 20000 in
theorem gX8_platterLine_X8_homeAt : GoodIn wsX8_platterLine (va_wsS RX8 265 yX8_homeAt wsX8_homeAt) := goodIn_app (goodIn_of _ (by decide +kernel)) ggX8_platterLine_X8_homeAt
set_option maxRecDepth 20000 in
theorem ggX8_platterLine_X8_takes : GoodIn wsX8_platterLine wsX8_takes := goodIn_r _ [47, 37, 38, 39, 5, 40, 8, 29, 2, 3, 4, 6, 7, 9, 10, 34, 35, 36, 15, 16, 17, 18, 11, 12, 13, 14, 19, 20, 21, 22, 23, 24, 25, 26, 27, 28, 30, 31, 32, 33, 48, 49, 50, 51, 52, 53, 54, 55, 56, 57, 58, 59, 60, 61, 62, 63, 64, 65, 66, 67, 68, 69, 70, 71, 72, 73, 74] (by decide +kernel) (by decide +kernel)
set_option maxRecDepth 20000 in
theorem gX8_platterLine_X8_takes : GoodIn wsX8_platterLine (wsV RX8 370 RX8 yX8_takes wsX8_takes) := goodIn_app (goodIn_of _ (by decide +kernel)) ggX8_platterLine_X8_takes
set_option maxRecDepth 20000 in
theorem ggX8_platterLine_X8_good : GoodIn wsX8_platterLine wsX8_good := goodIn_r _ [18, 7, 48, 49, 50, 51, 52, 53, 54, 55, 56, 57, 58, 59, 60, 61, 62, 63, 64, 65, 66, 67, 68, 69, 70, 71, 72, 73, 74] (by decide +kernel) (by decide +kernel)
set_option maxRecDepth 20000 in
theorem gX8_platterLine_X8_good : GoodIn wsX8_platterLine (wsV RX8 333 RX8 yX8_good wsX8_good) := goodIn_app (goodIn_of _ (by decide +kernel)) ggX8_platterLine_X8_good
theorem dX8_platterLine_0 : decode cX8_platterLine 0 = .ok (.aload_n 0, 1) := by decide +kernel
theorem dX8_platterLine_1 : decode cX8_platterLine 1 = .ok (.aload_n 0, 1) := by decide +kernel
theorem dX8_platterLine_2 : decode cX8_platterLine 2 = .ok (.getfield 13, 3) := by decide +kernel
theorem dX8_platterLine_5 : decode cX8_platterLine 5 = .ok (.bipush 7, 2) := by decide +kernel
theorem dX8_platterLine_7 : decode cX8_platterLine 7 = .ok (.iaload, 1) := by decide +kernel
theorem dX8_platterLine_8 : decode cX8_platterLine 8 = .ok (.bipush 10, 2) := by decide +kernel
theorem dX8_platterLine_10 : decode cX8_platterLine 10 = .ok (.if_icmp .ge 7, 3) := by decide +kernel
theorem dX8_platterLine_13 : decode cX8_platterLine 13 = .ok (.iconst 1, 1) := by decide +kernel
theorem dX8_platterLine_14 : decode cX8_platterLine 14 = .ok (.goto 4, 3) := by decide +kernel
theorem dX8_platterLine_17 : decode cX8_platterLine 17 = .ok (.iconst 0, 1) := by decide +kernel
theorem dX8_platterLine_18 : decode cX8_platterLine 18 = .ok (.iconst 5, 1) := by decide +kernel
theorem dX8_platterLine_19 : decode cX8_platterLine 19 = .ok (.invokevirtual 357, 3) := by decide +kernel
theorem dX8_platterLine_22 : decode cX8_platterLine 22 = .ok (.aload_n 0, 1) := by decide +kernel
theorem dX8_platterLine_23 : decode cX8_platterLine 23 = .ok (.invokevirtual 364, 3) := by decide +kernel
theorem dX8_platterLine_26 : decode cX8_platterLine 26 = .ok (.aload_n 0, 1) := by decide +kernel
theorem dX8_platterLine_27 : decode cX8_platterLine 27 = .ok (.iconst 0, 1) := by decide +kernel
theorem dX8_platterLine_28 : decode cX8_platterLine 28 = .ok (.aload_n 0, 1) := by decide +kernel
theorem dX8_platterLine_29 : decode cX8_platterLine 29 = .ok (.getfield 13, 3) := by decide +kernel
theorem dX8_platterLine_32 : decode cX8_platterLine 32 = .ok (.iconst 0, 1) := by decide +kernel
theorem dX8_platterLine_33 : decode cX8_platterLine 33 = .ok (.iaload, 1) := by decide +kernel
theorem dX8_platterLine_34 : decode cX8_platterLine 34 = .ok (.iconst 1, 1) := by decide +kernel
theorem dX8_platterLine_35 : decode cX8_platterLine 35 = .ok (.isub, 1) := by decide +kernel
theorem dX8_platterLine_36 : decode cX8_platterLine 36 = .ok (.invokevirtual 361, 3) := by decide +kernel
theorem dX8_platterLine_39 : decode cX8_platterLine 39 = .ok (.istore_n 1, 1) := by decide +kernel
theorem dX8_platterLine_40 : decode cX8_platterLine 40 = .ok (.aload_n 0, 1) := by decide +kernel
theorem dX8_platterLine_41 : decode cX8_platterLine 41 = .ok (.aload_n 0, 1) := by decide +kernel
theorem dX8_platterLine_42 : decode cX8_platterLine 42 = .ok (.getfield 13, 3) := by decide +kernel
theorem dX8_platterLine_45 : decode cX8_platterLine 45 = .ok (.iload_n 1, 1) := by decide +kernel
theorem dX8_platterLine_46 : decode cX8_platterLine 46 = .ok (.invokestatic 265, 3) := by decide +kernel
theorem dX8_platterLine_49 : decode cX8_platterLine 49 = .ok (.iconst (-1), 1) := by decide +kernel
theorem dX8_platterLine_50 : decode cX8_platterLine 50 = .ok (.if_icmp .ne 7, 3) := by decide +kernel
theorem dX8_platterLine_53 : decode cX8_platterLine 53 = .ok (.iconst 1, 1) := by decide +kernel
theorem dX8_platterLine_54 : decode cX8_platterLine 54 = .ok (.goto 4, 3) := by decide +kernel
theorem dX8_platterLine_57 : decode cX8_platterLine 57 = .ok (.iconst 0, 1) := by decide +kernel
theorem dX8_platterLine_58 : decode cX8_platterLine 58 = .ok (.iconst 4, 1) := by decide +kernel
theorem dX8_platterLine_59 : decode cX8_platterLine 59 = .ok (.invokevirtual 357, 3) := by decide +kernel
theorem dX8_platterLine_62 : decode cX8_platterLine 62 = .ok (.aload_n 0, 1) := by decide +kernel
theorem dX8_platterLine_63 : decode cX8_platterLine 63 = .ok (.invokevirtual 364, 3) := by decide +kernel
theorem dX8_platterLine_66 : decode cX8_platterLine 66 = .ok (.aload_n 0, 1) := by decide +kernel
theorem dX8_platterLine_67 : decode cX8_platterLine 67 = .ok (.bipush 10, 2) := by decide +kernel
theorem dX8_platterLine_69 : decode cX8_platterLine 69 = .ok (.sipush 300, 3) := by decide +kernel
theorem dX8_platterLine_72 : decode cX8_platterLine 72 = .ok (.invokevirtual 370, 3) := by decide +kernel
theorem dX8_platterLine_75 : decode cX8_platterLine 75 = .ok (.istore_n 2, 1) := by decide +kernel
theorem dX8_platterLine_76 : decode cX8_platterLine 76 = .ok (.aload_n 0, 1) := by decide +kernel
theorem dX8_platterLine_77 : decode cX8_platterLine 77 = .ok (.iconst 0, 1) := by decide +kernel
theorem dX8_platterLine_78 : decode cX8_platterLine 78 = .ok (.bipush 9, 2) := by decide +kernel
theorem dX8_platterLine_80 : decode cX8_platterLine 80 = .ok (.invokevirtual 370, 3) := by decide +kernel
theorem dX8_platterLine_83 : decode cX8_platterLine 83 = .ok (.istore_n 3, 1) := by decide +kernel
theorem dX8_platterLine_84 : decode cX8_platterLine 84 = .ok (.aload_n 0, 1) := by decide +kernel
theorem dX8_platterLine_85 : decode cX8_platterLine 85 = .ok (.invokevirtual 333, 3) := by decide +kernel
theorem dX8_platterLine_88 : decode cX8_platterLine 88 = .ok (.ifCond .ne 4, 3) := by decide +kernel
theorem dX8_platterLine_91 : decode cX8_platterLine 91 = .ok (.return_, 1) := by decide +kernel
theorem dX8_platterLine_92 : decode cX8_platterLine 92 = .ok (.aload_n 0, 1) := by decide +kernel
theorem dX8_platterLine_93 : decode cX8_platterLine 93 = .ok (.getfield 13, 3) := by decide +kernel
theorem dX8_platterLine_96 : decode cX8_platterLine 96 = .ok (.bipush 7, 2) := by decide +kernel
theorem dX8_platterLine_98 : decode cX8_platterLine 98 = .ok (.iaload, 1) := by decide +kernel
theorem dX8_platterLine_99 : decode cX8_platterLine 99 = .ok (.istore 4, 2) := by decide +kernel
theorem dX8_platterLine_101 : decode cX8_platterLine 101 = .ok (.aload_n 0, 1) := by decide +kernel
theorem dX8_platterLine_102 : decode cX8_platterLine 102 = .ok (.getfield 13, 3) := by decide +kernel
theorem dX8_platterLine_105 : decode cX8_platterLine 105 = .ok (.bipush 7, 2) := by decide +kernel
theorem dX8_platterLine_107 : decode cX8_platterLine 107 = .ok (.dup2, 1) := by decide +kernel
theorem dX8_platterLine_108 : decode cX8_platterLine 108 = .ok (.iaload, 1) := by decide +kernel
theorem dX8_platterLine_109 : decode cX8_platterLine 109 = .ok (.iconst 1, 1) := by decide +kernel
theorem dX8_platterLine_110 : decode cX8_platterLine 110 = .ok (.iadd, 1) := by decide +kernel
theorem dX8_platterLine_111 : decode cX8_platterLine 111 = .ok (.iastore, 1) := by decide +kernel
theorem dX8_platterLine_112 : decode cX8_platterLine 112 = .ok (.aload_n 0, 1) := by decide +kernel
theorem dX8_platterLine_113 : decode cX8_platterLine 113 = .ok (.getfield 13, 3) := by decide +kernel
theorem dX8_platterLine_116 : decode cX8_platterLine 116 = .ok (.bipush 29, 2) := by decide +kernel
theorem dX8_platterLine_118 : decode cX8_platterLine 118 = .ok (.iload 4, 2) := by decide +kernel
theorem dX8_platterLine_120 : decode cX8_platterLine 120 = .ok (.iadd, 1) := by decide +kernel
theorem dX8_platterLine_121 : decode cX8_platterLine 121 = .ok (.iload_n 1, 1) := by decide +kernel
theorem dX8_platterLine_122 : decode cX8_platterLine 122 = .ok (.iastore, 1) := by decide +kernel
theorem dX8_platterLine_123 : decode cX8_platterLine 123 = .ok (.aload_n 0, 1) := by decide +kernel
theorem dX8_platterLine_124 : decode cX8_platterLine 124 = .ok (.getfield 13, 3) := by decide +kernel
theorem dX8_platterLine_127 : decode cX8_platterLine 127 = .ok (.bipush 39, 2) := by decide +kernel
theorem dX8_platterLine_129 : decode cX8_platterLine 129 = .ok (.iload 4, 2) := by decide +kernel
theorem dX8_platterLine_131 : decode cX8_platterLine 131 = .ok (.iadd, 1) := by decide +kernel
theorem dX8_platterLine_132 : decode cX8_platterLine 132 = .ok (.iload_n 2, 1) := by decide +kernel
theorem dX8_platterLine_133 : decode cX8_platterLine 133 = .ok (.iastore, 1) := by decide +kernel
theorem dX8_platterLine_134 : decode cX8_platterLine 134 = .ok (.aload_n 0, 1) := by decide +kernel
theorem dX8_platterLine_135 : decode cX8_platterLine 135 = .ok (.getfield 13, 3) := by decide +kernel
theorem dX8_platterLine_138 : decode cX8_platterLine 138 = .ok (.bipush 49, 2) := by decide +kernel
theorem dX8_platterLine_140 : decode cX8_platterLine 140 = .ok (.iload 4, 2) := by decide +kernel
theorem dX8_platterLine_142 : decode cX8_platterLine 142 = .ok (.iadd, 1) := by decide +kernel
theorem dX8_platterLine_143 : decode cX8_platterLine 143 = .ok (.iload_n 3, 1) := by decide +kernel
theorem dX8_platterLine_144 : decode cX8_platterLine 144 = .ok (.iastore, 1) := by decide +kernel
theorem dX8_platterLine_145 : decode cX8_platterLine 145 = .ok (.return_, 1) := by decide +kernel
set_option maxRecDepth 20000 in
theorem ggX8_badLine_X8_must : GoodIn wsX8_badLine wsX8_must := goodIn_r _ [6, 7, 8, 9, 10, 54, 55, 56, 57, 58, 59, 60, 61, 62, 63, 64, 65, 66, 67, 68, 69, 70, 71, 72, 73, 74, 75, 76, 77, 78, 79, 80] (by decide +kernel) (by decide +kernel)
set_option maxRecDepth 20000 in
theorem gX8_badLine_X8_must : GoodIn wsX8_badLine (wsV RX8 357 RX8 yX8_must wsX8_must) := goodIn_app (goodIn_of _ (by decide +kernel)) ggX8_badLine_X8_must
set_option maxRecDepth 20000 in
theorem ggX8_badLine_X8_goesOn : GoodIn wsX8_badLine wsX8_goesOn := goodIn_r _ [14, 15, 16, 17, 5, 18, 7, 19, 20, 21, 22, 23, 9, 24, 25, 8, 26, 27, 28, 29, 30, 31, 32, 33, 34, 35, 36, 54, 55, 56, 57, 58, 59, 60, 61, 62, 63, 64, 65, 66, 67, 68, 69, 70, 71, 72, 73, 74, 75, 76, 77, 78, 79, 80] (by decide +kernel) (by decide +kernel)
set_option maxRecDepth 20000 in
theorem gX8_badLine_X8_goesOn : GoodIn wsX8_badLine (wsV RX8 364 RX8 yX8_goesOn wsX8_goesOn) := goodIn_app (goodIn_of _ (by decide +kernel)) ggX8_badLine_X8_goesOn
set_option maxRecDepth 20000 in
theorem ggX8_badLine_X8_takes : GoodIn wsX8_badLine wsX8_takes := goodIn_r _ [40, 41, 42, 43, 5, 44, 8, 29, 2, 3, 4, 6, 7, 9, 10, 34, 35, 36, 15, 16, 17, 18, 11, 12, 13, 14, 19, 20, 21, 22, 23, 24, 25, 26, 27, 28, 30, 31, 32, 33, 54, 55, 56, 57, 58, 59, 60, 61, 62, 63, 64, 65, 66, 67, 68, 69, 70, 71, 72, 73, 74, 75, 76, 77, 78, 79, 80] (by decide +kernel) (by decide +kernel)
set_option maxRecDepth 20000 in
theorem gX8_badLine_X8_takes : GoodIn wsX8_badLine (wsV RX8 370 RX8 yX8_takes wsX8_takes) := goodIn_app (goodIn_of _ (by decide +kernel)) ggX8_badLine_X8_takes
set_option maxRecDepth 20000 in
theorem ggX8_badLine_X8_good : GoodIn wsX8_badLine wsX8_good := goodIn_r _ [18, 7, 54, 55, 56, 57, 58, 59, 60, 61, 62, 63, 64, 65, 66, 67, 68, 69, 70, 71, 72, 73, 74, 75, 76, 77, 78, 79, 80] (by decide +kernel) (by decide +kernel)
set_option maxRecDepth 20000 in
theorem gX8_badLine_X8_good : GoodIn wsX8_badLine (wsV RX8 333 RX8 yX8_good wsX8_good) := goodIn_app (goodIn_of _ (by decide +kernel)) ggX8_badLine_X8_good
set_option maxRecDepth 20000 in
theorem ggX8_badLine_X8_sees : GoodIn wsX8_badLine wsX8_sees := goodIn_r _ [44, 8, 29, 2, 3, 4, 5, 6, 7, 9, 10, 34, 35, 36, 15, 16, 17, 18, 54, 55, 56, 57, 58, 59, 60, 61, 62, 63, 64, 65, 66, 67, 68, 69, 70, 71, 72, 73, 74, 75, 76, 77, 78, 79, 80] (by decide +kernel) (by decide +kernel)
set_option maxRecDepth 20000 in
theorem gX8_badLine_X8_sees : GoodIn wsX8_badLine (wsV RX8 361 RX8 yX8_sees wsX8_sees) := goodIn_app (goodIn_of _ (by decide +kernel)) ggX8_badLine_X8_sees
set_option maxRecDepth 20000 in
theorem ggX8_badLine_X8_isBad : GoodIn wsX8_badLine wsX8_isBad := goodIn_r _ [47] (by decide +kernel) (by decide +kernel)
set_option maxRecDepth 20000 in
theorem gX8_badLine_X8_isBad : GoodIn wsX8_badLine (va_wsS RX8 212 yX8_isBad wsX8_isBad) := goodIn_app (goodIn_of _ (by decide +kernel)) ggX8_badLine_X8_isBad
set_option maxRecDepth 20000 in
theorem ggX8_badLine_X8_marks : GoodIn wsX8_badLine wsX8_marks := goodIn_r _ [50, 51, 52, 5, 53, 34, 35, 36] (by decide +kernel) (by decide +kernel)
set_option maxRecDepth 20000 in
theorem gX8_badLine_X8_marks : GoodIn wsX8_badLine (va_wsS RX8 261 yX8_marks wsX8_marks) := goodIn_app (goodIn_of _ (by decide +kernel)) ggX8_badLine_X8_marks
theorem dX8_badLine_0 : decode cX8_badLine 0 = .ok (.aload_n 0, 1) := by decide +kernel
theorem dX8_badLine_1 : decode cX8_badLine 1 = .ok (.aload_n 0, 1) := by decide +kernel
theorem dX8_badLine_2 : decode cX8_badLine 2 = .ok (.getfield 13, 3) := by decide +kernel
theorem dX8_badLine_5 : decode cX8_badLine 5 = .ok (.bipush 8, 2) := by decide +kernel
theorem dX8_badLine_7 : decode cX8_badLine 7 = .ok (.iaload, 1) := by decide +kernel
theorem dX8_badLine_8 : decode cX8_badLine 8 = .ok (.bipush 20, 2) := by decide +kernel
theorem dX8_badLine_10 : decode cX8_badLine 10 = .ok (.if_icmp .ge 7, 3) := by decide +kernel
theorem dX8_badLine_13 : decode cX8_badLine 13 = .ok (.iconst 1, 1) := by decide +kernel
theorem dX8_badLine_14 : decode cX8_badLine 14 = .ok (.goto 4, 3) := by decide +kernel
theorem dX8_badLine_17 : decode cX8_badLine 17 = .ok (.iconst 0, 1) := by decide +kernel
theorem dX8_badLine_18 : decode cX8_badLine 18 = .ok (.iconst 5, 1) := by decide +kernel
theorem dX8_badLine_19 : decode cX8_badLine 19 = .ok (.invokevirtual 357, 3) := by decide +kernel
theorem dX8_badLine_22 : decode cX8_badLine 22 = .ok (.aload_n 0, 1) := by decide +kernel
theorem dX8_badLine_23 : decode cX8_badLine 23 = .ok (.invokevirtual 364, 3) := by decide +kernel
theorem dX8_badLine_26 : decode cX8_badLine 26 = .ok (.aload_n 0, 1) := by decide +kernel
theorem dX8_badLine_27 : decode cX8_badLine 27 = .ok (.iconst 0, 1) := by decide +kernel
theorem dX8_badLine_28 : decode cX8_badLine 28 = .ok (.aload_n 0, 1) := by decide +kernel
theorem dX8_badLine_29 : decode cX8_badLine 29 = .ok (.getfield 13, 3) := by decide +kernel
theorem dX8_badLine_32 : decode cX8_badLine 32 = .ok (.bipush 7, 2) := by decide +kernel
theorem dX8_badLine_34 : decode cX8_badLine 34 = .ok (.iaload, 1) := by decide +kernel
theorem dX8_badLine_35 : decode cX8_badLine 35 = .ok (.iconst 1, 1) := by decide +kernel
theorem dX8_badLine_36 : decode cX8_badLine 36 = .ok (.isub, 1) := by decide +kernel
theorem dX8_badLine_37 : decode cX8_badLine 37 = .ok (.invokevirtual 370, 3) := by decide +kernel
theorem dX8_badLine_40 : decode cX8_badLine 40 = .ok (.istore_n 1, 1) := by decide +kernel
theorem dX8_badLine_41 : decode cX8_badLine 41 = .ok (.aload_n 0, 1) := by decide +kernel
theorem dX8_badLine_42 : decode cX8_badLine 42 = .ok (.iconst 0, 1) := by decide +kernel
theorem dX8_badLine_43 : decode cX8_badLine 43 = .ok (.aload_n 0, 1) := by decide +kernel
theorem dX8_badLine_44 : decode cX8_badLine 44 = .ok (.invokevirtual 333, 3) := by decide +kernel
theorem dX8_badLine_47 : decode cX8_badLine 47 = .ok (.ifCond .eq 17, 3) := by decide +kernel
theorem dX8_badLine_50 : decode cX8_badLine 50 = .ok (.aload_n 0, 1) := by decide +kernel
theorem dX8_badLine_51 : decode cX8_badLine 51 = .ok (.getfield 13, 3) := by decide +kernel
theorem dX8_badLine_54 : decode cX8_badLine 54 = .ok (.bipush 39, 2) := by decide +kernel
theorem dX8_badLine_56 : decode cX8_badLine 56 = .ok (.iload_n 1, 1) := by decide +kernel
theorem dX8_badLine_57 : decode cX8_badLine 57 = .ok (.iadd, 1) := by decide +kernel
theorem dX8_badLine_58 : decode cX8_badLine 58 = .ok (.iaload, 1) := by decide +kernel
theorem dX8_badLine_59 : decode cX8_badLine 59 = .ok (.iconst 1, 1) := by decide +kernel
theorem dX8_badLine_60 : decode cX8_badLine 60 = .ok (.isub, 1) := by decide +kernel
theorem dX8_badLine_61 : decode cX8_badLine 61 = .ok (.goto 4, 3) := by decide +kernel
theorem dX8_badLine_64 : decode cX8_badLine 64 = .ok (.iconst 0, 1) := by decide +kernel
theorem dX8_badLine_65 : decode cX8_badLine 65 = .ok (.invokevirtual 361, 3) := by decide +kernel
theorem dX8_badLine_68 : decode cX8_badLine 68 = .ok (.istore_n 2, 1) := by decide +kernel
theorem dX8_badLine_69 : decode cX8_badLine 69 = .ok (.aload_n 0, 1) := by decide +kernel
theorem dX8_badLine_70 : decode cX8_badLine 70 = .ok (.aload_n 0, 1) := by decide +kernel
theorem dX8_badLine_71 : decode cX8_badLine 71 = .ok (.invokevirtual 333, 3) := by decide +kernel
theorem dX8_badLine_74 : decode cX8_badLine 74 = .ok (.ifCond .eq 19, 3) := by decide +kernel
theorem dX8_badLine_77 : decode cX8_badLine 77 = .ok (.aload_n 0, 1) := by decide +kernel
theorem dX8_badLine_78 : decode cX8_badLine 78 = .ok (.getfield 13, 3) := by decide +kernel
theorem dX8_badLine_81 : decode cX8_badLine 81 = .ok (.iload_n 1, 1) := by decide +kernel
theorem dX8_badLine_82 : decode cX8_badLine 82 = .ok (.iload_n 2, 1) := by decide +kernel
theorem dX8_badLine_83 : decode cX8_badLine 83 = .ok (.invokestatic 212, 3) := by decide +kernel
theorem dX8_badLine_86 : decode cX8_badLine 86 = .ok (.ifCond .ne 7, 3) := by decide +kernel
theorem dX8_badLine_89 : decode cX8_badLine 89 = .ok (.iconst 1, 1) := by decide +kernel
theorem dX8_badLine_90 : decode cX8_badLine 90 = .ok (.goto 4, 3) := by decide +kernel
theorem dX8_badLine_93 : decode cX8_badLine 93 = .ok (.iconst 0, 1) := by decide +kernel
theorem dX8_badLine_94 : decode cX8_badLine 94 = .ok (.iconst 4, 1) := by decide +kernel
theorem dX8_badLine_95 : decode cX8_badLine 95 = .ok (.invokevirtual 357, 3) := by decide +kernel
theorem dX8_badLine_98 : decode cX8_badLine 98 = .ok (.aload_n 0, 1) := by decide +kernel
theorem dX8_badLine_99 : decode cX8_badLine 99 = .ok (.invokevirtual 333, 3) := by decide +kernel
theorem dX8_badLine_102 : decode cX8_badLine 102 = .ok (.ifCond .eq 12, 3) := by decide +kernel
theorem dX8_badLine_105 : decode cX8_badLine 105 = .ok (.aload_n 0, 1) := by decide +kernel
theorem dX8_badLine_106 : decode cX8_badLine 106 = .ok (.getfield 13, 3) := by decide +kernel
theorem dX8_badLine_109 : decode cX8_badLine 109 = .ok (.iload_n 1, 1) := by decide +kernel
theorem dX8_badLine_110 : decode cX8_badLine 110 = .ok (.iload_n 2, 1) := by decide +kernel
theorem dX8_badLine_111 : decode cX8_badLine 111 = .ok (.invokestatic 261, 3) := by decide +kernel
theorem dX8_badLine_114 : decode cX8_badLine 114 = .ok (.aload_n 0, 1) := by decide +kernel
theorem dX8_badLine_115 : decode cX8_badLine 115 = .ok (.invokevirtual 364, 3) := by decide +kernel
theorem dX8_badLine_118 : decode cX8_badLine 118 = .ok (.return_, 1) := by decide +kernel
set_option maxRecDepth 20000 in
theorem ggX8_fileLine_X8_must : GoodIn wsX8_fileLine wsX8_must := goodIn_r _ [9, 10, 2, 11, 12, 70, 71, 72, 73, 74, 75, 76, 77, 78, 79, 80, 81, 82, 83, 84, 85, 86, 87, 88, 89, 90, 91, 92, 93, 94, 95, 96] (by decide +kernel) (by decide +kernel)
set_option maxRecDepth 20000 in
theorem gX8_fileLine_X8_must : GoodIn wsX8_fileLine (wsV RX8 357 RX8 yX8_must wsX8_must) := goodIn_app (goodIn_of _ (by decide +kernel)) ggX8_fileLine_X8_must
set_option maxRecDepth 20000 in
theorem ggX8_fileLine_X8_goesOn : GoodIn wsX8_fileLine wsX8_goesOn := goodIn_r _ [16, 17, 18, 19, 8, 20, 10, 21, 22, 23, 24, 25, 11, 26, 27, 2, 4, 28, 29, 30, 31, 32, 33, 34, 35, 36, 37, 70, 71, 72, 73, 74, 75, 76, 77, 78, 79, 80, 81, 82, 83, 84, 85, 86, 87, 88, 89, 90, 91, 92, 93, 94, 95, 96] (by decide +kernel) (by decide +kernel)
set_option maxRecDepth 20000 in
theorem gX8_fileLine_X8_goesOn : GoodIn wsX8_fileLine (wsV RX8 364 RX8 yX8_goesOn wsX8_goesOn) := goodIn_app (goodIn_of _ (by decide +kernel)) ggX8_fileLine_X8_goesOn
set_option maxRecDepth 20000 in
theorem ggX8_fileLine_X8_isReserved : GoodIn wsX8_fileLine wsX8_isReserved := goodIn_r _ [41, 42, 43, 44, 45, 46, 47, 48, 49, 50, 51, 8, 52, 2, 4, 17, 18, 19, 20, 10, 70, 71, 72, 73, 74, 75, 76, 77, 78, 79, 80, 81, 82, 83, 84, 85, 86, 87, 88, 89, 90, 91, 92, 93, 94, 95, 96] (by decide +kernel) (by decide +kernel)
set_option maxRecDepth 20000 in
theorem gX8_fileLine_X8_isReserved : GoodIn wsX8_fileLine (wsV RX8 373 RX8 yX8_isReserved wsX8_isReserved) := goodIn_app (goodIn_of _ (by decide +kernel)) ggX8_fileLine_X8_isReserved
set_option maxRecDepth 20000 in
theorem ggX8_fileLine_X8_good : GoodIn wsX8_fileLine wsX8_good := goodIn_r _ [20, 10, 70, 71, 72, 73, 74, 75, 76, 77, 78, 79, 80, 81, 82, 83, 84, 85, 86, 87, 88, 89, 90, 91, 92, 93, 94, 95, 96] (by decide +kernel) (by decide +kernel)
set_option maxRecDepth 20000 in
theorem gX8_fileLine_X8_good : GoodIn wsX8_fileLine (wsV RX8 333 RX8 yX8_good wsX8_good) := goodIn_app (goodIn_of _ (by decide +kernel)) ggX8_fileLine_X8_good
set_option maxRecDepth 20000 in
theorem ggX8_fileLine_X8_takes : GoodIn wsX8_fileLine wsX8_takes := goodIn_r _ [56, 57, 58, 59, 8, 60, 2, 30, 5, 6, 7, 9, 10, 11, 12, 35, 36, 37, 17, 18, 19, 20, 13, 14, 15, 16, 21, 22, 23, 24, 25, 26, 27, 4, 28, 29, 31, 32, 33, 34, 70, 71, 72, 73, 74, 75, 76, 77, 78, 79, 80, 81, 82, 83, 84, 85, 86, 87, 88, 89, 90, 91, 92, 93, 94, 95, 96] (by decide +kernel) (by decide +kernel)
set_option maxRecDepth 20000 in
theorem gX8_fileLine_X8_takes : GoodIn wsX8_fileLine (wsV RX8 370 RX8 yX8_takes wsX8_takes) := goodIn_app (goodIn_of _ (by decide +kernel)) ggX8_fileLine_X8_takes
set_option maxRecDepth 20000 in
theorem ggX8_fileLine_X8_sees : GoodIn wsX8_fileLine wsX8_sees := goodIn_r _ [60, 2, 30, 5, 6, 7, 8, 9, 10, 11, 12, 35, 36, 37, 17, 18, 19, 20, 70, 71, 72, 73, 74, 75, 76, 77, 78, 79, 80, 81, 82, 83, 84, 85, 86, 87, 88, 89, 90, 91, 92, 93, 94, 95, 96] (by decide +kernel) (by decide +kernel)
set_option maxRecDepth 20000 in
theorem gX8_fileLine_X8_sees : GoodIn wsX8_fileLine (wsV RX8 361 RX8 yX8_sees wsX8_sees) := goodIn_app (goodIn_of _ (by decide +kernel)) ggX8_fileLine_X8_sees
set_option maxRecDepth 20000 in
theorem ggX8_fileLine_X8_canWrite : GoodIn wsX8_fileLine wsX8_canWrite := goodIn_r _ [63, 64, 65, 8, 66, 35, 36, 37] (by decide +kernel) (by decide +kernel)
set_option maxRecDepth 20000 in
theorem gX8_fileLine_X8_canWrite : GoodIn wsX8_fileLine (va_wsS RX8 225 yX8_canWrite wsX8_canWrite) := goodIn_app (goodIn_of _ (by decide +kernel)) ggX8_fileLine_X8_canWrite
set_option maxRecDepth 20000 in
theorem ggX8_fileLine_X8_writesVersion : GoodIn wsX8_fileLine wsX8_writesVersion := goodIn_r _ [69, 64, 65, 8, 66, 35, 36, 37] (by decide +kernel) (by decide +kernel)
set_option maxRecDepth 20000 in
theorem gX8_fileLine_X8_writesVersion : GoodIn wsX8_fileLine (va_wsS RX8 244 yX8_writesVersion wsX8_writesVersion) := goodIn_app (goodIn_of _ (by decide +kernel)) ggX8_fileLine_X8_writesVersion
theorem dX8_fileLine_0 : decode cX8_fileLine 0 = .ok (.aload_n 0, 1) := by decide +kernel
theorem dX8_fileLine_1 : decode cX8_fileLine 1 = .ok (.aload_n 0, 1) := by decide +kernel
theorem dX8_fileLine_2 : decode cX8_fileLine 2 = .ok (.getfield 13, 3) := by decide +kernel
theorem dX8_fileLine_5 : decode cX8_fileLine 5 = .ok (.bipush 9, 2) := by decide +kernel
theorem dX8_fileLine_7 : decode cX8_fileLine 7 = .ok (.iaload, 1) := by decide +kernel
theorem dX8_fileLine_8 : decode cX8_fileLine 8 = .ok (.bipush 20, 2) := by decide +kernel
theorem dX8_fileLine_10 : decode cX8_fileLine 10 = .ok (.if_icmp .ge 7, 3) := by decide +kernel
theorem dX8_fileLine_13 : decode cX8_fileLine 13 = .ok (.iconst 1, 1) := by decide +kernel
theorem dX8_fileLine_14 : decode cX8_fileLine 14 = .ok (.goto 4, 3) := by decide +kernel
theorem dX8_fileLine_17 : decode cX8_fileLine 17 = .ok (.iconst 0, 1) := by decide +kernel
theorem dX8_fileLine_18 : decode cX8_fileLine 18 = .ok (.iconst 5, 1) := by decide +kernel
theorem dX8_fileLine_19 : decode cX8_fileLine 19 = .ok (.invokevirtual 357, 3) := by decide +kernel
theorem dX8_fileLine_22 : decode cX8_fileLine 22 = .ok (.aload_n 0, 1) := by decide +kernel
theorem dX8_fileLine_23 : decode cX8_fileLine 23 = .ok (.invokevirtual 364, 3) := by decide +kernel
theorem dX8_fileLine_26 : decode cX8_fileLine 26 = .ok (.aload_n 0, 1) := by decide +kernel
theorem dX8_fileLine_27 : decode cX8_fileLine 27 = .ok (.aload_n 0, 1) := by decide +kernel
theorem dX8_fileLine_28 : decode cX8_fileLine 28 = .ok (.getfield 313, 3) := by decide +kernel
theorem dX8_fileLine_31 : decode cX8_fileLine 31 = .ok (.iconst 1, 1) := by decide +kernel
theorem dX8_fileLine_32 : decode cX8_fileLine 32 = .ok (.if_icmp .ne 14, 3) := by decide +kernel
theorem dX8_fileLine_35 : decode cX8_fileLine 35 = .ok (.aload_n 0, 1) := by decide +kernel
theorem dX8_fileLine_36 : decode cX8_fileLine 36 = .ok (.invokevirtual 373, 3) := by decide +kernel
theorem dX8_fileLine_39 : decode cX8_fileLine 39 = .ok (.ifCond .ne 7, 3) := by decide +kernel
theorem dX8_fileLine_42 : decode cX8_fileLine 42 = .ok (.iconst 1, 1) := by decide +kernel
theorem dX8_fileLine_43 : decode cX8_fileLine 43 = .ok (.goto 4, 3) := by decide +kernel
theorem dX8_fileLine_46 : decode cX8_fileLine 46 = .ok (.iconst 0, 1) := by decide +kernel
theorem dX8_fileLine_47 : decode cX8_fileLine 47 = .ok (.iconst 2, 1) := by decide +kernel
theorem dX8_fileLine_48 : decode cX8_fileLine 48 = .ok (.invokevirtual 357, 3) := by decide +kernel
theorem dX8_fileLine_51 : decode cX8_fileLine 51 = .ok (.iconst 0, 1) := by decide +kernel
theorem dX8_fileLine_52 : decode cX8_fileLine 52 = .ok (.istore_n 1, 1) := by decide +kernel
theorem dX8_fileLine_53 : decode cX8_fileLine 53 = .ok (.iload_n 1, 1) := by decide +kernel
theorem dX8_fileLine_54 : decode cX8_fileLine 54 = .ok (.aload_n 0, 1) := by decide +kernel
theorem dX8_fileLine_55 : decode cX8_fileLine 55 = .ok (.getfield 13, 3) := by decide +kernel
theorem dX8_fileLine_58 : decode cX8_fileLine 58 = .ok (.bipush 9, 2) := by decide +kernel
theorem dX8_fileLine_60 : decode cX8_fileLine 60 = .ok (.iaload, 1) := by decide +kernel
theorem dX8_fileLine_61 : decode cX8_fileLine 61 = .ok (.if_icmp .ge 40, 3) := by decide +kernel
theorem dX8_fileLine_64 : decode cX8_fileLine 64 = .ok (.aload_n 0, 1) := by decide +kernel
theorem dX8_fileLine_65 : decode cX8_fileLine 65 = .ok (.invokevirtual 333, 3) := by decide +kernel
theorem dX8_fileLine_68 : decode cX8_fileLine 68 = .ok (.ifCond .eq 33, 3) := by decide +kernel
theorem dX8_fileLine_71 : decode cX8_fileLine 71 = .ok (.aload_n 0, 1) := by decide +kernel
theorem dX8_fileLine_72 : decode cX8_fileLine 72 = .ok (.aload_n 0, 1) := by decide +kernel
theorem dX8_fileLine_73 : decode cX8_fileLine 73 = .ok (.getfield 38, 3) := by decide +kernel
theorem dX8_fileLine_76 : decode cX8_fileLine 76 = .ok (.iload_n 1, 1) := by decide +kernel
theorem dX8_fileLine_77 : decode cX8_fileLine 77 = .ok (.laload, 1) := by decide +kernel
theorem dX8_fileLine_78 : decode cX8_fileLine 78 = .ok (.aload_n 0, 1) := by decide +kernel
theorem dX8_fileLine_79 : decode cX8_fileLine 79 = .ok (.getfield 316, 3) := by decide +kernel
theorem dX8_fileLine_82 : decode cX8_fileLine 82 = .ok (.lcmp, 1) := by decide +kernel
theorem dX8_fileLine_83 : decode cX8_fileLine 83 = .ok (.ifCond .eq 7, 3) := by decide +kernel
theorem dX8_fileLine_86 : decode cX8_fileLine 86 = .ok (.iconst 1, 1) := by decide +kernel
theorem dX8_fileLine_87 : decode cX8_fileLine 87 = .ok (.goto 4, 3) := by decide +kernel
theorem dX8_fileLine_90 : decode cX8_fileLine 90 = .ok (.iconst 0, 1) := by decide +kernel
theorem dX8_fileLine_91 : decode cX8_fileLine 91 = .ok (.iconst 4, 1) := by decide +kernel
theorem dX8_fileLine_92 : decode cX8_fileLine 92 = .ok (.invokevirtual 357, 3) := by decide +kernel
theorem dX8_fileLine_95 : decode cX8_fileLine 95 = .ok (.iinc 1 1, 3) := by decide +kernel
theorem dX8_fileLine_98 : decode cX8_fileLine 98 = .ok (.goto (-45), 3) := by decide +kernel
theorem dX8_fileLine_101 : decode cX8_fileLine 101 = .ok (.aload_n 0, 1) := by decide +kernel
theorem dX8_fileLine_102 : decode cX8_fileLine 102 = .ok (.getfield 316, 3) := by decide +kernel
theorem dX8_fileLine_105 : decode cX8_fileLine 105 = .ok (.lstore_n 1, 1) := by decide +kernel
theorem dX8_fileLine_106 : decode cX8_fileLine 106 = .ok (.aload_n 0, 1) := by decide +kernel
theorem dX8_fileLine_107 : decode cX8_fileLine 107 = .ok (.invokevirtual 364, 3) := by decide +kernel
theorem dX8_fileLine_110 : decode cX8_fileLine 110 = .ok (.aload_n 0, 1) := by decide +kernel
theorem dX8_fileLine_111 : decode cX8_fileLine 111 = .ok (.iconst 1, 1) := by decide +kernel
theorem dX8_fileLine_112 : decode cX8_fileLine 112 = .ok (.sipush 300, 3) := by decide +kernel
theorem dX8_fileLine_115 : decode cX8_fileLine 115 = .ok (.invokevirtual 370, 3) := by decide +kernel
theorem dX8_fileLine_118 : decode cX8_fileLine 118 = .ok (.istore_n 3, 1) := by decide +kernel
theorem dX8_fileLine_119 : decode cX8_fileLine 119 = .ok (.aload_n 0, 1) := by decide +kernel
theorem dX8_fileLine_120 : decode cX8_fileLine 120 = .ok (.iconst 0, 1) := by decide +kernel
theorem dX8_fileLine_121 : decode cX8_fileLine 121 = .ok (.aload_n 0, 1) := by decide +kernel
theorem dX8_fileLine_122 : decode cX8_fileLine 122 = .ok (.getfield 13, 3) := by decide +kernel
theorem dX8_fileLine_125 : decode cX8_fileLine 125 = .ok (.bipush 7, 2) := by decide +kernel
theorem dX8_fileLine_127 : decode cX8_fileLine 127 = .ok (.iaload, 1) := by decide +kernel
theorem dX8_fileLine_128 : decode cX8_fileLine 128 = .ok (.iconst 1, 1) := by decide +kernel
theorem dX8_fileLine_129 : decode cX8_fileLine 129 = .ok (.isub, 1) := by decide +kernel
theorem dX8_fileLine_130 : decode cX8_fileLine 130 = .ok (.invokevirtual 361, 3) := by decide +kernel
theorem dX8_fileLine_133 : decode cX8_fileLine 133 = .ok (.istore 4, 2) := by decide +kernel
theorem dX8_fileLine_135 : decode cX8_fileLine 135 = .ok (.aload_n 0, 1) := by decide +kernel
theorem dX8_fileLine_136 : decode cX8_fileLine 136 = .ok (.aload_n 0, 1) := by decide +kernel
theorem dX8_fileLine_137 : decode cX8_fileLine 137 = .ok (.invokevirtual 333, 3) := by decide +kernel
theorem dX8_fileLine_140 : decode cX8_fileLine 140 = .ok (.ifCond .eq 20, 3) := by decide +kernel
theorem dX8_fileLine_143 : decode cX8_fileLine 143 = .ok (.aload_n 0, 1) := by decide +kernel
theorem dX8_fileLine_144 : decode cX8_fileLine 144 = .ok (.getfield 13, 3) := by decide +kernel
theorem dX8_fileLine_147 : decode cX8_fileLine 147 = .ok (.iload 4, 2) := by decide +kernel
theorem dX8_fileLine_149 : decode cX8_fileLine 149 = .ok (.iload_n 3, 1) := by decide +kernel
theorem dX8_fileLine_150 : decode cX8_fileLine 150 = .ok (.invokestatic 225, 3) := by decide +kernel
theorem dX8_fileLine_153 : decode cX8_fileLine 153 = .ok (.ifCond .eq 7, 3) := by decide +kernel
theorem dX8_fileLine_156 : decode cX8_fileLine 156 = .ok (.iconst 1, 1) := by decide +kernel
theorem dX8_fileLine_157 : decode cX8_fileLine 157 = .ok (.goto 4, 3) := by decide +kernel
theorem dX8_fileLine_160 : decode cX8_fileLine 160 = .ok (.iconst 0, 1) := by decide +kernel
theorem dX8_fileLine_161 : decode cX8_fileLine 161 = .ok (.bipush 6, 2) := by decide +kernel
theorem dX8_fileLine_163 : decode cX8_fileLine 163 = .ok (.invokevirtual 357, 3) := by decide +kernel
theorem dX8_fileLine_166 : decode cX8_fileLine 166 = .ok (.aload_n 0, 1) := by decide +kernel
theorem dX8_fileLine_167 : decode cX8_fileLine 167 = .ok (.invokevirtual 333, 3) := by decide +kernel
theorem dX8_fileLine_170 : decode cX8_fileLine 170 = .ok (.ifCond .eq 46, 3) := by decide +kernel
theorem dX8_fileLine_173 : decode cX8_fileLine 173 = .ok (.aload_n 0, 1) := by decide +kernel
theorem dX8_fileLine_174 : decode cX8_fileLine 174 = .ok (.getfield 38, 3) := by decide +kernel
theorem dX8_fileLine_177 : decode cX8_fileLine 177 = .ok (.aload_n 0, 1) := by decide +kernel
theorem dX8_fileLine_178 : decode cX8_fileLine 178 = .ok (.getfield 13, 3) := by decide +kernel
theorem dX8_fileLine_181 : decode cX8_fileLine 181 = .ok (.bipush 9, 2) := by decide +kernel
theorem dX8_fileLine_183 : decode cX8_fileLine 183 = .ok (.iaload, 1) := by decide +kernel
theorem dX8_fileLine_184 : decode cX8_fileLine 184 = .ok (.lload_n 1, 1) := by decide +kernel
theorem dX8_fileLine_185 : decode cX8_fileLine 185 = .ok (.lastore, 1) := by decide +kernel
theorem dX8_fileLine_186 : decode cX8_fileLine 186 = .ok (.aload_n 0, 1) := by decide +kernel
theorem dX8_fileLine_187 : decode cX8_fileLine 187 = .ok (.getfield 13, 3) := by decide +kernel
theorem dX8_fileLine_190 : decode cX8_fileLine 190 = .ok (.bipush 9, 2) := by decide +kernel
theorem dX8_fileLine_192 : decode cX8_fileLine 192 = .ok (.dup2, 1) := by decide +kernel
theorem dX8_fileLine_193 : decode cX8_fileLine 193 = .ok (.iaload, 1) := by decide +kernel
theorem dX8_fileLine_194 : decode cX8_fileLine 194 = .ok (.iconst 1, 1) := by decide +kernel
theorem dX8_fileLine_195 : decode cX8_fileLine 195 = .ok (.iadd, 1) := by decide +kernel
theorem dX8_fileLine_196 : decode cX8_fileLine 196 = .ok (.iastore, 1) := by decide +kernel
theorem dX8_fileLine_197 : decode cX8_fileLine 197 = .ok (.aload_n 0, 1) := by decide +kernel
theorem dX8_fileLine_198 : decode cX8_fileLine 198 = .ok (.getfield 13, 3) := by decide +kernel
theorem dX8_fileLine_201 : decode cX8_fileLine 201 = .ok (.aload_n 0, 1) := by decide +kernel
theorem dX8_fileLine_202 : decode cX8_fileLine 202 = .ok (.getfield 13, 3) := by decide +kernel
theorem dX8_fileLine_205 : decode cX8_fileLine 205 = .ok (.bipush 9, 2) := by decide +kernel
theorem dX8_fileLine_207 : decode cX8_fileLine 207 = .ok (.iaload, 1) := by decide +kernel
theorem dX8_fileLine_208 : decode cX8_fileLine 208 = .ok (.iconst 1, 1) := by decide +kernel
theorem dX8_fileLine_209 : decode cX8_fileLine 209 = .ok (.isub, 1) := by decide +kernel
theorem dX8_fileLine_210 : decode cX8_fileLine 210 = .ok (.iload 4, 2) := by decide +kernel
theorem dX8_fileLine_212 : decode cX8_fileLine 212 = .ok (.iload_n 3, 1) := by decide +kernel
theorem dX8_fileLine_213 : decode cX8_fileLine 213 = .ok (.invokestatic 244, 3) := by decide +kernel
theorem dX8_fileLine_216 : decode cX8_fileLine 216 = .ok (.aload_n 0, 1) := by decide +kernel
theorem dX8_fileLine_217 : decode cX8_fileLine 217 = .ok (.invokevirtual 364, 3) := by decide +kernel
theorem dX8_fileLine_220 : decode cX8_fileLine 220 = .ok (.return_, 1) := by decide +kernel
set_option maxRecDepth 20000 in
theorem ggX8_closeLine_X8_goesOn : GoodIn wsX8_closeLine wsX8_goesOn := goodIn_r _ [6, 7, 8, 9, 5, 10, 11, 12, 13, 14, 15, 16, 17, 18, 19, 20, 21, 22, 23, 24, 25, 26, 27, 28, 29, 30, 31, 51, 52, 53, 54, 55, 56, 57, 58, 59, 60, 61, 62, 63, 64, 65, 66, 67, 68, 69, 70, 71, 72, 73, 74, 75, 76, 77] (by decide +kernel) (by decide +kernel)
set_option maxRecDepth 20000 in
theorem gX8_closeLine_X8_goesOn : GoodIn wsX8_closeLine (wsV RX8 364 RX8 yX8_goesOn wsX8_goesOn) := goodIn_app (goodIn_of _ (by decide +kernel)) ggX8_closeLine_X8_goesOn
set_option maxRecDepth 20000 in
theorem ggX8_closeLine_X8_sees : GoodIn wsX8_closeLine wsX8_sees := goodIn_r _ [35, 20, 24, 36, 37, 38, 5, 39, 11, 17, 40, 29, 30, 31, 7, 8, 9, 10, 51, 52, 53, 54, 55, 56, 57, 58, 59, 60, 61, 62, 63, 64, 65, 66, 67, 68, 69, 70, 71, 72, 73, 74, 75, 76, 77] (by decide +kernel) (by decide +kernel)
set_option maxRecDepth 20000 in
theorem gX8_closeLine_X8_sees : GoodIn wsX8_closeLine (wsV RX8 361 RX8 yX8_sees wsX8_sees) := goodIn_app (goodIn_of _ (by decide +kernel)) ggX8_closeLine_X8_sees
set_option maxRecDepth 20000 in
theorem ggX8_closeLine_X8_good : GoodIn wsX8_closeLine wsX8_good := goodIn_r _ [10, 11, 51, 52, 53, 54, 55, 56, 57, 58, 59, 60, 61, 62, 63, 64, 65, 66, 67, 68, 69, 70, 71, 72, 73, 74, 75, 76, 77] (by decide +kernel) (by decide +kernel)
set_option maxRecDepth 20000 in
theorem gX8_closeLine_X8_good : GoodIn wsX8_closeLine (wsV RX8 333 RX8 yX8_good wsX8_good) := goodIn_app (goodIn_of _ (by decide +kernel)) ggX8_closeLine_X8_good
set_option maxRecDepth 20000 in
theorem ggX8_closeLine_X8_must : GoodIn wsX8_closeLine wsX8_must := goodIn_r _ [39, 11, 20, 17, 40, 51, 52, 53, 54, 55, 56, 57, 58, 59, 60, 61, 62, 63, 64, 65, 66, 67, 68, 69, 70, 71, 72, 73, 74, 75, 76, 77] (by decide +kernel) (by decide +kernel)
set_option maxRecDepth 20000 in
theorem gX8_closeLine_X8_must : GoodIn wsX8_closeLine (wsV RX8 357 RX8 yX8_must wsX8_must) := goodIn_app (goodIn_of _ (by decide +kernel)) ggX8_closeLine_X8_must
set_option maxRecDepth 20000 in
theorem ggX8_closeLine_X8_closes : GoodIn wsX8_closeLine wsX8_closes := goodIn_r _ [43, 44, 45, 5, 46, 47, 48, 49, 50] (by decide +kernel) (by decide +kernel)
set_option maxRecDepth 20000 in
theorem gX8_closeLine_X8_closes : GoodIn wsX8_closeLine (va_wsS RX8 256 yX8_closes wsX8_closes) := goodIn_app (goodIn_of _ (by decide +kernel)) ggX8_closeLine_X8_closes
theorem dX8_closeLine_0 : decode cX8_closeLine 0 = .ok (.aload_n 0, 1) := by decide +kernel
theorem dX8_closeLine_1 : decode cX8_closeLine 1 = .ok (.invokevirtual 364, 3) := by decide +kernel
theorem dX8_closeLine_4 : decode cX8_closeLine 4 = .ok (.aload_n 0, 1) := by decide +kernel
theorem dX8_closeLine_5 : decode cX8_closeLine 5 = .ok (.iconst 0, 1) := by decide +kernel
theorem dX8_closeLine_6 : decode cX8_closeLine 6 = .ok (.aload_n 0, 1) := by decide +kernel
theorem dX8_closeLine_7 : decode cX8_closeLine 7 = .ok (.getfield 13, 3) := by decide +kernel
theorem dX8_closeLine_10 : decode cX8_closeLine 10 = .ok (.bipush 7, 2) := by decide +kernel
theorem dX8_closeLine_12 : decode cX8_closeLine 12 = .ok (.iaload, 1) := by decide +kernel
theorem dX8_closeLine_13 : decode cX8_closeLine 13 = .ok (.iconst 1, 1) := by decide +kernel
theorem dX8_closeLine_14 : decode cX8_closeLine 14 = .ok (.isub, 1) := by decide +kernel
theorem dX8_closeLine_15 : decode cX8_closeLine 15 = .ok (.invokevirtual 361, 3) := by decide +kernel
theorem dX8_closeLine_18 : decode cX8_closeLine 18 = .ok (.istore_n 1, 1) := by decide +kernel
theorem dX8_closeLine_19 : decode cX8_closeLine 19 = .ok (.aload_n 0, 1) := by decide +kernel
theorem dX8_closeLine_20 : decode cX8_closeLine 20 = .ok (.aload_n 0, 1) := by decide +kernel
theorem dX8_closeLine_21 : decode cX8_closeLine 21 = .ok (.invokevirtual 333, 3) := by decide +kernel
theorem dX8_closeLine_24 : decode cX8_closeLine 24 = .ok (.ifCond .eq 20, 3) := by decide +kernel
theorem dX8_closeLine_27 : decode cX8_closeLine 27 = .ok (.aload_n 0, 1) := by decide +kernel
theorem dX8_closeLine_28 : decode cX8_closeLine 28 = .ok (.getfield 13, 3) := by decide +kernel
theorem dX8_closeLine_31 : decode cX8_closeLine 31 = .ok (.bipush 79, 2) := by decide +kernel
theorem dX8_closeLine_33 : decode cX8_closeLine 33 = .ok (.iload_n 1, 1) := by decide +kernel
theorem dX8_closeLine_34 : decode cX8_closeLine 34 = .ok (.iadd, 1) := by decide +kernel
theorem dX8_closeLine_35 : decode cX8_closeLine 35 = .ok (.iaload, 1) := by decide +kernel
theorem dX8_closeLine_36 : decode cX8_closeLine 36 = .ok (.iconst 1, 1) := by decide +kernel
theorem dX8_closeLine_37 : decode cX8_closeLine 37 = .ok (.if_icmp .ne 7, 3) := by decide +kernel
theorem dX8_closeLine_40 : decode cX8_closeLine 40 = .ok (.iconst 1, 1) := by decide +kernel
theorem dX8_closeLine_41 : decode cX8_closeLine 41 = .ok (.goto 4, 3) := by decide +kernel
theorem dX8_closeLine_44 : decode cX8_closeLine 44 = .ok (.iconst 0, 1) := by decide +kernel
theorem dX8_closeLine_45 : decode cX8_closeLine 45 = .ok (.bipush 6, 2) := by decide +kernel
theorem dX8_closeLine_47 : decode cX8_closeLine 47 = .ok (.invokevirtual 357, 3) := by decide +kernel
theorem dX8_closeLine_50 : decode cX8_closeLine 50 = .ok (.aload_n 0, 1) := by decide +kernel
theorem dX8_closeLine_51 : decode cX8_closeLine 51 = .ok (.invokevirtual 333, 3) := by decide +kernel
theorem dX8_closeLine_54 : decode cX8_closeLine 54 = .ok (.ifCond .eq 11, 3) := by decide +kernel
theorem dX8_closeLine_57 : decode cX8_closeLine 57 = .ok (.aload_n 0, 1) := by decide +kernel
theorem dX8_closeLine_58 : decode cX8_closeLine 58 = .ok (.getfield 13, 3) := by decide +kernel
theorem dX8_closeLine_61 : decode cX8_closeLine 61 = .ok (.iload_n 1, 1) := by decide +kernel
theorem dX8_closeLine_62 : decode cX8_closeLine 62 = .ok (.invokestatic 256, 3) := by decide +kernel
theorem dX8_closeLine_65 : decode cX8_closeLine 65 = .ok (.aload_n 0, 1) := by decide +kernel
theorem dX8_closeLine_66 : decode cX8_closeLine 66 = .ok (.invokevirtual 364, 3) := by decide +kernel
theorem dX8_closeLine_69 : decode cX8_closeLine 69 = .ok (.return_, 1) := by decide +kernel
set_option maxRecDepth 20000 in
theorem ggX8_line_X8_isWord : GoodIn wsX8_line wsX8_isWord := goodIn_r _ [13, 14, 15, 16, 17, 18, 12, 19, 20, 121, 122, 123, 124, 125, 126, 127, 128, 129, 130, 131, 132, 133, 134, 135, 136, 137, 138, 139, 140, 141, 142, 143, 144, 145, 146, 147] (by decide +kernel) (by decide +kernel)
set_option maxRecDepth 20000 in
theorem gX8_line_X8_isWord : GoodIn wsX8_line (wsV RX8 341 RX8 yX8_isWord wsX8_isWord) := goodIn_app (goodIn_of _ (by decide +kernel)) ggX8_line_X8_isWord
set_option maxRecDepth 20000 in
theorem ggX8_line_X8_slotsLine : GoodIn wsX8_line wsX8_slotsLine := goodIn_r _ [24, 8, 25, 26, 27, 28, 12, 29, 20, 14, 30, 31, 32, 33, 34, 35, 16, 17, 18, 19, 36, 37, 38, 39, 40, 41, 42, 15, 43, 44, 45, 46, 47, 48, 49, 50, 51, 52, 53, 54, 55, 56, 57, 58, 59, 60, 121, 122, 123, 124, 125, 126, 127, 128, 129, 130, 131, 132, 133, 134, 135, 136, 137, 138, 139, 140, 141, 142, 143, 144, 145, 146, 147] (by decide +kernel) (by decide +kernel)
set_option maxRecDepth 20000 in
theorem gX8_line_X8_slotsLine : GoodIn wsX8_line (wsV RX8 376 RX8 yX8_slotsLine wsX8_slotsLine) := goodIn_app (goodIn_of _ (by decide +kernel)) ggX8_line_X8_slotsLine
set_option maxRecDepth 20000 in
theorem ggX8_line_X8_driveLine : GoodIn wsX8_line wsX8_driveLine := goodIn_r _ [64, 25, 26, 27, 28, 12, 29, 20, 14, 30, 31, 32, 33, 34, 35, 16, 17, 18, 19, 36, 37, 38, 39, 40, 41, 42, 15, 43, 44, 45, 46, 47, 48, 49, 50, 51, 52, 53, 54, 55, 56, 57, 58, 59, 60, 121, 122, 123, 124, 125, 126, 127, 128, 129, 130, 131, 132, 133, 134, 135, 136, 137, 138, 139, 140, 141, 142, 143, 144, 145, 146, 147] (by decide +kernel) (by decide +kernel)
set_option maxRecDepth 20000 in
theorem gX8_line_X8_driveLine : GoodIn wsX8_line (wsV RX8 379 RX8 yX8_driveLine wsX8_driveLine) := goodIn_app (goodIn_of _ (by decide +kernel)) ggX8_line_X8_driveLine
set_option maxRecDepth 20000 in
theorem ggX8_line_X8_timeLine : GoodIn wsX8_line wsX8_timeLine := goodIn_r _ [68, 25, 32, 33, 34, 12, 35, 16, 17, 18, 19, 20, 36, 37, 38, 39, 40, 30, 41, 42, 14, 15, 43, 44, 45, 46, 47, 48, 49, 50, 51, 52, 53, 54, 55, 56, 57, 58, 59, 60, 26, 27, 28, 29, 31, 121, 122, 123, 124, 125, 126, 127, 128, 129, 130, 131, 132, 133, 134, 135, 136, 137, 138, 139, 140, 141, 142, 143, 144, 145, 146, 147] (by decide +kernel) (by decide +kernel)
set_option maxRecDepth 20000 in
theorem gX8_line_X8_timeLine : GoodIn wsX8_line (wsV RX8 382 RX8 yX8_timeLine wsX8_timeLine) := goodIn_app (goodIn_of _ (by decide +kernel)) ggX8_line_X8_timeLine
set_option maxRecDepth 20000 in
theorem ggX8_line_X8_platterLine : GoodIn wsX8_line wsX8_platterLine := goodIn_r _ [72, 25, 26, 27, 28, 12, 29, 20, 14, 30, 31, 32, 33, 34, 35, 16, 17, 18, 19, 36, 37, 38, 39, 40, 41, 42, 15, 43, 44, 45, 46, 47, 48, 49, 50, 51, 52, 57, 58, 59, 60, 73, 74, 75, 53, 54, 55, 56, 121, 122, 123, 124, 125, 126, 127, 128, 129, 130, 131, 132, 133, 134, 135, 136, 137, 138, 139, 140, 141, 142, 143, 144, 145, 146, 147] (by decide +kernel) (by decide +kernel)
set_option maxRecDepth 20000 in
theorem gX8_line_X8_platterLine : GoodIn wsX8_line (wsV RX8 385 RX8 yX8_platterLine wsX8_platterLine) := goodIn_app (goodIn_of _ (by decide +kernel)) ggX8_line_X8_platterLine
set_option maxRecDepth 20000 in
theorem ggX8_line_X8_badLine : GoodIn wsX8_line wsX8_badLine := goodIn_r _ [79, 25, 26, 27, 28, 12, 29, 20, 14, 30, 31, 32, 33, 34, 35, 16, 17, 18, 19, 36, 37, 38, 39, 40, 41, 42, 15, 43, 44, 45, 46, 47, 48, 49, 50, 51, 52, 53, 54, 55, 56, 57, 58, 59, 60, 80, 81, 82, 83, 84, 85, 86, 87, 88, 121, 122, 123, 124, 125, 126, 127, 128, 129, 130, 131, 132, 133, 134, 135, 136, 137, 138, 139, 140, 141, 142, 143, 144, 145, 146, 147] (by decide +kernel) (by decide +kernel)
set_option maxRecDepth 20000 in
theorem gX8_line_X8_badLine : GoodIn wsX8_line (wsV RX8 388 RX8 yX8_badLine wsX8_badLine) := goodIn_app (goodIn_of _ (by decide +kernel)) ggX8_line_X8_badLine
set_option maxRecDepth 20000 in
theorem ggX8_line_X8_fileLine : GoodIn wsX8_line wsX8_fileLine := goodIn_r _ [92, 25, 14, 93, 15, 26, 27, 28, 12, 29, 20, 30, 31, 32, 33, 34, 35, 16, 17, 18, 19, 36, 37, 38, 39, 40, 41, 42, 43, 44, 45, 46, 47, 48, 49, 50, 51, 52, 94, 95, 96, 97, 1, 2, 3, 4, 5, 6, 7, 9, 10, 11, 13, 53, 54, 55, 56, 57, 58, 59, 60, 98, 99, 100, 101, 102, 103, 104, 105, 106, 121, 122, 123, 124, 125, 126, 127, 128, 129, 130, 131, 132, 133, 134, 135, 136, 137, 138, 139, 140, 141, 142, 143, 144, 145, 146, 147] (by decide +kernel) (by decide +kernel)
set_option maxRecDepth 20000 in
theorem gX8_line_X8_fileLine : GoodIn wsX8_line (wsV RX8 391 RX8 yX8_fileLine wsX8_fileLine) := goodIn_app (goodIn_of _ (by decide +kernel)) ggX8_line_X8_fileLine
set_option maxRecDepth 20000 in
theorem ggX8_line_X8_must : GoodIn wsX8_line wsX8_must := goodIn_r _ [29, 20, 14, 30, 31, 121, 122, 123, 124, 125, 126, 127, 128, 129, 130, 131, 132, 133, 134, 135, 136, 137, 138, 139, 140, 141, 142, 143, 144, 145, 146, 147] (by decide +kernel) (by decide +kernel)
set_option maxRecDepth 20000 in
theorem gX8_line_X8_must : GoodIn wsX8_line (wsV RX8 357 RX8 yX8_must wsX8_must) := goodIn_app (goodIn_of _ (by decide +kernel)) ggX8_line_X8_must
set_option maxRecDepth 20000 in
theorem ggX8_line_X8_good : GoodIn wsX8_line wsX8_good := goodIn_r _ [19, 20, 121, 122, 123, 124, 125, 126, 127, 128, 129, 130, 131, 132, 133, 134, 135, 136, 137, 138, 139, 140, 141, 142, 143, 144, 145, 146, 147] (by decide +kernel) (by decide +kernel)
set_option maxRecDepth 20000 in
theorem gX8_line_X8_good : GoodIn wsX8_line (wsV RX8 333 RX8 yX8_good wsX8_good) := goodIn_app (goodIn_of _ (by decide +kernel)) ggX8_line_X8_good
set_option maxRecDepth 20000 in
theorem ggX8_line_X8_closeLine : GoodIn wsX8_line wsX8_closeLine := goodIn_r _ [110, 25, 32, 33, 34, 12, 35, 16, 17, 18, 19, 20, 36, 37, 38, 39, 40, 30, 41, 42, 14, 15, 43, 44, 45, 46, 47, 48, 49, 50, 51, 52, 57, 58, 59, 60, 26, 27, 28, 29, 31, 111, 112, 113, 114, 115, 116, 117, 118, 119, 120, 121, 122, 123, 124, 125, 126, 127, 128, 129, 130, 131, 132, 133, 134, 135, 136, 137, 138, 139, 140, 141, 142, 143, 144, 145, 146, 147] (by decide +kernel) (by decide +kernel)
set_option maxRecDepth 20000 in
theorem gX8_line_X8_closeLine : GoodIn wsX8_line (wsV RX8 394 RX8 yX8_closeLine wsX8_closeLine) := goodIn_app (goodIn_of _ (by decide +kernel)) ggX8_line_X8_closeLine
theorem dX8_line_0 : decode cX8_line 0 = .ok (.aload_n 0, 1) := by decide +kernel
theorem dX8_line_1 : decode cX8_line 1 = .ok (.ldc2_w 339, 3) := by decide +kernel
theorem dX8_line_4 : decode cX8_line 4 = .ok (.invokevirtual 341, 3) := by decide +kernel
theorem dX8_line_7 : decode cX8_line 7 = .ok (.ifCond .eq 10, 3) := by decide +kernel
theorem dX8_line_10 : decode cX8_line 10 = .ok (.aload_n 0, 1) := by decide +kernel
theorem dX8_line_11 : decode cX8_line 11 = .ok (.invokevirtual 376, 3) := by decide +kernel
theorem dX8_line_14 : decode cX8_line 14 = .ok (.goto 111, 3) := by decide +kernel
theorem dX8_line_17 : decode cX8_line 17 = .ok (.aload_n 0, 1) := by decide +kernel
theorem dX8_line_18 : decode cX8_line 18 = .ok (.ldc2_w 345, 3) := by decide +kernel
theorem dX8_line_21 : decode cX8_line 21 = .ok (.invokevirtual 341, 3) := by decide +kernel
theorem dX8_line_24 : decode cX8_line 24 = .ok (.ifCond .eq 10, 3) := by decide +kernel
theorem dX8_line_27 : decode cX8_line 27 = .ok (.aload_n 0, 1) := by decide +kernel
theorem dX8_line_28 : decode cX8_line 28 = .ok (.invokevirtual 379, 3) := by decide +kernel
theorem dX8_line_31 : decode cX8_line 31 = .ok (.goto 94, 3) := by decide +kernel
theorem dX8_line_34 : decode cX8_line 34 = .ok (.aload_n 0, 1) := by decide +kernel
theorem dX8_line_35 : decode cX8_line 35 = .ok (.ldc2_w 347, 3) := by decide +kernel
theorem dX8_line_38 : decode cX8_line 38 = .ok (.invokevirtual 341, 3) := by decide +kernel
theorem dX8_line_41 : decode cX8_line 41 = .ok (.ifCond .eq 10, 3) := by decide +kernel
theorem dX8_line_44 : decode cX8_line 44 = .ok (.aload_n 0, 1) := by decide +kernel
theorem dX8_line_45 : decode cX8_line 45 = .ok (.invokevirtual 382, 3) := by decide +kernel
theorem dX8_line_48 : decode cX8_line 48 = .ok (.goto 77, 3) := by decide +kernel
theorem dX8_line_51 : decode cX8_line 51 = .ok (.aload_n 0, 1) := by decide +kernel
theorem dX8_line_52 : decode cX8_line 52 = .ok (.ldc2_w 349, 3) := by decide +kernel
theorem dX8_line_55 : decode cX8_line 55 = .ok (.invokevirtual 341, 3) := by decide +kernel
theorem dX8_line_58 : decode cX8_line 58 = .ok (.ifCond .eq 10, 3) := by decide +kernel
theorem dX8_line_61 : decode cX8_line 61 = .ok (.aload_n 0, 1) := by decide +kernel
theorem dX8_line_62 : decode cX8_line 62 = .ok (.invokevirtual 385, 3) := by decide +kernel
theorem dX8_line_65 : decode cX8_line 65 = .ok (.goto 60, 3) := by decide +kernel
theorem dX8_line_68 : decode cX8_line 68 = .ok (.aload_n 0, 1) := by decide +kernel
theorem dX8_line_69 : decode cX8_line 69 = .ok (.ldc2_w 351, 3) := by decide +kernel
theorem dX8_line_72 : decode cX8_line 72 = .ok (.invokevirtual 341, 3) := by decide +kernel
theorem dX8_line_75 : decode cX8_line 75 = .ok (.ifCond .eq 10, 3) := by decide +kernel
theorem dX8_line_78 : decode cX8_line 78 = .ok (.aload_n 0, 1) := by decide +kernel
theorem dX8_line_79 : decode cX8_line 79 = .ok (.invokevirtual 388, 3) := by decide +kernel
theorem dX8_line_82 : decode cX8_line 82 = .ok (.goto 43, 3) := by decide +kernel
theorem dX8_line_85 : decode cX8_line 85 = .ok (.aload_n 0, 1) := by decide +kernel
theorem dX8_line_86 : decode cX8_line 86 = .ok (.ldc2_w 353, 3) := by decide +kernel
theorem dX8_line_89 : decode cX8_line 89 = .ok (.invokevirtual 341, 3) := by decide +kernel
theorem dX8_line_92 : decode cX8_line 92 = .ok (.ifCond .eq 10, 3) := by decide +kernel
theorem dX8_line_95 : decode cX8_line 95 = .ok (.aload_n 0, 1) := by decide +kernel
theorem dX8_line_96 : decode cX8_line 96 = .ok (.invokevirtual 391, 3) := by decide +kernel
theorem dX8_line_99 : decode cX8_line 99 = .ok (.goto 26, 3) := by decide +kernel
theorem dX8_line_102 : decode cX8_line 102 = .ok (.aload_n 0, 1) := by decide +kernel
theorem dX8_line_103 : decode cX8_line 103 = .ok (.aload_n 0, 1) := by decide +kernel
theorem dX8_line_104 : decode cX8_line 104 = .ok (.ldc2_w 355, 3) := by decide +kernel
theorem dX8_line_107 : decode cX8_line 107 = .ok (.invokevirtual 341, 3) := by decide +kernel
theorem dX8_line_110 : decode cX8_line 110 = .ok (.iconst 2, 1) := by decide +kernel
theorem dX8_line_111 : decode cX8_line 111 = .ok (.invokevirtual 357, 3) := by decide +kernel
theorem dX8_line_114 : decode cX8_line 114 = .ok (.aload_n 0, 1) := by decide +kernel
theorem dX8_line_115 : decode cX8_line 115 = .ok (.invokevirtual 333, 3) := by decide +kernel
theorem dX8_line_118 : decode cX8_line 118 = .ok (.ifCond .eq 7, 3) := by decide +kernel
theorem dX8_line_121 : decode cX8_line 121 = .ok (.aload_n 0, 1) := by decide +kernel
theorem dX8_line_122 : decode cX8_line 122 = .ok (.invokevirtual 394, 3) := by decide +kernel
theorem dX8_line_125 : decode cX8_line 125 = .ok (.aload_n 0, 1) := by decide +kernel
theorem dX8_line_126 : decode cX8_line 126 = .ok (.dup, 1) := by decide +kernel
theorem dX8_line_127 : decode cX8_line 127 = .ok (.getfield 367, 3) := by decide +kernel
theorem dX8_line_130 : decode cX8_line 130 = .ok (.iconst 1, 1) := by decide +kernel
theorem dX8_line_131 : decode cX8_line 131 = .ok (.iadd, 1) := by decide +kernel
theorem dX8_line_132 : decode cX8_line 132 = .ok (.putfield 367, 3) := by decide +kernel
theorem dX8_line_135 : decode cX8_line 135 = .ok (.return_, 1) := by decide +kernel
set_option maxRecDepth 20000 in
theorem ggX8_load_X8_isIn : GoodIn wsX8_load wsX8_isIn := goodIn_r _ [20] (by decide +kernel) (by decide +kernel)
set_option maxRecDepth 20000 in
theorem gX8_load_X8_isIn : GoodIn wsX8_load (va_wsS RX8 57 yX8_isIn wsX8_isIn) := goodIn_app (goodIn_of _ (by decide +kernel)) ggX8_load_X8_isIn
set_option maxRecDepth 20000 in
theorem ggX8_load_X8_defaults : GoodIn wsX8_load wsX8_defaults := goodIn_r _ [23] (by decide +kernel) (by decide +kernel)
set_option maxRecDepth 20000 in
theorem gX8_load_X8_defaults : GoodIn wsX8_load (va_wsS RX8 47 yX8_defaults wsX8_defaults) := goodIn_app (goodIn_of _ (by decide +kernel)) ggX8_load_X8_defaults
set_option maxRecDepth 20000 in
theorem ggX8_load_X8_next : GoodIn wsX8_load wsX8_next := goodIn_r _ [27, 5, 28, 4, 29, 9, 30, 31, 32, 33, 34, 35, 36, 19, 37, 17, 18, 20, 140, 141, 142, 143, 144, 145, 146, 147, 148, 149, 150, 151, 152, 153, 154, 155, 156, 157, 158, 159, 160, 161, 162, 163, 164, 165, 166] (by decide +kernel) (by decide +kernel)
set_option maxRecDepth 20000 in
theorem gX8_load_X8_next : GoodIn wsX8_load (wsV RX8 336 RX8 yX8_next wsX8_next) := goodIn_app (goodIn_of _ (by decide +kernel)) ggX8_load_X8_next
set_option maxRecDepth 20000 in
theorem ggX8_load_X8_good : GoodIn wsX8_load wsX8_good := goodIn_r _ [41, 6, 140, 141, 142, 143, 144, 145, 146, 147, 148, 149, 150, 151, 152, 153, 154, 155, 156, 157, 158, 159, 160, 161, 162, 163, 164, 165, 166] (by decide +kernel) (by decide +kernel)
set_option maxRecDepth 20000 in
theorem gX8_load_X8_good : GoodIn wsX8_load (wsV RX8 333 RX8 yX8_good wsX8_good) := goodIn_app (goodIn_of _ (by decide +kernel)) ggX8_load_X8_good
set_option maxRecDepth 20000 in
theorem ggX8_load_X8_line : GoodIn wsX8_load wsX8_line := goodIn_r _ [45, 46, 47, 48, 49, 50, 51, 52, 7, 53, 54, 55, 19, 56, 9, 30, 38, 39, 40, 41, 6, 57, 58, 59, 60, 8, 61, 62, 63, 64, 28, 11, 65, 66, 67, 68, 24, 25, 26, 27, 5, 4, 29, 31, 32, 33, 34, 35, 36, 37, 17, 18, 20, 69, 70, 71, 72, 73, 74, 75, 76, 77, 78, 79, 80, 81, 82, 83, 84, 85, 86, 87, 88, 89, 90, 91, 92, 93, 94, 95, 96, 97, 98, 99, 100, 101, 102, 103, 104, 105, 106, 107, 108, 109, 110, 111, 112, 113, 114, 115, 116, 117, 118, 119, 120, 121, 122, 123, 124, 125, 126, 127, 128, 129, 130, 131, 132, 133, 134, 135, 136, 140, 141, 142, 143, 144, 145, 146, 147, 148, 149, 150, 151, 152, 153, 154, 155, 156, 157, 158, 159, 160, 161, 162, 163, 164, 165, 166] (by decide +kernel) (by decide +kernel)
set_option maxRecDepth 20000 in
theorem gX8_load_X8_line : GoodIn wsX8_load (wsV RX8 397 RX8 yX8_line wsX8_line) := goodIn_app (goodIn_of _ (by decide +kernel)) ggX8_load_X8_line
set_option maxRecDepth 20000 in
theorem ggX8_load_X8_must : GoodIn wsX8_load wsX8_must := goodIn_r _ [64, 6, 9, 28, 11, 140, 141, 142, 143, 144, 145, 146, 147, 148, 149, 150, 151, 152, 153, 154, 155, 156, 157, 158, 159, 160, 161, 162, 163, 164, 165, 166] (by decide +kernel) (by decide +kernel)
set_option maxRecDepth 20000 in
theorem gX8_load_X8_must : GoodIn wsX8_load (wsV RX8 357 RX8 yX8_must wsX8_must) := goodIn_app (goodIn_of _ (by decide +kernel)) ggX8_load_X8_must
set_option maxRecDepth 20000 in
theorem ggX8_load_X8_goesOn : GoodIn wsX8_load wsX8_goesOn := goodIn_r _ [68, 38, 39, 40, 19, 41, 6, 24, 25, 26, 27, 5, 28, 4, 29, 9, 30, 31, 32, 33, 34, 35, 36, 37, 17, 18, 20, 140, 141, 142, 143, 144, 145, 146, 147, 148, 149, 150, 151, 152, 153, 154, 155, 156, 157, 158, 159, 160, 161, 162, 163, 164, 165, 166] (by decide +kernel) (by decide +kernel)
set_option maxRecDepth 20000 in
theorem gX8_load_X8_goesOn : GoodIn wsX8_load (wsV RX8 364 RX8 yX8_goesOn wsX8_goesOn) := goodIn_app (goodIn_of _ (by decide +kernel)) ggX8_load_X8_goesOn
set_option maxRecDepth 20000 in
theorem ggX8_load_X8_copies : GoodIn wsX8_load wsX8_copies := goodIn_r _ [139] (by decide +kernel) (by decide +kernel)
set_option maxRecDepth 20000 in
theorem gX8_load_X8_copies : GoodIn wsX8_load (va_wsS RX8 129 yX8_copies wsX8_copies) := goodIn_app (goodIn_of _ (by decide +kernel)) ggX8_load_X8_copies
theorem dX8_load_0 : decode cX8_load 0 = .ok (.aload_n 0, 1) := by decide +kernel
theorem dX8_load_1 : decode cX8_load 1 = .ok (.iconst 0, 1) := by decide +kernel
theorem dX8_load_2 : decode cX8_load 2 = .ok (.putfield 51, 3) := by decide +kernel
theorem dX8_load_5 : decode cX8_load 5 = .ok (.iload_n 1, 1) := by decide +kernel
theorem dX8_load_6 : decode cX8_load 6 = .ok (.i2l, 1) := by decide +kernel
theorem dX8_load_7 : decode cX8_load 7 = .ok (.lconst 0, 1) := by decide +kernel
theorem dX8_load_8 : decode cX8_load 8 = .ok (.aload_n 0, 1) := by decide +kernel
theorem dX8_load_9 : decode cX8_load 9 = .ok (.getfield 294, 3) := by decide +kernel
theorem dX8_load_12 : decode cX8_load 12 = .ok (.i2l, 1) := by decide +kernel
theorem dX8_load_13 : decode cX8_load 13 = .ok (.invokestatic 57, 3) := by decide +kernel
theorem dX8_load_16 : decode cX8_load 16 = .ok (.ifCond .ne 6, 3) := by decide +kernel
theorem dX8_load_19 : decode cX8_load 19 = .ok (.ldc 224, 2) := by decide +kernel
theorem dX8_load_21 : decode cX8_load 21 = .ok (.ireturn, 1) := by decide +kernel
theorem dX8_load_22 : decode cX8_load 22 = .ok (.aload_n 0, 1) := by decide +kernel
theorem dX8_load_23 : decode cX8_load 23 = .ok (.iload_n 1, 1) := by decide +kernel
theorem dX8_load_24 : decode cX8_load 24 = .ok (.putfield 300, 3) := by decide +kernel
theorem dX8_load_27 : decode cX8_load 27 = .ok (.aload_n 0, 1) := by decide +kernel
theorem dX8_load_28 : decode cX8_load 28 = .ok (.iconst 0, 1) := by decide +kernel
theorem dX8_load_29 : decode cX8_load 29 = .ok (.putfield 303, 3) := by decide +kernel
theorem dX8_load_32 : decode cX8_load 32 = .ok (.aload_n 0, 1) := by decide +kernel
theorem dX8_load_33 : decode cX8_load 33 = .ok (.iconst 0, 1) := by decide +kernel
theorem dX8_load_34 : decode cX8_load 34 = .ok (.putfield 327, 3) := by decide +kernel
theorem dX8_load_37 : decode cX8_load 37 = .ok (.aload_n 0, 1) := by decide +kernel
theorem dX8_load_38 : decode cX8_load 38 = .ok (.iconst 0, 1) := by decide +kernel
theorem dX8_load_39 : decode cX8_load 39 = .ok (.putfield 367, 3) := by decide +kernel
theorem dX8_load_42 : decode cX8_load 42 = .ok (.aload_n 0, 1) := by decide +kernel
theorem dX8_load_43 : decode cX8_load 43 = .ok (.getfield 13, 3) := by decide +kernel
theorem dX8_load_46 : decode cX8_load 46 = .ok (.invokestatic 47, 3) := by decide +kernel
theorem dX8_load_49 : decode cX8_load 49 = .ok (.aload_n 0, 1) := by decide +kernel
theorem dX8_load_50 : decode cX8_load 50 = .ok (.invokevirtual 336, 3) := by decide +kernel
theorem dX8_load_53 : decode cX8_load 53 = .ok (.aload_n 0, 1) := by decide +kernel
theorem dX8_load_54 : decode cX8_load 54 = .ok (.invokevirtual 333, 3) := by decide +kernel
theorem dX8_load_57 : decode cX8_load 57 = .ok (.ifCond .eq 39, 3) := by decide +kernel
theorem dX8_load_60 : decode cX8_load 60 = .ok (.aload_n 0, 1) := by decide +kernel
theorem dX8_load_61 : decode cX8_load 61 = .ok (.getfield 313, 3) := by decide +kernel
theorem dX8_load_64 : decode cX8_load 64 = .ok (.ifCond .eq 32, 3) := by decide +kernel
theorem dX8_load_67 : decode cX8_load 67 = .ok (.aload_n 0, 1) := by decide +kernel
theorem dX8_load_68 : decode cX8_load 68 = .ok (.invokevirtual 397, 3) := by decide +kernel
theorem dX8_load_71 : decode cX8_load 71 = .ok (.aload_n 0, 1) := by decide +kernel
theorem dX8_load_72 : decode cX8_load 72 = .ok (.aload_n 0, 1) := by decide +kernel
theorem dX8_load_73 : decode cX8_load 73 = .ok (.getfield 313, 3) := by decide +kernel
theorem dX8_load_76 : decode cX8_load 76 = .ok (.iconst 3, 1) := by decide +kernel
theorem dX8_load_77 : decode cX8_load 77 = .ok (.if_icmp .ne 7, 3) := by decide +kernel
theorem dX8_load_80 : decode cX8_load 80 = .ok (.iconst 1, 1) := by decide +kernel
theorem dX8_load_81 : decode cX8_load 81 = .ok (.goto 4, 3) := by decide +kernel
theorem dX8_load_84 : decode cX8_load 84 = .ok (.iconst 0, 1) := by decide +kernel
theorem dX8_load_85 : decode cX8_load 85 = .ok (.iconst 2, 1) := by decide +kernel
theorem dX8_load_86 : decode cX8_load 86 = .ok (.invokevirtual 357, 3) := by decide +kernel
theorem dX8_load_89 : decode cX8_load 89 = .ok (.aload_n 0, 1) := by decide +kernel
theorem dX8_load_90 : decode cX8_load 90 = .ok (.invokevirtual 364, 3) := by decide +kernel
theorem dX8_load_93 : decode cX8_load 93 = .ok (.goto (-40), 3) := by decide +kernel
theorem dX8_load_96 : decode cX8_load 96 = .ok (.aload_n 0, 1) := by decide +kernel
theorem dX8_load_97 : decode cX8_load 97 = .ok (.iconst 0, 1) := by decide +kernel
theorem dX8_load_98 : decode cX8_load 98 = .ok (.putfield 294, 3) := by decide +kernel
theorem dX8_load_101 : decode cX8_load 101 = .ok (.aload_n 0, 1) := by decide +kernel
theorem dX8_load_102 : decode cX8_load 102 = .ok (.aload_n 0, 1) := by decide +kernel
theorem dX8_load_103 : decode cX8_load 103 = .ok (.getfield 327, 3) := by decide +kernel
theorem dX8_load_106 : decode cX8_load 106 = .ok (.putfield 400, 3) := by decide +kernel
theorem dX8_load_109 : decode cX8_load 109 = .ok (.aload_n 0, 1) := by decide +kernel
theorem dX8_load_110 : decode cX8_load 110 = .ok (.aload_n 0, 1) := by decide +kernel
theorem dX8_load_111 : decode cX8_load 111 = .ok (.getfield 327, 3) := by decide +kernel
theorem dX8_load_114 : decode cX8_load 114 = .ok (.ifCond .le 10, 3) := by decide +kernel
theorem dX8_load_117 : decode cX8_load 117 = .ok (.aload_n 0, 1) := by decide +kernel
theorem dX8_load_118 : decode cX8_load 118 = .ok (.getfield 330, 3) := by decide +kernel
theorem dX8_load_121 : decode cX8_load 121 = .ok (.goto 5, 3) := by decide +kernel
theorem dX8_load_124 : decode cX8_load 124 = .ok (.ldc 42, 2) := by decide +kernel
theorem dX8_load_126 : decode cX8_load 126 = .ok (.putfield 43, 3) := by decide +kernel
theorem dX8_load_129 : decode cX8_load 129 = .ok (.aload_n 0, 1) := by decide +kernel
theorem dX8_load_130 : decode cX8_load 130 = .ok (.getfield 327, 3) := by decide +kernel
theorem dX8_load_133 : decode cX8_load 133 = .ok (.ifCond .le 7, 3) := by decide +kernel
theorem dX8_load_136 : decode cX8_load 136 = .ok (.ldc_w 403, 3) := by decide +kernel
theorem dX8_load_139 : decode cX8_load 139 = .ok (.ireturn, 1) := by decide +kernel
theorem dX8_load_140 : decode cX8_load 140 = .ok (.aload_n 0, 1) := by decide +kernel
theorem dX8_load_141 : decode cX8_load 141 = .ok (.getfield 13, 3) := by decide +kernel
theorem dX8_load_144 : decode cX8_load 144 = .ok (.aload_n 0, 1) := by decide +kernel
theorem dX8_load_145 : decode cX8_load 145 = .ok (.getfield 7, 3) := by decide +kernel
theorem dX8_load_148 : decode cX8_load 148 = .ok (.invokestatic 129, 3) := by decide +kernel
theorem dX8_load_151 : decode cX8_load 151 = .ok (.aload_n 0, 1) := by decide +kernel
theorem dX8_load_152 : decode cX8_load 152 = .ok (.iconst 0, 1) := by decide +kernel
theorem dX8_load_153 : decode cX8_load 153 = .ok (.putfield 54, 3) := by decide +kernel
theorem dX8_load_156 : decode cX8_load 156 = .ok (.aload_n 0, 1) := by decide +kernel
theorem dX8_load_157 : decode cX8_load 157 = .ok (.getfield 7, 3) := by decide +kernel
theorem dX8_load_160 : decode cX8_load 160 = .ok (.bipush 9, 2) := by decide +kernel
theorem dX8_load_162 : decode cX8_load 162 = .ok (.iaload, 1) := by decide +kernel
theorem dX8_load_163 : decode cX8_load 163 = .ok (.ireturn, 1) := by decide +kernel
theorem dX8_errorKind_0 : decode cX8_errorKind 0 = .ok (.aload_n 0, 1) := by decide +kernel
theorem dX8_errorKind_1 : decode cX8_errorKind 1 = .ok (.iconst 0, 1) := by decide +kernel
theorem dX8_errorKind_2 : decode cX8_errorKind 2 = .ok (.putfield 51, 3) := by decide +kernel
theorem dX8_errorKind_5 : decode cX8_errorKind 5 = .ok (.aload_n 0, 1) := by decide +kernel
theorem dX8_errorKind_6 : decode cX8_errorKind 6 = .ok (.getfield 400, 3) := by decide +kernel
theorem dX8_errorKind_9 : decode cX8_errorKind 9 = .ok (.ireturn, 1) := by decide +kernel
theorem dX8_errorPosition_0 : decode cX8_errorPosition 0 = .ok (.aload_n 0, 1) := by decide +kernel
theorem dX8_errorPosition_1 : decode cX8_errorPosition 1 = .ok (.iconst 0, 1) := by decide +kernel
theorem dX8_errorPosition_2 : decode cX8_errorPosition 2 = .ok (.putfield 51, 3) := by decide +kernel
theorem dX8_errorPosition_5 : decode cX8_errorPosition 5 = .ok (.aload_n 0, 1) := by decide +kernel
theorem dX8_errorPosition_6 : decode cX8_errorPosition 6 = .ok (.getfield 43, 3) := by decide +kernel
theorem dX8_errorPosition_9 : decode cX8_errorPosition 9 = .ok (.ireturn, 1) := by decide +kernel
abbrev rm_X8_goesOn : Room := { frames := 3, cells := 0, slots := 0, locals := 68 }
set_option maxRecDepth 100000 in
set_option maxHeartbeats 4000000 in
theorem ct_X8_goesOn (l : Launch) (g : GT) (hfl : 2 ≤ gf g) (w : WT) (md : SD) (mn : Nat → Int64) (mw : Int64) {q : (SD × Int64)} (hf : f_X8_goesOn md mw  = some q) : Met l yX8_goesOn wsX8_goesOn rm_X8_goesOn (cPre g (wM w md mn mw) [.ref (adr (g.1 + 189) 8 0)]) (cQv g (wM w q.1 mn q.2)) 0 0 (gA g) := by
  refine x_met (by decide) rfl (Nat.le_of_ble_eq_true rfl) ?_
  intro p e s m below meth c hx hb hr hml hts hown hlocks hK hW hS ls hl
  have hown : s.vm.findClass RX8 = some m.cls := hown
  have hl : lv_has ls 1 [(0, .ref (adr (g.1 + 189) 8 0))] := hl
  rw [f_X8_goesOn] at hf
  refine lv_aload_n hx hb dX8_goesOn_0 rfl (lv_at hl 0 rfl) ?_
  obtain ⟨q1, h_q1, hf⟩ := x_bindE hf
  refine x_ci0 (x_rV ⟨hx, hb, hml, hown, hts⟩ (ct_X8_good l g hfl w md mn mw  h_q1) (cwV 0 hts gX8_goesOn_X8_good rfl rfl rfl (by decide +kernel) ⟨Nat.le_of_ble_eq_true rfl, Nat.le_of_ble_eq_true rfl⟩) hK hW hS (x_recv (i := (g.1 + 189)) (k := 8) (j := 0) hK hW ⟨⟨hfl, rfl⟩, by decide⟩ rfl (by decide)) rfl hl.1 (rest := []) rfl (Nat.le_of_ble_eq_true rfl) dX8_goesOn_1 ⟨Nat.le_of_ble_eq_true rfl, Nat.le_of_ble_eq_true rfl⟩) hS (fun H locs hW hS => ?_)
  have hW : World g (wM w md mn mw) H := hW
  refine W.eq (g2 := F0 m 4 ls [.int q1]) rfl ?_
  refine lv_if_eq (tgt := 11) hx hb dX8_goesOn_4 (by decide) (fun hc => ?_) (fun hc => ?_)
  · have hf := x_iteT hf hc
    cases hf
    exact x_vret hx hb hr hlocks hK hW hS dX8_goesOn_11
  · have hf := x_iteF hf hc
    refine lv_aload_n hx hb dX8_goesOn_7 rfl (lv_at hl 0 rfl) ?_
    obtain ⟨q2, h_q2, hf⟩ := x_bindE hf
    refine x_cv0 (x_rV ⟨hx, hb, hml, hown, hts⟩ (ct_X8_next l g hfl w md mn mw  h_q2) (cwV 0 hts gX8_goesOn_X8_next rfl rfl rfl (by decide +kernel) ⟨Nat.le_of_ble_eq_true rfl, Nat.le_of_ble_eq_true rfl⟩) hK hW hS (x_recv (i := (g.1 + 189)) (k := 8) (j := 0) hK hW ⟨⟨hfl, rfl⟩, by decide⟩ rfl (by decide)) rfl hl.1 (rest := []) rfl (Nat.le_of_ble_eq_true rfl) dX8_goesOn_8 ⟨Nat.le_of_ble_eq_true rfl, Nat.le_of_ble_eq_true rfl⟩) hS (fun H locs hW hS => ?_)
    have hW : World g (wM w q2.1 mn q2.2) H := hW
    cases hf
    exact x_vret hx hb hr hlocks hK hW hS dX8_goesOn_11
abbrev rm_X8_isWord : Room := { frames := 1, cells := 0, slots := 0, locals := 20 }
set_option maxRecDepth 100000 in
set_option maxHeartbeats 4000000 in
theorem ct_X8_isWord (l : Launch) (g : GT) (hfl : 2 ≤ gf g) (w : WT) (md : SD) (mn : Nat → Int64) (mw : Int64) (a1 : Int64) {q : Int32} (hf : f_X8_isWord md mw a1 = some q) : Met l yX8_isWord wsX8_isWord rm_X8_isWord (cPre g (wM w md mn mw) [.ref (adr (g.1 + 189) 8 0), .long a1]) (cQi g q (wM w md mn mw)) 0 0 (gA g) := by
  have i_8 : ∀ w ∈ u_ws RX8 TX8 27, w ∈ wsX8_isWord := by decide +kernel
  refine x_met (by decide) rfl (Nat.le_of_ble_eq_true rfl) ?_
  intro p e s m below meth c hx hb hr hml hts hown hlocks hK hW hS ls hl
  have hown : s.vm.findClass RX8 = some m.cls := hown
  have hl : lv_has ls 3 [(0, .ref (adr (g.1 + 189) 8 0)), (1, .long a1)] := hl
  rw [f_X8_isWord] at hf
  refine lv_aload_n hx hb dX8_isWord_0 rfl (lv_at hl 0 rfl) ?_
  obtain ⟨q1, h_q1, hf⟩ := x_bindE hf
  refine x_ci0 (x_rV ⟨hx, hb, hml, hown, hts⟩ (ct_X8_good l g hfl w md mn mw  h_q1) (cwV 0 hts gX8_isWord_X8_good rfl rfl rfl (by decide +kernel) ⟨Nat.le_of_ble_eq_true rfl, Nat.le_of_ble_eq_true rfl⟩) hK hW hS (x_recv (i := (g.1 + 189)) (k := 8) (j := 0) hK hW ⟨⟨hfl, rfl⟩, by decide⟩ rfl (by decide)) rfl hl.1 (rest := []) rfl (Nat.le_of_ble_eq_true rfl) dX8_isWord_1 ⟨Nat.le_of_ble_eq_true rfl, Nat.le_of_ble_eq_true rfl⟩) hS (fun H locs hW hS => ?_)
  have hW : World g (wM w md mn mw) H := hW
  refine W.eq (g2 := F0 m 4 ls [.int q1]) rfl ?_
  refine lv_if_eq (tgt := 28) hx hb dX8_isWord_4 (by decide) (fun hc => ?_) (fun hc => ?_)
  · have hf := x_iteT hf hc
    refine lv_iconst (v := 0) hx hb dX8_isWord_28 (by decide) ?_
    cases hf
    exact x_zret hx hb hr hlocks hK hW hS (Or.inl rfl) rfl dX8_isWord_29
  · have hf := x_iteF hf hc
    refine lv_aload_n hx hb dX8_isWord_7 rfl (lv_at hl 0 rfl) ?_
    refine x_get (i := (g.1 + 189)) (k := 8) (j := 0) (t := 22) hx hb hts i_8 hown hK hW ⟨⟨hfl, rfl⟩, by decide⟩ rfl ⟨by decide, by decide, rfl⟩ (hts (.fieldLink RX8 313 "OpticalJukeboxModel" "sort" "I") (by decide +kernel)) (rfl) dX8_isWord_8 ?_
    refine lv_iconst (v := 1) hx hb dX8_isWord_11 (by decide) ?_
    refine lv_icmp_ne (tgt := 28) hx hb dX8_isWord_12 (by decide) (fun hc => ?_) (fun hc => ?_)
    · have hf := x_iteF hf hc
      refine lv_iconst (v := 0) hx hb dX8_isWord_28 (by decide) ?_
      cases hf
      exact x_zret hx hb hr hlocks hK hW hS (Or.inl rfl) rfl dX8_isWord_29
    · have hf := x_iteT hf hc
      refine lv_aload_n hx hb dX8_isWord_15 rfl (lv_at hl 0 rfl) ?_
      refine x_get (i := (g.1 + 189)) (k := 8) (j := 0) (t := 26) hx hb hts i_8 hown hK hW ⟨⟨hfl, rfl⟩, by decide⟩ rfl ⟨by decide, by decide, rfl⟩ (hts (.fieldLink RX8 316 "OpticalJukeboxModel" "word" "J") (by decide +kernel)) rfl dX8_isWord_16 ?_
      refine lv_lload_n hx hb dX8_isWord_19 rfl (lv_at hl 1 rfl) ?_
      refine W.lcmp hx hb dX8_isWord_20 ?_
      refine lv_if_ne (tgt := 28) hx hb dX8_isWord_21 (by decide) (fun hc => ?_) (fun hc => ?_)
      · have hf := x_iteF hf hc
        refine lv_iconst (v := 0) hx hb dX8_isWord_28 (by decide) ?_
        cases hf
        exact x_zret hx hb hr hlocks hK hW hS (Or.inl rfl) rfl dX8_isWord_29
      · have hf := x_iteT hf hc
        refine lv_iconst (v := 1) hx hb dX8_isWord_24 (by decide) ?_
        refine lv_goto (tgt := 29) hx hb dX8_isWord_25 (by decide) ?_
        cases hf
        exact x_zret hx hb hr hlocks hK hW hS (Or.inr rfl) rfl dX8_isWord_29
abbrev rm_X8_isReserved : Room := { frames := 2, cells := 0, slots := 0, locals := 42 }
set_option maxRecDepth 100000 in
set_option maxHeartbeats 4000000 in
theorem ct_X8_isReserved (l : Launch) (g : GT) (hfl : 2 ≤ gf g) (w : WT) (md : SD) (mn : Nat → Int64) (mw : Int64) {q : Int32} (hf : f_X8_isReserved md mw  = some q) : Met l yX8_isReserved wsX8_isReserved rm_X8_isReserved (cPre g (wM w md mn mw) [.ref (adr (g.1 + 189) 8 0)]) (cQi g q (wM w md mn mw)) 0 0 (gA g) := by
  refine x_met (by decide) rfl (Nat.le_of_ble_eq_true rfl) ?_
  intro p e s m below meth c hx hb hr hml hts hown hlocks hK hW hS ls hl
  have hown : s.vm.findClass RX8 = some m.cls := hown
  have hl : lv_has ls 1 [(0, .ref (adr (g.1 + 189) 8 0))] := hl
  rw [f_X8_isReserved] at hf
  refine lv_aload_n hx hb dX8_isReserved_0 rfl (lv_at hl 0 rfl) ?_
  refine lv_ldc2 (v := 10345069) hx hb hown (hts (.constantLong RX8 339 (10345069)) (by decide +kernel)) dX8_isReserved_1 ?_
  obtain ⟨q1, h_q1, hf⟩ := x_bindE hf
  refine x_ci0 (x_rV ⟨hx, hb, hml, hown, hts⟩ (ct_X8_isWord l g hfl w md mn mw ((10345069 : Int64)) h_q1) (cwV 1 hts gX8_isReserved_X8_isWord rfl rfl rfl (by decide +kernel) ⟨Nat.le_of_ble_eq_true rfl, Nat.le_of_ble_eq_true rfl⟩) hK hW hS (x_recv (i := (g.1 + 189)) (k := 8) (j := 0) hK hW ⟨⟨hfl, rfl⟩, by decide⟩ rfl (by decide)) rfl hl.1 (rest := []) rfl (Nat.le_of_ble_eq_true rfl) dX8_isReserved_4 ⟨Nat.le_of_ble_eq_true rfl, Nat.le_of_ble_eq_true rfl⟩) hS (fun H locs hW hS => ?_)
  have hW : World g (wM w md mn mw) H := hW
  refine W.eq (g2 := F0 m 7 ls [.int q1]) rfl ?_
  refine lv_if_ne (tgt := 70) hx hb dX8_isReserved_7 (by decide) (fun hc => ?_) (fun hc => ?_)
  · have hf := x_iteF hf hc
    refine lv_iconst (v := 1) hx hb dX8_isReserved_70 (by decide) ?_
    refine lv_goto (tgt := 75) hx hb dX8_isReserved_71 (by decide) ?_
    cases hf
    exact x_zret hx hb hr hlocks hK hW hS (Or.inr rfl) rfl dX8_isReserved_75
  · have hf := x_iteT hf hc
    refine lv_aload_n hx hb dX8_isReserved_10 rfl (lv_at hl 0 rfl) ?_
    refine lv_ldc2 (v := 2487218) hx hb hown (hts (.constantLong RX8 345 (2487218)) (by decide +kernel)) dX8_isReserved_11 ?_
    obtain ⟨q2, h_q2, hf⟩ := x_bindE hf
    refine x_ci0 (x_rV ⟨hx, hb, hml, hown, hts⟩ (ct_X8_isWord l g hfl w md mn mw ((2487218 : Int64)) h_q2) (cwV 1 hts gX8_isReserved_X8_isWord rfl rfl rfl (by decide +kernel) ⟨Nat.le_of_ble_eq_true rfl, Nat.le_of_ble_eq_true rfl⟩) hK hW hS (x_recv (i := (g.1 + 189)) (k := 8) (j := 0) hK hW ⟨⟨hfl, rfl⟩, by decide⟩ rfl (by decide)) rfl hl.1 (rest := []) rfl (Nat.le_of_ble_eq_true rfl) dX8_isReserved_14 ⟨Nat.le_of_ble_eq_true rfl, Nat.le_of_ble_eq_true rfl⟩) hS (fun H locs hW hS => ?_)
    have hW : World g (wM w md mn mw) H := hW
    refine W.eq (g2 := F0 m 17 ls [.int q2]) rfl ?_
    refine lv_if_ne (tgt := 70) hx hb dX8_isReserved_17 (by decide) (fun hc => ?_) (fun hc => ?_)
    · have hf := x_iteF hf hc
      refine lv_iconst (v := 1) hx hb dX8_isReserved_70 (by decide) ?_
      refine lv_goto (tgt := 75) hx hb dX8_isReserved_71 (by decide) ?_
      cases hf
      exact x_zret hx hb hr hlocks hK hW hS (Or.inr rfl) rfl dX8_isReserved_75
    · have hf := x_iteT hf hc
      refine lv_aload_n hx hb dX8_isReserved_20 rfl (lv_at hl 0 rfl) ?_
      refine lv_ldc2 (v := 400577) hx hb hown (hts (.constantLong RX8 347 (400577)) (by decide +kernel)) dX8_isReserved_21 ?_
      obtain ⟨q3, h_q3, hf⟩ := x_bindE hf
      refine x_ci0 (x_rV ⟨hx, hb, hml, hown, hts⟩ (ct_X8_isWord l g hfl w md mn mw ((400577 : Int64)) h_q3) (cwV 1 hts gX8_isReserved_X8_isWord rfl rfl rfl (by decide +kernel) ⟨Nat.le_of_ble_eq_true rfl, Nat.le_of_ble_eq_true rfl⟩) hK hW hS (x_recv (i := (g.1 + 189)) (k := 8) (j := 0) hK hW ⟨⟨hfl, rfl⟩, by decide⟩ rfl (by decide)) rfl hl.1 (rest := []) rfl (Nat.le_of_ble_eq_true rfl) dX8_isReserved_24 ⟨Nat.le_of_ble_eq_true rfl, Nat.le_of_ble_eq_true rfl⟩) hS (fun H locs hW hS => ?_)
      have hW : World g (wM w md mn mw) H := hW
      refine W.eq (g2 := F0 m 27 ls [.int q3]) rfl ?_
      refine lv_if_ne (tgt := 70) hx hb dX8_isReserved_27 (by decide) (fun hc => ?_) (fun hc => ?_)
      · have hf := x_iteF hf hc
        refine lv_iconst (v := 1) hx hb dX8_isReserved_70 (by decide) ?_
        refine lv_goto (tgt := 75) hx hb dX8_isReserved_71 (by decide) ?_
        cases hf
        exact x_zret hx hb hr hlocks hK hW hS (Or.inr rfl) rfl dX8_isReserved_75
      · have hf := x_iteT hf hc
        refine lv_aload_n hx hb dX8_isReserved_30 rfl (lv_at hl 0 rfl) ?_
        refine lv_ldc2 (v := 6371854542) hx hb hown (hts (.constantLong RX8 349 (6371854542)) (by decide +kernel)) dX8_isReserved_31 ?_
        obtain ⟨q4, h_q4, hf⟩ := x_bindE hf
        refine x_ci0 (x_rV ⟨hx, hb, hml, hown, hts⟩ (ct_X8_isWord l g hfl w md mn mw ((6371854542 : Int64)) h_q4) (cwV 1 hts gX8_isReserved_X8_isWord rfl rfl rfl (by decide +kernel) ⟨Nat.le_of_ble_eq_true rfl, Nat.le_of_ble_eq_true rfl⟩) hK hW hS (x_recv (i := (g.1 + 189)) (k := 8) (j := 0) hK hW ⟨⟨hfl, rfl⟩, by decide⟩ rfl (by decide)) rfl hl.1 (rest := []) rfl (Nat.le_of_ble_eq_true rfl) dX8_isReserved_34 ⟨Nat.le_of_ble_eq_true rfl, Nat.le_of_ble_eq_true rfl⟩) hS (fun H locs hW hS => ?_)
        have hW : World g (wM w md mn mw) H := hW
        refine W.eq (g2 := F0 m 37 ls [.int q4]) rfl ?_
        refine lv_if_ne (tgt := 70) hx hb dX8_isReserved_37 (by decide) (fun hc => ?_) (fun hc => ?_)
        · have hf := x_iteF hf hc
          refine lv_iconst (v := 1) hx hb dX8_isReserved_70 (by decide) ?_
          refine lv_goto (tgt := 75) hx hb dX8_isReserved_71 (by decide) ?_
          cases hf
          exact x_zret hx hb hr hlocks hK hW hS (Or.inr rfl) rfl dX8_isReserved_75
        · have hf := x_iteT hf hc
          refine lv_aload_n hx hb dX8_isReserved_40 rfl (lv_at hl 0 rfl) ?_
          refine lv_ldc2 (v := 1489) hx hb hown (hts (.constantLong RX8 351 (1489)) (by decide +kernel)) dX8_isReserved_41 ?_
          obtain ⟨q5, h_q5, hf⟩ := x_bindE hf
          refine x_ci0 (x_rV ⟨hx, hb, hml, hown, hts⟩ (ct_X8_isWord l g hfl w md mn mw ((1489 : Int64)) h_q5) (cwV 1 hts gX8_isReserved_X8_isWord rfl rfl rfl (by decide +kernel) ⟨Nat.le_of_ble_eq_true rfl, Nat.le_of_ble_eq_true rfl⟩) hK hW hS (x_recv (i := (g.1 + 189)) (k := 8) (j := 0) hK hW ⟨⟨hfl, rfl⟩, by decide⟩ rfl (by decide)) rfl hl.1 (rest := []) rfl (Nat.le_of_ble_eq_true rfl) dX8_isReserved_44 ⟨Nat.le_of_ble_eq_true rfl, Nat.le_of_ble_eq_true rfl⟩) hS (fun H locs hW hS => ?_)
          have hW : World g (wM w md mn mw) H := hW
          refine W.eq (g2 := F0 m 47 ls [.int q5]) rfl ?_
          refine lv_if_ne (tgt := 70) hx hb dX8_isReserved_47 (by decide) (fun hc => ?_) (fun hc => ?_)
          · have hf := x_iteF hf hc
            refine lv_iconst (v := 1) hx hb dX8_isReserved_70 (by decide) ?_
            refine lv_goto (tgt := 75) hx hb dX8_isReserved_71 (by decide) ?_
            cases hf
            exact x_zret hx hb hr hlocks hK hW hS (Or.inr rfl) rfl dX8_isReserved_75
          · have hf := x_iteT hf hc
            refine lv_aload_n hx hb dX8_isReserved_50 rfl (lv_at hl 0 rfl) ?_
            refine lv_ldc2 (v := 124988) hx hb hown (hts (.constantLong RX8 353 (124988)) (by decide +kernel)) dX8_isReserved_51 ?_
            obtain ⟨q6, h_q6, hf⟩ := x_bindE hf
            refine x_ci0 (x_rV ⟨hx, hb, hml, hown, hts⟩ (ct_X8_isWord l g hfl w md mn mw ((124988 : Int64)) h_q6) (cwV 1 hts gX8_isReserved_X8_isWord rfl rfl rfl (by decide +kernel) ⟨Nat.le_of_ble_eq_true rfl, Nat.le_of_ble_eq_true rfl⟩) hK hW hS (x_recv (i := (g.1 + 189)) (k := 8) (j := 0) hK hW ⟨⟨hfl, rfl⟩, by decide⟩ rfl (by decide)) rfl hl.1 (rest := []) rfl (Nat.le_of_ble_eq_true rfl) dX8_isReserved_54 ⟨Nat.le_of_ble_eq_true rfl, Nat.le_of_ble_eq_true rfl⟩) hS (fun H locs hW hS => ?_)
            have hW : World g (wM w md mn mw) H := hW
            refine W.eq (g2 := F0 m 57 ls [.int q6]) rfl ?_
            refine lv_if_ne (tgt := 70) hx hb dX8_isReserved_57 (by decide) (fun hc => ?_) (fun hc => ?_)
            · have hf := x_iteF hf hc
              refine lv_iconst (v := 1) hx hb dX8_isReserved_70 (by decide) ?_
              refine lv_goto (tgt := 75) hx hb dX8_isReserved_71 (by decide) ?_
              cases hf
              exact x_zret hx hb hr hlocks hK hW hS (Or.inr rfl) rfl dX8_isReserved_75
            · have hf := x_iteT hf hc
              refine lv_aload_n hx hb dX8_isReserved_60 rfl (lv_at hl 0 rfl) ?_
              refine lv_ldc2 (v := 1841972) hx hb hown (hts (.constantLong RX8 355 (1841972)) (by decide +kernel)) dX8_isReserved_61 ?_
              obtain ⟨q7, h_q7, hf⟩ := x_bindE hf
              refine x_ci0 (x_rV ⟨hx, hb, hml, hown, hts⟩ (ct_X8_isWord l g hfl w md mn mw ((1841972 : Int64)) h_q7) (cwV 1 hts gX8_isReserved_X8_isWord rfl rfl rfl (by decide +kernel) ⟨Nat.le_of_ble_eq_true rfl, Nat.le_of_ble_eq_true rfl⟩) hK hW hS (x_recv (i := (g.1 + 189)) (k := 8) (j := 0) hK hW ⟨⟨hfl, rfl⟩, by decide⟩ rfl (by decide)) rfl hl.1 (rest := []) rfl (Nat.le_of_ble_eq_true rfl) dX8_isReserved_64 ⟨Nat.le_of_ble_eq_true rfl, Nat.le_of_ble_eq_true rfl⟩) hS (fun H locs hW hS => ?_)
              have hW : World g (wM w md mn mw) H := hW
              refine W.eq (g2 := F0 m 67 ls [.int q7]) rfl ?_
              refine lv_if_eq (tgt := 74) hx hb dX8_isReserved_67 (by decide) (fun hc => ?_) (fun hc => ?_)
              · have hf := x_iteT hf hc
                refine lv_iconst (v := 0) hx hb dX8_isReserved_74 (by decide) ?_
                cases hf
                exact x_zret hx hb hr hlocks hK hW hS (Or.inl rfl) rfl dX8_isReserved_75
              · have hf := x_iteF hf hc
                refine lv_iconst (v := 1) hx hb dX8_isReserved_70 (by decide) ?_
                refine lv_goto (tgt := 75) hx hb dX8_isReserved_71 (by decide) ?_
                cases hf
                exact x_zret hx hb hr hlocks hK hW hS (Or.inr rfl) rfl dX8_isReserved_75
abbrev rm_X8_sees : Room := { frames := 1, cells := 0, slots := 0, locals := 25 }
set_option maxRecDepth 100000 in
set_option maxHeartbeats 4000000 in
theorem ct_X8_sees (l : Launch) (g : GT) (hfl : 2 ≤ gf g) (w : WT) (md : SD) (mn : Nat → Int64) (mw : Int64) (a1 : Int32) (a2 : Int32) {q : (Int32 × SD)} (hf : f_X8_sees md a1 a2 = some q) : Met l yX8_sees wsX8_sees rm_X8_sees (cPre g (wM w md mn mw) [.ref (adr (g.1 + 189) 8 0), .int a1, .int a2]) (cQi g q.1 (wM w q.2 mn mw)) 0 0 (gA g) := by
  have i_8 : ∀ w ∈ u_ws RX8 TX8 27, w ∈ wsX8_sees := by decide +kernel
  refine x_met (by decide) rfl (Nat.le_of_ble_eq_true rfl) ?_
  intro p e s m below meth c hx hb hr hml hts hown hlocks hK hW hS ls hl
  have hown : s.vm.findClass RX8 = some m.cls := hown
  have hl : lv_has ls 3 [(0, .ref (adr (g.1 + 189) 8 0)), (1, .int a1), (2, .int a2)] := hl
  rw [f_X8_sees] at hf
  refine lv_aload_n hx hb dX8_sees_0 rfl (lv_at hl 0 rfl) ?_
  refine lv_aload_n hx hb dX8_sees_1 rfl (lv_at hl 0 rfl) ?_
  refine x_get (i := (g.1 + 189)) (k := 8) (j := 0) (t := 22) hx hb hts i_8 hown hK hW ⟨⟨hfl, rfl⟩, by decide⟩ rfl ⟨by decide, by decide, rfl⟩ (hts (.fieldLink RX8 313 "OpticalJukeboxModel" "sort" "I") (by decide +kernel)) (rfl) dX8_sees_2 ?_
  refine lv_iconst (v := 2) hx hb dX8_sees_5 (by decide) ?_
  obtain ⟨K1, eK1, hf⟩ := x_letE hf
  have KK1 : ∀ (y2 : Int32) (ls : Array Slot) (H : Heap) (locs : List Loc), lv_has ls 3 [(0, .ref (adr (g.1 + 189) 8 0)), (1, .int a1), (2, .int a2)] → World g (wM w md mn mw) H → va_S (gA g) s.heap H locs → K1 y2 = some q → W p l e rm_X8_sees s m [.ref (adr (g.1 + 189) 8 0), .int a1, .int a2].toArray below meth c H locs 0 0 (MQ below (cQi g q.1 (wM w q.2 mn mw)) [.ref (adr (g.1 + 189) 8 0), .int a1, .int a2].toArray s 0 0 (gA g)) (F0 m 14 ls [.int y2, .ref (adr (g.1 + 189) 8 0)]) := by
    intro y2 ls H locs hl hW hS hf
    subst eK1
    refine lv_iconst (v := 2) hx hb dX8_sees_14 (by decide) ?_
    obtain ⟨q3, h_q3, hf⟩ := x_bindE hf
    refine x_cv0 (x_rV ⟨hx, hb, hml, hown, hts⟩ (ct_X8_must l g hfl w md mn mw (y2) ((2 : Int32)) h_q3) (cwV 2 hts gX8_sees_X8_must rfl rfl rfl (by decide +kernel) ⟨Nat.le_of_ble_eq_true rfl, Nat.le_of_ble_eq_true rfl⟩) hK hW hS (x_recv (i := (g.1 + 189)) (k := 8) (j := 0) hK hW ⟨⟨hfl, rfl⟩, by decide⟩ rfl (by decide)) rfl hl.1 (rest := []) rfl (Nat.le_of_ble_eq_true rfl) dX8_sees_15 ⟨Nat.le_of_ble_eq_true rfl, Nat.le_of_ble_eq_true rfl⟩) hS (fun H locs hW hS => ?_)
    have hW : World g (wM w q3 mn mw) H := hW
    refine lv_aload_n hx hb dX8_sees_18 rfl (lv_at hl 0 rfl) ?_
    refine lv_aload_n hx hb dX8_sees_19 rfl (lv_at hl 0 rfl) ?_
    refine x_get (i := (g.1 + 189)) (k := 8) (j := 0) (t := 23) hx hb hts i_8 hown hK hW ⟨⟨hfl, rfl⟩, by decide⟩ rfl ⟨by decide, by decide, rfl⟩ (hts (.fieldLink RX8 324 "OpticalJukeboxModel" "number" "I") (by decide +kernel)) (rfl) dX8_sees_20 ?_
    refine lv_i2l hx hb dX8_sees_23 rfl ?_
    refine lv_iload_n hx hb dX8_sees_24 rfl (lv_at hl 1 rfl) ?_
    refine lv_i2l hx hb dX8_sees_25 rfl ?_
    refine lv_iload_n hx hb dX8_sees_26 rfl (lv_at hl 2 rfl) ?_
    refine lv_i2l hx hb dX8_sees_27 rfl ?_
    obtain ⟨q4, h_q4, hf⟩ := x_bindE hf
    refine x_ci0 (x_rS ⟨hx, hb, hml, hown, hts⟩ (ct_X8_isIn l g (wM w q3 mn mw) (((q3 8 0 23)).toInt64) ((a1).toInt64) ((a2).toInt64) h_q4) (va_cwS 3 hts gX8_sees_X8_isIn rfl rfl rfl (by decide +kernel) ⟨Nat.le_of_ble_eq_true rfl, Nat.le_of_ble_eq_true rfl⟩) hK hW hS rfl hl.1 (rest := [.ref (adr (g.1 + 189) 8 0)]) rfl (Nat.le_of_ble_eq_true rfl) dX8_sees_28 ⟨Nat.le_of_ble_eq_true rfl, Nat.le_of_ble_eq_true rfl⟩) hS (fun H locs hW hS => ?_)
    have hW : World g (wM w q3 mn mw) H := hW
    refine W.eq (g2 := F0 m 31 ls [.int q4, .ref (adr (g.1 + 189) 8 0)]) rfl ?_
    refine lv_iconst (v := 3) hx hb dX8_sees_31 (by decide) ?_
    obtain ⟨q5, h_q5, hf⟩ := x_bindE hf
    refine x_cv0 (x_rV ⟨hx, hb, hml, hown, hts⟩ (ct_X8_must l g hfl w q3 mn mw (q4) ((3 : Int32)) h_q5) (cwV 2 hts gX8_sees_X8_must rfl rfl rfl (by decide +kernel) ⟨Nat.le_of_ble_eq_true rfl, Nat.le_of_ble_eq_true rfl⟩) hK hW hS (x_recv (i := (g.1 + 189)) (k := 8) (j := 0) hK hW ⟨⟨hfl, rfl⟩, by decide⟩ rfl (by decide)) rfl hl.1 (rest := []) rfl (Nat.le_of_ble_eq_true rfl) dX8_sees_32 ⟨Nat.le_of_ble_eq_true rfl, Nat.le_of_ble_eq_true rfl⟩) hS (fun H locs hW hS => ?_)
    have hW : World g (wM w q5 mn mw) H := hW
    refine lv_aload_n hx hb dX8_sees_35 rfl (lv_at hl 0 rfl) ?_
    obtain ⟨q6, h_q6, hf⟩ := x_bindE hf
    refine x_ci0 (x_rV ⟨hx, hb, hml, hown, hts⟩ (ct_X8_good l g hfl w q5 mn mw  h_q6) (cwV 0 hts gX8_sees_X8_good rfl rfl rfl (by decide +kernel) ⟨Nat.le_of_ble_eq_true rfl, Nat.le_of_ble_eq_true rfl⟩) hK hW hS (x_recv (i := (g.1 + 189)) (k := 8) (j := 0) hK hW ⟨⟨hfl, rfl⟩, by decide⟩ rfl (by decide)) rfl hl.1 (rest := []) rfl (Nat.le_of_ble_eq_true rfl) dX8_sees_36 ⟨Nat.le_of_ble_eq_true rfl, Nat.le_of_ble_eq_true rfl⟩) hS (fun H locs hW hS => ?_)
    have hW : World g (wM w q5 mn mw) H := hW
    refine W.eq (g2 := F0 m 39 ls [.int q6]) rfl ?_
    refine lv_if_eq (tgt := 49) hx hb dX8_sees_39 (by decide) (fun hc => ?_) (fun hc => ?_)
    · have hf := x_iteT hf hc
      refine lv_iconst (v := 0) hx hb dX8_sees_49 (by decide) ?_
      cases hf
      exact x_iret hx hb hr hlocks hK hW hS rfl dX8_sees_50
    · have hf := x_iteF hf hc
      refine lv_aload_n hx hb dX8_sees_42 rfl (lv_at hl 0 rfl) ?_
      refine x_get (i := (g.1 + 189)) (k := 8) (j := 0) (t := 23) hx hb hts i_8 hown hK hW ⟨⟨hfl, rfl⟩, by decide⟩ rfl ⟨by decide, by decide, rfl⟩ (hts (.fieldLink RX8 324 "OpticalJukeboxModel" "number" "I") (by decide +kernel)) (rfl) dX8_sees_43 ?_
      refine lv_goto (tgt := 50) hx hb dX8_sees_46 (by decide) ?_
      cases hf
      exact x_iret hx hb hr hlocks hK hW hS rfl dX8_sees_50
  clear eK1
  refine lv_icmp_ne (tgt := 13) hx hb dX8_sees_6 (by decide) (fun hc => ?_) (fun hc => ?_)
  · have hf := x_iteF hf hc
    refine lv_iconst (v := 0) hx hb dX8_sees_13 (by decide) ?_
    exact KK1 ((0 : Int32)) ls _ _ hl hW hS hf
  · have hf := x_iteT hf hc
    refine lv_iconst (v := 1) hx hb dX8_sees_9 (by decide) ?_
    refine lv_goto (tgt := 14) hx hb dX8_sees_10 (by decide) ?_
    exact KK1 ((1 : Int32)) ls _ _ hl hW hS hf
abbrev rm_X8_takes : Room := { frames := 4, cells := 0, slots := 0, locals := 88 }
set_option maxRecDepth 100000 in
set_option maxHeartbeats 4000000 in
theorem ct_X8_takes (l : Launch) (g : GT) (hfl : 2 ≤ gf g) (w : WT) (md : SD) (mn : Nat → Int64) (mw : Int64) (a1 : Int32) (a2 : Int32) {q : (Int32 × SD × Int64)} (hf : f_X8_takes md mw a1 a2 = some q) : Met l yX8_takes wsX8_takes rm_X8_takes (cPre g (wM w md mn mw) [.ref (adr (g.1 + 189) 8 0), .int a1, .int a2]) (cQi g q.1 (wM w q.2.1 mn q.2.2)) 0 0 (gA g) := by
  refine x_met (by decide) rfl (Nat.le_of_ble_eq_true rfl) ?_
  intro p e s m below meth c hx hb hr hml hts hown hlocks hK hW hS ls hl
  have hown : s.vm.findClass RX8 = some m.cls := hown
  have hl : lv_has ls 4 [(0, .ref (adr (g.1 + 189) 8 0)), (1, .int a1), (2, .int a2)] := hl
  rw [f_X8_takes] at hf
  refine lv_aload_n hx hb dX8_takes_0 rfl (lv_at hl 0 rfl) ?_
  refine lv_iload_n hx hb dX8_takes_1 rfl (lv_at hl 1 rfl) ?_
  refine lv_iload_n hx hb dX8_takes_2 rfl (lv_at hl 2 rfl) ?_
  obtain ⟨q1, h_q1, hf⟩ := x_bindE hf
  refine x_ci0 (x_rV ⟨hx, hb, hml, hown, hts⟩ (ct_X8_sees l g hfl w md mn mw (a1) (a2) h_q1) (cwV 2 hts gX8_takes_X8_sees rfl rfl rfl (by decide +kernel) ⟨Nat.le_of_ble_eq_true rfl, Nat.le_of_ble_eq_true rfl⟩) hK hW hS (x_recv (i := (g.1 + 189)) (k := 8) (j := 0) hK hW ⟨⟨hfl, rfl⟩, by decide⟩ rfl (by decide)) rfl hl.1 (rest := []) rfl (Nat.le_of_ble_eq_true rfl) dX8_takes_3 ⟨Nat.le_of_ble_eq_true rfl, Nat.le_of_ble_eq_true rfl⟩) hS (fun H locs hW hS => ?_)
  have hW : World g (wM w q1.2 mn mw) H := hW
  refine W.eq (g2 := F0 m 6 ls [.int q1.1]) rfl ?_
  obtain ⟨x2, e_x2, hf⟩ := x_letE hf
  refine x_topi e_x2 ?_
  refine lv_istore_n (lv' := [(3, .int x2), (0, .ref (adr (g.1 + 189) 8 0)), (1, .int a1), (2, .int a2)]) hx hb dX8_takes_6 rfl hl (by decide) rfl (fun ls hl => ?_)
  refine lv_aload_n hx hb dX8_takes_7 rfl (lv_at hl 1 rfl) ?_
  obtain ⟨q3, h_q3, hf⟩ := x_bindE hf
  refine x_cv0 (x_rV ⟨hx, hb, hml, hown, hts⟩ (ct_X8_goesOn l g hfl w q1.2 mn mw  h_q3) (cwV 0 hts gX8_takes_X8_goesOn rfl rfl rfl (by decide +kernel) ⟨Nat.le_of_ble_eq_true rfl, Nat.le_of_ble_eq_true rfl⟩) hK hW hS (x_recv (i := (g.1 + 189)) (k := 8) (j := 0) hK hW ⟨⟨hfl, rfl⟩, by decide⟩ rfl (by decide)) rfl hl.1 (rest := []) rfl (Nat.le_of_ble_eq_true rfl) dX8_takes_8 ⟨Nat.le_of_ble_eq_true rfl, Nat.le_of_ble_eq_true rfl⟩) hS (fun H locs hW hS => ?_)
  have hW : World g (wM w q3.1 mn q3.2) H := hW
  refine lv_iload_n hx hb dX8_takes_11 rfl (lv_at hl 0 rfl) ?_
  cases hf
  exact x_iret hx hb hr hlocks hK hW hS rfl dX8_takes_12
abbrev rm_X8_slotsLine : Room := { frames := 5, cells := 0, slots := 0, locals := 111 }
set_option maxRecDepth 100000 in
set_option maxHeartbeats 4000000 in
theorem ct_X8_slotsLine (l : Launch) (g : GT) (hfl : 2 ≤ gf g) (w : WT) (md : SD) (mn : Nat → Int64) (mw : Int64) {q : (SD × Int64)} (hf : f_X8_slotsLine md mw  = some q) : Met l yX8_slotsLine wsX8_slotsLine rm_X8_slotsLine (cPre g (wM w md mn mw) [.ref (adr (g.1 + 189) 8 0)]) (cQv g (wM w q.1 mn q.2)) 0 0 (gA g) := by
  have i_8 : ∀ w ∈ u_ws RX8 TX8 27, w ∈ wsX8_slotsLine := by decide +kernel
  refine x_met (by decide) rfl (Nat.le_of_ble_eq_true rfl) ?_
  intro p e s m below meth c hx hb hr hml hts hown hlocks hK hW hS ls hl
  have hown : s.vm.findClass RX8 = some m.cls := hown
  have hl : lv_has ls 1 [(0, .ref (adr (g.1 + 189) 8 0))] := hl
  rw [f_X8_slotsLine] at hf
  refine lv_aload_n hx hb dX8_slotsLine_0 rfl (lv_at hl 0 rfl) ?_
  refine lv_aload_n hx hb dX8_slotsLine_1 rfl (lv_at hl 0 rfl) ?_
  refine x_get (i := (g.1 + 189)) (k := 8) (j := 0) (t := 25) hx hb hts i_8 hown hK hW ⟨⟨hfl, rfl⟩, by decide⟩ rfl ⟨by decide, by decide, rfl⟩ (hts (.fieldLink RX8 367 "OpticalJukeboxModel" "statements" "I") (by decide +kernel)) (rfl) dX8_slotsLine_2 ?_
  obtain ⟨K1, eK1, hf⟩ := x_letE hf
  have KK1 : ∀ (y2 : Int32) (ls : Array Slot) (H : Heap) (locs : List Loc), lv_has ls 1 [(0, .ref (adr (g.1 + 189) 8 0))] → World g (wM w md mn mw) H → va_S (gA g) s.heap H locs → K1 y2 = some q → W p l e rm_X8_slotsLine s m [.ref (adr (g.1 + 189) 8 0)].toArray below meth c H locs 0 0 (MQ below (cQv g (wM w q.1 mn q.2)) [.ref (adr (g.1 + 189) 8 0)].toArray s 0 0 (gA g)) (F0 m 13 ls [.int y2, .ref (adr (g.1 + 189) 8 0)]) := by
    intro y2 ls H locs hl hW hS hf
    subst eK1
    refine lv_iconst (v := 5) hx hb dX8_slotsLine_13 (by decide) ?_
    obtain ⟨q3, h_q3, hf⟩ := x_bindE hf
    refine x_cv0 (x_rV ⟨hx, hb, hml, hown, hts⟩ (ct_X8_must l g hfl w md mn mw (y2) ((5 : Int32)) h_q3) (cwV 2 hts gX8_slotsLine_X8_must rfl rfl rfl (by decide +kernel) ⟨Nat.le_of_ble_eq_true rfl, Nat.le_of_ble_eq_true rfl⟩) hK hW hS (x_recv (i := (g.1 + 189)) (k := 8) (j := 0) hK hW ⟨⟨hfl, rfl⟩, by decide⟩ rfl (by decide)) rfl hl.1 (rest := []) rfl (Nat.le_of_ble_eq_true rfl) dX8_slotsLine_14 ⟨Nat.le_of_ble_eq_true rfl, Nat.le_of_ble_eq_true rfl⟩) hS (fun H locs hW hS => ?_)
    have hW : World g (wM w q3 mn mw) H := hW
    refine lv_aload_n hx hb dX8_slotsLine_17 rfl (lv_at hl 0 rfl) ?_
    obtain ⟨q4, h_q4, hf⟩ := x_bindE hf
    refine x_cv0 (x_rV ⟨hx, hb, hml, hown, hts⟩ (ct_X8_goesOn l g hfl w q3 mn mw  h_q4) (cwV 0 hts gX8_slotsLine_X8_goesOn rfl rfl rfl (by decide +kernel) ⟨Nat.le_of_ble_eq_true rfl, Nat.le_of_ble_eq_true rfl⟩) hK hW hS (x_recv (i := (g.1 + 189)) (k := 8) (j := 0) hK hW ⟨⟨hfl, rfl⟩, by decide⟩ rfl (by decide)) rfl hl.1 (rest := []) rfl (Nat.le_of_ble_eq_true rfl) dX8_slotsLine_18 ⟨Nat.le_of_ble_eq_true rfl, Nat.le_of_ble_eq_true rfl⟩) hS (fun H locs hW hS => ?_)
    have hW : World g (wM w q4.1 mn q4.2) H := hW
    refine lv_aload_n hx hb dX8_slotsLine_21 rfl (lv_at hl 0 rfl) ?_
    refine x_get (i := (g.1 + 189)) (k := 8) (j := 0) (t := 2) hx hb hts i_8 hown hK hW ⟨⟨hfl, rfl⟩, by decide⟩ rfl ⟨by decide, by decide, rfl⟩ (hts (.fieldLink RX8 13 "OpticalJukeboxModel" "read" "[I") (by decide +kernel)) (v := .ref (adr (g.1 + 189) 31 0)) rfl dX8_slotsLine_22 ?_
    refine lv_iconst (v := 0) hx hb dX8_slotsLine_25 (by decide) ?_
    refine lv_aload_n hx hb dX8_slotsLine_26 rfl (lv_at hl 0 rfl) ?_
    refine lv_iconst (v := 4) hx hb dX8_slotsLine_27 (by decide) ?_
    refine lv_bipush (v := 24) hx hb dX8_slotsLine_28 (by decide) ?_
    obtain ⟨q5, h_q5, hf⟩ := x_bindE hf
    refine x_ci0 (x_rV ⟨hx, hb, hml, hown, hts⟩ (ct_X8_takes l g hfl w q4.1 mn q4.2 ((4 : Int32)) ((24 : Int32)) h_q5) (cwV 2 hts gX8_slotsLine_X8_takes rfl rfl rfl (by decide +kernel) ⟨Nat.le_of_ble_eq_true rfl, Nat.le_of_ble_eq_true rfl⟩) hK hW hS (x_recv (i := (g.1 + 189)) (k := 8) (j := 0) hK hW ⟨⟨hfl, rfl⟩, by decide⟩ rfl (by decide)) rfl hl.1 (rest := [.int (0 : Int32), .ref (adr (g.1 + 189) 31 0)]) rfl (Nat.le_of_ble_eq_true rfl) dX8_slotsLine_30 ⟨Nat.le_of_ble_eq_true rfl, Nat.le_of_ble_eq_true rfl⟩) hS (fun H locs hW hS => ?_)
    have hW : World g (wM w q5.2.1 mn q5.2.2) H := hW
    refine W.eq (g2 := F0 m 33 ls [.int q5.1, .int (0 : Int32), .ref (adr (g.1 + 189) 31 0)]) rfl ?_
    obtain ⟨md6, e_md6, hf⟩ := x_letE hf
    refine x_iast (i := (g.1 + 189)) (k := 31) (j := 0) (w' := wM w md6 mn q5.2.2) hx hb hK hW ⟨⟨hfl, rfl⟩, by decide⟩ hS (by decide) rfl rfl rfl (by unfold vp_in; decide) dX8_slotsLine_33 (fp_M e_md6 rfl) (fun H locs hW hS => ?_)
    cases hf
    exact x_vret hx hb hr hlocks hK hW hS dX8_slotsLine_34
  clear eK1
  refine lv_if_ne (tgt := 12) hx hb dX8_slotsLine_5 (by decide) (fun hc => ?_) (fun hc => ?_)
  · have hf := x_iteF hf hc
    refine lv_iconst (v := 0) hx hb dX8_slotsLine_12 (by decide) ?_
    exact KK1 ((0 : Int32)) ls _ _ hl hW hS hf
  · have hf := x_iteT hf hc
    refine lv_iconst (v := 1) hx hb dX8_slotsLine_8 (by decide) ?_
    refine lv_goto (tgt := 13) hx hb dX8_slotsLine_9 (by decide) ?_
    exact KK1 ((1 : Int32)) ls _ _ hl hW hS hf
abbrev rm_X8_driveLine : Room := { frames := 5, cells := 0, slots := 0, locals := 111 }
set_option maxRecDepth 100000 in
set_option maxHeartbeats 4000000 in
theorem ct_X8_driveLine (l : Launch) (g : GT) (hfl : 2 ≤ gf g) (w : WT) (md : SD) (mn : Nat → Int64) (mw : Int64) {q : (SD × Int64)} (hf : f_X8_driveLine md mw  = some q) : Met l yX8_driveLine wsX8_driveLine rm_X8_driveLine (cPre g (wM w md mn mw) [.ref (adr (g.1 + 189) 8 0)]) (cQv g (wM w q.1 mn q.2)) 0 0 (gA g) := by
  have i_8 : ∀ w ∈ u_ws RX8 TX8 27, w ∈ wsX8_driveLine := by decide +kernel
  refine x_met (by decide) rfl (Nat.le_of_ble_eq_true rfl) ?_
  intro p e s m below meth c hx hb hr hml hts hown hlocks hK hW hS ls hl
  have hown : s.vm.findClass RX8 = some m.cls := hown
  have hl : lv_has ls 2 [(0, .ref (adr (g.1 + 189) 8 0))] := hl
  rw [f_X8_driveLine] at hf
  refine lv_aload_n hx hb dX8_driveLine_0 rfl (lv_at hl 0 rfl) ?_
  refine lv_aload_n hx hb dX8_driveLine_1 rfl (lv_at hl 0 rfl) ?_
  refine x_get (i := (g.1 + 189)) (k := 8) (j := 0) (t := 2) hx hb hts i_8 hown hK hW ⟨⟨hfl, rfl⟩, by decide⟩ rfl ⟨by decide, by decide, rfl⟩ (hts (.fieldLink RX8 13 "OpticalJukeboxModel" "read" "[I") (by decide +kernel)) (v := .ref (adr (g.1 + 189) 31 0)) rfl dX8_driveLine_2 ?_
  refine lv_bipush (v := 6) hx hb dX8_driveLine_5 (by decide) ?_
  refine x_iald (i := (g.1 + 189)) (k := 31) (j := 0) (f := md 31 0) hx hb hK hW ⟨⟨hfl, rfl⟩, by decide⟩ (by decide) (rfl) rfl (by unfold vp_in; decide) dX8_driveLine_7 ?_
  refine W.eq (g2 := F0 m 8 ls [.int (md 31 0 6), .ref (adr (g.1 + 189) 8 0)]) rfl ?_
  refine lv_iconst (v := 4) hx hb dX8_driveLine_8 (by decide) ?_
  obtain ⟨K1, eK1, hf⟩ := x_letE hf
  have KK1 : ∀ (y2 : Int32) (ls : Array Slot) (H : Heap) (locs : List Loc), lv_has ls 2 [(0, .ref (adr (g.1 + 189) 8 0))] → World g (wM w md mn mw) H → va_S (gA g) s.heap H locs → K1 y2 = some q → W p l e rm_X8_driveLine s m [.ref (adr (g.1 + 189) 8 0)].toArray below meth c H locs 0 0 (MQ below (cQv g (wM w q.1 mn q.2)) [.ref (adr (g.1 + 189) 8 0)].toArray s 0 0 (gA g)) (F0 m 17 ls [.int y2, .ref (adr (g.1 + 189) 8 0)]) := by
    intro y2 ls H locs hl hW hS hf
    subst eK1
    refine lv_iconst (v := 5) hx hb dX8_driveLine_17 (by decide) ?_
    obtain ⟨q3, h_q3, hf⟩ := x_bindE hf
    refine x_cv0 (x_rV ⟨hx, hb, hml, hown, hts⟩ (ct_X8_must l g hfl w md mn mw (y2) ((5 : Int32)) h_q3) (cwV 2 hts gX8_driveLine_X8_must rfl rfl rfl (by decide +kernel) ⟨Nat.le_of_ble_eq_true rfl, Nat.le_of_ble_eq_true rfl⟩) hK hW hS (x_recv (i := (g.1 + 189)) (k := 8) (j := 0) hK hW ⟨⟨hfl, rfl⟩, by decide⟩ rfl (by decide)) rfl hl.1 (rest := []) rfl (Nat.le_of_ble_eq_true rfl) dX8_driveLine_18 ⟨Nat.le_of_ble_eq_true rfl, Nat.le_of_ble_eq_true rfl⟩) hS (fun H locs hW hS => ?_)
    have hW : World g (wM w q3 mn mw) H := hW
    refine lv_aload_n hx hb dX8_driveLine_21 rfl (lv_at hl 0 rfl) ?_
    obtain ⟨q4, h_q4, hf⟩ := x_bindE hf
    refine x_cv0 (x_rV ⟨hx, hb, hml, hown, hts⟩ (ct_X8_goesOn l g hfl w q3 mn mw  h_q4) (cwV 0 hts gX8_driveLine_X8_goesOn rfl rfl rfl (by decide +kernel) ⟨Nat.le_of_ble_eq_true rfl, Nat.le_of_ble_eq_true rfl⟩) hK hW hS (x_recv (i := (g.1 + 189)) (k := 8) (j := 0) hK hW ⟨⟨hfl, rfl⟩, by decide⟩ rfl (by decide)) rfl hl.1 (rest := []) rfl (Nat.le_of_ble_eq_true rfl) dX8_driveLine_22 ⟨Nat.le_of_ble_eq_true rfl, Nat.le_of_ble_eq_true rfl⟩) hS (fun H locs hW hS => ?_)
    have hW : World g (wM w q4.1 mn q4.2) H := hW
    refine lv_aload_n hx hb dX8_driveLine_25 rfl (lv_at hl 0 rfl) ?_
    refine lv_iconst (v := 0) hx hb dX8_driveLine_26 (by decide) ?_
    refine lv_aload_n hx hb dX8_driveLine_27 rfl (lv_at hl 0 rfl) ?_
    refine x_get (i := (g.1 + 189)) (k := 8) (j := 0) (t := 2) hx hb hts i_8 hown hK hW ⟨⟨hfl, rfl⟩, by decide⟩ rfl ⟨by decide, by decide, rfl⟩ (hts (.fieldLink RX8 13 "OpticalJukeboxModel" "read" "[I") (by decide +kernel)) (v := .ref (adr (g.1 + 189) 31 0)) rfl dX8_driveLine_28 ?_
    refine lv_iconst (v := 0) hx hb dX8_driveLine_31 (by decide) ?_
    refine x_iald (i := (g.1 + 189)) (k := 31) (j := 0) (f := q4.1 31 0) hx hb hK hW ⟨⟨hfl, rfl⟩, by decide⟩ (by decide) (rfl) rfl (by unfold vp_in; decide) dX8_driveLine_32 ?_
    refine W.eq (g2 := F0 m 33 ls [.int (q4.1 31 0 0), .int (0 : Int32), .ref (adr (g.1 + 189) 8 0)]) rfl ?_
    refine lv_iconst (v := 1) hx hb dX8_driveLine_33 (by decide) ?_
    refine lv_isub hx hb dX8_driveLine_34 ?_
    obtain ⟨q5, h_q5, hf⟩ := x_bindE hf
    refine x_ci0 (x_rV ⟨hx, hb, hml, hown, hts⟩ (ct_X8_takes l g hfl w q4.1 mn q4.2 ((0 : Int32)) (((q4.1 31 0 0) - (1 : Int32))) h_q5) (cwV 2 hts gX8_driveLine_X8_takes rfl rfl rfl (by decide +kernel) ⟨Nat.le_of_ble_eq_true rfl, Nat.le_of_ble_eq_true rfl⟩) hK hW hS (x_recv (i := (g.1 + 189)) (k := 8) (j := 0) hK hW ⟨⟨hfl, rfl⟩, by decide⟩ rfl (by decide)) rfl hl.1 (rest := []) rfl (Nat.le_of_ble_eq_true rfl) dX8_driveLine_35 ⟨Nat.le_of_ble_eq_true rfl, Nat.le_of_ble_eq_true rfl⟩) hS (fun H locs hW hS => ?_)
    have hW : World g (wM w q5.2.1 mn q5.2.2) H := hW
    refine W.eq (g2 := F0 m 38 ls [.int q5.1]) rfl ?_
    obtain ⟨x6, e_x6, hf⟩ := x_letE hf
    refine x_topi e_x6 ?_
    refine lv_istore_n (lv' := [(1, .int x6), (0, .ref (adr (g.1 + 189) 8 0))]) hx hb dX8_driveLine_38 rfl hl (by decide) rfl (fun ls hl => ?_)
    refine lv_aload_n hx hb dX8_driveLine_39 rfl (lv_at hl 1 rfl) ?_
    obtain ⟨q7, h_q7, hf⟩ := x_bindE hf
    refine x_ci0 (x_rV ⟨hx, hb, hml, hown, hts⟩ (ct_X8_good l g hfl w q5.2.1 mn q5.2.2  h_q7) (cwV 0 hts gX8_driveLine_X8_good rfl rfl rfl (by decide +kernel) ⟨Nat.le_of_ble_eq_true rfl, Nat.le_of_ble_eq_true rfl⟩) hK hW hS (x_recv (i := (g.1 + 189)) (k := 8) (j := 0) hK hW ⟨⟨hfl, rfl⟩, by decide⟩ rfl (by decide)) rfl hl.1 (rest := []) rfl (Nat.le_of_ble_eq_true rfl) dX8_driveLine_40 ⟨Nat.le_of_ble_eq_true rfl, Nat.le_of_ble_eq_true rfl⟩) hS (fun H locs hW hS => ?_)
    have hW : World g (wM w q5.2.1 mn q5.2.2) H := hW
    refine W.eq (g2 := F0 m 43 ls [.int q7]) rfl ?_
    refine lv_if_ne (tgt := 47) hx hb dX8_driveLine_43 (by decide) (fun hc => ?_) (fun hc => ?_)
    · have hf := x_iteF hf hc
      refine lv_aload_n hx hb dX8_driveLine_47 rfl (lv_at hl 1 rfl) ?_
      refine x_get (i := (g.1 + 189)) (k := 8) (j := 0) (t := 2) hx hb hts i_8 hown hK hW ⟨⟨hfl, rfl⟩, by decide⟩ rfl ⟨by decide, by decide, rfl⟩ (hts (.fieldLink RX8 13 "OpticalJukeboxModel" "read" "[I") (by decide +kernel)) (v := .ref (adr (g.1 + 189) 31 0)) rfl dX8_driveLine_48 ?_
      refine lv_bipush (v := 17) hx hb dX8_driveLine_51 (by decide) ?_
      refine lv_aload_n hx hb dX8_driveLine_53 rfl (lv_at hl 1 rfl) ?_
      refine x_get (i := (g.1 + 189)) (k := 8) (j := 0) (t := 2) hx hb hts i_8 hown hK hW ⟨⟨hfl, rfl⟩, by decide⟩ rfl ⟨by decide, by decide, rfl⟩ (hts (.fieldLink RX8 13 "OpticalJukeboxModel" "read" "[I") (by decide +kernel)) (v := .ref (adr (g.1 + 189) 31 0)) rfl dX8_driveLine_54 ?_
      refine lv_bipush (v := 6) hx hb dX8_driveLine_57 (by decide) ?_
      refine x_iald (i := (g.1 + 189)) (k := 31) (j := 0) (f := q5.2.1 31 0) hx hb hK hW ⟨⟨hfl, rfl⟩, by decide⟩ (by decide) (rfl) rfl (by unfold vp_in; decide) dX8_driveLine_59 ?_
      refine W.eq (g2 := F0 m 60 ls [.int (q5.2.1 31 0 6), .int (17 : Int32), .ref (adr (g.1 + 189) 31 0)]) rfl ?_
      refine lv_iadd hx hb dX8_driveLine_60 ?_
      refine lv_iload_n hx hb dX8_driveLine_61 rfl (lv_at hl 0 rfl) ?_
      obtain ⟨hg8, hf⟩ := x_guardE hf
      obtain ⟨md9, e_md9, hf⟩ := x_letE hf
      refine x_iast (i := (g.1 + 189)) (k := 31) (j := 0) (w' := wM w md9 mn q5.2.2) hx hb hK hW ⟨⟨hfl, rfl⟩, by decide⟩ hS (by decide) rfl rfl rfl hg8 dX8_driveLine_62 (fp_M e_md9 rfl) (fun H locs hW hS => ?_)
      refine lv_aload_n hx hb dX8_driveLine_63 rfl (lv_at hl 1 rfl) ?_
      refine x_get (i := (g.1 + 189)) (k := 8) (j := 0) (t := 2) hx hb hts i_8 hown hK hW ⟨⟨hfl, rfl⟩, by decide⟩ rfl ⟨by decide, by decide, rfl⟩ (hts (.fieldLink RX8 13 "OpticalJukeboxModel" "read" "[I") (by decide +kernel)) (v := .ref (adr (g.1 + 189) 31 0)) rfl dX8_driveLine_64 ?_
      refine lv_bipush (v := 6) hx hb dX8_driveLine_67 (by decide) ?_
      refine lv_dup2_11 hx hb dX8_driveLine_69 rfl rfl ?_
      refine x_iald (i := (g.1 + 189)) (k := 31) (j := 0) (f := md9 31 0) hx hb hK hW ⟨⟨hfl, rfl⟩, by decide⟩ (by decide) (rfl) rfl (by unfold vp_in; decide) dX8_driveLine_70 ?_
      refine W.eq (g2 := F0 m 71 ls [.int (md9 31 0 6), .int (6 : Int32), .ref (adr (g.1 + 189) 31 0)]) rfl ?_
      refine lv_iconst (v := 1) hx hb dX8_driveLine_71 (by decide) ?_
      refine lv_iadd hx hb dX8_driveLine_72 ?_
      obtain ⟨md10, e_md10, hf⟩ := x_letE hf
      refine x_iast (i := (g.1 + 189)) (k := 31) (j := 0) (w' := wM w md10 mn q5.2.2) hx hb hK hW ⟨⟨hfl, rfl⟩, by decide⟩ hS (by decide) rfl rfl rfl (by unfold vp_in; decide) dX8_driveLine_73 (fp_M e_md10 rfl) (fun H locs hW hS => ?_)
      cases hf
      exact x_vret hx hb hr hlocks hK hW hS dX8_driveLine_74
    · have hf := x_iteT hf hc
      cases hf
      exact x_vret hx hb hr hlocks hK hW hS dX8_driveLine_46
  clear eK1
  refine lv_icmp_ge (tgt := 16) hx hb dX8_driveLine_9 (by decide) (fun hc => ?_) (fun hc => ?_)
  · have hf := x_iteT hf hc
    refine lv_iconst (v := 0) hx hb dX8_driveLine_16 (by decide) ?_
    exact KK1 ((0 : Int32)) ls _ _ hl hW hS hf
  · have hf := x_iteF hf hc
    refine lv_iconst (v := 1) hx hb dX8_driveLine_12 (by decide) ?_
    refine lv_goto (tgt := 17) hx hb dX8_driveLine_13 (by decide) ?_
    exact KK1 ((1 : Int32)) ls _ _ hl hW hS hf
abbrev rm_X8_timeLine : Room := { frames := 5, cells := 0, slots := 0, locals := 111 }
set_option maxRecDepth 100000 in
set_option maxHeartbeats 4000000 in
theorem ct_X8_timeLine (l : Launch) (g : GT) (hfl : 2 ≤ gf g) (w : WT) (md : SD) (mn : Nat → Int64) (mw : Int64) {q : (SD × Int64)} (hf : f_X8_timeLine md mw  = some q) : Met l yX8_timeLine wsX8_timeLine rm_X8_timeLine (cPre g (wM w md mn mw) [.ref (adr (g.1 + 189) 8 0)]) (cQv g (wM w q.1 mn q.2)) 0 0 (gA g) := by
  have i_8 : ∀ w ∈ u_ws RX8 TX8 27, w ∈ wsX8_timeLine := by decide +kernel
  refine x_met (by decide) rfl (Nat.le_of_ble_eq_true rfl) ?_
  intro p e s m below meth c hx hb hr hml hts hown hlocks hK hW hS ls hl
  have hown : s.vm.findClass RX8 = some m.cls := hown
  have hl : lv_has ls 2 [(0, .ref (adr (g.1 + 189) 8 0))] := hl
  rw [f_X8_timeLine] at hf
  refine lv_aload_n hx hb dX8_timeLine_0 rfl (lv_at hl 0 rfl) ?_
  obtain ⟨q1, h_q1, hf⟩ := x_bindE hf
  refine x_cv0 (x_rV ⟨hx, hb, hml, hown, hts⟩ (ct_X8_goesOn l g hfl w md mn mw  h_q1) (cwV 0 hts gX8_timeLine_X8_goesOn rfl rfl rfl (by decide +kernel) ⟨Nat.le_of_ble_eq_true rfl, Nat.le_of_ble_eq_true rfl⟩) hK hW hS (x_recv (i := (g.1 + 189)) (k := 8) (j := 0) hK hW ⟨⟨hfl, rfl⟩, by decide⟩ rfl (by decide)) rfl hl.1 (rest := []) rfl (Nat.le_of_ble_eq_true rfl) dX8_timeLine_1 ⟨Nat.le_of_ble_eq_true rfl, Nat.le_of_ble_eq_true rfl⟩) hS (fun H locs hW hS => ?_)
  have hW : World g (wM w q1.1 mn q1.2) H := hW
  refine lv_iconst (v := 0) hx hb dX8_timeLine_4 (by decide) ?_
  refine lv_istore_n (lv' := [(1, .int (0 : Int32)), (0, .ref (adr (g.1 + 189) 8 0))]) hx hb dX8_timeLine_5 rfl hl (by decide) rfl (fun ls hl => ?_)
  have L6 : ∀ (n : Nat) (v1_6 : Int32) (md_6 : SD) (mw_6 : Int64) (ls : Array Slot) (H : Heap) (locs : List Loc), lv_has ls 2 [(0, .ref (adr (g.1 + 189) 8 0)), (1, .int v1_6)] → World g (wM w md_6 mn mw_6) H → va_S (gA g) s.heap H locs → f_X8_timeLine_L6  n v1_6 md_6 mw_6 = some q → W p l e rm_X8_timeLine s m [.ref (adr (g.1 + 189) 8 0)].toArray below meth c H locs 0 0 (MQ below (cQv g (wM w q.1 mn q.2)) [.ref (adr (g.1 + 189) 8 0)].toArray s 0 0 (gA g)) (F0 m 6 ls []) := by
    clear hW hS hl
    intro n
    induction n with
    | zero => intro v1_6 md_6 mw_6 ls H locs hl hW hS hf; cases hf
    | succ n_6 ih =>
      intro v1_6 md_6 mw_6 ls H locs hl hW hS hf
      rw [f_X8_timeLine_L6] at hf
      refine lv_iload_n hx hb dX8_timeLine_6 rfl (lv_at hl 1 rfl) ?_
      refine lv_iconst (v := 5) hx hb dX8_timeLine_7 (by decide) ?_
      refine lv_icmp_ge (tgt := 32) hx hb dX8_timeLine_8 (by decide) (fun hc => ?_) (fun hc => ?_)
      · have hf := x_iteT hf hc
        cases hf
        exact x_vret hx hb hr hlocks hK hW hS dX8_timeLine_32
      · have hf := x_iteF hf hc
        refine lv_aload_n hx hb dX8_timeLine_11 rfl (lv_at hl 0 rfl) ?_
        refine x_get (i := (g.1 + 189)) (k := 8) (j := 0) (t := 2) hx hb hts i_8 hown hK hW ⟨⟨hfl, rfl⟩, by decide⟩ rfl ⟨by decide, by decide, rfl⟩ (hts (.fieldLink RX8 13 "OpticalJukeboxModel" "read" "[I") (by decide +kernel)) (v := .ref (adr (g.1 + 189) 31 0)) rfl dX8_timeLine_12 ?_
        refine lv_iconst (v := 1) hx hb dX8_timeLine_15 (by decide) ?_
        refine lv_iload_n hx hb dX8_timeLine_16 rfl (lv_at hl 1 rfl) ?_
        refine lv_iadd hx hb dX8_timeLine_17 ?_
        refine lv_aload_n hx hb dX8_timeLine_18 rfl (lv_at hl 0 rfl) ?_
        refine lv_iconst (v := 0) hx hb dX8_timeLine_19 (by decide) ?_
        refine lv_bipush (v := 99) hx hb dX8_timeLine_20 (by decide) ?_
        obtain ⟨q2, h_q2, hf⟩ := x_bindE hf
        refine x_ci0 (x_rV ⟨hx, hb, hml, hown, hts⟩ (ct_X8_takes l g hfl w md_6 mn mw_6 ((0 : Int32)) ((99 : Int32)) h_q2) (cwV 2 hts gX8_timeLine_X8_takes rfl rfl rfl (by decide +kernel) ⟨Nat.le_of_ble_eq_true rfl, Nat.le_of_ble_eq_true rfl⟩) hK hW hS (x_recv (i := (g.1 + 189)) (k := 8) (j := 0) hK hW ⟨⟨hfl, rfl⟩, by decide⟩ rfl (by decide)) rfl hl.1 (rest := [.int ((1 : Int32) + v1_6), .ref (adr (g.1 + 189) 31 0)]) rfl (Nat.le_of_ble_eq_true rfl) dX8_timeLine_22 ⟨Nat.le_of_ble_eq_true rfl, Nat.le_of_ble_eq_true rfl⟩) hS (fun H locs hW hS => ?_)
        have hW : World g (wM w q2.2.1 mn q2.2.2) H := hW
        refine W.eq (g2 := F0 m 25 ls [.int q2.1, .int ((1 : Int32) + v1_6), .ref (adr (g.1 + 189) 31 0)]) rfl ?_
        obtain ⟨hg3, hf⟩ := x_guardE hf
        obtain ⟨md4, e_md4, hf⟩ := x_letE hf
        refine x_iast (i := (g.1 + 189)) (k := 31) (j := 0) (w' := wM w md4 mn q2.2.2) hx hb hK hW ⟨⟨hfl, rfl⟩, by decide⟩ hS (by decide) rfl rfl rfl hg3 dX8_timeLine_25 (fp_M e_md4 rfl) (fun H locs hW hS => ?_)
        obtain ⟨x5, e_x5, hf⟩ := x_letE hf
        refine lv_iinc (v := x5) (lv' := [(1, .int x5), (0, .ref (adr (g.1 + 189) 8 0))]) hx hb dX8_timeLine_26 hl (k := 1) rfl (by rw [e_x5]; rfl) (by decide) rfl (fun ls hl => ?_)
        refine lv_goto (tgt := 6) hx hb dX8_timeLine_29 (by decide) ?_
        exact ih (x5) (md4) (q2.2.2) ls _ _ (lv_sub hl [1, 0] rfl) hW hS hf
  exact L6 fuel ((0 : Int32)) (q1.1) (q1.2) ls _ _ (lv_sub hl [1, 0] rfl) hW hS hf
abbrev rm_X8_platterLine : Room := { frames := 5, cells := 0, slots := 0, locals := 111 }
set_option maxRecDepth 100000 in
set_option maxHeartbeats 4000000 in
theorem ct_X8_platterLine (l : Launch) (g : GT) (hfl : 2 ≤ gf g) (w : WT) (md : SD) (mn : Nat → Int64) (mw : Int64) {q : (SD × Int64)} (hf : f_X8_platterLine md mw  = some q) : Met l yX8_platterLine wsX8_platterLine rm_X8_platterLine (cPre g (wM w md mn mw) [.ref (adr (g.1 + 189) 8 0)]) (cQv g (wM w q.1 mn q.2)) 0 0 (gA g) := by
  have i_8 : ∀ w ∈ u_ws RX8 TX8 27, w ∈ wsX8_platterLine := by decide +kernel
  refine x_met (by decide) rfl (Nat.le_of_ble_eq_true rfl) ?_
  intro p e s m below meth c hx hb hr hml hts hown hlocks hK hW hS ls hl
  have hown : s.vm.findClass RX8 = some m.cls := hown
  have hl : lv_has ls 5 [(0, .ref (adr (g.1 + 189) 8 0))] := hl
  rw [f_X8_platterLine] at hf
  refine lv_aload_n hx hb dX8_platterLine_0 rfl (lv_at hl 0 rfl) ?_
  refine lv_aload_n hx hb dX8_platterLine_1 rfl (lv_at hl 0 rfl) ?_
  refine x_get (i := (g.1 + 189)) (k := 8) (j := 0) (t := 2) hx hb hts i_8 hown hK hW ⟨⟨hfl, rfl⟩, by decide⟩ rfl ⟨by decide, by decide, rfl⟩ (hts (.fieldLink RX8 13 "OpticalJukeboxModel" "read" "[I") (by decide +kernel)) (v := .ref (adr (g.1 + 189) 31 0)) rfl dX8_platterLine_2 ?_
  refine lv_bipush (v := 7) hx hb dX8_platterLine_5 (by decide) ?_
  refine x_iald (i := (g.1 + 189)) (k := 31) (j := 0) (f := md 31 0) hx hb hK hW ⟨⟨hfl, rfl⟩, by decide⟩ (by decide) (rfl) rfl (by unfold vp_in; decide) dX8_platterLine_7 ?_
  refine W.eq (g2 := F0 m 8 ls [.int (md 31 0 7), .ref (adr (g.1 + 189) 8 0)]) rfl ?_
  refine lv_bipush (v := 10) hx hb dX8_platterLine_8 (by decide) ?_
  obtain ⟨K1, eK1, hf⟩ := x_letE hf
  have KK1 : ∀ (y2 : Int32) (ls : Array Slot) (H : Heap) (locs : List Loc), lv_has ls 5 [(0, .ref (adr (g.1 + 189) 8 0))] → World g (wM w md mn mw) H → va_S (gA g) s.heap H locs → K1 y2 = some q → W p l e rm_X8_platterLine s m [.ref (adr (g.1 + 189) 8 0)].toArray below meth c H locs 0 0 (MQ below (cQv g (wM w q.1 mn q.2)) [.ref (adr (g.1 + 189) 8 0)].toArray s 0 0 (gA g)) (F0 m 18 ls [.int y2, .ref (adr (g.1 + 189) 8 0)]) := by
    intro y2 ls H locs hl hW hS hf
    subst eK1
    refine lv_iconst (v := 5) hx hb dX8_platterLine_18 (by decide) ?_
    obtain ⟨q3, h_q3, hf⟩ := x_bindE hf
    refine x_cv0 (x_rV ⟨hx, hb, hml, hown, hts⟩ (ct_X8_must l g hfl w md mn mw (y2) ((5 : Int32)) h_q3) (cwV 2 hts gX8_platterLine_X8_must rfl rfl rfl (by decide +kernel) ⟨Nat.le_of_ble_eq_true rfl, Nat.le_of_ble_eq_true rfl⟩) hK hW hS (x_recv (i := (g.1 + 189)) (k := 8) (j := 0) hK hW ⟨⟨hfl, rfl⟩, by decide⟩ rfl (by decide)) rfl hl.1 (rest := []) rfl (Nat.le_of_ble_eq_true rfl) dX8_platterLine_19 ⟨Nat.le_of_ble_eq_true rfl, Nat.le_of_ble_eq_true rfl⟩) hS (fun H locs hW hS => ?_)
    have hW : World g (wM w q3 mn mw) H := hW
    refine lv_aload_n hx hb dX8_platterLine_22 rfl (lv_at hl 0 rfl) ?_
    obtain ⟨q4, h_q4, hf⟩ := x_bindE hf
    refine x_cv0 (x_rV ⟨hx, hb, hml, hown, hts⟩ (ct_X8_goesOn l g hfl w q3 mn mw  h_q4) (cwV 0 hts gX8_platterLine_X8_goesOn rfl rfl rfl (by decide +kernel) ⟨Nat.le_of_ble_eq_true rfl, Nat.le_of_ble_eq_true rfl⟩) hK hW hS (x_recv (i := (g.1 + 189)) (k := 8) (j := 0) hK hW ⟨⟨hfl, rfl⟩, by decide⟩ rfl (by decide)) rfl hl.1 (rest := []) rfl (Nat.le_of_ble_eq_true rfl) dX8_platterLine_23 ⟨Nat.le_of_ble_eq_true rfl, Nat.le_of_ble_eq_true rfl⟩) hS (fun H locs hW hS => ?_)
    have hW : World g (wM w q4.1 mn q4.2) H := hW
    refine lv_aload_n hx hb dX8_platterLine_26 rfl (lv_at hl 0 rfl) ?_
    refine lv_iconst (v := 0) hx hb dX8_platterLine_27 (by decide) ?_
    refine lv_aload_n hx hb dX8_platterLine_28 rfl (lv_at hl 0 rfl) ?_
    refine x_get (i := (g.1 + 189)) (k := 8) (j := 0) (t := 2) hx hb hts i_8 hown hK hW ⟨⟨hfl, rfl⟩, by decide⟩ rfl ⟨by decide, by decide, rfl⟩ (hts (.fieldLink RX8 13 "OpticalJukeboxModel" "read" "[I") (by decide +kernel)) (v := .ref (adr (g.1 + 189) 31 0)) rfl dX8_platterLine_29 ?_
    refine lv_iconst (v := 0) hx hb dX8_platterLine_32 (by decide) ?_
    refine x_iald (i := (g.1 + 189)) (k := 31) (j := 0) (f := q4.1 31 0) hx hb hK hW ⟨⟨hfl, rfl⟩, by decide⟩ (by decide) (rfl) rfl (by unfold vp_in; decide) dX8_platterLine_33 ?_
    refine W.eq (g2 := F0 m 34 ls [.int (q4.1 31 0 0), .int (0 : Int32), .ref (adr (g.1 + 189) 8 0)]) rfl ?_
    refine lv_iconst (v := 1) hx hb dX8_platterLine_34 (by decide) ?_
    refine lv_isub hx hb dX8_platterLine_35 ?_
    obtain ⟨q5, h_q5, hf⟩ := x_bindE hf
    refine x_ci0 (x_rV ⟨hx, hb, hml, hown, hts⟩ (ct_X8_sees l g hfl w q4.1 mn q4.2 ((0 : Int32)) (((q4.1 31 0 0) - (1 : Int32))) h_q5) (cwV 2 hts gX8_platterLine_X8_sees rfl rfl rfl (by decide +kernel) ⟨Nat.le_of_ble_eq_true rfl, Nat.le_of_ble_eq_true rfl⟩) hK hW hS (x_recv (i := (g.1 + 189)) (k := 8) (j := 0) hK hW ⟨⟨hfl, rfl⟩, by decide⟩ rfl (by decide)) rfl hl.1 (rest := []) rfl (Nat.le_of_ble_eq_true rfl) dX8_platterLine_36 ⟨Nat.le_of_ble_eq_true rfl, Nat.le_of_ble_eq_true rfl⟩) hS (fun H locs hW hS => ?_)
    have hW : World g (wM w q5.2 mn q4.2) H := hW
    refine W.eq (g2 := F0 m 39 ls [.int q5.1]) rfl ?_
    obtain ⟨x6, e_x6, hf⟩ := x_letE hf
    refine x_topi e_x6 ?_
    refine lv_istore_n (lv' := [(1, .int x6), (0, .ref (adr (g.1 + 189) 8 0))]) hx hb dX8_platterLine_39 rfl hl (by decide) rfl (fun ls hl => ?_)
    refine lv_aload_n hx hb dX8_platterLine_40 rfl (lv_at hl 1 rfl) ?_
    refine lv_aload_n hx hb dX8_platterLine_41 rfl (lv_at hl 1 rfl) ?_
    refine x_get (i := (g.1 + 189)) (k := 8) (j := 0) (t := 2) hx hb hts i_8 hown hK hW ⟨⟨hfl, rfl⟩, by decide⟩ rfl ⟨by decide, by decide, rfl⟩ (hts (.fieldLink RX8 13 "OpticalJukeboxModel" "read" "[I") (by decide +kernel)) (v := .ref (adr (g.1 + 189) 31 0)) rfl dX8_platterLine_42 ?_
    refine lv_iload_n hx hb dX8_platterLine_45 rfl (lv_at hl 0 rfl) ?_
    obtain ⟨q7, h_q7, hf⟩ := x_bindE hf
    refine x_ci0 (x_rS ⟨hx, hb, hml, hown, hts⟩ (ct_X8_homeAt l g hfl w q5.2 mn q4.2 31 isRow_31 (x6) h_q7) (va_cwS 2 hts gX8_platterLine_X8_homeAt rfl rfl rfl (by decide +kernel) ⟨Nat.le_of_ble_eq_true rfl, Nat.le_of_ble_eq_true rfl⟩) hK hW hS rfl hl.1 (rest := [.ref (adr (g.1 + 189) 8 0)]) rfl (Nat.le_of_ble_eq_true rfl) dX8_platterLine_46 ⟨Nat.le_of_ble_eq_true rfl, Nat.le_of_ble_eq_true rfl⟩) hS (fun H locs hW hS => ?_)
    have hW : World g (wM w q5.2 mn q4.2) H := hW
    refine W.eq (g2 := F0 m 49 ls [.int q7, .ref (adr (g.1 + 189) 8 0)]) rfl ?_
    refine lv_iconst (v := -1) hx hb dX8_platterLine_49 (by decide) ?_
    obtain ⟨K8, eK8, hf⟩ := x_letE hf
    have KK8 : ∀ (y9 : Int32) (ls : Array Slot) (H : Heap) (locs : List Loc), lv_has ls 5 [(0, .ref (adr (g.1 + 189) 8 0)), (1, .int x6)] → World g (wM w q5.2 mn q4.2) H → va_S (gA g) s.heap H locs → K8 y9 = some q → W p l e rm_X8_platterLine s m [.ref (adr (g.1 + 189) 8 0)].toArray below meth c H locs 0 0 (MQ below (cQv g (wM w q.1 mn q.2)) [.ref (adr (g.1 + 189) 8 0)].toArray s 0 0 (gA g)) (F0 m 58 ls [.int y9, .ref (adr (g.1 + 189) 8 0)]) := by
      intro y9 ls H locs hl hW hS hf
      subst eK8
      refine lv_iconst (v := 4) hx hb dX8_platterLine_58 (by decide) ?_
      obtain ⟨q10, h_q10, hf⟩ := x_bindE hf
      refine x_cv0 (x_rV ⟨hx, hb, hml, hown, hts⟩ (ct_X8_must l g hfl w q5.2 mn q4.2 (y9) ((4 : Int32)) h_q10) (cwV 2 hts gX8_platterLine_X8_must rfl rfl rfl (by decide +kernel) ⟨Nat.le_of_ble_eq_true rfl, Nat.le_of_ble_eq_true rfl⟩) hK hW hS (x_recv (i := (g.1 + 189)) (k := 8) (j := 0) hK hW ⟨⟨hfl, rfl⟩, by decide⟩ rfl (by decide)) rfl hl.1 (rest := []) rfl (Nat.le_of_ble_eq_true rfl) dX8_platterLine_59 ⟨Nat.le_of_ble_eq_true rfl, Nat.le_of_ble_eq_true rfl⟩) hS (fun H locs hW hS => ?_)
      have hW : World g (wM w q10 mn q4.2) H := hW
      refine lv_aload_n hx hb dX8_platterLine_62 rfl (lv_at hl 0 rfl) ?_
      obtain ⟨q11, h_q11, hf⟩ := x_bindE hf
      refine x_cv0 (x_rV ⟨hx, hb, hml, hown, hts⟩ (ct_X8_goesOn l g hfl w q10 mn q4.2  h_q11) (cwV 0 hts gX8_platterLine_X8_goesOn rfl rfl rfl (by decide +kernel) ⟨Nat.le_of_ble_eq_true rfl, Nat.le_of_ble_eq_true rfl⟩) hK hW hS (x_recv (i := (g.1 + 189)) (k := 8) (j := 0) hK hW ⟨⟨hfl, rfl⟩, by decide⟩ rfl (by decide)) rfl hl.1 (rest := []) rfl (Nat.le_of_ble_eq_true rfl) dX8_platterLine_63 ⟨Nat.le_of_ble_eq_true rfl, Nat.le_of_ble_eq_true rfl⟩) hS (fun H locs hW hS => ?_)
      have hW : World g (wM w q11.1 mn q11.2) H := hW
      refine lv_aload_n hx hb dX8_platterLine_66 rfl (lv_at hl 0 rfl) ?_
      refine lv_bipush (v := 10) hx hb dX8_platterLine_67 (by decide) ?_
      refine lv_sipush (v := 300) hx hb dX8_platterLine_69 (by decide) ?_
      obtain ⟨q12, h_q12, hf⟩ := x_bindE hf
      refine x_ci0 (x_rV ⟨hx, hb, hml, hown, hts⟩ (ct_X8_takes l g hfl w q11.1 mn q11.2 ((10 : Int32)) ((300 : Int32)) h_q12) (cwV 2 hts gX8_platterLine_X8_takes rfl rfl rfl (by decide +kernel) ⟨Nat.le_of_ble_eq_true rfl, Nat.le_of_ble_eq_true rfl⟩) hK hW hS (x_recv (i := (g.1 + 189)) (k := 8) (j := 0) hK hW ⟨⟨hfl, rfl⟩, by decide⟩ rfl (by decide)) rfl hl.1 (rest := []) rfl (Nat.le_of_ble_eq_true rfl) dX8_platterLine_72 ⟨Nat.le_of_ble_eq_true rfl, Nat.le_of_ble_eq_true rfl⟩) hS (fun H locs hW hS => ?_)
      have hW : World g (wM w q12.2.1 mn q12.2.2) H := hW
      refine W.eq (g2 := F0 m 75 ls [.int q12.1]) rfl ?_
      obtain ⟨x13, e_x13, hf⟩ := x_letE hf
      refine x_topi e_x13 ?_
      refine lv_istore_n (lv' := [(2, .int x13), (0, .ref (adr (g.1 + 189) 8 0)), (1, .int x6)]) hx hb dX8_platterLine_75 rfl hl (by decide) rfl (fun ls hl => ?_)
      refine lv_aload_n hx hb dX8_platterLine_76 rfl (lv_at hl 1 rfl) ?_
      refine lv_iconst (v := 0) hx hb dX8_platterLine_77 (by decide) ?_
      refine lv_bipush (v := 9) hx hb dX8_platterLine_78 (by decide) ?_
      obtain ⟨q14, h_q14, hf⟩ := x_bindE hf
      refine x_ci0 (x_rV ⟨hx, hb, hml, hown, hts⟩ (ct_X8_takes l g hfl w q12.2.1 mn q12.2.2 ((0 : Int32)) ((9 : Int32)) h_q14) (cwV 2 hts gX8_platterLine_X8_takes rfl rfl rfl (by decide +kernel) ⟨Nat.le_of_ble_eq_true rfl, Nat.le_of_ble_eq_true rfl⟩) hK hW hS (x_recv (i := (g.1 + 189)) (k := 8) (j := 0) hK hW ⟨⟨hfl, rfl⟩, by decide⟩ rfl (by decide)) rfl hl.1 (rest := []) rfl (Nat.le_of_ble_eq_true rfl) dX8_platterLine_80 ⟨Nat.le_of_ble_eq_true rfl, Nat.le_of_ble_eq_true rfl⟩) hS (fun H locs hW hS => ?_)
      have hW : World g (wM w q14.2.1 mn q14.2.2) H := hW
      refine W.eq (g2 := F0 m 83 ls [.int q14.1]) rfl ?_
      obtain ⟨x15, e_x15, hf⟩ := x_letE hf
      refine x_topi e_x15 ?_
      refine lv_istore_n (lv' := [(3, .int x15), (2, .int x13), (0, .ref (adr (g.1 + 189) 8 0)), (1, .int x6)]) hx hb dX8_platterLine_83 rfl hl (by decide) rfl (fun ls hl => ?_)
      refine lv_aload_n hx hb dX8_platterLine_84 rfl (lv_at hl 2 rfl) ?_
      obtain ⟨q16, h_q16, hf⟩ := x_bindE hf
      refine x_ci0 (x_rV ⟨hx, hb, hml, hown, hts⟩ (ct_X8_good l g hfl w q14.2.1 mn q14.2.2  h_q16) (cwV 0 hts gX8_platterLine_X8_good rfl rfl rfl (by decide +kernel) ⟨Nat.le_of_ble_eq_true rfl, Nat.le_of_ble_eq_true rfl⟩) hK hW hS (x_recv (i := (g.1 + 189)) (k := 8) (j := 0) hK hW ⟨⟨hfl, rfl⟩, by decide⟩ rfl (by decide)) rfl hl.1 (rest := []) rfl (Nat.le_of_ble_eq_true rfl) dX8_platterLine_85 ⟨Nat.le_of_ble_eq_true rfl, Nat.le_of_ble_eq_true rfl⟩) hS (fun H locs hW hS => ?_)
      have hW : World g (wM w q14.2.1 mn q14.2.2) H := hW
      refine W.eq (g2 := F0 m 88 ls [.int q16]) rfl ?_
      refine lv_if_ne (tgt := 92) hx hb dX8_platterLine_88 (by decide) (fun hc => ?_) (fun hc => ?_)
      · have hf := x_iteF hf hc
        refine lv_aload_n hx hb dX8_platterLine_92 rfl (lv_at hl 2 rfl) ?_
        refine x_get (i := (g.1 + 189)) (k := 8) (j := 0) (t := 2) hx hb hts i_8 hown hK hW ⟨⟨hfl, rfl⟩, by decide⟩ rfl ⟨by decide, by decide, rfl⟩ (hts (.fieldLink RX8 13 "OpticalJukeboxModel" "read" "[I") (by decide +kernel)) (v := .ref (adr (g.1 + 189) 31 0)) rfl dX8_platterLine_93 ?_
        refine lv_bipush (v := 7) hx hb dX8_platterLine_96 (by decide) ?_
        refine x_iald (i := (g.1 + 189)) (k := 31) (j := 0) (f := q14.2.1 31 0) hx hb hK hW ⟨⟨hfl, rfl⟩, by decide⟩ (by decide) (rfl) rfl (by unfold vp_in; decide) dX8_platterLine_98 ?_
        refine W.eq (g2 := F0 m 99 ls [.int (q14.2.1 31 0 7)]) rfl ?_
        obtain ⟨x17, e_x17, hf⟩ := x_letE hf
        refine x_topi e_x17 ?_
        refine lv_istore (lv' := [(4, .int x17), (3, .int x15), (2, .int x13), (0, .ref (adr (g.1 + 189) 8 0)), (1, .int x6)]) hx hb dX8_platterLine_99 hl (by decide) rfl (fun ls hl => ?_)
        refine lv_aload_n hx hb dX8_platterLine_101 rfl (lv_at hl 3 rfl) ?_
        refine x_get (i := (g.1 + 189)) (k := 8) (j := 0) (t := 2) hx hb hts i_8 hown hK hW ⟨⟨hfl, rfl⟩, by decide⟩ rfl ⟨by decide, by decide, rfl⟩ (hts (.fieldLink RX8 13 "OpticalJukeboxModel" "read" "[I") (by decide +kernel)) (v := .ref (adr (g.1 + 189) 31 0)) rfl dX8_platterLine_102 ?_
        refine lv_bipush (v := 7) hx hb dX8_platterLine_105 (by decide) ?_
        refine lv_dup2_11 hx hb dX8_platterLine_107 rfl rfl ?_
        refine x_iald (i := (g.1 + 189)) (k := 31) (j := 0) (f := q14.2.1 31 0) hx hb hK hW ⟨⟨hfl, rfl⟩, by decide⟩ (by decide) (rfl) rfl (by unfold vp_in; decide) dX8_platterLine_108 ?_
        refine W.eq (g2 := F0 m 109 ls [.int (q14.2.1 31 0 7), .int (7 : Int32), .ref (adr (g.1 + 189) 31 0)]) rfl ?_
        refine lv_iconst (v := 1) hx hb dX8_platterLine_109 (by decide) ?_
        refine lv_iadd hx hb dX8_platterLine_110 ?_
        obtain ⟨md18, e_md18, hf⟩ := x_letE hf
        refine x_iast (i := (g.1 + 189)) (k := 31) (j := 0) (w' := wM w md18 mn q14.2.2) hx hb hK hW ⟨⟨hfl, rfl⟩, by decide⟩ hS (by decide) rfl rfl rfl (by unfold vp_in; decide) dX8_platterLine_111 (fp_M e_md18 rfl) (fun H locs hW hS => ?_)
        refine lv_aload_n hx hb dX8_platterLine_112 rfl (lv_at hl 3 rfl) ?_
        refine x_get (i := (g.1 + 189)) (k := 8) (j := 0) (t := 2) hx hb hts i_8 hown hK hW ⟨⟨hfl, rfl⟩, by decide⟩ rfl ⟨by decide, by decide, rfl⟩ (hts (.fieldLink RX8 13 "OpticalJukeboxModel" "read" "[I") (by decide +kernel)) (v := .ref (adr (g.1 + 189) 31 0)) rfl dX8_platterLine_113 ?_
        refine lv_bipush (v := 29) hx hb dX8_platterLine_116 (by decide) ?_
        refine lv_iload hx hb dX8_platterLine_118 (lv_at hl 0 rfl) ?_
        refine lv_iadd hx hb dX8_platterLine_120 ?_
        refine lv_iload_n hx hb dX8_platterLine_121 rfl (lv_at hl 4 rfl) ?_
        obtain ⟨hg19, hf⟩ := x_guardE hf
        obtain ⟨md20, e_md20, hf⟩ := x_letE hf
        refine x_iast (i := (g.1 + 189)) (k := 31) (j := 0) (w' := wM w md20 mn q14.2.2) hx hb hK hW ⟨⟨hfl, rfl⟩, by decide⟩ hS (by decide) rfl rfl rfl hg19 dX8_platterLine_122 (fp_M e_md20 rfl) (fun H locs hW hS => ?_)
        refine lv_aload_n hx hb dX8_platterLine_123 rfl (lv_at hl 3 rfl) ?_
        refine x_get (i := (g.1 + 189)) (k := 8) (j := 0) (t := 2) hx hb hts i_8 hown hK hW ⟨⟨hfl, rfl⟩, by decide⟩ rfl ⟨by decide, by decide, rfl⟩ (hts (.fieldLink RX8 13 "OpticalJukeboxModel" "read" "[I") (by decide +kernel)) (v := .ref (adr (g.1 + 189) 31 0)) rfl dX8_platterLine_124 ?_
        refine lv_bipush (v := 39) hx hb dX8_platterLine_127 (by decide) ?_
        refine lv_iload hx hb dX8_platterLine_129 (lv_at hl 0 rfl) ?_
        refine lv_iadd hx hb dX8_platterLine_131 ?_
        refine lv_iload_n hx hb dX8_platterLine_132 rfl (lv_at hl 2 rfl) ?_
        obtain ⟨hg21, hf⟩ := x_guardE hf
        obtain ⟨md22, e_md22, hf⟩ := x_letE hf
        refine x_iast (i := (g.1 + 189)) (k := 31) (j := 0) (w' := wM w md22 mn q14.2.2) hx hb hK hW ⟨⟨hfl, rfl⟩, by decide⟩ hS (by decide) rfl rfl rfl hg21 dX8_platterLine_133 (fp_M e_md22 rfl) (fun H locs hW hS => ?_)
        refine lv_aload_n hx hb dX8_platterLine_134 rfl (lv_at hl 3 rfl) ?_
        refine x_get (i := (g.1 + 189)) (k := 8) (j := 0) (t := 2) hx hb hts i_8 hown hK hW ⟨⟨hfl, rfl⟩, by decide⟩ rfl ⟨by decide, by decide, rfl⟩ (hts (.fieldLink RX8 13 "OpticalJukeboxModel" "read" "[I") (by decide +kernel)) (v := .ref (adr (g.1 + 189) 31 0)) rfl dX8_platterLine_135 ?_
        refine lv_bipush (v := 49) hx hb dX8_platterLine_138 (by decide) ?_
        refine lv_iload hx hb dX8_platterLine_140 (lv_at hl 0 rfl) ?_
        refine lv_iadd hx hb dX8_platterLine_142 ?_
        refine lv_iload_n hx hb dX8_platterLine_143 rfl (lv_at hl 1 rfl) ?_
        obtain ⟨hg23, hf⟩ := x_guardE hf
        obtain ⟨md24, e_md24, hf⟩ := x_letE hf
        refine x_iast (i := (g.1 + 189)) (k := 31) (j := 0) (w' := wM w md24 mn q14.2.2) hx hb hK hW ⟨⟨hfl, rfl⟩, by decide⟩ hS (by decide) rfl rfl rfl hg23 dX8_platterLine_144 (fp_M e_md24 rfl) (fun H locs hW hS => ?_)
        cases hf
        exact x_vret hx hb hr hlocks hK hW hS dX8_platterLine_145
      · have hf := x_iteT hf hc
        cases hf
        exact x_vret hx hb hr hlocks hK hW hS dX8_platterLine_91
    clear eK8
    refine lv_icmp_ne (tgt := 57) hx hb dX8_platterLine_50 (by decide) (fun hc => ?_) (fun hc => ?_)
    · have hf := x_iteF hf hc
      refine lv_iconst (v := 0) hx hb dX8_platterLine_57 (by decide) ?_
      exact KK8 ((0 : Int32)) ls _ _ (lv_sub hl [1, 0] rfl) hW hS hf
    · have hf := x_iteT hf hc
      refine lv_iconst (v := 1) hx hb dX8_platterLine_53 (by decide) ?_
      refine lv_goto (tgt := 58) hx hb dX8_platterLine_54 (by decide) ?_
      exact KK8 ((1 : Int32)) ls _ _ (lv_sub hl [1, 0] rfl) hW hS hf
  clear eK1
  refine lv_icmp_ge (tgt := 17) hx hb dX8_platterLine_10 (by decide) (fun hc => ?_) (fun hc => ?_)
  · have hf := x_iteT hf hc
    refine lv_iconst (v := 0) hx hb dX8_platterLine_17 (by decide) ?_
    exact KK1 ((0 : Int32)) ls _ _ hl hW hS hf
  · have hf := x_iteF hf hc
    refine lv_iconst (v := 1) hx hb dX8_platterLine_13 (by decide) ?_
    refine lv_goto (tgt := 18) hx hb dX8_platterLine_14 (by decide) ?_
    exact KK1 ((1 : Int32)) ls _ _ hl hW hS hf
abbrev rm_X8_badLine : Room := { frames := 5, cells := 0, slots := 0, locals := 111 }
set_option maxRecDepth 100000 in
set_option maxHeartbeats 4000000 in
theorem ct_X8_badLine (l : Launch) (g : GT) (hfl : 2 ≤ gf g) (w : WT) (md : SD) (mn : Nat → Int64) (mw : Int64) {q : (SD × Int64)} (hf : f_X8_badLine md mw  = some q) : Met l yX8_badLine wsX8_badLine rm_X8_badLine (cPre g (wM w md mn mw) [.ref (adr (g.1 + 189) 8 0)]) (cQv g (wM w q.1 mn q.2)) 0 0 (gA g) := by
  have i_8 : ∀ w ∈ u_ws RX8 TX8 27, w ∈ wsX8_badLine := by decide +kernel
  refine x_met (by decide) rfl (Nat.le_of_ble_eq_true rfl) ?_
  intro p e s m below meth c hx hb hr hml hts hown hlocks hK hW hS ls hl
  have hown : s.vm.findClass RX8 = some m.cls := hown
  have hl : lv_has ls 3 [(0, .ref (adr (g.1 + 189) 8 0))] := hl
  rw [f_X8_badLine] at hf
  refine lv_aload_n hx hb dX8_badLine_0 rfl (lv_at hl 0 rfl) ?_
  refine lv_aload_n hx hb dX8_badLine_1 rfl (lv_at hl 0 rfl) ?_
  refine x_get (i := (g.1 + 189)) (k := 8) (j := 0) (t := 2) hx hb hts i_8 hown hK hW ⟨⟨hfl, rfl⟩, by decide⟩ rfl ⟨by decide, by decide, rfl⟩ (hts (.fieldLink RX8 13 "OpticalJukeboxModel" "read" "[I") (by decide +kernel)) (v := .ref (adr (g.1 + 189) 31 0)) rfl dX8_badLine_2 ?_
  refine lv_bipush (v := 8) hx hb dX8_badLine_5 (by decide) ?_
  refine x_iald (i := (g.1 + 189)) (k := 31) (j := 0) (f := md 31 0) hx hb hK hW ⟨⟨hfl, rfl⟩, by decide⟩ (by decide) (rfl) rfl (by unfold vp_in; decide) dX8_badLine_7 ?_
  refine W.eq (g2 := F0 m 8 ls [.int (md 31 0 8), .ref (adr (g.1 + 189) 8 0)]) rfl ?_
  refine lv_bipush (v := 20) hx hb dX8_badLine_8 (by decide) ?_
  obtain ⟨K1, eK1, hf⟩ := x_letE hf
  have KK1 : ∀ (y2 : Int32) (ls : Array Slot) (H : Heap) (locs : List Loc), lv_has ls 3 [(0, .ref (adr (g.1 + 189) 8 0))] → World g (wM w md mn mw) H → va_S (gA g) s.heap H locs → K1 y2 = some q → W p l e rm_X8_badLine s m [.ref (adr (g.1 + 189) 8 0)].toArray below meth c H locs 0 0 (MQ below (cQv g (wM w q.1 mn q.2)) [.ref (adr (g.1 + 189) 8 0)].toArray s 0 0 (gA g)) (F0 m 18 ls [.int y2, .ref (adr (g.1 + 189) 8 0)]) := by
    intro y2 ls H locs hl hW hS hf
    subst eK1
    refine lv_iconst (v := 5) hx hb dX8_badLine_18 (by decide) ?_
    obtain ⟨q3, h_q3, hf⟩ := x_bindE hf
    refine x_cv0 (x_rV ⟨hx, hb, hml, hown, hts⟩ (ct_X8_must l g hfl w md mn mw (y2) ((5 : Int32)) h_q3) (cwV 2 hts gX8_badLine_X8_must rfl rfl rfl (by decide +kernel) ⟨Nat.le_of_ble_eq_true rfl, Nat.le_of_ble_eq_true rfl⟩) hK hW hS (x_recv (i := (g.1 + 189)) (k := 8) (j := 0) hK hW ⟨⟨hfl, rfl⟩, by decide⟩ rfl (by decide)) rfl hl.1 (rest := []) rfl (Nat.le_of_ble_eq_true rfl) dX8_badLine_19 ⟨Nat.le_of_ble_eq_true rfl, Nat.le_of_ble_eq_true rfl⟩) hS (fun H locs hW hS => ?_)
    have hW : World g (wM w q3 mn mw) H := hW
    refine lv_aload_n hx hb dX8_badLine_22 rfl (lv_at hl 0 rfl) ?_
    obtain ⟨q4, h_q4, hf⟩ := x_bindE hf
    refine x_cv0 (x_rV ⟨hx, hb, hml, hown, hts⟩ (ct_X8_goesOn l g hfl w q3 mn mw  h_q4) (cwV 0 hts gX8_badLine_X8_goesOn rfl rfl rfl (by decide +kernel) ⟨Nat.le_of_ble_eq_true rfl, Nat.le_of_ble_eq_true rfl⟩) hK hW hS (x_recv (i := (g.1 + 189)) (k := 8) (j := 0) hK hW ⟨⟨hfl, rfl⟩, by decide⟩ rfl (by decide)) rfl hl.1 (rest := []) rfl (Nat.le_of_ble_eq_true rfl) dX8_badLine_23 ⟨Nat.le_of_ble_eq_true rfl, Nat.le_of_ble_eq_true rfl⟩) hS (fun H locs hW hS => ?_)
    have hW : World g (wM w q4.1 mn q4.2) H := hW
    refine lv_aload_n hx hb dX8_badLine_26 rfl (lv_at hl 0 rfl) ?_
    refine lv_iconst (v := 0) hx hb dX8_badLine_27 (by decide) ?_
    refine lv_aload_n hx hb dX8_badLine_28 rfl (lv_at hl 0 rfl) ?_
    refine x_get (i := (g.1 + 189)) (k := 8) (j := 0) (t := 2) hx hb hts i_8 hown hK hW ⟨⟨hfl, rfl⟩, by decide⟩ rfl ⟨by decide, by decide, rfl⟩ (hts (.fieldLink RX8 13 "OpticalJukeboxModel" "read" "[I") (by decide +kernel)) (v := .ref (adr (g.1 + 189) 31 0)) rfl dX8_badLine_29 ?_
    refine lv_bipush (v := 7) hx hb dX8_badLine_32 (by decide) ?_
    refine x_iald (i := (g.1 + 189)) (k := 31) (j := 0) (f := q4.1 31 0) hx hb hK hW ⟨⟨hfl, rfl⟩, by decide⟩ (by decide) (rfl) rfl (by unfold vp_in; decide) dX8_badLine_34 ?_
    refine W.eq (g2 := F0 m 35 ls [.int (q4.1 31 0 7), .int (0 : Int32), .ref (adr (g.1 + 189) 8 0)]) rfl ?_
    refine lv_iconst (v := 1) hx hb dX8_badLine_35 (by decide) ?_
    refine lv_isub hx hb dX8_badLine_36 ?_
    obtain ⟨q5, h_q5, hf⟩ := x_bindE hf
    refine x_ci0 (x_rV ⟨hx, hb, hml, hown, hts⟩ (ct_X8_takes l g hfl w q4.1 mn q4.2 ((0 : Int32)) (((q4.1 31 0 7) - (1 : Int32))) h_q5) (cwV 2 hts gX8_badLine_X8_takes rfl rfl rfl (by decide +kernel) ⟨Nat.le_of_ble_eq_true rfl, Nat.le_of_ble_eq_true rfl⟩) hK hW hS (x_recv (i := (g.1 + 189)) (k := 8) (j := 0) hK hW ⟨⟨hfl, rfl⟩, by decide⟩ rfl (by decide)) rfl hl.1 (rest := []) rfl (Nat.le_of_ble_eq_true rfl) dX8_badLine_37 ⟨Nat.le_of_ble_eq_true rfl, Nat.le_of_ble_eq_true rfl⟩) hS (fun H locs hW hS => ?_)
    have hW : World g (wM w q5.2.1 mn q5.2.2) H := hW
    refine W.eq (g2 := F0 m 40 ls [.int q5.1]) rfl ?_
    obtain ⟨x6, e_x6, hf⟩ := x_letE hf
    refine x_topi e_x6 ?_
    refine lv_istore_n (lv' := [(1, .int x6), (0, .ref (adr (g.1 + 189) 8 0))]) hx hb dX8_badLine_40 rfl hl (by decide) rfl (fun ls hl => ?_)
    refine lv_aload_n hx hb dX8_badLine_41 rfl (lv_at hl 1 rfl) ?_
    refine lv_iconst (v := 0) hx hb dX8_badLine_42 (by decide) ?_
    refine lv_aload_n hx hb dX8_badLine_43 rfl (lv_at hl 1 rfl) ?_
    obtain ⟨q7, h_q7, hf⟩ := x_bindE hf
    refine x_ci0 (x_rV ⟨hx, hb, hml, hown, hts⟩ (ct_X8_good l g hfl w q5.2.1 mn q5.2.2  h_q7) (cwV 0 hts gX8_badLine_X8_good rfl rfl rfl (by decide +kernel) ⟨Nat.le_of_ble_eq_true rfl, Nat.le_of_ble_eq_true rfl⟩) hK hW hS (x_recv (i := (g.1 + 189)) (k := 8) (j := 0) hK hW ⟨⟨hfl, rfl⟩, by decide⟩ rfl (by decide)) rfl hl.1 (rest := [.int (0 : Int32), .ref (adr (g.1 + 189) 8 0)]) rfl (Nat.le_of_ble_eq_true rfl) dX8_badLine_44 ⟨Nat.le_of_ble_eq_true rfl, Nat.le_of_ble_eq_true rfl⟩) hS (fun H locs hW hS => ?_)
    have hW : World g (wM w q5.2.1 mn q5.2.2) H := hW
    refine W.eq (g2 := F0 m 47 ls [.int q7, .int (0 : Int32), .ref (adr (g.1 + 189) 8 0)]) rfl ?_
    obtain ⟨K8, eK8, hf⟩ := x_letE hf
    have KK8 : ∀ (y9 : Int32) (ls : Array Slot) (H : Heap) (locs : List Loc), lv_has ls 3 [(0, .ref (adr (g.1 + 189) 8 0)), (1, .int x6)] → World g (wM w q5.2.1 mn q5.2.2) H → va_S (gA g) s.heap H locs → K8 y9 = some q → W p l e rm_X8_badLine s m [.ref (adr (g.1 + 189) 8 0)].toArray below meth c H locs 0 0 (MQ below (cQv g (wM w q.1 mn q.2)) [.ref (adr (g.1 + 189) 8 0)].toArray s 0 0 (gA g)) (F0 m 65 ls [.int y9, .int (0 : Int32), .ref (adr (g.1 + 189) 8 0)]) := by
      intro y9 ls H locs hl hW hS hf
      subst eK8
      obtain ⟨q10, h_q10, hf⟩ := x_bindE hf
      refine x_ci0 (x_rV ⟨hx, hb, hml, hown, hts⟩ (ct_X8_sees l g hfl w q5.2.1 mn q5.2.2 ((0 : Int32)) (y9) h_q10) (cwV 2 hts gX8_badLine_X8_sees rfl rfl rfl (by decide +kernel) ⟨Nat.le_of_ble_eq_true rfl, Nat.le_of_ble_eq_true rfl⟩) hK hW hS (x_recv (i := (g.1 + 189)) (k := 8) (j := 0) hK hW ⟨⟨hfl, rfl⟩, by decide⟩ rfl (by decide)) rfl hl.1 (rest := []) rfl (Nat.le_of_ble_eq_true rfl) dX8_badLine_65 ⟨Nat.le_of_ble_eq_true rfl, Nat.le_of_ble_eq_true rfl⟩) hS (fun H locs hW hS => ?_)
      have hW : World g (wM w q10.2 mn q5.2.2) H := hW
      refine W.eq (g2 := F0 m 68 ls [.int q10.1]) rfl ?_
      obtain ⟨x11, e_x11, hf⟩ := x_letE hf
      refine x_topi e_x11 ?_
      refine lv_istore_n (lv' := [(2, .int x11), (0, .ref (adr (g.1 + 189) 8 0)), (1, .int x6)]) hx hb dX8_badLine_68 rfl hl (by decide) rfl (fun ls hl => ?_)
      refine lv_aload_n hx hb dX8_badLine_69 rfl (lv_at hl 1 rfl) ?_
      refine lv_aload_n hx hb dX8_badLine_70 rfl (lv_at hl 1 rfl) ?_
      obtain ⟨q12, h_q12, hf⟩ := x_bindE hf
      refine x_ci0 (x_rV ⟨hx, hb, hml, hown, hts⟩ (ct_X8_good l g hfl w q10.2 mn q5.2.2  h_q12) (cwV 0 hts gX8_badLine_X8_good rfl rfl rfl (by decide +kernel) ⟨Nat.le_of_ble_eq_true rfl, Nat.le_of_ble_eq_true rfl⟩) hK hW hS (x_recv (i := (g.1 + 189)) (k := 8) (j := 0) hK hW ⟨⟨hfl, rfl⟩, by decide⟩ rfl (by decide)) rfl hl.1 (rest := [.ref (adr (g.1 + 189) 8 0)]) rfl (Nat.le_of_ble_eq_true rfl) dX8_badLine_71 ⟨Nat.le_of_ble_eq_true rfl, Nat.le_of_ble_eq_true rfl⟩) hS (fun H locs hW hS => ?_)
      have hW : World g (wM w q10.2 mn q5.2.2) H := hW
      refine W.eq (g2 := F0 m 74 ls [.int q12, .ref (adr (g.1 + 189) 8 0)]) rfl ?_
      obtain ⟨K13, eK13, hf⟩ := x_letE hf
      have KK13 : ∀ (y14 : Int32) (ls : Array Slot) (H : Heap) (locs : List Loc), lv_has ls 3 [(0, .ref (adr (g.1 + 189) 8 0)), (1, .int x6), (2, .int x11)] → World g (wM w q10.2 mn q5.2.2) H → va_S (gA g) s.heap H locs → K13 y14 = some q → W p l e rm_X8_badLine s m [.ref (adr (g.1 + 189) 8 0)].toArray below meth c H locs 0 0 (MQ below (cQv g (wM w q.1 mn q.2)) [.ref (adr (g.1 + 189) 8 0)].toArray s 0 0 (gA g)) (F0 m 94 ls [.int y14, .ref (adr (g.1 + 189) 8 0)]) := by
        intro y14 ls H locs hl hW hS hf
        subst eK13
        refine lv_iconst (v := 4) hx hb dX8_badLine_94 (by decide) ?_
        obtain ⟨q15, h_q15, hf⟩ := x_bindE hf
        refine x_cv0 (x_rV ⟨hx, hb, hml, hown, hts⟩ (ct_X8_must l g hfl w q10.2 mn q5.2.2 (y14) ((4 : Int32)) h_q15) (cwV 2 hts gX8_badLine_X8_must rfl rfl rfl (by decide +kernel) ⟨Nat.le_of_ble_eq_true rfl, Nat.le_of_ble_eq_true rfl⟩) hK hW hS (x_recv (i := (g.1 + 189)) (k := 8) (j := 0) hK hW ⟨⟨hfl, rfl⟩, by decide⟩ rfl (by decide)) rfl hl.1 (rest := []) rfl (Nat.le_of_ble_eq_true rfl) dX8_badLine_95 ⟨Nat.le_of_ble_eq_true rfl, Nat.le_of_ble_eq_true rfl⟩) hS (fun H locs hW hS => ?_)
        have hW : World g (wM w q15 mn q5.2.2) H := hW
        refine lv_aload_n hx hb dX8_badLine_98 rfl (lv_at hl 0 rfl) ?_
        obtain ⟨q16, h_q16, hf⟩ := x_bindE hf
        refine x_ci0 (x_rV ⟨hx, hb, hml, hown, hts⟩ (ct_X8_good l g hfl w q15 mn q5.2.2  h_q16) (cwV 0 hts gX8_badLine_X8_good rfl rfl rfl (by decide +kernel) ⟨Nat.le_of_ble_eq_true rfl, Nat.le_of_ble_eq_true rfl⟩) hK hW hS (x_recv (i := (g.1 + 189)) (k := 8) (j := 0) hK hW ⟨⟨hfl, rfl⟩, by decide⟩ rfl (by decide)) rfl hl.1 (rest := []) rfl (Nat.le_of_ble_eq_true rfl) dX8_badLine_99 ⟨Nat.le_of_ble_eq_true rfl, Nat.le_of_ble_eq_true rfl⟩) hS (fun H locs hW hS => ?_)
        have hW : World g (wM w q15 mn q5.2.2) H := hW
        refine W.eq (g2 := F0 m 102 ls [.int q16]) rfl ?_
        obtain ⟨K17, eK17, hf⟩ := x_letE hf
        have KK17 : ∀ (md18 : SD) (ls : Array Slot) (H : Heap) (locs : List Loc), lv_has ls 3 [(0, .ref (adr (g.1 + 189) 8 0)), (1, .int x6), (2, .int x11)] → World g (wM w md18 mn q5.2.2) H → va_S (gA g) s.heap H locs → K17 md18 = some q → W p l e rm_X8_badLine s m [.ref (adr (g.1 + 189) 8 0)].toArray below meth c H locs 0 0 (MQ below (cQv g (wM w q.1 mn q.2)) [.ref (adr (g.1 + 189) 8 0)].toArray s 0 0 (gA g)) (F0 m 114 ls []) := by
          intro md18 ls H locs hl hW hS hf
          subst eK17
          refine lv_aload_n hx hb dX8_badLine_114 rfl (lv_at hl 0 rfl) ?_
          obtain ⟨q19, h_q19, hf⟩ := x_bindE hf
          refine x_cv0 (x_rV ⟨hx, hb, hml, hown, hts⟩ (ct_X8_goesOn l g hfl w md18 mn q5.2.2  h_q19) (cwV 0 hts gX8_badLine_X8_goesOn rfl rfl rfl (by decide +kernel) ⟨Nat.le_of_ble_eq_true rfl, Nat.le_of_ble_eq_true rfl⟩) hK hW hS (x_recv (i := (g.1 + 189)) (k := 8) (j := 0) hK hW ⟨⟨hfl, rfl⟩, by decide⟩ rfl (by decide)) rfl hl.1 (rest := []) rfl (Nat.le_of_ble_eq_true rfl) dX8_badLine_115 ⟨Nat.le_of_ble_eq_true rfl, Nat.le_of_ble_eq_true rfl⟩) hS (fun H locs hW hS => ?_)
          have hW : World g (wM w q19.1 mn q19.2) H := hW
          cases hf
          exact x_vret hx hb hr hlocks hK hW hS dX8_badLine_118
        clear eK17
        refine lv_if_eq (tgt := 114) hx hb dX8_badLine_102 (by decide) (fun hc => ?_) (fun hc => ?_)
        · have hf := x_iteT hf hc
          exact KK17 (q15) ls _ _ hl hW hS hf
        · have hf := x_iteF hf hc
          refine lv_aload_n hx hb dX8_badLine_105 rfl (lv_at hl 0 rfl) ?_
          refine x_get (i := (g.1 + 189)) (k := 8) (j := 0) (t := 2) hx hb hts i_8 hown hK hW ⟨⟨hfl, rfl⟩, by decide⟩ rfl ⟨by decide, by decide, rfl⟩ (hts (.fieldLink RX8 13 "OpticalJukeboxModel" "read" "[I") (by decide +kernel)) (v := .ref (adr (g.1 + 189) 31 0)) rfl dX8_badLine_106 ?_
          refine lv_iload_n hx hb dX8_badLine_109 rfl (lv_at hl 1 rfl) ?_
          refine lv_iload_n hx hb dX8_badLine_110 rfl (lv_at hl 2 rfl) ?_
          obtain ⟨q20, h_q20, hf⟩ := x_bindE hf
          refine x_cv0 (x_rS ⟨hx, hb, hml, hown, hts⟩ (ct_X8_marks l g hfl w q15 mn q5.2.2 31 isRow_31 (x6) (x11) h_q20) (va_cwS 3 hts gX8_badLine_X8_marks rfl rfl rfl (by decide +kernel) ⟨Nat.le_of_ble_eq_true rfl, Nat.le_of_ble_eq_true rfl⟩) hK hW hS rfl hl.1 (rest := []) rfl (Nat.le_of_ble_eq_true rfl) dX8_badLine_111 ⟨Nat.le_of_ble_eq_true rfl, Nat.le_of_ble_eq_true rfl⟩) hS (fun H locs hW hS => ?_)
          have hW : World g (wM w q20 mn q5.2.2) H := hW
          exact KK17 (q20) ls _ _ hl hW hS hf
      clear eK13
      obtain ⟨K21, eK21, hf⟩ := x_letE hf
      have KK21 : ∀ (_u : Unit) (ls : Array Slot) (H : Heap) (locs : List Loc), lv_has ls 3 [(0, .ref (adr (g.1 + 189) 8 0)), (1, .int x6), (2, .int x11)] → World g (wM w q10.2 mn q5.2.2) H → va_S (gA g) s.heap H locs → K21 _u = some q → W p l e rm_X8_badLine s m [.ref (adr (g.1 + 189) 8 0)].toArray below meth c H locs 0 0 (MQ below (cQv g (wM w q.1 mn q.2)) [.ref (adr (g.1 + 189) 8 0)].toArray s 0 0 (gA g)) (F0 m 93 ls [.ref (adr (g.1 + 189) 8 0)]) := by
        intro _u ls H locs hl hW hS hf
        subst eK21
        refine lv_iconst (v := 0) hx hb dX8_badLine_93 (by decide) ?_
        exact KK13 ((0 : Int32)) ls _ _ hl hW hS hf
      clear eK21
      refine lv_if_eq (tgt := 93) hx hb dX8_badLine_74 (by decide) (fun hc => ?_) (fun hc => ?_)
      · have hf := x_iteT hf hc
        exact KK21 (()) ls _ _ (lv_sub hl [1, 2, 0] rfl) hW hS hf
      · have hf := x_iteF hf hc
        refine lv_aload_n hx hb dX8_badLine_77 rfl (lv_at hl 1 rfl) ?_
        refine x_get (i := (g.1 + 189)) (k := 8) (j := 0) (t := 2) hx hb hts i_8 hown hK hW ⟨⟨hfl, rfl⟩, by decide⟩ rfl ⟨by decide, by decide, rfl⟩ (hts (.fieldLink RX8 13 "OpticalJukeboxModel" "read" "[I") (by decide +kernel)) (v := .ref (adr (g.1 + 189) 31 0)) rfl dX8_badLine_78 ?_
        refine lv_iload_n hx hb dX8_badLine_81 rfl (lv_at hl 2 rfl) ?_
        refine lv_iload_n hx hb dX8_badLine_82 rfl (lv_at hl 0 rfl) ?_
        obtain ⟨q22, h_q22, hf⟩ := x_bindE hf
        refine x_ci0 (x_rS ⟨hx, hb, hml, hown, hts⟩ (ct_X8_isBad l g hfl w q10.2 mn q5.2.2 31 isRow_31 (x6) (x11) h_q22) (va_cwS 3 hts gX8_badLine_X8_isBad rfl rfl rfl (by decide +kernel) ⟨Nat.le_of_ble_eq_true rfl, Nat.le_of_ble_eq_true rfl⟩) hK hW hS rfl hl.1 (rest := [.ref (adr (g.1 + 189) 8 0)]) rfl (Nat.le_of_ble_eq_true rfl) dX8_badLine_83 ⟨Nat.le_of_ble_eq_true rfl, Nat.le_of_ble_eq_true rfl⟩) hS (fun H locs hW hS => ?_)
        have hW : World g (wM w q10.2 mn q5.2.2) H := hW
        refine W.eq (g2 := F0 m 86 ls [.int q22, .ref (adr (g.1 + 189) 8 0)]) rfl ?_
        refine lv_if_ne (tgt := 93) hx hb dX8_badLine_86 (by decide) (fun hc => ?_) (fun hc => ?_)
        · have hf := x_iteF hf hc
          exact KK21 (()) ls _ _ (lv_sub hl [1, 2, 0] rfl) hW hS hf
        · have hf := x_iteT hf hc
          refine lv_iconst (v := 1) hx hb dX8_badLine_89 (by decide) ?_
          refine lv_goto (tgt := 94) hx hb dX8_badLine_90 (by decide) ?_
          exact KK13 ((1 : Int32)) ls _ _ (lv_sub hl [1, 2, 0] rfl) hW hS hf
    clear eK8
    refine lv_if_eq (tgt := 64) hx hb dX8_badLine_47 (by decide) (fun hc => ?_) (fun hc => ?_)
    · have hf := x_iteT hf hc
      refine lv_iconst (v := 0) hx hb dX8_badLine_64 (by decide) ?_
      exact KK8 ((0 : Int32)) ls _ _ (lv_sub hl [1, 0] rfl) hW hS hf
    · have hf := x_iteF hf hc
      refine lv_aload_n hx hb dX8_badLine_50 rfl (lv_at hl 1 rfl) ?_
      refine x_get (i := (g.1 + 189)) (k := 8) (j := 0) (t := 2) hx hb hts i_8 hown hK hW ⟨⟨hfl, rfl⟩, by decide⟩ rfl ⟨by decide, by decide, rfl⟩ (hts (.fieldLink RX8 13 "OpticalJukeboxModel" "read" "[I") (by decide +kernel)) (v := .ref (adr (g.1 + 189) 31 0)) rfl dX8_badLine_51 ?_
      refine lv_bipush (v := 39) hx hb dX8_badLine_54 (by decide) ?_
      refine lv_iload_n hx hb dX8_badLine_56 rfl (lv_at hl 0 rfl) ?_
      refine lv_iadd hx hb dX8_badLine_57 ?_
      obtain ⟨hg23, hf⟩ := x_guardE hf
      refine x_iald (i := (g.1 + 189)) (k := 31) (j := 0) (f := q5.2.1 31 0) hx hb hK hW ⟨⟨hfl, rfl⟩, by decide⟩ (by decide) (rfl) rfl hg23 dX8_badLine_58 ?_
      refine lv_iconst (v := 1) hx hb dX8_badLine_59 (by decide) ?_
      refine lv_isub hx hb dX8_badLine_60 ?_
      refine lv_goto (tgt := 65) hx hb dX8_badLine_61 (by decide) ?_
      exact KK8 (((q5.2.1 31 0 (((39 : Int32) + x6)).toNatClampNeg) - (1 : Int32))) ls _ _ (lv_sub hl [1, 0] rfl) hW hS hf
  clear eK1
  refine lv_icmp_ge (tgt := 17) hx hb dX8_badLine_10 (by decide) (fun hc => ?_) (fun hc => ?_)
  · have hf := x_iteT hf hc
    refine lv_iconst (v := 0) hx hb dX8_badLine_17 (by decide) ?_
    exact KK1 ((0 : Int32)) ls _ _ hl hW hS hf
  · have hf := x_iteF hf hc
    refine lv_iconst (v := 1) hx hb dX8_badLine_13 (by decide) ?_
    refine lv_goto (tgt := 18) hx hb dX8_badLine_14 (by decide) ?_
    exact KK1 ((1 : Int32)) ls _ _ hl hW hS hf
abbrev rm_X8_fileLine : Room := { frames := 5, cells := 0, slots := 0, locals := 111 }
set_option maxRecDepth 100000 in
set_option maxHeartbeats 4000000 in
theorem ct_X8_fileLine (l : Launch) (g : GT) (hfl : 2 ≤ gf g) (w : WT) (md : SD) (mn : Nat → Int64) (mw : Int64) {q : (SD × (Nat → Int64) × Int64)} (hf : f_X8_fileLine md mn mw  = some q) : Met l yX8_fileLine wsX8_fileLine rm_X8_fileLine (cPre g (wM w md mn mw) [.ref (adr (g.1 + 189) 8 0)]) (cQv g (wM w q.1 q.2.1 q.2.2)) 0 0 (gA g) := by
  have i_8 : ∀ w ∈ u_ws RX8 TX8 27, w ∈ wsX8_fileLine := by decide +kernel
  refine x_met (by decide) rfl (Nat.le_of_ble_eq_true rfl) ?_
  intro p e s m below meth c hx hb hr hml hts hown hlocks hK hW hS ls hl
  have hown : s.vm.findClass RX8 = some m.cls := hown
  have hl : lv_has ls 5 [(0, .ref (adr (g.1 + 189) 8 0))] := hl
  rw [f_X8_fileLine] at hf
  refine lv_aload_n hx hb dX8_fileLine_0 rfl (lv_at hl 0 rfl) ?_
  refine lv_aload_n hx hb dX8_fileLine_1 rfl (lv_at hl 0 rfl) ?_
  refine x_get (i := (g.1 + 189)) (k := 8) (j := 0) (t := 2) hx hb hts i_8 hown hK hW ⟨⟨hfl, rfl⟩, by decide⟩ rfl ⟨by decide, by decide, rfl⟩ (hts (.fieldLink RX8 13 "OpticalJukeboxModel" "read" "[I") (by decide +kernel)) (v := .ref (adr (g.1 + 189) 31 0)) rfl dX8_fileLine_2 ?_
  refine lv_bipush (v := 9) hx hb dX8_fileLine_5 (by decide) ?_
  refine x_iald (i := (g.1 + 189)) (k := 31) (j := 0) (f := md 31 0) hx hb hK hW ⟨⟨hfl, rfl⟩, by decide⟩ (by decide) (rfl) rfl (by unfold vp_in; decide) dX8_fileLine_7 ?_
  refine W.eq (g2 := F0 m 8 ls [.int (md 31 0 9), .ref (adr (g.1 + 189) 8 0)]) rfl ?_
  refine lv_bipush (v := 20) hx hb dX8_fileLine_8 (by decide) ?_
  obtain ⟨K1, eK1, hf⟩ := x_letE hf
  have KK1 : ∀ (y2 : Int32) (ls : Array Slot) (H : Heap) (locs : List Loc), lv_has ls 5 [(0, .ref (adr (g.1 + 189) 8 0))] → World g (wM w md mn mw) H → va_S (gA g) s.heap H locs → K1 y2 = some q → W p l e rm_X8_fileLine s m [.ref (adr (g.1 + 189) 8 0)].toArray below meth c H locs 0 0 (MQ below (cQv g (wM w q.1 q.2.1 q.2.2)) [.ref (adr (g.1 + 189) 8 0)].toArray s 0 0 (gA g)) (F0 m 18 ls [.int y2, .ref (adr (g.1 + 189) 8 0)]) := by
    intro y2 ls H locs hl hW hS hf
    subst eK1
    refine lv_iconst (v := 5) hx hb dX8_fileLine_18 (by decide) ?_
    obtain ⟨q3, h_q3, hf⟩ := x_bindE hf
    refine x_cv0 (x_rV ⟨hx, hb, hml, hown, hts⟩ (ct_X8_must l g hfl w md mn mw (y2) ((5 : Int32)) h_q3) (cwV 2 hts gX8_fileLine_X8_must rfl rfl rfl (by decide +kernel) ⟨Nat.le_of_ble_eq_true rfl, Nat.le_of_ble_eq_true rfl⟩) hK hW hS (x_recv (i := (g.1 + 189)) (k := 8) (j := 0) hK hW ⟨⟨hfl, rfl⟩, by decide⟩ rfl (by decide)) rfl hl.1 (rest := []) rfl (Nat.le_of_ble_eq_true rfl) dX8_fileLine_19 ⟨Nat.le_of_ble_eq_true rfl, Nat.le_of_ble_eq_true rfl⟩) hS (fun H locs hW hS => ?_)
    have hW : World g (wM w q3 mn mw) H := hW
    refine lv_aload_n hx hb dX8_fileLine_22 rfl (lv_at hl 0 rfl) ?_
    obtain ⟨q4, h_q4, hf⟩ := x_bindE hf
    refine x_cv0 (x_rV ⟨hx, hb, hml, hown, hts⟩ (ct_X8_goesOn l g hfl w q3 mn mw  h_q4) (cwV 0 hts gX8_fileLine_X8_goesOn rfl rfl rfl (by decide +kernel) ⟨Nat.le_of_ble_eq_true rfl, Nat.le_of_ble_eq_true rfl⟩) hK hW hS (x_recv (i := (g.1 + 189)) (k := 8) (j := 0) hK hW ⟨⟨hfl, rfl⟩, by decide⟩ rfl (by decide)) rfl hl.1 (rest := []) rfl (Nat.le_of_ble_eq_true rfl) dX8_fileLine_23 ⟨Nat.le_of_ble_eq_true rfl, Nat.le_of_ble_eq_true rfl⟩) hS (fun H locs hW hS => ?_)
    have hW : World g (wM w q4.1 mn q4.2) H := hW
    refine lv_aload_n hx hb dX8_fileLine_26 rfl (lv_at hl 0 rfl) ?_
    refine lv_aload_n hx hb dX8_fileLine_27 rfl (lv_at hl 0 rfl) ?_
    refine x_get (i := (g.1 + 189)) (k := 8) (j := 0) (t := 22) hx hb hts i_8 hown hK hW ⟨⟨hfl, rfl⟩, by decide⟩ rfl ⟨by decide, by decide, rfl⟩ (hts (.fieldLink RX8 313 "OpticalJukeboxModel" "sort" "I") (by decide +kernel)) (rfl) dX8_fileLine_28 ?_
    refine lv_iconst (v := 1) hx hb dX8_fileLine_31 (by decide) ?_
    obtain ⟨K5, eK5, hf⟩ := x_letE hf
    have KK5 : ∀ (y6 : Int32) (ls : Array Slot) (H : Heap) (locs : List Loc), lv_has ls 5 [(0, .ref (adr (g.1 + 189) 8 0))] → World g (wM w q4.1 mn q4.2) H → va_S (gA g) s.heap H locs → K5 y6 = some q → W p l e rm_X8_fileLine s m [.ref (adr (g.1 + 189) 8 0)].toArray below meth c H locs 0 0 (MQ below (cQv g (wM w q.1 q.2.1 q.2.2)) [.ref (adr (g.1 + 189) 8 0)].toArray s 0 0 (gA g)) (F0 m 47 ls [.int y6, .ref (adr (g.1 + 189) 8 0)]) := by
      intro y6 ls H locs hl hW hS hf
      subst eK5
      refine lv_iconst (v := 2) hx hb dX8_fileLine_47 (by decide) ?_
      obtain ⟨q7, h_q7, hf⟩ := x_bindE hf
      refine x_cv0 (x_rV ⟨hx, hb, hml, hown, hts⟩ (ct_X8_must l g hfl w q4.1 mn q4.2 (y6) ((2 : Int32)) h_q7) (cwV 2 hts gX8_fileLine_X8_must rfl rfl rfl (by decide +kernel) ⟨Nat.le_of_ble_eq_true rfl, Nat.le_of_ble_eq_true rfl⟩) hK hW hS (x_recv (i := (g.1 + 189)) (k := 8) (j := 0) hK hW ⟨⟨hfl, rfl⟩, by decide⟩ rfl (by decide)) rfl hl.1 (rest := []) rfl (Nat.le_of_ble_eq_true rfl) dX8_fileLine_48 ⟨Nat.le_of_ble_eq_true rfl, Nat.le_of_ble_eq_true rfl⟩) hS (fun H locs hW hS => ?_)
      have hW : World g (wM w q7 mn q4.2) H := hW
      refine lv_iconst (v := 0) hx hb dX8_fileLine_51 (by decide) ?_
      refine lv_istore_n (lv' := [(1, .int (0 : Int32)), (0, .ref (adr (g.1 + 189) 8 0))]) hx hb dX8_fileLine_52 rfl hl (by decide) rfl (fun ls hl => ?_)
      have L53 : ∀ (n : Nat) (v1_53 : Int32) (md_53 : SD) (ls : Array Slot) (H : Heap) (locs : List Loc), lv_has ls 5 [(0, .ref (adr (g.1 + 189) 8 0)), (1, .int v1_53)] → World g (wM w md_53 mn q4.2) H → va_S (gA g) s.heap H locs → f_X8_fileLine_L53 q4 mn n v1_53 md_53 = some q → W p l e rm_X8_fileLine s m [.ref (adr (g.1 + 189) 8 0)].toArray below meth c H locs 0 0 (MQ below (cQv g (wM w q.1 q.2.1 q.2.2)) [.ref (adr (g.1 + 189) 8 0)].toArray s 0 0 (gA g)) (F0 m 53 ls []) := by
        clear hW hS hl
        intro n
        induction n with
        | zero => intro v1_53 md_53 ls H locs hl hW hS hf; cases hf
        | succ n_53 ih =>
          intro v1_53 md_53 ls H locs hl hW hS hf
          rw [f_X8_fileLine_L53] at hf
          refine lv_iload_n hx hb dX8_fileLine_53 rfl (lv_at hl 1 rfl) ?_
          refine lv_aload_n hx hb dX8_fileLine_54 rfl (lv_at hl 0 rfl) ?_
          refine x_get (i := (g.1 + 189)) (k := 8) (j := 0) (t := 2) hx hb hts i_8 hown hK hW ⟨⟨hfl, rfl⟩, by decide⟩ rfl ⟨by decide, by decide, rfl⟩ (hts (.fieldLink RX8 13 "OpticalJukeboxModel" "read" "[I") (by decide +kernel)) (v := .ref (adr (g.1 + 189) 31 0)) rfl dX8_fileLine_55 ?_
          refine lv_bipush (v := 9) hx hb dX8_fileLine_58 (by decide) ?_
          refine x_iald (i := (g.1 + 189)) (k := 31) (j := 0) (f := md_53 31 0) hx hb hK hW ⟨⟨hfl, rfl⟩, by decide⟩ (by decide) (rfl) rfl (by unfold vp_in; decide) dX8_fileLine_60 ?_
          refine W.eq (g2 := F0 m 61 ls [.int (md_53 31 0 9), .int v1_53]) rfl ?_
          obtain ⟨K8, eK8, hf⟩ := x_letE hf
          have KK8 : ∀ (_u : Unit) (ls : Array Slot) (H : Heap) (locs : List Loc), lv_has ls 5 [(0, .ref (adr (g.1 + 189) 8 0)), (1, .int v1_53)] → World g (wM w md_53 mn q4.2) H → va_S (gA g) s.heap H locs → K8 _u = some q → W p l e rm_X8_fileLine s m [.ref (adr (g.1 + 189) 8 0)].toArray below meth c H locs 0 0 (MQ below (cQv g (wM w q.1 q.2.1 q.2.2)) [.ref (adr (g.1 + 189) 8 0)].toArray s 0 0 (gA g)) (F0 m 101 ls []) := by
            intro _u ls H locs hl hW hS hf
            subst eK8
            refine lv_aload_n hx hb dX8_fileLine_101 rfl (lv_at hl 0 rfl) ?_
            refine x_get (i := (g.1 + 189)) (k := 8) (j := 0) (t := 26) hx hb hts i_8 hown hK hW ⟨⟨hfl, rfl⟩, by decide⟩ rfl ⟨by decide, by decide, rfl⟩ (hts (.fieldLink RX8 316 "OpticalJukeboxModel" "word" "J") (by decide +kernel)) rfl dX8_fileLine_102 ?_
            obtain ⟨x9, e_x9, hf⟩ := x_letE hf
            refine x_topl e_x9 ?_
            refine lv_lstore_n (lv' := [(1, .long x9), (0, .ref (adr (g.1 + 189) 8 0))]) hx hb dX8_fileLine_105 rfl hl (by decide) rfl (fun ls hl => ?_)
            refine lv_aload_n hx hb dX8_fileLine_106 rfl (lv_at hl 1 rfl) ?_
            obtain ⟨q10, h_q10, hf⟩ := x_bindE hf
            refine x_cv0 (x_rV ⟨hx, hb, hml, hown, hts⟩ (ct_X8_goesOn l g hfl w md_53 mn q4.2  h_q10) (cwV 0 hts gX8_fileLine_X8_goesOn rfl rfl rfl (by decide +kernel) ⟨Nat.le_of_ble_eq_true rfl, Nat.le_of_ble_eq_true rfl⟩) hK hW hS (x_recv (i := (g.1 + 189)) (k := 8) (j := 0) hK hW ⟨⟨hfl, rfl⟩, by decide⟩ rfl (by decide)) rfl hl.1 (rest := []) rfl (Nat.le_of_ble_eq_true rfl) dX8_fileLine_107 ⟨Nat.le_of_ble_eq_true rfl, Nat.le_of_ble_eq_true rfl⟩) hS (fun H locs hW hS => ?_)
            have hW : World g (wM w q10.1 mn q10.2) H := hW
            refine lv_aload_n hx hb dX8_fileLine_110 rfl (lv_at hl 1 rfl) ?_
            refine lv_iconst (v := 1) hx hb dX8_fileLine_111 (by decide) ?_
            refine lv_sipush (v := 300) hx hb dX8_fileLine_112 (by decide) ?_
            obtain ⟨q11, h_q11, hf⟩ := x_bindE hf
            refine x_ci0 (x_rV ⟨hx, hb, hml, hown, hts⟩ (ct_X8_takes l g hfl w q10.1 mn q10.2 ((1 : Int32)) ((300 : Int32)) h_q11) (cwV 2 hts gX8_fileLine_X8_takes rfl rfl rfl (by decide +kernel) ⟨Nat.le_of_ble_eq_true rfl, Nat.le_of_ble_eq_true rfl⟩) hK hW hS (x_recv (i := (g.1 + 189)) (k := 8) (j := 0) hK hW ⟨⟨hfl, rfl⟩, by decide⟩ rfl (by decide)) rfl hl.1 (rest := []) rfl (Nat.le_of_ble_eq_true rfl) dX8_fileLine_115 ⟨Nat.le_of_ble_eq_true rfl, Nat.le_of_ble_eq_true rfl⟩) hS (fun H locs hW hS => ?_)
            have hW : World g (wM w q11.2.1 mn q11.2.2) H := hW
            refine W.eq (g2 := F0 m 118 ls [.int q11.1]) rfl ?_
            obtain ⟨x12, e_x12, hf⟩ := x_letE hf
            refine x_topi e_x12 ?_
            refine lv_istore_n (lv' := [(3, .int x12), (1, .long x9), (0, .ref (adr (g.1 + 189) 8 0))]) hx hb dX8_fileLine_118 rfl hl (by decide) rfl (fun ls hl => ?_)
            refine lv_aload_n hx hb dX8_fileLine_119 rfl (lv_at hl 2 rfl) ?_
            refine lv_iconst (v := 0) hx hb dX8_fileLine_120 (by decide) ?_
            refine lv_aload_n hx hb dX8_fileLine_121 rfl (lv_at hl 2 rfl) ?_
            refine x_get (i := (g.1 + 189)) (k := 8) (j := 0) (t := 2) hx hb hts i_8 hown hK hW ⟨⟨hfl, rfl⟩, by decide⟩ rfl ⟨by decide, by decide, rfl⟩ (hts (.fieldLink RX8 13 "OpticalJukeboxModel" "read" "[I") (by decide +kernel)) (v := .ref (adr (g.1 + 189) 31 0)) rfl dX8_fileLine_122 ?_
            refine lv_bipush (v := 7) hx hb dX8_fileLine_125 (by decide) ?_
            refine x_iald (i := (g.1 + 189)) (k := 31) (j := 0) (f := q11.2.1 31 0) hx hb hK hW ⟨⟨hfl, rfl⟩, by decide⟩ (by decide) (rfl) rfl (by unfold vp_in; decide) dX8_fileLine_127 ?_
            refine W.eq (g2 := F0 m 128 ls [.int (q11.2.1 31 0 7), .int (0 : Int32), .ref (adr (g.1 + 189) 8 0)]) rfl ?_
            refine lv_iconst (v := 1) hx hb dX8_fileLine_128 (by decide) ?_
            refine lv_isub hx hb dX8_fileLine_129 ?_
            obtain ⟨q13, h_q13, hf⟩ := x_bindE hf
            refine x_ci0 (x_rV ⟨hx, hb, hml, hown, hts⟩ (ct_X8_sees l g hfl w q11.2.1 mn q11.2.2 ((0 : Int32)) (((q11.2.1 31 0 7) - (1 : Int32))) h_q13) (cwV 2 hts gX8_fileLine_X8_sees rfl rfl rfl (by decide +kernel) ⟨Nat.le_of_ble_eq_true rfl, Nat.le_of_ble_eq_true rfl⟩) hK hW hS (x_recv (i := (g.1 + 189)) (k := 8) (j := 0) hK hW ⟨⟨hfl, rfl⟩, by decide⟩ rfl (by decide)) rfl hl.1 (rest := []) rfl (Nat.le_of_ble_eq_true rfl) dX8_fileLine_130 ⟨Nat.le_of_ble_eq_true rfl, Nat.le_of_ble_eq_true rfl⟩) hS (fun H locs hW hS => ?_)
            have hW : World g (wM w q13.2 mn q11.2.2) H := hW
            refine W.eq (g2 := F0 m 133 ls [.int q13.1]) rfl ?_
            obtain ⟨x14, e_x14, hf⟩ := x_letE hf
            refine x_topi e_x14 ?_
            refine lv_istore (lv' := [(4, .int x14), (3, .int x12), (1, .long x9), (0, .ref (adr (g.1 + 189) 8 0))]) hx hb dX8_fileLine_133 hl (by decide) rfl (fun ls hl => ?_)
            refine lv_aload_n hx hb dX8_fileLine_135 rfl (lv_at hl 3 rfl) ?_
            refine lv_aload_n hx hb dX8_fileLine_136 rfl (lv_at hl 3 rfl) ?_
            obtain ⟨q15, h_q15, hf⟩ := x_bindE hf
            refine x_ci0 (x_rV ⟨hx, hb, hml, hown, hts⟩ (ct_X8_good l g hfl w q13.2 mn q11.2.2  h_q15) (cwV 0 hts gX8_fileLine_X8_good rfl rfl rfl (by decide +kernel) ⟨Nat.le_of_ble_eq_true rfl, Nat.le_of_ble_eq_true rfl⟩) hK hW hS (x_recv (i := (g.1 + 189)) (k := 8) (j := 0) hK hW ⟨⟨hfl, rfl⟩, by decide⟩ rfl (by decide)) rfl hl.1 (rest := [.ref (adr (g.1 + 189) 8 0)]) rfl (Nat.le_of_ble_eq_true rfl) dX8_fileLine_137 ⟨Nat.le_of_ble_eq_true rfl, Nat.le_of_ble_eq_true rfl⟩) hS (fun H locs hW hS => ?_)
            have hW : World g (wM w q13.2 mn q11.2.2) H := hW
            refine W.eq (g2 := F0 m 140 ls [.int q15, .ref (adr (g.1 + 189) 8 0)]) rfl ?_
            obtain ⟨K16, eK16, hf⟩ := x_letE hf
            have KK16 : ∀ (y17 : Int32) (ls : Array Slot) (H : Heap) (locs : List Loc), lv_has ls 5 [(0, .ref (adr (g.1 + 189) 8 0)), (1, .long x9), (3, .int x12), (4, .int x14)] → World g (wM w q13.2 mn q11.2.2) H → va_S (gA g) s.heap H locs → K16 y17 = some q → W p l e rm_X8_fileLine s m [.ref (adr (g.1 + 189) 8 0)].toArray below meth c H locs 0 0 (MQ below (cQv g (wM w q.1 q.2.1 q.2.2)) [.ref (adr (g.1 + 189) 8 0)].toArray s 0 0 (gA g)) (F0 m 161 ls [.int y17, .ref (adr (g.1 + 189) 8 0)]) := by
              intro y17 ls H locs hl hW hS hf
              subst eK16
              refine lv_bipush (v := 6) hx hb dX8_fileLine_161 (by decide) ?_
              obtain ⟨q18, h_q18, hf⟩ := x_bindE hf
              refine x_cv0 (x_rV ⟨hx, hb, hml, hown, hts⟩ (ct_X8_must l g hfl w q13.2 mn q11.2.2 (y17) ((6 : Int32)) h_q18) (cwV 2 hts gX8_fileLine_X8_must rfl rfl rfl (by decide +kernel) ⟨Nat.le_of_ble_eq_true rfl, Nat.le_of_ble_eq_true rfl⟩) hK hW hS (x_recv (i := (g.1 + 189)) (k := 8) (j := 0) hK hW ⟨⟨hfl, rfl⟩, by decide⟩ rfl (by decide)) rfl hl.1 (rest := []) rfl (Nat.le_of_ble_eq_true rfl) dX8_fileLine_163 ⟨Nat.le_of_ble_eq_true rfl, Nat.le_of_ble_eq_true rfl⟩) hS (fun H locs hW hS => ?_)
              have hW : World g (wM w q18 mn q11.2.2) H := hW
              refine lv_aload_n hx hb dX8_fileLine_166 rfl (lv_at hl 0 rfl) ?_
              obtain ⟨q19, h_q19, hf⟩ := x_bindE hf
              refine x_ci0 (x_rV ⟨hx, hb, hml, hown, hts⟩ (ct_X8_good l g hfl w q18 mn q11.2.2  h_q19) (cwV 0 hts gX8_fileLine_X8_good rfl rfl rfl (by decide +kernel) ⟨Nat.le_of_ble_eq_true rfl, Nat.le_of_ble_eq_true rfl⟩) hK hW hS (x_recv (i := (g.1 + 189)) (k := 8) (j := 0) hK hW ⟨⟨hfl, rfl⟩, by decide⟩ rfl (by decide)) rfl hl.1 (rest := []) rfl (Nat.le_of_ble_eq_true rfl) dX8_fileLine_167 ⟨Nat.le_of_ble_eq_true rfl, Nat.le_of_ble_eq_true rfl⟩) hS (fun H locs hW hS => ?_)
              have hW : World g (wM w q18 mn q11.2.2) H := hW
              refine W.eq (g2 := F0 m 170 ls [.int q19]) rfl ?_
              obtain ⟨K20, eK20, hf⟩ := x_letE hf
              have KK20 : ∀ (md21 : SD) (mn22 : Nat → Int64) (ls : Array Slot) (H : Heap) (locs : List Loc), lv_has ls 5 [(0, .ref (adr (g.1 + 189) 8 0)), (1, .long x9), (3, .int x12), (4, .int x14)] → World g (wM w md21 mn22 q11.2.2) H → va_S (gA g) s.heap H locs → K20 md21 mn22 = some q → W p l e rm_X8_fileLine s m [.ref (adr (g.1 + 189) 8 0)].toArray below meth c H locs 0 0 (MQ below (cQv g (wM w q.1 q.2.1 q.2.2)) [.ref (adr (g.1 + 189) 8 0)].toArray s 0 0 (gA g)) (F0 m 216 ls []) := by
                intro md21 mn22 ls H locs hl hW hS hf
                subst eK20
                refine lv_aload_n hx hb dX8_fileLine_216 rfl (lv_at hl 0 rfl) ?_
                obtain ⟨q23, h_q23, hf⟩ := x_bindE hf
                refine x_cv0 (x_rV ⟨hx, hb, hml, hown, hts⟩ (ct_X8_goesOn l g hfl w md21 mn22 q11.2.2  h_q23) (cwV 0 hts gX8_fileLine_X8_goesOn rfl rfl rfl (by decide +kernel) ⟨Nat.le_of_ble_eq_true rfl, Nat.le_of_ble_eq_true rfl⟩) hK hW hS (x_recv (i := (g.1 + 189)) (k := 8) (j := 0) hK hW ⟨⟨hfl, rfl⟩, by decide⟩ rfl (by decide)) rfl hl.1 (rest := []) rfl (Nat.le_of_ble_eq_true rfl) dX8_fileLine_217 ⟨Nat.le_of_ble_eq_true rfl, Nat.le_of_ble_eq_true rfl⟩) hS (fun H locs hW hS => ?_)
                have hW : World g (wM w q23.1 mn22 q23.2) H := hW
                cases hf
                exact x_vret hx hb hr hlocks hK hW hS dX8_fileLine_220
              clear eK20
              refine lv_if_eq (tgt := 216) hx hb dX8_fileLine_170 (by decide) (fun hc => ?_) (fun hc => ?_)
              · have hf := x_iteT hf hc
                exact KK20 (q18) (mn) ls _ _ hl hW hS hf
              · have hf := x_iteF hf hc
                refine lv_aload_n hx hb dX8_fileLine_173 rfl (lv_at hl 0 rfl) ?_
                refine x_get (i := (g.1 + 189)) (k := 8) (j := 0) (t := 14) hx hb hts i_8 hown hK hW ⟨⟨hfl, rfl⟩, by decide⟩ rfl ⟨by decide, by decide, rfl⟩ (hts (.fieldLink RX8 38 "OpticalJukeboxModel" "names" "[J") (by decide +kernel)) (v := .ref (adr (g.1 + 189) 39 0)) rfl dX8_fileLine_174 ?_
                refine lv_aload_n hx hb dX8_fileLine_177 rfl (lv_at hl 0 rfl) ?_
                refine x_get (i := (g.1 + 189)) (k := 8) (j := 0) (t := 2) hx hb hts i_8 hown hK hW ⟨⟨hfl, rfl⟩, by decide⟩ rfl ⟨by decide, by decide, rfl⟩ (hts (.fieldLink RX8 13 "OpticalJukeboxModel" "read" "[I") (by decide +kernel)) (v := .ref (adr (g.1 + 189) 31 0)) rfl dX8_fileLine_178 ?_
                refine lv_bipush (v := 9) hx hb dX8_fileLine_181 (by decide) ?_
                refine x_iald (i := (g.1 + 189)) (k := 31) (j := 0) (f := q18 31 0) hx hb hK hW ⟨⟨hfl, rfl⟩, by decide⟩ (by decide) (rfl) rfl (by unfold vp_in; decide) dX8_fileLine_183 ?_
                refine W.eq (g2 := F0 m 184 ls [.int (q18 31 0 9), .ref (adr (g.1 + 189) 39 0)]) rfl ?_
                refine lv_lload_n hx hb dX8_fileLine_184 rfl (lv_at hl 1 rfl) ?_
                obtain ⟨hg24, hf⟩ := x_guardE hf
                obtain ⟨mn25, e_mn25, hf⟩ := x_letE hf
                refine x_last (i := (g.1 + 189)) (k := 39) (j := 0) (f := mn) (w' := wM w q18 mn25 q11.2.2) hx hb hK hW ⟨⟨hfl, rfl⟩, by decide⟩ hS (by decide) rfl rfl hg24 dX8_fileLine_185 (wf_mn e_mn25 hW) (fun H locs hW hS => ?_)
                refine lv_aload_n hx hb dX8_fileLine_186 rfl (lv_at hl 0 rfl) ?_
                refine x_get (i := (g.1 + 189)) (k := 8) (j := 0) (t := 2) hx hb hts i_8 hown hK hW ⟨⟨hfl, rfl⟩, by decide⟩ rfl ⟨by decide, by decide, rfl⟩ (hts (.fieldLink RX8 13 "OpticalJukeboxModel" "read" "[I") (by decide +kernel)) (v := .ref (adr (g.1 + 189) 31 0)) rfl dX8_fileLine_187 ?_
                refine lv_bipush (v := 9) hx hb dX8_fileLine_190 (by decide) ?_
                refine lv_dup2_11 hx hb dX8_fileLine_192 rfl rfl ?_
                refine x_iald (i := (g.1 + 189)) (k := 31) (j := 0) (f := q18 31 0) hx hb hK hW ⟨⟨hfl, rfl⟩, by decide⟩ (by decide) (rfl) rfl (by unfold vp_in; decide) dX8_fileLine_193 ?_
                refine W.eq (g2 := F0 m 194 ls [.int (q18 31 0 9), .int (9 : Int32), .ref (adr (g.1 + 189) 31 0)]) rfl ?_
                refine lv_iconst (v := 1) hx hb dX8_fileLine_194 (by decide) ?_
                refine lv_iadd hx hb dX8_fileLine_195 ?_
                obtain ⟨md26, e_md26, hf⟩ := x_letE hf
                refine x_iast (i := (g.1 + 189)) (k := 31) (j := 0) (w' := wM w md26 mn25 q11.2.2) hx hb hK hW ⟨⟨hfl, rfl⟩, by decide⟩ hS (by decide) rfl rfl rfl (by unfold vp_in; decide) dX8_fileLine_196 (fp_M e_md26 rfl) (fun H locs hW hS => ?_)
                refine lv_aload_n hx hb dX8_fileLine_197 rfl (lv_at hl 0 rfl) ?_
                refine x_get (i := (g.1 + 189)) (k := 8) (j := 0) (t := 2) hx hb hts i_8 hown hK hW ⟨⟨hfl, rfl⟩, by decide⟩ rfl ⟨by decide, by decide, rfl⟩ (hts (.fieldLink RX8 13 "OpticalJukeboxModel" "read" "[I") (by decide +kernel)) (v := .ref (adr (g.1 + 189) 31 0)) rfl dX8_fileLine_198 ?_
                refine lv_aload_n hx hb dX8_fileLine_201 rfl (lv_at hl 0 rfl) ?_
                refine x_get (i := (g.1 + 189)) (k := 8) (j := 0) (t := 2) hx hb hts i_8 hown hK hW ⟨⟨hfl, rfl⟩, by decide⟩ rfl ⟨by decide, by decide, rfl⟩ (hts (.fieldLink RX8 13 "OpticalJukeboxModel" "read" "[I") (by decide +kernel)) (v := .ref (adr (g.1 + 189) 31 0)) rfl dX8_fileLine_202 ?_
                refine lv_bipush (v := 9) hx hb dX8_fileLine_205 (by decide) ?_
                refine x_iald (i := (g.1 + 189)) (k := 31) (j := 0) (f := md26 31 0) hx hb hK hW ⟨⟨hfl, rfl⟩, by decide⟩ (by decide) (rfl) rfl (by unfold vp_in; decide) dX8_fileLine_207 ?_
                refine W.eq (g2 := F0 m 208 ls [.int (md26 31 0 9), .ref (adr (g.1 + 189) 31 0)]) rfl ?_
                refine lv_iconst (v := 1) hx hb dX8_fileLine_208 (by decide) ?_
                refine lv_isub hx hb dX8_fileLine_209 ?_
                refine lv_iload hx hb dX8_fileLine_210 (lv_at hl 3 rfl) ?_
                refine lv_iload_n hx hb dX8_fileLine_212 rfl (lv_at hl 2 rfl) ?_
                obtain ⟨q27, h_q27, hf⟩ := x_bindE hf
                refine x_cv0 (x_rS ⟨hx, hb, hml, hown, hts⟩ (ct_X8_writesVersion l g hfl w md26 mn25 q11.2.2 31 isRow_31 (((md26 31 0 9) - (1 : Int32))) (x14) (x12) h_q27) (va_cwS 4 hts gX8_fileLine_X8_writesVersion rfl rfl rfl (by decide +kernel) ⟨Nat.le_of_ble_eq_true rfl, Nat.le_of_ble_eq_true rfl⟩) hK hW hS rfl hl.1 (rest := []) rfl (Nat.le_of_ble_eq_true rfl) dX8_fileLine_213 ⟨Nat.le_of_ble_eq_true rfl, Nat.le_of_ble_eq_true rfl⟩) hS (fun H locs hW hS => ?_)
                have hW : World g (wM w q27 mn25 q11.2.2) H := hW
                exact KK20 (q27) (mn25) ls _ _ hl hW hS hf
            clear eK16
            obtain ⟨K28, eK28, hf⟩ := x_letE hf
            have KK28 : ∀ (_u : Unit) (ls : Array Slot) (H : Heap) (locs : List Loc), lv_has ls 5 [(0, .ref (adr (g.1 + 189) 8 0)), (1, .long x9), (3, .int x12), (4, .int x14)] → World g (wM w q13.2 mn q11.2.2) H → va_S (gA g) s.heap H locs → K28 _u = some q → W p l e rm_X8_fileLine s m [.ref (adr (g.1 + 189) 8 0)].toArray below meth c H locs 0 0 (MQ below (cQv g (wM w q.1 q.2.1 q.2.2)) [.ref (adr (g.1 + 189) 8 0)].toArray s 0 0 (gA g)) (F0 m 160 ls [.ref (adr (g.1 + 189) 8 0)]) := by
              intro _u ls H locs hl hW hS hf
              subst eK28
              refine lv_iconst (v := 0) hx hb dX8_fileLine_160 (by decide) ?_
              exact KK16 ((0 : Int32)) ls _ _ hl hW hS hf
            clear eK28
            refine lv_if_eq (tgt := 160) hx hb dX8_fileLine_140 (by decide) (fun hc => ?_) (fun hc => ?_)
            · have hf := x_iteT hf hc
              exact KK28 (()) ls _ _ (lv_sub hl [3, 2, 1, 0] rfl) hW hS hf
            · have hf := x_iteF hf hc
              refine lv_aload_n hx hb dX8_fileLine_143 rfl (lv_at hl 3 rfl) ?_
              refine x_get (i := (g.1 + 189)) (k := 8) (j := 0) (t := 2) hx hb hts i_8 hown hK hW ⟨⟨hfl, rfl⟩, by decide⟩ rfl ⟨by decide, by decide, rfl⟩ (hts (.fieldLink RX8 13 "OpticalJukeboxModel" "read" "[I") (by decide +kernel)) (v := .ref (adr (g.1 + 189) 31 0)) rfl dX8_fileLine_144 ?_
              refine lv_iload hx hb dX8_fileLine_147 (lv_at hl 0 rfl) ?_
              refine lv_iload_n hx hb dX8_fileLine_149 rfl (lv_at hl 1 rfl) ?_
              obtain ⟨q29, h_q29, hf⟩ := x_bindE hf
              refine x_ci0 (x_rS ⟨hx, hb, hml, hown, hts⟩ (ct_X8_canWrite l g hfl w q13.2 mn q11.2.2 31 isRow_31 (x14) (x12) h_q29) (va_cwS 3 hts gX8_fileLine_X8_canWrite rfl rfl rfl (by decide +kernel) ⟨Nat.le_of_ble_eq_true rfl, Nat.le_of_ble_eq_true rfl⟩) hK hW hS rfl hl.1 (rest := [.ref (adr (g.1 + 189) 8 0)]) rfl (Nat.le_of_ble_eq_true rfl) dX8_fileLine_150 ⟨Nat.le_of_ble_eq_true rfl, Nat.le_of_ble_eq_true rfl⟩) hS (fun H locs hW hS => ?_)
              have hW : World g (wM w q13.2 mn q11.2.2) H := hW
              refine W.eq (g2 := F0 m 153 ls [.int q29, .ref (adr (g.1 + 189) 8 0)]) rfl ?_
              refine lv_if_eq (tgt := 160) hx hb dX8_fileLine_153 (by decide) (fun hc => ?_) (fun hc => ?_)
              · have hf := x_iteT hf hc
                exact KK28 (()) ls _ _ (lv_sub hl [3, 2, 1, 0] rfl) hW hS hf
              · have hf := x_iteF hf hc
                refine lv_iconst (v := 1) hx hb dX8_fileLine_156 (by decide) ?_
                refine lv_goto (tgt := 161) hx hb dX8_fileLine_157 (by decide) ?_
                exact KK16 ((1 : Int32)) ls _ _ (lv_sub hl [3, 2, 1, 0] rfl) hW hS hf
          clear eK8
          refine lv_icmp_ge (tgt := 101) hx hb dX8_fileLine_61 (by decide) (fun hc => ?_) (fun hc => ?_)
          · have hf := x_iteT hf hc
            exact KK8 (()) ls _ _ hl hW hS hf
          · have hf := x_iteF hf hc
            refine lv_aload_n hx hb dX8_fileLine_64 rfl (lv_at hl 0 rfl) ?_
            obtain ⟨q30, h_q30, hf⟩ := x_bindE hf
            refine x_ci0 (x_rV ⟨hx, hb, hml, hown, hts⟩ (ct_X8_good l g hfl w md_53 mn q4.2  h_q30) (cwV 0 hts gX8_fileLine_X8_good rfl rfl rfl (by decide +kernel) ⟨Nat.le_of_ble_eq_true rfl, Nat.le_of_ble_eq_true rfl⟩) hK hW hS (x_recv (i := (g.1 + 189)) (k := 8) (j := 0) hK hW ⟨⟨hfl, rfl⟩, by decide⟩ rfl (by decide)) rfl hl.1 (rest := []) rfl (Nat.le_of_ble_eq_true rfl) dX8_fileLine_65 ⟨Nat.le_of_ble_eq_true rfl, Nat.le_of_ble_eq_true rfl⟩) hS (fun H locs hW hS => ?_)
            have hW : World g (wM w md_53 mn q4.2) H := hW
            refine W.eq (g2 := F0 m 68 ls [.int q30]) rfl ?_
            refine lv_if_eq (tgt := 101) hx hb dX8_fileLine_68 (by decide) (fun hc => ?_) (fun hc => ?_)
            · have hf := x_iteT hf hc
              exact KK8 (()) ls _ _ hl hW hS hf
            · have hf := x_iteF hf hc
              refine lv_aload_n hx hb dX8_fileLine_71 rfl (lv_at hl 0 rfl) ?_
              refine lv_aload_n hx hb dX8_fileLine_72 rfl (lv_at hl 0 rfl) ?_
              refine x_get (i := (g.1 + 189)) (k := 8) (j := 0) (t := 14) hx hb hts i_8 hown hK hW ⟨⟨hfl, rfl⟩, by decide⟩ rfl ⟨by decide, by decide, rfl⟩ (hts (.fieldLink RX8 38 "OpticalJukeboxModel" "names" "[J") (by decide +kernel)) (v := .ref (adr (g.1 + 189) 39 0)) rfl dX8_fileLine_73 ?_
              refine lv_iload_n hx hb dX8_fileLine_76 rfl (lv_at hl 1 rfl) ?_
              obtain ⟨hg31, hf⟩ := x_guardE hf
              refine x_lald (i := (g.1 + 189)) (k := 39) (j := 0) (f := mn) hx hb hK hW ⟨⟨hfl, rfl⟩, by decide⟩ (by decide) rfl rfl hg31 dX8_fileLine_77 ?_
              refine lv_aload_n hx hb dX8_fileLine_78 rfl (lv_at hl 0 rfl) ?_
              refine x_get (i := (g.1 + 189)) (k := 8) (j := 0) (t := 26) hx hb hts i_8 hown hK hW ⟨⟨hfl, rfl⟩, by decide⟩ rfl ⟨by decide, by decide, rfl⟩ (hts (.fieldLink RX8 316 "OpticalJukeboxModel" "word" "J") (by decide +kernel)) rfl dX8_fileLine_79 ?_
              refine W.lcmp hx hb dX8_fileLine_82 ?_
              obtain ⟨K32, eK32, hf⟩ := x_letE hf
              have KK32 : ∀ (y33 : Int32) (ls : Array Slot) (H : Heap) (locs : List Loc), lv_has ls 5 [(0, .ref (adr (g.1 + 189) 8 0)), (1, .int v1_53)] → World g (wM w md_53 mn q4.2) H → va_S (gA g) s.heap H locs → K32 y33 = some q → W p l e rm_X8_fileLine s m [.ref (adr (g.1 + 189) 8 0)].toArray below meth c H locs 0 0 (MQ below (cQv g (wM w q.1 q.2.1 q.2.2)) [.ref (adr (g.1 + 189) 8 0)].toArray s 0 0 (gA g)) (F0 m 91 ls [.int y33, .ref (adr (g.1 + 189) 8 0)]) := by
                intro y33 ls H locs hl hW hS hf
                subst eK32
                refine lv_iconst (v := 4) hx hb dX8_fileLine_91 (by decide) ?_
                obtain ⟨q34, h_q34, hf⟩ := x_bindE hf
                refine x_cv0 (x_rV ⟨hx, hb, hml, hown, hts⟩ (ct_X8_must l g hfl w md_53 mn q4.2 (y33) ((4 : Int32)) h_q34) (cwV 2 hts gX8_fileLine_X8_must rfl rfl rfl (by decide +kernel) ⟨Nat.le_of_ble_eq_true rfl, Nat.le_of_ble_eq_true rfl⟩) hK hW hS (x_recv (i := (g.1 + 189)) (k := 8) (j := 0) hK hW ⟨⟨hfl, rfl⟩, by decide⟩ rfl (by decide)) rfl hl.1 (rest := []) rfl (Nat.le_of_ble_eq_true rfl) dX8_fileLine_92 ⟨Nat.le_of_ble_eq_true rfl, Nat.le_of_ble_eq_true rfl⟩) hS (fun H locs hW hS => ?_)
                have hW : World g (wM w q34 mn q4.2) H := hW
                obtain ⟨x35, e_x35, hf⟩ := x_letE hf
                refine lv_iinc (v := x35) (lv' := [(1, .int x35), (0, .ref (adr (g.1 + 189) 8 0))]) hx hb dX8_fileLine_95 hl (k := 1) rfl (by rw [e_x35]; rfl) (by decide) rfl (fun ls hl => ?_)
                refine lv_goto (tgt := 53) hx hb dX8_fileLine_98 (by decide) ?_
                exact ih (x35) (q34) ls _ _ (lv_sub hl [1, 0] rfl) hW hS hf
              clear eK32
              refine lv_if_eq (tgt := 90) hx hb dX8_fileLine_83 (by decide) (fun hc => ?_) (fun hc => ?_)
              · have hf := x_iteT hf hc
                refine lv_iconst (v := 0) hx hb dX8_fileLine_90 (by decide) ?_
                exact KK32 ((0 : Int32)) ls _ _ hl hW hS hf
              · have hf := x_iteF hf hc
                refine lv_iconst (v := 1) hx hb dX8_fileLine_86 (by decide) ?_
                refine lv_goto (tgt := 91) hx hb dX8_fileLine_87 (by decide) ?_
                exact KK32 ((1 : Int32)) ls _ _ hl hW hS hf
      exact L53 fuel ((0 : Int32)) (q7) ls _ _ (lv_sub hl [1, 0] rfl) hW hS hf
    clear eK5
    obtain ⟨K36, eK36, hf⟩ := x_letE hf
    have KK36 : ∀ (_u : Unit) (ls : Array Slot) (H : Heap) (locs : List Loc), lv_has ls 5 [(0, .ref (adr (g.1 + 189) 8 0))] → World g (wM w q4.1 mn q4.2) H → va_S (gA g) s.heap H locs → K36 _u = some q → W p l e rm_X8_fileLine s m [.ref (adr (g.1 + 189) 8 0)].toArray below meth c H locs 0 0 (MQ below (cQv g (wM w q.1 q.2.1 q.2.2)) [.ref (adr (g.1 + 189) 8 0)].toArray s 0 0 (gA g)) (F0 m 46 ls [.ref (adr (g.1 + 189) 8 0)]) := by
      intro _u ls H locs hl hW hS hf
      subst eK36
      refine lv_iconst (v := 0) hx hb dX8_fileLine_46 (by decide) ?_
      exact KK5 ((0 : Int32)) ls _ _ hl hW hS hf
    clear eK36
    refine lv_icmp_ne (tgt := 46) hx hb dX8_fileLine_32 (by decide) (fun hc => ?_) (fun hc => ?_)
    · have hf := x_iteF hf hc
      exact KK36 (()) ls _ _ hl hW hS hf
    · have hf := x_iteT hf hc
      refine lv_aload_n hx hb dX8_fileLine_35 rfl (lv_at hl 0 rfl) ?_
      obtain ⟨q37, h_q37, hf⟩ := x_bindE hf
      refine x_ci0 (x_rV ⟨hx, hb, hml, hown, hts⟩ (ct_X8_isReserved l g hfl w q4.1 mn q4.2  h_q37) (cwV 0 hts gX8_fileLine_X8_isReserved rfl rfl rfl (by decide +kernel) ⟨Nat.le_of_ble_eq_true rfl, Nat.le_of_ble_eq_true rfl⟩) hK hW hS (x_recv (i := (g.1 + 189)) (k := 8) (j := 0) hK hW ⟨⟨hfl, rfl⟩, by decide⟩ rfl (by decide)) rfl hl.1 (rest := [.ref (adr (g.1 + 189) 8 0)]) rfl (Nat.le_of_ble_eq_true rfl) dX8_fileLine_36 ⟨Nat.le_of_ble_eq_true rfl, Nat.le_of_ble_eq_true rfl⟩) hS (fun H locs hW hS => ?_)
      have hW : World g (wM w q4.1 mn q4.2) H := hW
      refine W.eq (g2 := F0 m 39 ls [.int q37, .ref (adr (g.1 + 189) 8 0)]) rfl ?_
      refine lv_if_ne (tgt := 46) hx hb dX8_fileLine_39 (by decide) (fun hc => ?_) (fun hc => ?_)
      · have hf := x_iteF hf hc
        exact KK36 (()) ls _ _ hl hW hS hf
      · have hf := x_iteT hf hc
        refine lv_iconst (v := 1) hx hb dX8_fileLine_42 (by decide) ?_
        refine lv_goto (tgt := 47) hx hb dX8_fileLine_43 (by decide) ?_
        exact KK5 ((1 : Int32)) ls _ _ hl hW hS hf
  clear eK1
  refine lv_icmp_ge (tgt := 17) hx hb dX8_fileLine_10 (by decide) (fun hc => ?_) (fun hc => ?_)
  · have hf := x_iteT hf hc
    refine lv_iconst (v := 0) hx hb dX8_fileLine_17 (by decide) ?_
    exact KK1 ((0 : Int32)) ls _ _ hl hW hS hf
  · have hf := x_iteF hf hc
    refine lv_iconst (v := 1) hx hb dX8_fileLine_13 (by decide) ?_
    refine lv_goto (tgt := 18) hx hb dX8_fileLine_14 (by decide) ?_
    exact KK1 ((1 : Int32)) ls _ _ hl hW hS hf
abbrev rm_X8_closeLine : Room := { frames := 4, cells := 0, slots := 0, locals := 88 }
set_option maxRecDepth 100000 in
set_option maxHeartbeats 4000000 in
theorem ct_X8_closeLine (l : Launch) (g : GT) (hfl : 2 ≤ gf g) (w : WT) (md : SD) (mn : Nat → Int64) (mw : Int64) {q : (SD × Int64)} (hf : f_X8_closeLine md mw  = some q) : Met l yX8_closeLine wsX8_closeLine rm_X8_closeLine (cPre g (wM w md mn mw) [.ref (adr (g.1 + 189) 8 0)]) (cQv g (wM w q.1 mn q.2)) 0 0 (gA g) := by
  have i_8 : ∀ w ∈ u_ws RX8 TX8 27, w ∈ wsX8_closeLine := by decide +kernel
  refine x_met (by decide) rfl (Nat.le_of_ble_eq_true rfl) ?_
  intro p e s m below meth c hx hb hr hml hts hown hlocks hK hW hS ls hl
  have hown : s.vm.findClass RX8 = some m.cls := hown
  have hl : lv_has ls 2 [(0, .ref (adr (g.1 + 189) 8 0))] := hl
  rw [f_X8_closeLine] at hf
  refine lv_aload_n hx hb dX8_closeLine_0 rfl (lv_at hl 0 rfl) ?_
  obtain ⟨q1, h_q1, hf⟩ := x_bindE hf
  refine x_cv0 (x_rV ⟨hx, hb, hml, hown, hts⟩ (ct_X8_goesOn l g hfl w md mn mw  h_q1) (cwV 0 hts gX8_closeLine_X8_goesOn rfl rfl rfl (by decide +kernel) ⟨Nat.le_of_ble_eq_true rfl, Nat.le_of_ble_eq_true rfl⟩) hK hW hS (x_recv (i := (g.1 + 189)) (k := 8) (j := 0) hK hW ⟨⟨hfl, rfl⟩, by decide⟩ rfl (by decide)) rfl hl.1 (rest := []) rfl (Nat.le_of_ble_eq_true rfl) dX8_closeLine_1 ⟨Nat.le_of_ble_eq_true rfl, Nat.le_of_ble_eq_true rfl⟩) hS (fun H locs hW hS => ?_)
  have hW : World g (wM w q1.1 mn q1.2) H := hW
  refine lv_aload_n hx hb dX8_closeLine_4 rfl (lv_at hl 0 rfl) ?_
  refine lv_iconst (v := 0) hx hb dX8_closeLine_5 (by decide) ?_
  refine lv_aload_n hx hb dX8_closeLine_6 rfl (lv_at hl 0 rfl) ?_
  refine x_get (i := (g.1 + 189)) (k := 8) (j := 0) (t := 2) hx hb hts i_8 hown hK hW ⟨⟨hfl, rfl⟩, by decide⟩ rfl ⟨by decide, by decide, rfl⟩ (hts (.fieldLink RX8 13 "OpticalJukeboxModel" "read" "[I") (by decide +kernel)) (v := .ref (adr (g.1 + 189) 31 0)) rfl dX8_closeLine_7 ?_
  refine lv_bipush (v := 7) hx hb dX8_closeLine_10 (by decide) ?_
  refine x_iald (i := (g.1 + 189)) (k := 31) (j := 0) (f := q1.1 31 0) hx hb hK hW ⟨⟨hfl, rfl⟩, by decide⟩ (by decide) (rfl) rfl (by unfold vp_in; decide) dX8_closeLine_12 ?_
  refine W.eq (g2 := F0 m 13 ls [.int (q1.1 31 0 7), .int (0 : Int32), .ref (adr (g.1 + 189) 8 0)]) rfl ?_
  refine lv_iconst (v := 1) hx hb dX8_closeLine_13 (by decide) ?_
  refine lv_isub hx hb dX8_closeLine_14 ?_
  obtain ⟨q2, h_q2, hf⟩ := x_bindE hf
  refine x_ci0 (x_rV ⟨hx, hb, hml, hown, hts⟩ (ct_X8_sees l g hfl w q1.1 mn q1.2 ((0 : Int32)) (((q1.1 31 0 7) - (1 : Int32))) h_q2) (cwV 2 hts gX8_closeLine_X8_sees rfl rfl rfl (by decide +kernel) ⟨Nat.le_of_ble_eq_true rfl, Nat.le_of_ble_eq_true rfl⟩) hK hW hS (x_recv (i := (g.1 + 189)) (k := 8) (j := 0) hK hW ⟨⟨hfl, rfl⟩, by decide⟩ rfl (by decide)) rfl hl.1 (rest := []) rfl (Nat.le_of_ble_eq_true rfl) dX8_closeLine_15 ⟨Nat.le_of_ble_eq_true rfl, Nat.le_of_ble_eq_true rfl⟩) hS (fun H locs hW hS => ?_)
  have hW : World g (wM w q2.2 mn q1.2) H := hW
  refine W.eq (g2 := F0 m 18 ls [.int q2.1]) rfl ?_
  obtain ⟨x3, e_x3, hf⟩ := x_letE hf
  refine x_topi e_x3 ?_
  refine lv_istore_n (lv' := [(1, .int x3), (0, .ref (adr (g.1 + 189) 8 0))]) hx hb dX8_closeLine_18 rfl hl (by decide) rfl (fun ls hl => ?_)
  refine lv_aload_n hx hb dX8_closeLine_19 rfl (lv_at hl 1 rfl) ?_
  refine lv_aload_n hx hb dX8_closeLine_20 rfl (lv_at hl 1 rfl) ?_
  obtain ⟨q4, h_q4, hf⟩ := x_bindE hf
  refine x_ci0 (x_rV ⟨hx, hb, hml, hown, hts⟩ (ct_X8_good l g hfl w q2.2 mn q1.2  h_q4) (cwV 0 hts gX8_closeLine_X8_good rfl rfl rfl (by decide +kernel) ⟨Nat.le_of_ble_eq_true rfl, Nat.le_of_ble_eq_true rfl⟩) hK hW hS (x_recv (i := (g.1 + 189)) (k := 8) (j := 0) hK hW ⟨⟨hfl, rfl⟩, by decide⟩ rfl (by decide)) rfl hl.1 (rest := [.ref (adr (g.1 + 189) 8 0)]) rfl (Nat.le_of_ble_eq_true rfl) dX8_closeLine_21 ⟨Nat.le_of_ble_eq_true rfl, Nat.le_of_ble_eq_true rfl⟩) hS (fun H locs hW hS => ?_)
  have hW : World g (wM w q2.2 mn q1.2) H := hW
  refine W.eq (g2 := F0 m 24 ls [.int q4, .ref (adr (g.1 + 189) 8 0)]) rfl ?_
  obtain ⟨K5, eK5, hf⟩ := x_letE hf
  have KK5 : ∀ (y6 : Int32) (ls : Array Slot) (H : Heap) (locs : List Loc), lv_has ls 2 [(0, .ref (adr (g.1 + 189) 8 0)), (1, .int x3)] → World g (wM w q2.2 mn q1.2) H → va_S (gA g) s.heap H locs → K5 y6 = some q → W p l e rm_X8_closeLine s m [.ref (adr (g.1 + 189) 8 0)].toArray below meth c H locs 0 0 (MQ below (cQv g (wM w q.1 mn q.2)) [.ref (adr (g.1 + 189) 8 0)].toArray s 0 0 (gA g)) (F0 m 45 ls [.int y6, .ref (adr (g.1 + 189) 8 0)]) := by
    intro y6 ls H locs hl hW hS hf
    subst eK5
    refine lv_bipush (v := 6) hx hb dX8_closeLine_45 (by decide) ?_
    obtain ⟨q7, h_q7, hf⟩ := x_bindE hf
    refine x_cv0 (x_rV ⟨hx, hb, hml, hown, hts⟩ (ct_X8_must l g hfl w q2.2 mn q1.2 (y6) ((6 : Int32)) h_q7) (cwV 2 hts gX8_closeLine_X8_must rfl rfl rfl (by decide +kernel) ⟨Nat.le_of_ble_eq_true rfl, Nat.le_of_ble_eq_true rfl⟩) hK hW hS (x_recv (i := (g.1 + 189)) (k := 8) (j := 0) hK hW ⟨⟨hfl, rfl⟩, by decide⟩ rfl (by decide)) rfl hl.1 (rest := []) rfl (Nat.le_of_ble_eq_true rfl) dX8_closeLine_47 ⟨Nat.le_of_ble_eq_true rfl, Nat.le_of_ble_eq_true rfl⟩) hS (fun H locs hW hS => ?_)
    have hW : World g (wM w q7 mn q1.2) H := hW
    refine lv_aload_n hx hb dX8_closeLine_50 rfl (lv_at hl 0 rfl) ?_
    obtain ⟨q8, h_q8, hf⟩ := x_bindE hf
    refine x_ci0 (x_rV ⟨hx, hb, hml, hown, hts⟩ (ct_X8_good l g hfl w q7 mn q1.2  h_q8) (cwV 0 hts gX8_closeLine_X8_good rfl rfl rfl (by decide +kernel) ⟨Nat.le_of_ble_eq_true rfl, Nat.le_of_ble_eq_true rfl⟩) hK hW hS (x_recv (i := (g.1 + 189)) (k := 8) (j := 0) hK hW ⟨⟨hfl, rfl⟩, by decide⟩ rfl (by decide)) rfl hl.1 (rest := []) rfl (Nat.le_of_ble_eq_true rfl) dX8_closeLine_51 ⟨Nat.le_of_ble_eq_true rfl, Nat.le_of_ble_eq_true rfl⟩) hS (fun H locs hW hS => ?_)
    have hW : World g (wM w q7 mn q1.2) H := hW
    refine W.eq (g2 := F0 m 54 ls [.int q8]) rfl ?_
    obtain ⟨K9, eK9, hf⟩ := x_letE hf
    have KK9 : ∀ (md10 : SD) (ls : Array Slot) (H : Heap) (locs : List Loc), lv_has ls 2 [(0, .ref (adr (g.1 + 189) 8 0)), (1, .int x3)] → World g (wM w md10 mn q1.2) H → va_S (gA g) s.heap H locs → K9 md10 = some q → W p l e rm_X8_closeLine s m [.ref (adr (g.1 + 189) 8 0)].toArray below meth c H locs 0 0 (MQ below (cQv g (wM w q.1 mn q.2)) [.ref (adr (g.1 + 189) 8 0)].toArray s 0 0 (gA g)) (F0 m 65 ls []) := by
      intro md10 ls H locs hl hW hS hf
      subst eK9
      refine lv_aload_n hx hb dX8_closeLine_65 rfl (lv_at hl 0 rfl) ?_
      obtain ⟨q11, h_q11, hf⟩ := x_bindE hf
      refine x_cv0 (x_rV ⟨hx, hb, hml, hown, hts⟩ (ct_X8_goesOn l g hfl w md10 mn q1.2  h_q11) (cwV 0 hts gX8_closeLine_X8_goesOn rfl rfl rfl (by decide +kernel) ⟨Nat.le_of_ble_eq_true rfl, Nat.le_of_ble_eq_true rfl⟩) hK hW hS (x_recv (i := (g.1 + 189)) (k := 8) (j := 0) hK hW ⟨⟨hfl, rfl⟩, by decide⟩ rfl (by decide)) rfl hl.1 (rest := []) rfl (Nat.le_of_ble_eq_true rfl) dX8_closeLine_66 ⟨Nat.le_of_ble_eq_true rfl, Nat.le_of_ble_eq_true rfl⟩) hS (fun H locs hW hS => ?_)
      have hW : World g (wM w q11.1 mn q11.2) H := hW
      cases hf
      exact x_vret hx hb hr hlocks hK hW hS dX8_closeLine_69
    clear eK9
    refine lv_if_eq (tgt := 65) hx hb dX8_closeLine_54 (by decide) (fun hc => ?_) (fun hc => ?_)
    · have hf := x_iteT hf hc
      exact KK9 (q7) ls _ _ hl hW hS hf
    · have hf := x_iteF hf hc
      refine lv_aload_n hx hb dX8_closeLine_57 rfl (lv_at hl 0 rfl) ?_
      refine x_get (i := (g.1 + 189)) (k := 8) (j := 0) (t := 2) hx hb hts i_8 hown hK hW ⟨⟨hfl, rfl⟩, by decide⟩ rfl ⟨by decide, by decide, rfl⟩ (hts (.fieldLink RX8 13 "OpticalJukeboxModel" "read" "[I") (by decide +kernel)) (v := .ref (adr (g.1 + 189) 31 0)) rfl dX8_closeLine_58 ?_
      refine lv_iload_n hx hb dX8_closeLine_61 rfl (lv_at hl 1 rfl) ?_
      obtain ⟨q12, h_q12, hf⟩ := x_bindE hf
      refine x_cv0 (x_rS ⟨hx, hb, hml, hown, hts⟩ (ct_X8_closes l g hfl w q7 mn q1.2 31 isRow_31 (x3) h_q12) (va_cwS 2 hts gX8_closeLine_X8_closes rfl rfl rfl (by decide +kernel) ⟨Nat.le_of_ble_eq_true rfl, Nat.le_of_ble_eq_true rfl⟩) hK hW hS rfl hl.1 (rest := []) rfl (Nat.le_of_ble_eq_true rfl) dX8_closeLine_62 ⟨Nat.le_of_ble_eq_true rfl, Nat.le_of_ble_eq_true rfl⟩) hS (fun H locs hW hS => ?_)
      have hW : World g (wM w q12 mn q1.2) H := hW
      exact KK9 (q12) ls _ _ hl hW hS hf
  clear eK5
  obtain ⟨K13, eK13, hf⟩ := x_letE hf
  have KK13 : ∀ (_u : Unit) (ls : Array Slot) (H : Heap) (locs : List Loc), lv_has ls 2 [(0, .ref (adr (g.1 + 189) 8 0)), (1, .int x3)] → World g (wM w q2.2 mn q1.2) H → va_S (gA g) s.heap H locs → K13 _u = some q → W p l e rm_X8_closeLine s m [.ref (adr (g.1 + 189) 8 0)].toArray below meth c H locs 0 0 (MQ below (cQv g (wM w q.1 mn q.2)) [.ref (adr (g.1 + 189) 8 0)].toArray s 0 0 (gA g)) (F0 m 44 ls [.ref (adr (g.1 + 189) 8 0)]) := by
    intro _u ls H locs hl hW hS hf
    subst eK13
    refine lv_iconst (v := 0) hx hb dX8_closeLine_44 (by decide) ?_
    exact KK5 ((0 : Int32)) ls _ _ hl hW hS hf
  clear eK13
  refine lv_if_eq (tgt := 44) hx hb dX8_closeLine_24 (by decide) (fun hc => ?_) (fun hc => ?_)
  · have hf := x_iteT hf hc
    exact KK13 (()) ls _ _ (lv_sub hl [1, 0] rfl) hW hS hf
  · have hf := x_iteF hf hc
    refine lv_aload_n hx hb dX8_closeLine_27 rfl (lv_at hl 1 rfl) ?_
    refine x_get (i := (g.1 + 189)) (k := 8) (j := 0) (t := 2) hx hb hts i_8 hown hK hW ⟨⟨hfl, rfl⟩, by decide⟩ rfl ⟨by decide, by decide, rfl⟩ (hts (.fieldLink RX8 13 "OpticalJukeboxModel" "read" "[I") (by decide +kernel)) (v := .ref (adr (g.1 + 189) 31 0)) rfl dX8_closeLine_28 ?_
    refine lv_bipush (v := 79) hx hb dX8_closeLine_31 (by decide) ?_
    refine lv_iload_n hx hb dX8_closeLine_33 rfl (lv_at hl 0 rfl) ?_
    refine lv_iadd hx hb dX8_closeLine_34 ?_
    obtain ⟨hg14, hf⟩ := x_guardE hf
    refine x_iald (i := (g.1 + 189)) (k := 31) (j := 0) (f := q2.2 31 0) hx hb hK hW ⟨⟨hfl, rfl⟩, by decide⟩ (by decide) (rfl) rfl hg14 dX8_closeLine_35 ?_
    refine lv_iconst (v := 1) hx hb dX8_closeLine_36 (by decide) ?_
    refine lv_icmp_ne (tgt := 44) hx hb dX8_closeLine_37 (by decide) (fun hc => ?_) (fun hc => ?_)
    · have hf := x_iteF hf hc
      exact KK13 (()) ls _ _ (lv_sub hl [1, 0] rfl) hW hS hf
    · have hf := x_iteT hf hc
      refine lv_iconst (v := 1) hx hb dX8_closeLine_40 (by decide) ?_
      refine lv_goto (tgt := 45) hx hb dX8_closeLine_41 (by decide) ?_
      exact KK5 ((1 : Int32)) ls _ _ (lv_sub hl [1, 0] rfl) hW hS hf
abbrev rm_X8_line : Room := { frames := 6, cells := 0, slots := 0, locals := 135 }
set_option maxRecDepth 100000 in
set_option maxHeartbeats 4000000 in
theorem ct_X8_line (l : Launch) (g : GT) (hfl : 2 ≤ gf g) (w : WT) (md : SD) (mn : Nat → Int64) (mw : Int64) {q : (SD × (Nat → Int64) × Int64)} (hf : f_X8_line md mn mw  = some q) : Met l yX8_line wsX8_line rm_X8_line (cPre g (wM w md mn mw) [.ref (adr (g.1 + 189) 8 0)]) (cQv g (wM w q.1 q.2.1 q.2.2)) 0 0 (gA g) := by
  have i_8 : ∀ w ∈ u_ws RX8 TX8 27, w ∈ wsX8_line := by decide +kernel
  refine x_met (by decide) rfl (Nat.le_of_ble_eq_true rfl) ?_
  intro p e s m below meth c hx hb hr hml hts hown hlocks hK hW hS ls hl
  have hown : s.vm.findClass RX8 = some m.cls := hown
  have hl : lv_has ls 1 [(0, .ref (adr (g.1 + 189) 8 0))] := hl
  rw [f_X8_line] at hf
  refine lv_aload_n hx hb dX8_line_0 rfl (lv_at hl 0 rfl) ?_
  refine lv_ldc2 (v := 10345069) hx hb hown (hts (.constantLong RX8 339 (10345069)) (by decide +kernel)) dX8_line_1 ?_
  obtain ⟨q1, h_q1, hf⟩ := x_bindE hf
  refine x_ci0 (x_rV ⟨hx, hb, hml, hown, hts⟩ (ct_X8_isWord l g hfl w md mn mw ((10345069 : Int64)) h_q1) (cwV 1 hts gX8_line_X8_isWord rfl rfl rfl (by decide +kernel) ⟨Nat.le_of_ble_eq_true rfl, Nat.le_of_ble_eq_true rfl⟩) hK hW hS (x_recv (i := (g.1 + 189)) (k := 8) (j := 0) hK hW ⟨⟨hfl, rfl⟩, by decide⟩ rfl (by decide)) rfl hl.1 (rest := []) rfl (Nat.le_of_ble_eq_true rfl) dX8_line_4 ⟨Nat.le_of_ble_eq_true rfl, Nat.le_of_ble_eq_true rfl⟩) hS (fun H locs hW hS => ?_)
  have hW : World g (wM w md mn mw) H := hW
  refine W.eq (g2 := F0 m 7 ls [.int q1]) rfl ?_
  obtain ⟨K2, eK2, hf⟩ := x_letE hf
  have KK2 : ∀ (md3 : SD) (mn4 : Nat → Int64) (mw5 : Int64) (ls : Array Slot) (H : Heap) (locs : List Loc), lv_has ls 1 [(0, .ref (adr (g.1 + 189) 8 0))] → World g (wM w md3 mn4 mw5) H → va_S (gA g) s.heap H locs → K2 md3 mn4 mw5 = some q → W p l e rm_X8_line s m [.ref (adr (g.1 + 189) 8 0)].toArray below meth c H locs 0 0 (MQ below (cQv g (wM w q.1 q.2.1 q.2.2)) [.ref (adr (g.1 + 189) 8 0)].toArray s 0 0 (gA g)) (F0 m 125 ls []) := by
    intro md3 mn4 mw5 ls H locs hl hW hS hf
    subst eK2
    refine lv_aload_n hx hb dX8_line_125 rfl (lv_at hl 0 rfl) ?_
    refine lv_dup hx hb dX8_line_126 rfl ?_
    refine x_get (i := (g.1 + 189)) (k := 8) (j := 0) (t := 25) hx hb hts i_8 hown hK hW ⟨⟨hfl, rfl⟩, by decide⟩ rfl ⟨by decide, by decide, rfl⟩ (hts (.fieldLink RX8 367 "OpticalJukeboxModel" "statements" "I") (by decide +kernel)) (rfl) dX8_line_127 ?_
    refine lv_iconst (v := 1) hx hb dX8_line_130 (by decide) ?_
    refine lv_iadd hx hb dX8_line_131 ?_
    obtain ⟨md6, e_md6, hf⟩ := x_letE hf
    refine x_put (i := (g.1 + 189)) (k := 8) (j := 0) (t := 25) (w' := wM w md6 mn4 mw5) hx hb hts i_8 tyX8 tyX8_ok nmX8 hown hK hW ⟨⟨hfl, rfl⟩, by decide⟩ hS rfl ⟨by decide, by decide, rfl⟩ (hts (.fieldLink RX8 367 "OpticalJukeboxModel" "statements" "I") (by decide +kernel)) rfl (ty := .int) (by decide +kernel) rfl rfl ⟨rfl, rfl⟩ dX8_line_132 (fp_M e_md6 rfl) (fun H locs hW hS => ?_)
    cases hf
    exact x_vret hx hb hr hlocks hK hW hS dX8_line_135
  clear eK2
  refine lv_if_eq (tgt := 17) hx hb dX8_line_7 (by decide) (fun hc => ?_) (fun hc => ?_)
  · have hf := x_iteT hf hc
    refine lv_aload_n hx hb dX8_line_17 rfl (lv_at hl 0 rfl) ?_
    refine lv_ldc2 (v := 2487218) hx hb hown (hts (.constantLong RX8 345 (2487218)) (by decide +kernel)) dX8_line_18 ?_
    obtain ⟨q7, h_q7, hf⟩ := x_bindE hf
    refine x_ci0 (x_rV ⟨hx, hb, hml, hown, hts⟩ (ct_X8_isWord l g hfl w md mn mw ((2487218 : Int64)) h_q7) (cwV 1 hts gX8_line_X8_isWord rfl rfl rfl (by decide +kernel) ⟨Nat.le_of_ble_eq_true rfl, Nat.le_of_ble_eq_true rfl⟩) hK hW hS (x_recv (i := (g.1 + 189)) (k := 8) (j := 0) hK hW ⟨⟨hfl, rfl⟩, by decide⟩ rfl (by decide)) rfl hl.1 (rest := []) rfl (Nat.le_of_ble_eq_true rfl) dX8_line_21 ⟨Nat.le_of_ble_eq_true rfl, Nat.le_of_ble_eq_true rfl⟩) hS (fun H locs hW hS => ?_)
    have hW : World g (wM w md mn mw) H := hW
    refine W.eq (g2 := F0 m 24 ls [.int q7]) rfl ?_
    refine lv_if_eq (tgt := 34) hx hb dX8_line_24 (by decide) (fun hc => ?_) (fun hc => ?_)
    · have hf := x_iteT hf hc
      refine lv_aload_n hx hb dX8_line_34 rfl (lv_at hl 0 rfl) ?_
      refine lv_ldc2 (v := 400577) hx hb hown (hts (.constantLong RX8 347 (400577)) (by decide +kernel)) dX8_line_35 ?_
      obtain ⟨q8, h_q8, hf⟩ := x_bindE hf
      refine x_ci0 (x_rV ⟨hx, hb, hml, hown, hts⟩ (ct_X8_isWord l g hfl w md mn mw ((400577 : Int64)) h_q8) (cwV 1 hts gX8_line_X8_isWord rfl rfl rfl (by decide +kernel) ⟨Nat.le_of_ble_eq_true rfl, Nat.le_of_ble_eq_true rfl⟩) hK hW hS (x_recv (i := (g.1 + 189)) (k := 8) (j := 0) hK hW ⟨⟨hfl, rfl⟩, by decide⟩ rfl (by decide)) rfl hl.1 (rest := []) rfl (Nat.le_of_ble_eq_true rfl) dX8_line_38 ⟨Nat.le_of_ble_eq_true rfl, Nat.le_of_ble_eq_true rfl⟩) hS (fun H locs hW hS => ?_)
      have hW : World g (wM w md mn mw) H := hW
      refine W.eq (g2 := F0 m 41 ls [.int q8]) rfl ?_
      refine lv_if_eq (tgt := 51) hx hb dX8_line_41 (by decide) (fun hc => ?_) (fun hc => ?_)
      · have hf := x_iteT hf hc
        refine lv_aload_n hx hb dX8_line_51 rfl (lv_at hl 0 rfl) ?_
        refine lv_ldc2 (v := 6371854542) hx hb hown (hts (.constantLong RX8 349 (6371854542)) (by decide +kernel)) dX8_line_52 ?_
        obtain ⟨q9, h_q9, hf⟩ := x_bindE hf
        refine x_ci0 (x_rV ⟨hx, hb, hml, hown, hts⟩ (ct_X8_isWord l g hfl w md mn mw ((6371854542 : Int64)) h_q9) (cwV 1 hts gX8_line_X8_isWord rfl rfl rfl (by decide +kernel) ⟨Nat.le_of_ble_eq_true rfl, Nat.le_of_ble_eq_true rfl⟩) hK hW hS (x_recv (i := (g.1 + 189)) (k := 8) (j := 0) hK hW ⟨⟨hfl, rfl⟩, by decide⟩ rfl (by decide)) rfl hl.1 (rest := []) rfl (Nat.le_of_ble_eq_true rfl) dX8_line_55 ⟨Nat.le_of_ble_eq_true rfl, Nat.le_of_ble_eq_true rfl⟩) hS (fun H locs hW hS => ?_)
        have hW : World g (wM w md mn mw) H := hW
        refine W.eq (g2 := F0 m 58 ls [.int q9]) rfl ?_
        refine lv_if_eq (tgt := 68) hx hb dX8_line_58 (by decide) (fun hc => ?_) (fun hc => ?_)
        · have hf := x_iteT hf hc
          refine lv_aload_n hx hb dX8_line_68 rfl (lv_at hl 0 rfl) ?_
          refine lv_ldc2 (v := 1489) hx hb hown (hts (.constantLong RX8 351 (1489)) (by decide +kernel)) dX8_line_69 ?_
          obtain ⟨q10, h_q10, hf⟩ := x_bindE hf
          refine x_ci0 (x_rV ⟨hx, hb, hml, hown, hts⟩ (ct_X8_isWord l g hfl w md mn mw ((1489 : Int64)) h_q10) (cwV 1 hts gX8_line_X8_isWord rfl rfl rfl (by decide +kernel) ⟨Nat.le_of_ble_eq_true rfl, Nat.le_of_ble_eq_true rfl⟩) hK hW hS (x_recv (i := (g.1 + 189)) (k := 8) (j := 0) hK hW ⟨⟨hfl, rfl⟩, by decide⟩ rfl (by decide)) rfl hl.1 (rest := []) rfl (Nat.le_of_ble_eq_true rfl) dX8_line_72 ⟨Nat.le_of_ble_eq_true rfl, Nat.le_of_ble_eq_true rfl⟩) hS (fun H locs hW hS => ?_)
          have hW : World g (wM w md mn mw) H := hW
          refine W.eq (g2 := F0 m 75 ls [.int q10]) rfl ?_
          refine lv_if_eq (tgt := 85) hx hb dX8_line_75 (by decide) (fun hc => ?_) (fun hc => ?_)
          · have hf := x_iteT hf hc
            refine lv_aload_n hx hb dX8_line_85 rfl (lv_at hl 0 rfl) ?_
            refine lv_ldc2 (v := 124988) hx hb hown (hts (.constantLong RX8 353 (124988)) (by decide +kernel)) dX8_line_86 ?_
            obtain ⟨q11, h_q11, hf⟩ := x_bindE hf
            refine x_ci0 (x_rV ⟨hx, hb, hml, hown, hts⟩ (ct_X8_isWord l g hfl w md mn mw ((124988 : Int64)) h_q11) (cwV 1 hts gX8_line_X8_isWord rfl rfl rfl (by decide +kernel) ⟨Nat.le_of_ble_eq_true rfl, Nat.le_of_ble_eq_true rfl⟩) hK hW hS (x_recv (i := (g.1 + 189)) (k := 8) (j := 0) hK hW ⟨⟨hfl, rfl⟩, by decide⟩ rfl (by decide)) rfl hl.1 (rest := []) rfl (Nat.le_of_ble_eq_true rfl) dX8_line_89 ⟨Nat.le_of_ble_eq_true rfl, Nat.le_of_ble_eq_true rfl⟩) hS (fun H locs hW hS => ?_)
            have hW : World g (wM w md mn mw) H := hW
            refine W.eq (g2 := F0 m 92 ls [.int q11]) rfl ?_
            refine lv_if_eq (tgt := 102) hx hb dX8_line_92 (by decide) (fun hc => ?_) (fun hc => ?_)
            · have hf := x_iteT hf hc
              refine lv_aload_n hx hb dX8_line_102 rfl (lv_at hl 0 rfl) ?_
              refine lv_aload_n hx hb dX8_line_103 rfl (lv_at hl 0 rfl) ?_
              refine lv_ldc2 (v := 1841972) hx hb hown (hts (.constantLong RX8 355 (1841972)) (by decide +kernel)) dX8_line_104 ?_
              obtain ⟨q12, h_q12, hf⟩ := x_bindE hf
              refine x_ci0 (x_rV ⟨hx, hb, hml, hown, hts⟩ (ct_X8_isWord l g hfl w md mn mw ((1841972 : Int64)) h_q12) (cwV 1 hts gX8_line_X8_isWord rfl rfl rfl (by decide +kernel) ⟨Nat.le_of_ble_eq_true rfl, Nat.le_of_ble_eq_true rfl⟩) hK hW hS (x_recv (i := (g.1 + 189)) (k := 8) (j := 0) hK hW ⟨⟨hfl, rfl⟩, by decide⟩ rfl (by decide)) rfl hl.1 (rest := [.ref (adr (g.1 + 189) 8 0)]) rfl (Nat.le_of_ble_eq_true rfl) dX8_line_107 ⟨Nat.le_of_ble_eq_true rfl, Nat.le_of_ble_eq_true rfl⟩) hS (fun H locs hW hS => ?_)
              have hW : World g (wM w md mn mw) H := hW
              refine W.eq (g2 := F0 m 110 ls [.int q12, .ref (adr (g.1 + 189) 8 0)]) rfl ?_
              refine lv_iconst (v := 2) hx hb dX8_line_110 (by decide) ?_
              obtain ⟨q13, h_q13, hf⟩ := x_bindE hf
              refine x_cv0 (x_rV ⟨hx, hb, hml, hown, hts⟩ (ct_X8_must l g hfl w md mn mw (q12) ((2 : Int32)) h_q13) (cwV 2 hts gX8_line_X8_must rfl rfl rfl (by decide +kernel) ⟨Nat.le_of_ble_eq_true rfl, Nat.le_of_ble_eq_true rfl⟩) hK hW hS (x_recv (i := (g.1 + 189)) (k := 8) (j := 0) hK hW ⟨⟨hfl, rfl⟩, by decide⟩ rfl (by decide)) rfl hl.1 (rest := []) rfl (Nat.le_of_ble_eq_true rfl) dX8_line_111 ⟨Nat.le_of_ble_eq_true rfl, Nat.le_of_ble_eq_true rfl⟩) hS (fun H locs hW hS => ?_)
              have hW : World g (wM w q13 mn mw) H := hW
              refine lv_aload_n hx hb dX8_line_114 rfl (lv_at hl 0 rfl) ?_
              obtain ⟨q14, h_q14, hf⟩ := x_bindE hf
              refine x_ci0 (x_rV ⟨hx, hb, hml, hown, hts⟩ (ct_X8_good l g hfl w q13 mn mw  h_q14) (cwV 0 hts gX8_line_X8_good rfl rfl rfl (by decide +kernel) ⟨Nat.le_of_ble_eq_true rfl, Nat.le_of_ble_eq_true rfl⟩) hK hW hS (x_recv (i := (g.1 + 189)) (k := 8) (j := 0) hK hW ⟨⟨hfl, rfl⟩, by decide⟩ rfl (by decide)) rfl hl.1 (rest := []) rfl (Nat.le_of_ble_eq_true rfl) dX8_line_115 ⟨Nat.le_of_ble_eq_true rfl, Nat.le_of_ble_eq_true rfl⟩) hS (fun H locs hW hS => ?_)
              have hW : World g (wM w q13 mn mw) H := hW
              refine W.eq (g2 := F0 m 118 ls [.int q14]) rfl ?_
              refine lv_if_eq (tgt := 125) hx hb dX8_line_118 (by decide) (fun hc => ?_) (fun hc => ?_)
              · have hf := x_iteT hf hc
                exact KK2 (q13) (mn) (mw) ls _ _ hl hW hS hf
              · have hf := x_iteF hf hc
                refine lv_aload_n hx hb dX8_line_121 rfl (lv_at hl 0 rfl) ?_
                obtain ⟨q15, h_q15, hf⟩ := x_bindE hf
                refine x_cv0 (x_rV ⟨hx, hb, hml, hown, hts⟩ (ct_X8_closeLine l g hfl w q13 mn mw  h_q15) (cwV 0 hts gX8_line_X8_closeLine rfl rfl rfl (by decide +kernel) ⟨Nat.le_of_ble_eq_true rfl, Nat.le_of_ble_eq_true rfl⟩) hK hW hS (x_recv (i := (g.1 + 189)) (k := 8) (j := 0) hK hW ⟨⟨hfl, rfl⟩, by decide⟩ rfl (by decide)) rfl hl.1 (rest := []) rfl (Nat.le_of_ble_eq_true rfl) dX8_line_122 ⟨Nat.le_of_ble_eq_true rfl, Nat.le_of_ble_eq_true rfl⟩) hS (fun H locs hW hS => ?_)
                have hW : World g (wM w q15.1 mn q15.2) H := hW
                exact KK2 (q15.1) (mn) (q15.2) ls _ _ hl hW hS hf
            · have hf := x_iteF hf hc
              refine lv_aload_n hx hb dX8_line_95 rfl (lv_at hl 0 rfl) ?_
              obtain ⟨q16, h_q16, hf⟩ := x_bindE hf
              refine x_cv0 (x_rV ⟨hx, hb, hml, hown, hts⟩ (ct_X8_fileLine l g hfl w md mn mw  h_q16) (cwV 0 hts gX8_line_X8_fileLine rfl rfl rfl (by decide +kernel) ⟨Nat.le_of_ble_eq_true rfl, Nat.le_of_ble_eq_true rfl⟩) hK hW hS (x_recv (i := (g.1 + 189)) (k := 8) (j := 0) hK hW ⟨⟨hfl, rfl⟩, by decide⟩ rfl (by decide)) rfl hl.1 (rest := []) rfl (Nat.le_of_ble_eq_true rfl) dX8_line_96 ⟨Nat.le_of_ble_eq_true rfl, Nat.le_of_ble_eq_true rfl⟩) hS (fun H locs hW hS => ?_)
              have hW : World g (wM w q16.1 q16.2.1 q16.2.2) H := hW
              refine lv_goto (tgt := 125) hx hb dX8_line_99 (by decide) ?_
              exact KK2 (q16.1) (q16.2.1) (q16.2.2) ls _ _ hl hW hS hf
          · have hf := x_iteF hf hc
            refine lv_aload_n hx hb dX8_line_78 rfl (lv_at hl 0 rfl) ?_
            obtain ⟨q17, h_q17, hf⟩ := x_bindE hf
            refine x_cv0 (x_rV ⟨hx, hb, hml, hown, hts⟩ (ct_X8_badLine l g hfl w md mn mw  h_q17) (cwV 0 hts gX8_line_X8_badLine rfl rfl rfl (by decide +kernel) ⟨Nat.le_of_ble_eq_true rfl, Nat.le_of_ble_eq_true rfl⟩) hK hW hS (x_recv (i := (g.1 + 189)) (k := 8) (j := 0) hK hW ⟨⟨hfl, rfl⟩, by decide⟩ rfl (by decide)) rfl hl.1 (rest := []) rfl (Nat.le_of_ble_eq_true rfl) dX8_line_79 ⟨Nat.le_of_ble_eq_true rfl, Nat.le_of_ble_eq_true rfl⟩) hS (fun H locs hW hS => ?_)
            have hW : World g (wM w q17.1 mn q17.2) H := hW
            refine lv_goto (tgt := 125) hx hb dX8_line_82 (by decide) ?_
            exact KK2 (q17.1) (mn) (q17.2) ls _ _ hl hW hS hf
        · have hf := x_iteF hf hc
          refine lv_aload_n hx hb dX8_line_61 rfl (lv_at hl 0 rfl) ?_
          obtain ⟨q18, h_q18, hf⟩ := x_bindE hf
          refine x_cv0 (x_rV ⟨hx, hb, hml, hown, hts⟩ (ct_X8_platterLine l g hfl w md mn mw  h_q18) (cwV 0 hts gX8_line_X8_platterLine rfl rfl rfl (by decide +kernel) ⟨Nat.le_of_ble_eq_true rfl, Nat.le_of_ble_eq_true rfl⟩) hK hW hS (x_recv (i := (g.1 + 189)) (k := 8) (j := 0) hK hW ⟨⟨hfl, rfl⟩, by decide⟩ rfl (by decide)) rfl hl.1 (rest := []) rfl (Nat.le_of_ble_eq_true rfl) dX8_line_62 ⟨Nat.le_of_ble_eq_true rfl, Nat.le_of_ble_eq_true rfl⟩) hS (fun H locs hW hS => ?_)
          have hW : World g (wM w q18.1 mn q18.2) H := hW
          refine lv_goto (tgt := 125) hx hb dX8_line_65 (by decide) ?_
          exact KK2 (q18.1) (mn) (q18.2) ls _ _ hl hW hS hf
      · have hf := x_iteF hf hc
        refine lv_aload_n hx hb dX8_line_44 rfl (lv_at hl 0 rfl) ?_
        obtain ⟨q19, h_q19, hf⟩ := x_bindE hf
        refine x_cv0 (x_rV ⟨hx, hb, hml, hown, hts⟩ (ct_X8_timeLine l g hfl w md mn mw  h_q19) (cwV 0 hts gX8_line_X8_timeLine rfl rfl rfl (by decide +kernel) ⟨Nat.le_of_ble_eq_true rfl, Nat.le_of_ble_eq_true rfl⟩) hK hW hS (x_recv (i := (g.1 + 189)) (k := 8) (j := 0) hK hW ⟨⟨hfl, rfl⟩, by decide⟩ rfl (by decide)) rfl hl.1 (rest := []) rfl (Nat.le_of_ble_eq_true rfl) dX8_line_45 ⟨Nat.le_of_ble_eq_true rfl, Nat.le_of_ble_eq_true rfl⟩) hS (fun H locs hW hS => ?_)
        have hW : World g (wM w q19.1 mn q19.2) H := hW
        refine lv_goto (tgt := 125) hx hb dX8_line_48 (by decide) ?_
        exact KK2 (q19.1) (mn) (q19.2) ls _ _ hl hW hS hf
    · have hf := x_iteF hf hc
      refine lv_aload_n hx hb dX8_line_27 rfl (lv_at hl 0 rfl) ?_
      obtain ⟨q20, h_q20, hf⟩ := x_bindE hf
      refine x_cv0 (x_rV ⟨hx, hb, hml, hown, hts⟩ (ct_X8_driveLine l g hfl w md mn mw  h_q20) (cwV 0 hts gX8_line_X8_driveLine rfl rfl rfl (by decide +kernel) ⟨Nat.le_of_ble_eq_true rfl, Nat.le_of_ble_eq_true rfl⟩) hK hW hS (x_recv (i := (g.1 + 189)) (k := 8) (j := 0) hK hW ⟨⟨hfl, rfl⟩, by decide⟩ rfl (by decide)) rfl hl.1 (rest := []) rfl (Nat.le_of_ble_eq_true rfl) dX8_line_28 ⟨Nat.le_of_ble_eq_true rfl, Nat.le_of_ble_eq_true rfl⟩) hS (fun H locs hW hS => ?_)
      have hW : World g (wM w q20.1 mn q20.2) H := hW
      refine lv_goto (tgt := 125) hx hb dX8_line_31 (by decide) ?_
      exact KK2 (q20.1) (mn) (q20.2) ls _ _ hl hW hS hf
  · have hf := x_iteF hf hc
    refine lv_aload_n hx hb dX8_line_10 rfl (lv_at hl 0 rfl) ?_
    obtain ⟨q21, h_q21, hf⟩ := x_bindE hf
    refine x_cv0 (x_rV ⟨hx, hb, hml, hown, hts⟩ (ct_X8_slotsLine l g hfl w md mn mw  h_q21) (cwV 0 hts gX8_line_X8_slotsLine rfl rfl rfl (by decide +kernel) ⟨Nat.le_of_ble_eq_true rfl, Nat.le_of_ble_eq_true rfl⟩) hK hW hS (x_recv (i := (g.1 + 189)) (k := 8) (j := 0) hK hW ⟨⟨hfl, rfl⟩, by decide⟩ rfl (by decide)) rfl hl.1 (rest := []) rfl (Nat.le_of_ble_eq_true rfl) dX8_line_11 ⟨Nat.le_of_ble_eq_true rfl, Nat.le_of_ble_eq_true rfl⟩) hS (fun H locs hW hS => ?_)
    have hW : World g (wM w q21.1 mn q21.2) H := hW
    refine lv_goto (tgt := 125) hx hb dX8_line_14 (by decide) ?_
    exact KK2 (q21.1) (mn) (q21.2) ls _ _ hl hW hS hf
abbrev rm_X8_load : Room := { frames := 7, cells := 0, slots := 0, locals := 155 }
set_option maxRecDepth 100000 in
set_option maxHeartbeats 4000000 in
theorem ct_X8_load (l : Launch) (g : GT) (hfl : 2 ≤ gf g) (w : WT) (md : SD) (mn : Nat → Int64) (mw : Int64) (a1 : Int32) {q : (Int32 × SD × (Nat → Int64) × Int64)} (hf : f_X8_load md mn mw a1 = some q) : Met l yX8_load wsX8_load rm_X8_load (cPre g (wM w md mn mw) [.ref (adr (g.1 + 189) 8 0), .int a1]) (cQi g q.1 (wM w q.2.1 q.2.2.1 q.2.2.2)) 0 0 (gA g) := by
  have i_8 : ∀ w ∈ u_ws RX8 TX8 27, w ∈ wsX8_load := by decide +kernel
  refine x_met (by decide) rfl (Nat.le_of_ble_eq_true rfl) ?_
  intro p e s m below meth c hx hb hr hml hts hown hlocks hK hW hS ls hl
  have hown : s.vm.findClass RX8 = some m.cls := hown
  have hl : lv_has ls 2 [(0, .ref (adr (g.1 + 189) 8 0)), (1, .int a1)] := hl
  rw [f_X8_load] at hf
  refine lv_aload_n hx hb dX8_load_0 rfl (lv_at hl 0 rfl) ?_
  refine lv_iconst (v := 0) hx hb dX8_load_1 (by decide) ?_
  obtain ⟨md1, e_md1, hf⟩ := x_letE hf
  refine x_put (i := (g.1 + 189)) (k := 8) (j := 0) (t := 0) (w' := wM w md1 mn mw) hx hb hts i_8 tyX8 tyX8_ok nmX8 hown hK hW ⟨⟨hfl, rfl⟩, by decide⟩ hS rfl ⟨by decide, by decide, rfl⟩ (hts (.fieldLink RX8 51 "OpticalJukeboxModel" "thrown" "I") (by decide +kernel)) rfl (ty := .int) (by decide +kernel) rfl rfl ⟨rfl, rfl⟩ dX8_load_2 (fp_M e_md1 rfl) (fun H locs hW hS => ?_)
  refine lv_iload_n hx hb dX8_load_5 rfl (lv_at hl 1 rfl) ?_
  refine lv_i2l hx hb dX8_load_6 rfl ?_
  refine lv_lconst (v := 0) hx hb dX8_load_7 (by decide) ?_
  refine lv_aload_n hx hb dX8_load_8 rfl (lv_at hl 0 rfl) ?_
  refine x_get (i := (g.1 + 189)) (k := 8) (j := 0) (t := 15) hx hb hts i_8 hown hK hW ⟨⟨hfl, rfl⟩, by decide⟩ rfl ⟨by decide, by decide, rfl⟩ (hts (.fieldLink RX8 294 "OpticalJukeboxModel" "buffered" "I") (by decide +kernel)) (rfl) dX8_load_9 ?_
  refine lv_i2l hx hb dX8_load_12 rfl ?_
  obtain ⟨q2, h_q2, hf⟩ := x_bindE hf
  refine x_ci0 (x_rS ⟨hx, hb, hml, hown, hts⟩ (ct_X8_isIn l g (wM w md1 mn mw) ((a1).toInt64) ((0 : Int64)) (((md1 8 0 15)).toInt64) h_q2) (va_cwS 3 hts gX8_load_X8_isIn rfl rfl rfl (by decide +kernel) ⟨Nat.le_of_ble_eq_true rfl, Nat.le_of_ble_eq_true rfl⟩) hK hW hS rfl hl.1 (rest := []) rfl (Nat.le_of_ble_eq_true rfl) dX8_load_13 ⟨Nat.le_of_ble_eq_true rfl, Nat.le_of_ble_eq_true rfl⟩) hS (fun H locs hW hS => ?_)
  have hW : World g (wM w md1 mn mw) H := hW
  refine W.eq (g2 := F0 m 16 ls [.int q2]) rfl ?_
  refine lv_if_ne (tgt := 22) hx hb dX8_load_16 (by decide) (fun hc => ?_) (fun hc => ?_)
  · have hf := x_iteF hf hc
    refine lv_aload_n hx hb dX8_load_22 rfl (lv_at hl 0 rfl) ?_
    refine lv_iload_n hx hb dX8_load_23 rfl (lv_at hl 1 rfl) ?_
    obtain ⟨md3, e_md3, hf⟩ := x_letE hf
    refine x_put (i := (g.1 + 189)) (k := 8) (j := 0) (t := 24) (w' := wM w md3 mn mw) hx hb hts i_8 tyX8 tyX8_ok nmX8 hown hK hW ⟨⟨hfl, rfl⟩, by decide⟩ hS rfl ⟨by decide, by decide, rfl⟩ (hts (.fieldLink RX8 300 "OpticalJukeboxModel" "last" "I") (by decide +kernel)) rfl (ty := .int) (by decide +kernel) rfl rfl ⟨rfl, rfl⟩ dX8_load_24 (fp_M e_md3 rfl) (fun H locs hW hS => ?_)
    refine lv_aload_n hx hb dX8_load_27 rfl (lv_at hl 0 rfl) ?_
    refine lv_iconst (v := 0) hx hb dX8_load_28 (by decide) ?_
    obtain ⟨md4, e_md4, hf⟩ := x_letE hf
    refine x_put (i := (g.1 + 189)) (k := 8) (j := 0) (t := 21) (w' := wM w md4 mn mw) hx hb hts i_8 tyX8 tyX8_ok nmX8 hown hK hW ⟨⟨hfl, rfl⟩, by decide⟩ hS rfl ⟨by decide, by decide, rfl⟩ (hts (.fieldLink RX8 303 "OpticalJukeboxModel" "then" "I") (by decide +kernel)) rfl (ty := .int) (by decide +kernel) rfl rfl ⟨rfl, rfl⟩ dX8_load_29 (fp_M e_md4 rfl) (fun H locs hW hS => ?_)
    refine lv_aload_n hx hb dX8_load_32 rfl (lv_at hl 0 rfl) ?_
    refine lv_iconst (v := 0) hx hb dX8_load_33 (by decide) ?_
    obtain ⟨md5, e_md5, hf⟩ := x_letE hf
    refine x_put (i := (g.1 + 189)) (k := 8) (j := 0) (t := 18) (w' := wM w md5 mn mw) hx hb hts i_8 tyX8 tyX8_ok nmX8 hown hK hW ⟨⟨hfl, rfl⟩, by decide⟩ hS rfl ⟨by decide, by decide, rfl⟩ (hts (.fieldLink RX8 327 "OpticalJukeboxModel" "wrong" "I") (by decide +kernel)) rfl (ty := .int) (by decide +kernel) rfl rfl ⟨rfl, rfl⟩ dX8_load_34 (fp_M e_md5 rfl) (fun H locs hW hS => ?_)
    refine lv_aload_n hx hb dX8_load_37 rfl (lv_at hl 0 rfl) ?_
    refine lv_iconst (v := 0) hx hb dX8_load_38 (by decide) ?_
    obtain ⟨md6, e_md6, hf⟩ := x_letE hf
    refine x_put (i := (g.1 + 189)) (k := 8) (j := 0) (t := 25) (w' := wM w md6 mn mw) hx hb hts i_8 tyX8 tyX8_ok nmX8 hown hK hW ⟨⟨hfl, rfl⟩, by decide⟩ hS rfl ⟨by decide, by decide, rfl⟩ (hts (.fieldLink RX8 367 "OpticalJukeboxModel" "statements" "I") (by decide +kernel)) rfl (ty := .int) (by decide +kernel) rfl rfl ⟨rfl, rfl⟩ dX8_load_39 (fp_M e_md6 rfl) (fun H locs hW hS => ?_)
    refine lv_aload_n hx hb dX8_load_42 rfl (lv_at hl 0 rfl) ?_
    refine x_get (i := (g.1 + 189)) (k := 8) (j := 0) (t := 2) hx hb hts i_8 hown hK hW ⟨⟨hfl, rfl⟩, by decide⟩ rfl ⟨by decide, by decide, rfl⟩ (hts (.fieldLink RX8 13 "OpticalJukeboxModel" "read" "[I") (by decide +kernel)) (v := .ref (adr (g.1 + 189) 31 0)) rfl dX8_load_43 ?_
    obtain ⟨q7, h_q7, hf⟩ := x_bindE hf
    refine x_cv0 (x_rS ⟨hx, hb, hml, hown, hts⟩ (ct_X8_defaults l g hfl w md6 mn mw 31 isRow_31 h_q7) (va_cwS 1 hts gX8_load_X8_defaults rfl rfl rfl (by decide +kernel) ⟨Nat.le_of_ble_eq_true rfl, Nat.le_of_ble_eq_true rfl⟩) hK hW hS rfl hl.1 (rest := []) rfl (Nat.le_of_ble_eq_true rfl) dX8_load_46 ⟨Nat.le_of_ble_eq_true rfl, Nat.le_of_ble_eq_true rfl⟩) hS (fun H locs hW hS => ?_)
    have hW : World g (wM w q7 mn mw) H := hW
    refine lv_aload_n hx hb dX8_load_49 rfl (lv_at hl 0 rfl) ?_
    obtain ⟨q8, h_q8, hf⟩ := x_bindE hf
    refine x_cv0 (x_rV ⟨hx, hb, hml, hown, hts⟩ (ct_X8_next l g hfl w q7 mn mw  h_q8) (cwV 0 hts gX8_load_X8_next rfl rfl rfl (by decide +kernel) ⟨Nat.le_of_ble_eq_true rfl, Nat.le_of_ble_eq_true rfl⟩) hK hW hS (x_recv (i := (g.1 + 189)) (k := 8) (j := 0) hK hW ⟨⟨hfl, rfl⟩, by decide⟩ rfl (by decide)) rfl hl.1 (rest := []) rfl (Nat.le_of_ble_eq_true rfl) dX8_load_50 ⟨Nat.le_of_ble_eq_true rfl, Nat.le_of_ble_eq_true rfl⟩) hS (fun H locs hW hS => ?_)
    have hW : World g (wM w q8.1 mn q8.2) H := hW
    have L53 : ∀ (n : Nat) (md_53 : SD) (mn_53 : Nat → Int64) (mw_53 : Int64) (ls : Array Slot) (H : Heap) (locs : List Loc), lv_has ls 2 [(0, .ref (adr (g.1 + 189) 8 0)), (1, .int a1)] → World g (wM w md_53 mn_53 mw_53) H → va_S (gA g) s.heap H locs → f_X8_load_L53  n md_53 mn_53 mw_53 = some q → W p l e rm_X8_load s m [.ref (adr (g.1 + 189) 8 0), .int a1].toArray below meth c H locs 0 0 (MQ below (cQi g q.1 (wM w q.2.1 q.2.2.1 q.2.2.2)) [.ref (adr (g.1 + 189) 8 0), .int a1].toArray s 0 0 (gA g)) (F0 m 53 ls []) := by
      clear hW hS hl
      intro n
      induction n with
      | zero => intro md_53 mn_53 mw_53 ls H locs hl hW hS hf; cases hf
      | succ n_53 ih =>
        intro md_53 mn_53 mw_53 ls H locs hl hW hS hf
        rw [f_X8_load_L53] at hf
        refine lv_aload_n hx hb dX8_load_53 rfl (lv_at hl 0 rfl) ?_
        obtain ⟨q9, h_q9, hf⟩ := x_bindE hf
        refine x_ci0 (x_rV ⟨hx, hb, hml, hown, hts⟩ (ct_X8_good l g hfl w md_53 mn_53 mw_53  h_q9) (cwV 0 hts gX8_load_X8_good rfl rfl rfl (by decide +kernel) ⟨Nat.le_of_ble_eq_true rfl, Nat.le_of_ble_eq_true rfl⟩) hK hW hS (x_recv (i := (g.1 + 189)) (k := 8) (j := 0) hK hW ⟨⟨hfl, rfl⟩, by decide⟩ rfl (by decide)) rfl hl.1 (rest := []) rfl (Nat.le_of_ble_eq_true rfl) dX8_load_54 ⟨Nat.le_of_ble_eq_true rfl, Nat.le_of_ble_eq_true rfl⟩) hS (fun H locs hW hS => ?_)
        have hW : World g (wM w md_53 mn_53 mw_53) H := hW
        refine W.eq (g2 := F0 m 57 ls [.int q9]) rfl ?_
        obtain ⟨K10, eK10, hf⟩ := x_letE hf
        have KK10 : ∀ (_u : Unit) (ls : Array Slot) (H : Heap) (locs : List Loc), lv_has ls 2 [(0, .ref (adr (g.1 + 189) 8 0)), (1, .int a1)] → World g (wM w md_53 mn_53 mw_53) H → va_S (gA g) s.heap H locs → K10 _u = some q → W p l e rm_X8_load s m [.ref (adr (g.1 + 189) 8 0), .int a1].toArray below meth c H locs 0 0 (MQ below (cQi g q.1 (wM w q.2.1 q.2.2.1 q.2.2.2)) [.ref (adr (g.1 + 189) 8 0), .int a1].toArray s 0 0 (gA g)) (F0 m 96 ls []) := by
          intro _u ls H locs hl hW hS hf
          subst eK10
          refine lv_aload_n hx hb dX8_load_96 rfl (lv_at hl 0 rfl) ?_
          refine lv_iconst (v := 0) hx hb dX8_load_97 (by decide) ?_
          obtain ⟨md11, e_md11, hf⟩ := x_letE hf
          refine x_put (i := (g.1 + 189)) (k := 8) (j := 0) (t := 15) (w' := wM w md11 mn_53 mw_53) hx hb hts i_8 tyX8 tyX8_ok nmX8 hown hK hW ⟨⟨hfl, rfl⟩, by decide⟩ hS rfl ⟨by decide, by decide, rfl⟩ (hts (.fieldLink RX8 294 "OpticalJukeboxModel" "buffered" "I") (by decide +kernel)) rfl (ty := .int) (by decide +kernel) rfl rfl ⟨rfl, rfl⟩ dX8_load_98 (fp_M e_md11 rfl) (fun H locs hW hS => ?_)
          refine lv_aload_n hx hb dX8_load_101 rfl (lv_at hl 0 rfl) ?_
          refine lv_aload_n hx hb dX8_load_102 rfl (lv_at hl 0 rfl) ?_
          refine x_get (i := (g.1 + 189)) (k := 8) (j := 0) (t := 18) hx hb hts i_8 hown hK hW ⟨⟨hfl, rfl⟩, by decide⟩ rfl ⟨by decide, by decide, rfl⟩ (hts (.fieldLink RX8 327 "OpticalJukeboxModel" "wrong" "I") (by decide +kernel)) (rfl) dX8_load_103 ?_
          obtain ⟨md12, e_md12, hf⟩ := x_letE hf
          refine x_put (i := (g.1 + 189)) (k := 8) (j := 0) (t := 16) (w' := wM w md12 mn_53 mw_53) hx hb hts i_8 tyX8 tyX8_ok nmX8 hown hK hW ⟨⟨hfl, rfl⟩, by decide⟩ hS rfl ⟨by decide, by decide, rfl⟩ (hts (.fieldLink RX8 400 "OpticalJukeboxModel" "wrongKind" "I") (by decide +kernel)) rfl (ty := .int) (by decide +kernel) rfl rfl ⟨rfl, rfl⟩ dX8_load_106 (fp_M e_md12 rfl) (fun H locs hW hS => ?_)
          refine lv_aload_n hx hb dX8_load_109 rfl (lv_at hl 0 rfl) ?_
          refine lv_aload_n hx hb dX8_load_110 rfl (lv_at hl 0 rfl) ?_
          refine x_get (i := (g.1 + 189)) (k := 8) (j := 0) (t := 18) hx hb hts i_8 hown hK hW ⟨⟨hfl, rfl⟩, by decide⟩ rfl ⟨by decide, by decide, rfl⟩ (hts (.fieldLink RX8 327 "OpticalJukeboxModel" "wrong" "I") (by decide +kernel)) (rfl) dX8_load_111 ?_
          obtain ⟨K13, eK13, hf⟩ := x_letE hf
          have KK13 : ∀ (y14 : Int32) (ls : Array Slot) (H : Heap) (locs : List Loc), lv_has ls 2 [(0, .ref (adr (g.1 + 189) 8 0)), (1, .int a1)] → World g (wM w md12 mn_53 mw_53) H → va_S (gA g) s.heap H locs → K13 y14 = some q → W p l e rm_X8_load s m [.ref (adr (g.1 + 189) 8 0), .int a1].toArray below meth c H locs 0 0 (MQ below (cQi g q.1 (wM w q.2.1 q.2.2.1 q.2.2.2)) [.ref (adr (g.1 + 189) 8 0), .int a1].toArray s 0 0 (gA g)) (F0 m 126 ls [.int y14, .ref (adr (g.1 + 189) 8 0)]) := by
            intro y14 ls H locs hl hW hS hf
            subst eK13
            obtain ⟨md15, e_md15, hf⟩ := x_letE hf
            refine x_put (i := (g.1 + 189)) (k := 8) (j := 0) (t := 17) (w' := wM w md15 mn_53 mw_53) hx hb hts i_8 tyX8 tyX8_ok nmX8 hown hK hW ⟨⟨hfl, rfl⟩, by decide⟩ hS rfl ⟨by decide, by decide, rfl⟩ (hts (.fieldLink RX8 43 "OpticalJukeboxModel" "wrongPlace" "I") (by decide +kernel)) rfl (ty := .int) (by decide +kernel) rfl rfl ⟨rfl, rfl⟩ dX8_load_126 (fp_M e_md15 rfl) (fun H locs hW hS => ?_)
            refine lv_aload_n hx hb dX8_load_129 rfl (lv_at hl 0 rfl) ?_
            refine x_get (i := (g.1 + 189)) (k := 8) (j := 0) (t := 18) hx hb hts i_8 hown hK hW ⟨⟨hfl, rfl⟩, by decide⟩ rfl ⟨by decide, by decide, rfl⟩ (hts (.fieldLink RX8 327 "OpticalJukeboxModel" "wrong" "I") (by decide +kernel)) (rfl) dX8_load_130 ?_
            refine lv_if_le (tgt := 140) hx hb dX8_load_133 (by decide) (fun hc => ?_) (fun hc => ?_)
            · have hf := x_iteT hf hc
              refine lv_aload_n hx hb dX8_load_140 rfl (lv_at hl 0 rfl) ?_
              refine x_get (i := (g.1 + 189)) (k := 8) (j := 0) (t := 2) hx hb hts i_8 hown hK hW ⟨⟨hfl, rfl⟩, by decide⟩ rfl ⟨by decide, by decide, rfl⟩ (hts (.fieldLink RX8 13 "OpticalJukeboxModel" "read" "[I") (by decide +kernel)) (v := .ref (adr (g.1 + 189) 31 0)) rfl dX8_load_141 ?_
              refine lv_aload_n hx hb dX8_load_144 rfl (lv_at hl 0 rfl) ?_
              refine x_get (i := (g.1 + 189)) (k := 8) (j := 0) (t := 1) hx hb hts i_8 hown hK hW ⟨⟨hfl, rfl⟩, by decide⟩ rfl ⟨by decide, by decide, rfl⟩ (hts (.fieldLink RX8 7 "OpticalJukeboxModel" "now" "[I") (by decide +kernel)) (v := .ref (adr (g.1 + 189) 30 0)) rfl dX8_load_145 ?_
              obtain ⟨q16, h_q16, hf⟩ := x_bindE hf
              refine x_cv0 (x_rS ⟨hx, hb, hml, hown, hts⟩ (ct_X8_copies l g hfl w md15 mn_53 mw_53 31 isRow_31 30 isRow_30 h_q16) (va_cwS 2 hts gX8_load_X8_copies rfl rfl rfl (by decide +kernel) ⟨Nat.le_of_ble_eq_true rfl, Nat.le_of_ble_eq_true rfl⟩) hK hW hS rfl hl.1 (rest := []) rfl (Nat.le_of_ble_eq_true rfl) dX8_load_148 ⟨Nat.le_of_ble_eq_true rfl, Nat.le_of_ble_eq_true rfl⟩) hS (fun H locs hW hS => ?_)
              have hW : World g (wM w q16 mn_53 mw_53) H := hW
              refine lv_aload_n hx hb dX8_load_151 rfl (lv_at hl 0 rfl) ?_
              refine lv_iconst (v := 0) hx hb dX8_load_152 (by decide) ?_
              obtain ⟨md17, e_md17, hf⟩ := x_letE hf
              refine x_put (i := (g.1 + 189)) (k := 8) (j := 0) (t := 5) (w' := wM w md17 mn_53 mw_53) hx hb hts i_8 tyX8 tyX8_ok nmX8 hown hK hW ⟨⟨hfl, rfl⟩, by decide⟩ hS rfl ⟨by decide, by decide, rfl⟩ (hts (.fieldLink RX8 54 "OpticalJukeboxModel" "edits" "I") (by decide +kernel)) rfl (ty := .int) (by decide +kernel) rfl rfl ⟨rfl, rfl⟩ dX8_load_153 (fp_M e_md17 rfl) (fun H locs hW hS => ?_)
              refine lv_aload_n hx hb dX8_load_156 rfl (lv_at hl 0 rfl) ?_
              refine x_get (i := (g.1 + 189)) (k := 8) (j := 0) (t := 1) hx hb hts i_8 hown hK hW ⟨⟨hfl, rfl⟩, by decide⟩ rfl ⟨by decide, by decide, rfl⟩ (hts (.fieldLink RX8 7 "OpticalJukeboxModel" "now" "[I") (by decide +kernel)) (v := .ref (adr (g.1 + 189) 30 0)) rfl dX8_load_157 ?_
              refine lv_bipush (v := 9) hx hb dX8_load_160 (by decide) ?_
              refine x_iald (i := (g.1 + 189)) (k := 30) (j := 0) (f := md17 30 0) hx hb hK hW ⟨⟨hfl, rfl⟩, by decide⟩ (by decide) (rfl) rfl (by unfold vp_in; decide) dX8_load_162 ?_
              refine W.eq (g2 := F0 m 163 ls [.int (md17 30 0 9)]) rfl ?_
              cases hf
              exact x_iret hx hb hr hlocks hK hW hS rfl dX8_load_163
            · have hf := x_iteF hf hc
              refine lv_ldcw (v := -1000006) hx hb hown (hts (.constant RX8 403 (-1000006)) (by decide +kernel)) dX8_load_136 ?_
              cases hf
              exact x_iret hx hb hr hlocks hK hW hS rfl dX8_load_139
          clear eK13
          refine lv_if_le (tgt := 124) hx hb dX8_load_114 (by decide) (fun hc => ?_) (fun hc => ?_)
          · have hf := x_iteT hf hc
            refine lv_ldc (v := -1000005) hx hb hown (hts (.constant RX8 42 (-1000005)) (by decide +kernel)) dX8_load_124 ?_
            exact KK13 ((-1000005 : Int32)) ls _ _ hl hW hS hf
          · have hf := x_iteF hf hc
            refine lv_aload_n hx hb dX8_load_117 rfl (lv_at hl 0 rfl) ?_
            refine x_get (i := (g.1 + 189)) (k := 8) (j := 0) (t := 19) hx hb hts i_8 hown hK hW ⟨⟨hfl, rfl⟩, by decide⟩ rfl ⟨by decide, by decide, rfl⟩ (hts (.fieldLink RX8 330 "OpticalJukeboxModel" "wrongAt" "I") (by decide +kernel)) (rfl) dX8_load_118 ?_
            refine lv_goto (tgt := 126) hx hb dX8_load_121 (by decide) ?_
            exact KK13 ((md12 8 0 19)) ls _ _ hl hW hS hf
        clear eK10
        refine lv_if_eq (tgt := 96) hx hb dX8_load_57 (by decide) (fun hc => ?_) (fun hc => ?_)
        · have hf := x_iteT hf hc
          exact KK10 (()) ls _ _ hl hW hS hf
        · have hf := x_iteF hf hc
          refine lv_aload_n hx hb dX8_load_60 rfl (lv_at hl 0 rfl) ?_
          refine x_get (i := (g.1 + 189)) (k := 8) (j := 0) (t := 22) hx hb hts i_8 hown hK hW ⟨⟨hfl, rfl⟩, by decide⟩ rfl ⟨by decide, by decide, rfl⟩ (hts (.fieldLink RX8 313 "OpticalJukeboxModel" "sort" "I") (by decide +kernel)) (rfl) dX8_load_61 ?_
          refine lv_if_eq (tgt := 96) hx hb dX8_load_64 (by decide) (fun hc => ?_) (fun hc => ?_)
          · have hf := x_iteT hf hc
            exact KK10 (()) ls _ _ hl hW hS hf
          · have hf := x_iteF hf hc
            refine lv_aload_n hx hb dX8_load_67 rfl (lv_at hl 0 rfl) ?_
            obtain ⟨q18, h_q18, hf⟩ := x_bindE hf
            refine x_cv0 (x_rV ⟨hx, hb, hml, hown, hts⟩ (ct_X8_line l g hfl w md_53 mn_53 mw_53  h_q18) (cwV 0 hts gX8_load_X8_line rfl rfl rfl (by decide +kernel) ⟨Nat.le_of_ble_eq_true rfl, Nat.le_of_ble_eq_true rfl⟩) hK hW hS (x_recv (i := (g.1 + 189)) (k := 8) (j := 0) hK hW ⟨⟨hfl, rfl⟩, by decide⟩ rfl (by decide)) rfl hl.1 (rest := []) rfl (Nat.le_of_ble_eq_true rfl) dX8_load_68 ⟨Nat.le_of_ble_eq_true rfl, Nat.le_of_ble_eq_true rfl⟩) hS (fun H locs hW hS => ?_)
            have hW : World g (wM w q18.1 q18.2.1 q18.2.2) H := hW
            refine lv_aload_n hx hb dX8_load_71 rfl (lv_at hl 0 rfl) ?_
            refine lv_aload_n hx hb dX8_load_72 rfl (lv_at hl 0 rfl) ?_
            refine x_get (i := (g.1 + 189)) (k := 8) (j := 0) (t := 22) hx hb hts i_8 hown hK hW ⟨⟨hfl, rfl⟩, by decide⟩ rfl ⟨by decide, by decide, rfl⟩ (hts (.fieldLink RX8 313 "OpticalJukeboxModel" "sort" "I") (by decide +kernel)) (rfl) dX8_load_73 ?_
            refine lv_iconst (v := 3) hx hb dX8_load_76 (by decide) ?_
            obtain ⟨K19, eK19, hf⟩ := x_letE hf
            have KK19 : ∀ (y20 : Int32) (ls : Array Slot) (H : Heap) (locs : List Loc), lv_has ls 2 [(0, .ref (adr (g.1 + 189) 8 0)), (1, .int a1)] → World g (wM w q18.1 q18.2.1 q18.2.2) H → va_S (gA g) s.heap H locs → K19 y20 = some q → W p l e rm_X8_load s m [.ref (adr (g.1 + 189) 8 0), .int a1].toArray below meth c H locs 0 0 (MQ below (cQi g q.1 (wM w q.2.1 q.2.2.1 q.2.2.2)) [.ref (adr (g.1 + 189) 8 0), .int a1].toArray s 0 0 (gA g)) (F0 m 85 ls [.int y20, .ref (adr (g.1 + 189) 8 0)]) := by
              intro y20 ls H locs hl hW hS hf
              subst eK19
              refine lv_iconst (v := 2) hx hb dX8_load_85 (by decide) ?_
              obtain ⟨q21, h_q21, hf⟩ := x_bindE hf
              refine x_cv0 (x_rV ⟨hx, hb, hml, hown, hts⟩ (ct_X8_must l g hfl w q18.1 q18.2.1 q18.2.2 (y20) ((2 : Int32)) h_q21) (cwV 2 hts gX8_load_X8_must rfl rfl rfl (by decide +kernel) ⟨Nat.le_of_ble_eq_true rfl, Nat.le_of_ble_eq_true rfl⟩) hK hW hS (x_recv (i := (g.1 + 189)) (k := 8) (j := 0) hK hW ⟨⟨hfl, rfl⟩, by decide⟩ rfl (by decide)) rfl hl.1 (rest := []) rfl (Nat.le_of_ble_eq_true rfl) dX8_load_86 ⟨Nat.le_of_ble_eq_true rfl, Nat.le_of_ble_eq_true rfl⟩) hS (fun H locs hW hS => ?_)
              have hW : World g (wM w q21 q18.2.1 q18.2.2) H := hW
              refine lv_aload_n hx hb dX8_load_89 rfl (lv_at hl 0 rfl) ?_
              obtain ⟨q22, h_q22, hf⟩ := x_bindE hf
              refine x_cv0 (x_rV ⟨hx, hb, hml, hown, hts⟩ (ct_X8_goesOn l g hfl w q21 q18.2.1 q18.2.2  h_q22) (cwV 0 hts gX8_load_X8_goesOn rfl rfl rfl (by decide +kernel) ⟨Nat.le_of_ble_eq_true rfl, Nat.le_of_ble_eq_true rfl⟩) hK hW hS (x_recv (i := (g.1 + 189)) (k := 8) (j := 0) hK hW ⟨⟨hfl, rfl⟩, by decide⟩ rfl (by decide)) rfl hl.1 (rest := []) rfl (Nat.le_of_ble_eq_true rfl) dX8_load_90 ⟨Nat.le_of_ble_eq_true rfl, Nat.le_of_ble_eq_true rfl⟩) hS (fun H locs hW hS => ?_)
              have hW : World g (wM w q22.1 q18.2.1 q22.2) H := hW
              refine lv_goto (tgt := 53) hx hb dX8_load_93 (by decide) ?_
              exact ih (q22.1) (q18.2.1) (q22.2) ls _ _ hl hW hS hf
            clear eK19
            refine lv_icmp_ne (tgt := 84) hx hb dX8_load_77 (by decide) (fun hc => ?_) (fun hc => ?_)
            · have hf := x_iteF hf hc
              refine lv_iconst (v := 0) hx hb dX8_load_84 (by decide) ?_
              exact KK19 ((0 : Int32)) ls _ _ hl hW hS hf
            · have hf := x_iteT hf hc
              refine lv_iconst (v := 1) hx hb dX8_load_80 (by decide) ?_
              refine lv_goto (tgt := 85) hx hb dX8_load_81 (by decide) ?_
              exact KK19 ((1 : Int32)) ls _ _ hl hW hS hf
    exact L53 fuel (q8.1) (mn) (q8.2) ls _ _ hl hW hS hf
  · have hf := x_iteT hf hc
    refine lv_ldc (v := -1000002) hx hb hown (hts (.constant RX8 224 (-1000002)) (by decide +kernel)) dX8_load_19 ?_
    cases hf
    exact x_iret hx hb hr hlocks hK hW hS rfl dX8_load_21
abbrev rm_X8_errorKind : Room := { frames := 0, cells := 0, slots := 0, locals := 0 }
set_option maxRecDepth 100000 in
set_option maxHeartbeats 4000000 in
theorem ct_X8_errorKind (l : Launch) (g : GT) (hfl : 2 ≤ gf g) (w : WT) (md : SD) (mn : Nat → Int64) (mw : Int64) {q : (Int32 × SD)} (hf : f_X8_errorKind md  = some q) : Met l yX8_errorKind wsX8_errorKind rm_X8_errorKind (cPre g (wM w md mn mw) [.ref (adr (g.1 + 189) 8 0)]) (cQi g q.1 (wM w q.2 mn mw)) 0 0 (gA g) := by
  have i_8 : ∀ w ∈ u_ws RX8 TX8 27, w ∈ wsX8_errorKind := by decide +kernel
  refine x_met (by decide) rfl (Nat.le_of_ble_eq_true rfl) ?_
  intro p e s m below meth c hx hb hr hml hts hown hlocks hK hW hS ls hl
  have hown : s.vm.findClass RX8 = some m.cls := hown
  have hl : lv_has ls 1 [(0, .ref (adr (g.1 + 189) 8 0))] := hl
  rw [f_X8_errorKind] at hf
  refine lv_aload_n hx hb dX8_errorKind_0 rfl (lv_at hl 0 rfl) ?_
  refine lv_iconst (v := 0) hx hb dX8_errorKind_1 (by decide) ?_
  obtain ⟨md1, e_md1, hf⟩ := x_letE hf
  refine x_put (i := (g.1 + 189)) (k := 8) (j := 0) (t := 0) (w' := wM w md1 mn mw) hx hb hts i_8 tyX8 tyX8_ok nmX8 hown hK hW ⟨⟨hfl, rfl⟩, by decide⟩ hS rfl ⟨by decide, by decide, rfl⟩ (hts (.fieldLink RX8 51 "OpticalJukeboxModel" "thrown" "I") (by decide +kernel)) rfl (ty := .int) (by decide +kernel) rfl rfl ⟨rfl, rfl⟩ dX8_errorKind_2 (fp_M e_md1 rfl) (fun H locs hW hS => ?_)
  refine lv_aload_n hx hb dX8_errorKind_5 rfl (lv_at hl 0 rfl) ?_
  refine x_get (i := (g.1 + 189)) (k := 8) (j := 0) (t := 16) hx hb hts i_8 hown hK hW ⟨⟨hfl, rfl⟩, by decide⟩ rfl ⟨by decide, by decide, rfl⟩ (hts (.fieldLink RX8 400 "OpticalJukeboxModel" "wrongKind" "I") (by decide +kernel)) (rfl) dX8_errorKind_6 ?_
  cases hf
  exact x_iret hx hb hr hlocks hK hW hS rfl dX8_errorKind_9
abbrev rm_X8_errorPosition : Room := { frames := 0, cells := 0, slots := 0, locals := 0 }
set_option maxRecDepth 100000 in
set_option maxHeartbeats 4000000 in
theorem ct_X8_errorPosition (l : Launch) (g : GT) (hfl : 2 ≤ gf g) (w : WT) (md : SD) (mn : Nat → Int64) (mw : Int64) {q : (Int32 × SD)} (hf : f_X8_errorPosition md  = some q) : Met l yX8_errorPosition wsX8_errorPosition rm_X8_errorPosition (cPre g (wM w md mn mw) [.ref (adr (g.1 + 189) 8 0)]) (cQi g q.1 (wM w q.2 mn mw)) 0 0 (gA g) := by
  have i_8 : ∀ w ∈ u_ws RX8 TX8 27, w ∈ wsX8_errorPosition := by decide +kernel
  refine x_met (by decide) rfl (Nat.le_of_ble_eq_true rfl) ?_
  intro p e s m below meth c hx hb hr hml hts hown hlocks hK hW hS ls hl
  have hown : s.vm.findClass RX8 = some m.cls := hown
  have hl : lv_has ls 1 [(0, .ref (adr (g.1 + 189) 8 0))] := hl
  rw [f_X8_errorPosition] at hf
  refine lv_aload_n hx hb dX8_errorPosition_0 rfl (lv_at hl 0 rfl) ?_
  refine lv_iconst (v := 0) hx hb dX8_errorPosition_1 (by decide) ?_
  obtain ⟨md1, e_md1, hf⟩ := x_letE hf
  refine x_put (i := (g.1 + 189)) (k := 8) (j := 0) (t := 0) (w' := wM w md1 mn mw) hx hb hts i_8 tyX8 tyX8_ok nmX8 hown hK hW ⟨⟨hfl, rfl⟩, by decide⟩ hS rfl ⟨by decide, by decide, rfl⟩ (hts (.fieldLink RX8 51 "OpticalJukeboxModel" "thrown" "I") (by decide +kernel)) rfl (ty := .int) (by decide +kernel) rfl rfl ⟨rfl, rfl⟩ dX8_errorPosition_2 (fp_M e_md1 rfl) (fun H locs hW hS => ?_)
  refine lv_aload_n hx hb dX8_errorPosition_5 rfl (lv_at hl 0 rfl) ?_
  refine x_get (i := (g.1 + 189)) (k := 8) (j := 0) (t := 17) hx hb hts i_8 hown hK hW ⟨⟨hfl, rfl⟩, by decide⟩ rfl ⟨by decide, by decide, rfl⟩ (hts (.fieldLink RX8 43 "OpticalJukeboxModel" "wrongPlace" "I") (by decide +kernel)) (rfl) dX8_errorPosition_6 ?_
  cases hf
  exact x_iret hx hb hr hlocks hK hW hS rfl dX8_errorPosition_9
