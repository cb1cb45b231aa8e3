set_option maxRecDepth 20000 in
theorem ggX8_closeLine_X8_goesOn : GoodIn wsX8_closeLine wsX8_goesOn := goodIn_r _ [6, 7, 8, 9, 5, 10, 11, 12, 13, 14, 15, 16, 17, 18, 19, 20, 21, 22, 23, 24, 25, 26, 27, 28, 29, 30, 31, 51, 52, 53, 54, 55, 56, 57, 58, 59, 60, 61, 62, 63, 64, 65, 66, 67, 68, 69, 70, 71, 72, 73, 74, 75, 76, 77] (by decide +kernel) (by decide +kernel)
set_option maxRecDepth 20000 in
theorem gX8_closeLine_X8_goesOn : GoodIn wsX8_closeLine (wsV RX8 364 RX8 yX8_goesOn wsX8_goesOn) := goodIn_app (goodIn_of _ (by decide +kernel)) ggX8_closeLine_X8_goesOn
set_option maxRecDepth 20000 in
theorem ggX8_closeLine_X8_sees : GoodIn wsX8_closeLine wsX8_sees := goodIn_r _ [35, 20, 24, 36, 37, 38, 5, 39, 11, 17, 40, 29, 30, 31, 7, 8, 9, 10, 51, 52, 53, 54, 55, 56, 57, 58, 59, 60, 61, 62, 63, 64, 65, 66, 67, 68, 69, 70, 71, 72, 73, 74, 75, 76, 77] (by decide +kernel) (by decide +kernel)
set_option maxRecDepth 20000 in
theorem gX8_closeLine_X8_sees : GoodIn wsX8_closeLine (wsV RX8 361 RX8 yX8_sees wsX8_sees) := goodIn_app (goodIn_of _ (by decide +kernel)) ggX8_closeLine_X8_sees
set_option maxRecDepth 20000 in
theorem ggX8_closeLine_X8_good : GoodIn wsX8_closeLine wsX8_good := goodIn_r _ [10, 11, 51, 52, 53, 54, 55, 56, 57, 58, 59, 60, 61, 62, 63, 64, 65, 66, 67, 68, 69, 70, 71, 72, 73, 74, 75, 76, 77] (by decide +kernel) (by decide +kernel)
set_option maxRecDepth 20000 in
theorem gX8_closeLine_X8_good : GoodIn wsX8_closeLine (wsV RX8 333 RX8 yX8_good wsX8_good) := goodIn_app (goodIn_of _ (by decide +kernel)) ggX8_closeLine_X8_good
set_option maxRecDepth 20000 in
theorem ggX8_closeLine_X8_must : GoodIn wsX8_closeLine wsX8_must := goodIn_r _ [39, 11, 20, 17, 40, 51, 52, 53, 54, 55, 56, 57, 58, 59, 60, 61, 62, 63, 64, 65, 66, 67, 68, 69, 70, 71, 72, 73, 74, 75, 76, 77] (by decide +kernel) (by decide +kernel)
set_option maxRecDepth 20000 in
theorem gX8_closeLine_X8_must : GoodIn wsX8_closeLine (wsV RX8 357 RX8 yX8_must wsX8_must) := goodIn_app (goodIn_of _ (by decide +kernel)) ggX8_closeLine_X8_must
set_option maxRecDepth 20000 in
theorem ggX8_closeLine_X8_closes : GoodIn wsX8_closeLine wsX8_closes := goodIn_r _ [43, 44, 45, 5, 46, 47, 48, 49, 50] (by decide +kernel) (by decide +kernel)
set_option maxRecDepth 20000 in
theorem gX8_closeLine_X8_closes : GoodIn wsX8_closeLine (va_wsS RX8 256 yX8_closes wsX8_closes) := goodIn_app (goodIn_of _ (by decide +kernel)) ggX8_closeLine_X8_closes
theorem dX8_closeLine_0 : decode cX8_closeLine 0 = .ok (.aload_n 0, 1) := by decide +kernel
theorem dX8_closeLine_1 : decode cX8_closeLine 1 = .ok (.invokevirtual 364, 3) := by decide +kernel
theorem dX8_closeLine_4 : decode cX8_closeLine 4 = .ok (.aload_n 0, 1) := by decide +kernel
theorem dX8_closeLine_5 : decode cX8_closeLine 5 = .ok (.iconst 0, 1) := by decide +kernel
theorem dX8_closeLine_6 : decode cX8_closeLine 6 = .ok (.aload_n 0, 1) := by decide +kernel
theorem dX8_closeLine_7 : decode cX8_closeLine 7 = .ok (.getfield 13, 3) := by decide +kernel
theorem dX8_closeLine_10 : decode cX8_closeLine 10 = .ok (.bipush 7, 2) := by decide +kernel
theorem dX8_closeLine_12 : decode cX8_closeLine 12 = .ok (.iaload, 1) := by decide +kernel
theorem dX8_closeLine_13 : decode cX8_closeLine 13 = .ok (.iconst 1, 1) := by decide +kernel
theorem dX8_closeLine_14 : decode cX8_closeLine 14 = .ok (.isub, 1) := by decide +kernel
theorem dX8_closeLine_15 : decode cX8_closeLine 15 = .ok (.invokevirtual 361, 3) := by decide +kernel
theorem dX8_closeLine_18 : decode cX8_closeLine 18 = .ok (.istore_n 1, 1) := by decide +kernel
theorem dX8_closeLine_19 : decode cX8_closeLine 19 = .ok (.aload_n 0, 1) := by decide +kernel
theorem dX8_closeLine_20 : decode cX8_closeLine 20 = .ok (.aload_n 0, 1) := by decide +kernel
theorem dX8_closeLine_21 : decode cX8_closeLine 21 = .ok (.invokevirtual 333, 3) := by decide +kernel
theorem dX8_closeLine_24 : decode cX8_closeLine 24 = .ok (.ifCond .eq 20, 3) := by decide +kernel
theorem dX8_closeLine_27 : decode cX8_closeLine 27 = .ok (.aload_n 0, 1) := by decide +kernel
theorem dX8_closeLine_28 : decode cX8_closeLine 28 = .ok (.getfield 13, 3) := by decide +kernel
theorem dX8_closeLine_31 : decode cX8_closeLine 31 = .ok (.bipush 79, 2) := by decide +kernel
theorem dX8_closeLine_33 : decode cX8_closeLine 33 = .ok (.iload_n 1, 1) := by decide +kernel
theorem dX8_closeLine_34 : decode cX8_closeLine 34 = .ok (.iadd, 1) := by decide +kernel
theorem dX8_closeLine_35 : decode cX8_closeLine 35 = .ok (.iaload, 1) := by decide +kernel
theorem dX8_closeLine_36 : decode cX8_closeLine 36 = .ok (.iconst 1, 1) := by decide +kernel
theorem dX8_closeLine_37 : decode cX8_closeLine 37 = .ok (.if_icmp .ne 7, 3) := by decide +kernel
theorem dX8_closeLine_40 : decode cX8_closeLine 40 = .ok (.iconst 1, 1) := by decide +kernel
theorem dX8_closeLine_41 : decode cX8_closeLine 41 = .ok (.goto 4, 3) := by decide +kernel
theorem dX8_closeLine_44 : decode cX8_closeLine 44 = .ok (.iconst 0, 1) := by decide +kernel
theorem dX8_closeLine_45 : decode cX8_closeLine 45 = .ok (.bipush 6, 2) := by decide +kernel
theorem dX8_closeLine_47 : decode cX8_closeLine 47 = .ok (.invokevirtual 357, 3) := by decide +kernel
theorem dX8_closeLine_50 : decode cX8_closeLine 50 = .ok (.aload_n 0, 1) := by decide +kernel
theorem dX8_closeLine_51 : decode cX8_closeLine 51 = .ok (.invokevirtual 333, 3) := by decide +kernel
theorem dX8_closeLine_54 : decode cX8_closeLine 54 = .ok (.ifCond .eq 11, 3) := by decide +kernel
theorem dX8_closeLine_57 : decode cX8_closeLine 57 = .ok (.aload_n 0, 1) := by decide +kernel
theorem dX8_closeLine_58 : decode cX8_closeLine 58 = .ok (.getfield 13, 3) := by decide +kernel
theorem dX8_closeLine_61 : decode cX8_closeLine 61 = .ok (.iload_n 1, 1) := by decide +kernel
theorem dX8_closeLine_62 : decode cX8_closeLine 62 = .ok (.invokestatic 256, 3) := by decide +kernel
theorem dX8_closeLine_65 : decode cX8_closeLine 65 = .ok (.aload_n 0, 1) := by decide +kernel
theorem dX8_closeLine_66 : decode cX8_closeLine 66 = .ok (.invokevirtual 364, 3) := by decide +kernel
theorem dX8_closeLine_69 : decode cX8_closeLine 69 = .ok (.return_, 1) := by decide +kernel
set_option maxRecDepth 20000 in
theorem ggX8_line_X8_isWord : GoodIn wsX8_line wsX8_isWord := goodIn_r _ [13, 14, 15, 16, 17, 18, 12, 19, 20, 121, 122, 123, 124, 125, 126, 127, 128, 129, 130, 131, 132, 133, 134, 135, 136, 137, 138, 139, 140, 141, 142, 143, 144, 145, 146, 147] (by decide +kernel) (by decide +kernel)
set_option maxRecDepth 20000 in
theorem gX8_line_X8_isWord : GoodIn wsX8_line (wsV RX8 341 RX8 yX8_isWord wsX8_isWord) := goodIn_app (goodIn_of _ (by decide +kernel)) ggX8_line_X8_isWord
set_option maxRecDepth 20000 in
theorem ggX8_line_X8_slotsLine : GoodIn wsX8_line wsX8_slotsLine := goodIn_r _ [24, 8, 25, 26, 27, 28, 12, 29, 20, 14, 30, 31, 32, 33, 34, 35, 16, 17, 18, 19, 36, 37, 38, 39, 40, 41, 42, 15, 43, 44, 45, 46, 47, 48, 49, 50, 51, 52, 53, 54, 55, 56, 57, 58, 59, 60, 121, 122, 123, 124, 125, 126, 127, 128, 129, 130, 131, 132, 133, 134, 135, 136, 137, 138, 139, 140, 141, 142, 143, 144, 145, 146, 147] (by decide +kernel) (by decide +kernel)
set_option maxRecDepth 20000 in
theorem gX8_line_X8_slotsLine : GoodIn wsX8_line (wsV RX8 376 RX8 yX8_slotsLine wsX8_slotsLine) := goodIn_app (goodIn_of _ (by decide +kernel)) ggX8_line_X8_slotsLine
set_option maxRecDepth 20000 in
theorem ggX8_line_X8_driveLine : GoodIn wsX8_line wsX8_driveLine := goodIn_r _ [64, 25, 26, 27, 28, 12, 29, 20, 14, 30, 31, 32, 33, 34, 35, 16, 17, 18, 19, 36, 37, 38, 39, 40, 41, 42, 15, 43, 44, 45, 46, 47, 48, 49, 50, 51, 52, 53, 54, 55, 56, 57, 58, 59, 60, 121, 122, 123, 124, 125, 126, 127, 128, 129, 130, 131, 132, 133, 134, 135, 136, 137, 138, 139, 140, 141, 142, 143, 144, 145, 146, 147] (by decide +kernel) (by decide +kernel)
set_option maxRecDepth 20000 in
theorem gX8_line_X8_driveLine : GoodIn wsX8_line (wsV RX8 379 RX8 yX8_driveLine wsX8_driveLine) := goodIn_app (goodIn_of _ (by decide +kernel)) ggX8_line_X8_driveLine
set_option maxRecDepth 20000 in
theorem ggX8_line_X8_timeLine : GoodIn wsX8_line wsX8_timeLine := goodIn_r _ [68, 25, 32, 33, 34, 12, 35, 16, 17, 18, 19, 20, 36, 37, 38, 39, 40, 30, 41, 42, 14, 15, 43, 44, 45, 46, 47, 48, 49, 50, 51, 52, 53, 54, 55, 56, 57, 58, 59, 60, 26, 27, 28, 29, 31, 121, 122, 123, 124, 125, 126, 127, 128, 129, 130, 131, 132, 133, 134, 135, 136, 137, 138, 139, 140, 141, 142, 143, 144, 145, 146, 147] (by decide +kernel) (by decide +kernel)
set_option maxRecDepth 20000 in
theorem gX8_line_X8_timeLine : GoodIn wsX8_line (wsV RX8 382 RX8 yX8_timeLine wsX8_timeLine) := goodIn_app (goodIn_of _ (by decide +kernel)) ggX8_line_X8_timeLine
set_option maxRecDepth 20000 in
theorem ggX8_line_X8_platterLine : GoodIn wsX8_line wsX8_platterLine := goodIn_r _ [72, 25, 26, 27, 28, 12, 29, 20, 14, 30, 31, 32, 33, 34, 35, 16, 17, 18, 19, 36, 37, 38, 39, 40, 41, 42, 15, 43, 44, 45, 46, 47, 48, 49, 50, 51, 52, 57, 58, 59, 60, 73, 74, 75, 53, 54, 55, 56, 121, 122, 123, 124, 125, 126, 127, 128, 129, 130, 131, 132, 133, 134, 135, 136, 137, 138, 139, 140, 141, 142, 143, 144, 145, 146, 147] (by decide +kernel) (by decide +kernel)
set_option maxRecDepth 20000 in
theorem gX8_line_X8_platterLine : GoodIn wsX8_line (wsV RX8 385 RX8 yX8_platterLine wsX8_platterLine) := goodIn_app (goodIn_of _ (by decide +kernel)) ggX8_line_X8_platterLine
set_option maxRecDepth 20000 in
theorem ggX8_line_X8_badLine : GoodIn wsX8_line wsX8_badLine := goodIn_r _ [79, 25, 26, 27, 28, 12, 29, 20, 14, 30, 31, 32, 33, 34, 35, 16, 17, 18, 19, 36, 37, 38, 39, 40, 41, 42, 15, 43, 44, 45, 46, 47, 48, 49, 50, 51, 52, 53, 54, 55, 56, 57, 58, 59, 60, 80, 81, 82, 83, 84, 85, 86, 87, 88, 121, 122, 123, 124, 125, 126, 127, 128, 129, 130, 131, 132, 133, 134, 135, 136, 137, 138, 139, 140, 141, 142, 143, 144, 145, 146, 147] (by decide +kernel) (by decide +kernel)
set_option maxRecDepth 20000 in
theorem gX8_line_X8_badLine : GoodIn wsX8_line (wsV RX8 388 RX8 yX8_badLine wsX8_badLine) := goodIn_app (goodIn_of _ (by decide +kernel)) ggX8_line_X8_badLine
set_option maxRecDepth 20000 in
theorem ggX8_line_X8_fileLine : GoodIn wsX8_line wsX8_fileLine := goodIn_r _ [92, 25, 14, 93, 15, 26, 27, 28, 12, 29, 20, 30, 31, 32, 33, 34, 35, 16, 17, 18, 19, 36, 37, 38, 39, 40, 41, 42, 43, 44, 45, 46, 47, 48, 49, 50, 51, 52, 94, 95, 96, 97, 1, 2, 3, 4, 5, 6, 7, 9, 10, 11, 13, 53, 54, 55, 56, 57, 58, 59, 60, 98, 99, 100, 101, 102, 103, 104, 105, 106, 121, 122, 123, 124, 125, 126, 127, 128, 129, 130, 131, 132, 133, 134, 135, 136, 137, 138, 139, 140, 141, 142, 143, 144, 145, 146, 147] (by decide +kernel) (by decide +kernel)
set_option maxRecDepth 20000 in
theorem gX8_line_X8_fileLine : GoodIn wsX8_line (wsV RX8 391 RX8 yX8_fileLine wsX8_fileLine) := goodIn_app (goodIn_of _ (by decide +kernel)) ggX8_line_X8_fileLine
set_option maxRecDepth 20000 in
theorem ggX8_line_X8_must : GoodIn wsX8_line wsX8_must := goodIn_r _ [29, 20, 14, 30, 31, 121, 122, 123, 124, 125, 126, 127, 128, 129, 130, 131, 132, 133, 134, 135, 136, 137, 138, 139, 140, 141, 142, 143, 144, 145, 146, 147] (by decide +kernel) (by decide +kernel)
set_option maxRecDepth 20000 in
theorem gX8_line_X8_must : GoodIn wsX8_line (wsV RX8 357 RX8 yX8_must wsX8_must) := goodIn_app (goodIn_of _ (by decide +kernel)) ggX8_line_X8_must
set_option maxRecDepth 20000 in
theorem ggX8_line_X8_good : GoodIn wsX8_line wsX8_good := goodIn_r _ [19, 20, 121, 122, 123, 124, 125, 126, 127, 128, 129, 130, 131, 132, 133, 134, 135, 136, 137, 138, 139, 140, 141, 142, 143, 144, 145, 146, 147] (by decide +kernel) (by decide +kernel)
set_option maxRecDepth 20000 in
theorem gX8_line_X8_good : GoodIn wsX8_line (wsV RX8 333 RX8 yX8_good wsX8_good) := goodIn_app (goodIn_of _ (by decide +kernel)) ggX8_line_X8_good
set_option maxRecDepth 20000 in
theorem ggX8_line_X8_closeLine : GoodIn wsX8_line wsX8_closeLine := goodIn_r _ [110, 25, 32, 33, 34, 12, 35, 16, 17, 18, 19, 20, 36, 37, 38, 39, 40, 30, 41, 42, 14, 15, 43, 44, 45, 46, 47, 48, 49, 50, 51, 52, 57, 58, 59, 60, 26, 27, 28, 29, 31, 111, 112, 113, 114, 115, 116, 117, 118, 119, 120, 121, 122, 123, 124, 125, 126, 127, 128, 129, 130, 131, 132, 133, 134, 135, 136, 137, 138, 139, 140, 141, 142, 143, 144, 145, 146, 147] (by decide +kernel) (by decide +kernel)
set_option maxRecDepth 20000 in
theorem gX8_line_X8_closeLine : GoodIn wsX8_line (wsV RX8 394 RX8 yX8_closeLine wsX8_closeLine) := goodIn_app (goodIn_of _ (by decide +kernel)) ggX8_line_X8_closeLine
theorem dX8_line_0 : decode cX8_line 0 = .ok (.aload_n 0, 1) := by decide +kernel
theorem dX8_line_1 : decode cX8_line 1 = .ok (.ldc2_w 339, 3) := by decide +kernel
theorem dX8_line_4 : decode cX8_line 4 = .ok (.invokevirtual 341, 3) := by decide +kernel
theorem dX8_line_7 : decode cX8_line 7 = .ok (.ifCond .eq 10, 3) := by decide +kernel
theorem dX8_line_10 : decode cX8_line 10 = .ok (.aload_n 0, 1) := by decide +kernel
theorem dX8_line_11 : decode cX8_line 11 = .ok (.invokevirtual 376, 3) := by decide +kernel
theorem dX8_line_14 : decode cX8_line 14 = .ok (.goto 111, 3) := by decide +kernel
theorem dX8_line_17 : decode cX8_line 17 = .ok (.aload_n 0, 1) := by decide +kernel
theorem dX8_line_18 : decode cX8_line 18 = .ok (.ldc2_w 345, 3) := by decide +kernel
theorem dX8_line_21 : decode cX8_line 21 = .ok (.invokevirtual 341, 3) := by decide +kernel
theorem dX8_line_24 : decode cX8_line 24 = .ok (.ifCond .eq 10, 3) := by decide +kernel
theorem dX8_line_27 : decode cX8_line 27 = .ok (.aload_n 0, 1) := by decide +kernel
theorem dX8_line_28 : decode cX8_line 28 = .ok (.invokevirtual 379, 3) := by decide +kernel
theorem dX8_line_31 : decode cX8_line 31 = .ok (.goto 94, 3) := by decide +kernel
theorem dX8_line_34 : decode cX8_line 34 = .ok (.aload_n 0, 1) := by decide +kernel
theorem dX8_line_35 : decode cX8_line 35 = .ok (.ldc2_w 347, 3) := by decide +kernel
theorem dX8_line_38 : decode cX8_line 38 = .ok (.invokevirtual 341, 3) := by decide +kernel
theorem dX8_line_41 : decode cX8_line 41 = .ok (.ifCond .eq 10, 3) := by decide +kernel
theorem dX8_line_44 : decode cX8_line 44 = .ok (.aload_n 0, 1) := by decide +kernel
theorem dX8_line_45 : decode cX8_line 45 = .ok (.invokevirtual 382, 3) := by decide +kernel
theorem dX8_line_48 : decode cX8_line 48 = .ok (.goto 77, 3) := by decide +kernel
theorem dX8_line_51 : decode cX8_line 51 = .ok (.aload_n 0, 1) := by decide +kernel
theorem dX8_line_52 : decode cX8_line 52 = .ok (.ldc2_w 349, 3) := by decide +kernel
theorem dX8_line_55 : decode cX8_line 55 = .ok (.invokevirtual 341, 3) := by decide +kernel
theorem dX8_line_58 : decode cX8_line 58 = .ok (.ifCond .eq 10, 3) := by decide +kernel
theorem dX8_line_61 : decode cX8_line 61 = .ok (.aload_n 0, 1) := by decide +kernel
theorem dX8_line_62 : decode cX8_line 62 = .ok (.invokevirtual 385, 3) := by decide +kernel
theorem dX8_line_65 : decode cX8_line 65 = .ok (.goto 60, 3) := by decide +kernel
theorem dX8_line_68 : decode cX8_line 68 = .ok (.aload_n 0, 1) := by decide +kernel
theorem dX8_line_69 : decode cX8_line 69 = .ok (.ldc2_w 351, 3) := by decide +kernel
theorem dX8_line_72 : decode cX8_line 72 = .ok (.invokevirtual 341, 3) := by decide +kernel
theorem dX8_line_75 : decode cX8_line 75 = .ok (.ifCond .eq 10, 3) := by decide +kernel
theorem dX8_line_78 : decode cX8_line 78 = .ok (.aload_n 0, 1) := by decide +kernel
theorem dX8_line_79 : decode cX8_line 79 = .ok (.invokevirtual 388, 3) := by decide +kernel
theorem dX8_line_82 : decode cX8_line 82 = .ok (.goto 43, 3) := by decide +kernel
theorem dX8_line_85 : decode cX8_line 85 = .ok (.aload_n 0, 1) := by decide +kernel
theorem dX8_line_86 : decode cX8_line 86 = .ok (.ldc2_w 353, 3) := by decide +kernel
theorem dX8_line_89 : decode cX8_line 89 = .ok (.invokevirtual 341, 3) := by decide +kernel
theorem dX8_line_92 : decode cX8_line 92 = .ok (.ifCond .eq 10, 3) := by decide +kernel
theorem dX8_line_95 : decode cX8_line 95 = .ok (.aload_n 0, 1) := by decide +kernel
theorem dX8_line_96 : decode cX8_line 96 = .ok (.invokevirtual 391, 3) := by decide +kernel
theorem dX8_line_99 : decode cX8_line 99 = .ok (.goto 26, 3) := by decide +kernel
theorem dX8_line_102 : decode cX8_line 102 = .ok (.aload_n 0, 1) := by decide +kernel
theorem dX8_line_103 : decode cX8_line 103 = .ok (.aload_n 0, 1) := by decide +kernel
theorem dX8_line_104 : decode cX8_line 104 = .ok (.ldc2_w 355, 3) := by decide +kernel
theorem dX8_line_107 : decode cX8_line 107 = .ok (.invokevirtual 341, 3) := by decide +kernel
theorem dX8_line_110 : decode cX8_line 110 = .ok (.iconst 2, 1) := by decide +kernel
theorem dX8_line_111 : decode cX8_line 111 = .ok (.invokevirtual 357, 3) := by decide +kernel
theorem dX8_line_114 : decode cX8_line 114 = .ok (.aload_n 0, 1) := by decide +kernel
theorem dX8_line_115 : decode cX8_line 115 = .ok (.invokevirtual 333, 3) := by decide +kernel
theorem dX8_line_118 : decode cX8_line 118 = .ok (.ifCond .eq 7, 3) := by decide +kernel
theorem dX8_line_121 : decode cX8_line 121 = .ok (.aload_n 0, 1) := by decide +kernel
theorem dX8_line_122 : decode cX8_line 122 = .ok (.invokevirtual 394, 3) := by decide +kernel
theorem dX8_line_125 : decode cX8_line 125 = .ok (.aload_n 0, 1) := by decide +kernel
theorem dX8_line_126 : decode cX8_line 126 = .ok (.dup, 1) := by decide +kernel
theorem dX8_line_127 : decode cX8_line 127 = .ok (.getfield 367, 3) := by decide +kernel
theorem dX8_line_130 : decode cX8_line 130 = .ok (.iconst 1, 1) := by decide +kernel
theorem dX8_line_131 : decode cX8_line 131 = .ok (.iadd, 1) := by decide +kernel
theorem dX8_line_132 : decode cX8_line 132 = .ok (.putfield 367, 3) := by decide +kernel
theorem dX8_line_135 : decode cX8_line 135 = .ok (.return_, 1) := by decide +kernel
abbrev rm_X8_closeLine : Room := { frames := 4, cells := 0, slots := 0, locals := 88 }
set_option maxRecDepth 100000 in
set_option maxHeartbeats 4000000 in
theorem ct_X8_closeLine (l : Launch) (g : GT) (hfl : 2 ≤ gf g) (w : WT) (md : SD) (mn : Nat → Int64) (mw : Int64) {q : (SD × Int64)} (hf : f_X8_closeLine md mw  = some q) : Met l yX8_closeLine wsX8_closeLine rm_X8_closeLine (cPre g (wM w md mn mw) [.ref (adr (g.1 + 189) 8 0)]) (cQv g (wM w q.1 mn q.2)) 0 0 (gA g) := by
  have i_8 : ∀ w ∈ u_ws RX8 TX8 27, w ∈ wsX8_closeLine := by decide +kernel
  refine x_met (by decide) rfl (Nat.le_of_ble_eq_true rfl) ?_
  intro p e s m below meth c hx hb hr hml hts hown hlocks hK hW hS ls hl
  have hown : s.vm.findClass RX8 = some m.cls := hown
  have hl : lv_has ls 2 [(0, .ref (adr (g.1 + 189) 8 0))] := hl
  rw [f_X8_closeLine] at hf
  refine lv_aload_n hx hb dX8_closeLine_0 rfl (lv_at hl 0 rfl) ?_
  obtain ⟨q1, h_q1, hf⟩ := x_bindE hf
  refine x_cv0 (x_rV ⟨hx, hb, hml, hown, hts⟩ (ct_X8_goesOn l g hfl w md mn mw  h_q1) (cwV 0 hts gX8_closeLine_X8_goesOn rfl rfl rfl (by decide +kernel) ⟨Nat.le_of_ble_eq_true rfl, Nat.le_of_ble_eq_true rfl⟩) hK hW hS (x_recv (i := (g.1 + 189)) (k := 8) (j := 0) hK hW ⟨⟨hfl, rfl⟩, by decide⟩ rfl (by decide)) rfl hl.1 (rest := []) rfl (Nat.le_of_ble_eq_true rfl) dX8_closeLine_1 ⟨Nat.le_of_ble_eq_true rfl, Nat.le_of_ble_eq_true rfl⟩) hS (fun H locs hW hS => ?_)
  have hW : World g (wM w q1.1 mn q1.2) H := hW
  refine lv_aload_n hx hb dX8_closeLine_4 rfl (lv_at hl 0 rfl) ?_
  refine lv_iconst (v := 0) hx hb dX8_closeLine_5 (by decide) ?_
  refine lv_aload_n hx hb dX8_closeLine_6 rfl (lv_at hl 0 rfl) ?_
  refine x_get (i := (g.1 + 189)) (k := 8) (j := 0) (t := 2) hx hb hts i_8 hown hK hW ⟨⟨hfl, rfl⟩, by decide⟩ rfl ⟨by decide, by decide, rfl⟩ (hts (.fieldLink RX8 13 "OpticalJukeboxModel" "read" "[I") (by decide +kernel)) (v := .ref (adr (g.1 + 189) 31 0)) rfl dX8_closeLine_7 ?_
  refine lv_bipush (v := 7) hx hb dX8_closeLine_10 (by decide) ?_
  refine x_iald (i := (g.1 + 189)) (k := 31) (j := 0) (f := q1.1 31 0) hx hb hK hW ⟨⟨hfl, rfl⟩, by decide⟩ (by decide) (rfl) rfl (by unfold vp_in; decide) dX8_closeLine_12 ?_
  refine W.eq (g2 := F0 m 13 ls [.int (q1.1 31 0 7), .int (0 : Int32), .ref (adr (g.1 + 189) 8 0)]) rfl ?_
  refine lv_iconst (v := 1) hx hb dX8_closeLine_13 (by decide) ?_
  refine lv_isub hx hb dX8_closeLine_14 ?_
  obtain ⟨q2, h_q2, hf⟩ := x_bindE hf
  refine x_ci0 (x_rV ⟨hx, hb, hml, hown, hts⟩ (ct_X8_sees l g hfl w q1.1 mn q1.2 ((0 : Int32)) (((q1.1 31 0 7) - (1 : Int32))) h_q2) (cwV 2 hts gX8_closeLine_X8_sees rfl rfl rfl (by decide +kernel) ⟨Nat.le_of_ble_eq_true rfl, Nat.le_of_ble_eq_true rfl⟩) hK hW hS (x_recv (i := (g.1 + 189)) (k := 8) (j := 0) hK hW ⟨⟨hfl, rfl⟩, by decide⟩ rfl (by decide)) rfl hl.1 (rest := []) rfl (Nat.le_of_ble_eq_true rfl) dX8_closeLine_15 ⟨Nat.le_of_ble_eq_true rfl, Nat.le_of_ble_eq_true rfl⟩) hS (fun H locs hW hS => ?_)
  have hW : World g (wM w q2.2 mn q1.2) H := hW
  refine W.eq (g2 := F0 m 18 ls [.int q2.1]) rfl ?_
  obtain ⟨x3, e_x3, hf⟩ := x_letE hf
  refine x_topi e_x3 ?_
  refine lv_istore_n (lv' := [(1, .int x3), (0, .ref (adr (g.1 + 189) 8 0))]) hx hb dX8_closeLine_18 rfl hl (by decide) rfl (fun ls hl => ?_)
  refine lv_aload_n hx hb dX8_closeLine_19 rfl (lv_at hl 1 rfl) ?_
  refine lv_aload_n hx hb dX8_closeLine_20 rfl (lv_at hl 1 rfl) ?_
  obtain ⟨q4, h_q4, hf⟩ := x_bindE hf
  refine x_ci0 (x_rV ⟨hx, hb, hml, hown, hts⟩ (ct_X8_good l g hfl w q2.2 mn q1.2  h_q4) (cwV 0 hts gX8_closeLine_X8_good rfl rfl rfl (by decide +kernel) ⟨Nat.le_of_ble_eq_true rfl, Nat.le_of_ble_eq_true rfl⟩) hK hW hS (x_recv (i := (g.1 + 189)) (k := 8) (j := 0) hK hW ⟨⟨hfl, rfl⟩, by decide⟩ rfl (by decide)) rfl hl.1 (rest := [.ref (adr (g.1 + 189) 8 0)]) rfl (Nat.le_of_ble_eq_true rfl) dX8_closeLine_21 ⟨Nat.le_of_ble_eq_true rfl, Nat.le_of_ble_eq_true rfl⟩) hS (fun H locs hW hS => ?_)
  have hW : World g (wM w q2.2 mn q1.2) H := hW
  refine W.eq (g2 := F0 m 24 ls [.int q4, .ref (adr (g.1 + 189) 8 0)]) rfl ?_
  obtain ⟨K5, eK5, hf⟩ := x_letE hf
  have KK5 : ∀ (y6 : Int32) (ls : Array Slot) (H : Heap) (locs : List Loc), lv_has ls 2 [(0, .ref (adr (g.1 + 189) 8 0)), (1, .int x3)] → World g (wM w q2.2 mn q1.2) H → va_S (gA g) s.heap H locs → K5 y6 = some q → W p l e rm_X8_closeLine s m [.ref (adr (g.1 + 189) 8 0)].toArray below meth c H locs 0 0 (MQ below (cQv g (wM w q.1 mn q.2)) [.ref (adr (g.1 + 189) 8 0)].toArray s 0 0 (gA g)) (F0 m 45 ls [.int y6, .ref (adr (g.1 + 189) 8 0)]) := by
    intro y6 ls H locs hl hW hS hf
    subst eK5
    refine lv_bipush (v := 6) hx hb dX8_closeLine_45 (by decide) ?_
    obtain ⟨q7, h_q7, hf⟩ := x_bindE hf
    refine x_cv0 (x_rV ⟨hx, hb, hml, hown, hts⟩ (ct_X8_must l g hfl w q2.2 mn q1.2 (y6) ((6 : Int32)) h_q7) (cwV 2 hts gX8_closeLine_X8_must rfl rfl rfl (by decide +kernel) ⟨Nat.le_of_ble_eq_true rfl, Nat.le_of_ble_eq_true rfl⟩) hK hW hS (x_recv (i := (g.1 + 189)) (k := 8) (j := 0) hK hW ⟨⟨hfl, rfl⟩, by decide⟩ rfl (by decide)) rfl hl.1 (rest := []) rfl (Nat.le_of_ble_eq_true rfl) dX8_closeLine_47 ⟨Nat.le_of_ble_eq_true rfl, Nat.le_of_ble_eq_true rfl⟩) hS (fun H locs hW hS => ?_)
    have hW : World g (wM w q7 mn q1.2) H := hW
    refine lv_aload_n hx hb dX8_closeLine_50 rfl (lv_at hl 0 rfl) ?_
    obtain ⟨q8, h_q8, hf⟩ := x_bindE hf
    refine x_ci0 (x_rV ⟨hx, hb, hml, hown, hts⟩ (ct_X8_good l g hfl w q7 mn q1.2  h_q8) (cwV 0 hts gX8_closeLine_X8_good rfl rfl rfl (by decide +kernel) ⟨Nat.le_of_ble_eq_true rfl, Nat.le_of_ble_eq_true rfl⟩) hK hW hS (x_recv (i := (g.1 + 189)) (k := 8) (j := 0) hK hW ⟨⟨hfl, rfl⟩, by decide⟩ rfl (by decide)) rfl hl.1 (rest := []) rfl (Nat.le_of_ble_eq_true rfl) dX8_closeLine_51 ⟨Nat.le_of_ble_eq_true rfl, Nat.le_of_ble_eq_true rfl⟩) hS (fun H locs hW hS => ?_)
    have hW : World g (wM w q7 mn q1.2) H := hW
    refine W.eq (g2 := F0 m 54 ls [.int q8]) rfl ?_
    obtain ⟨K9, eK9, hf⟩ := x_letE hf
    have KK9 : ∀ (md10 : SD) (ls : Array Slot) (H : Heap) (locs : List Loc), lv_has ls 2 [(0, .ref (adr (g.1 + 189) 8 0)), (1, .int x3)] → World g (wM w md10 mn q1.2) H → va_S (gA g) s.heap H locs → K9 md10 = some q → W p l e rm_X8_closeLine s m [.ref (adr (g.1 + 189) 8 0)].toArray below meth c H locs 0 0 (MQ below (cQv g (wM w q.1 mn q.2)) [.ref (adr (g.1 + 189) 8 0)].toArray s 0 0 (gA g)) (F0 m 65 ls []) := by
      intro md10 ls H locs hl hW hS hf
      subst eK9
      refine lv_aload_n hx hb dX8_closeLine_65 rfl (lv_at hl 0 rfl) ?_
      obtain ⟨q11, h_q11, hf⟩ := x_bindE hf
      refine x_cv0 (x_rV ⟨hx, hb, hml, hown, hts⟩ (ct_X8_goesOn l g hfl w md10 mn q1.2  h_q11) (cwV 0 hts gX8_closeLine_X8_goesOn rfl rfl rfl (by decide +kernel) ⟨Nat.le_of_ble_eq_true rfl, Nat.le_of_ble_eq_true rfl⟩) hK hW hS (x_recv (i := (g.1 + 189)) (k := 8) (j := 0) hK hW ⟨⟨hfl, rfl⟩, by decide⟩ rfl (by decide)) rfl hl.1 (rest := []) rfl (Nat.le_of_ble_eq_true rfl) dX8_closeLine_66 ⟨Nat.le_of_ble_eq_true rfl, Nat.le_of_ble_eq_true rfl⟩) hS (fun H locs hW hS => ?_)
      have hW : World g (wM w q11.1 mn q11.2) H := hW
      cases hf
      exact x_vret hx hb hr hlocks hK hW hS dX8_closeLine_69
    clear eK9
    refine lv_if_eq (tgt := 65) hx hb dX8_closeLine_54 (by decide) (fun hc => ?_) (fun hc => ?_)
    · have hf := x_iteT hf hc
      exact KK9 (q7) ls _ _ hl hW hS hf
    · have hf := x_iteF hf hc
      refine lv_aload_n hx hb dX8_closeLine_57 rfl (lv_at hl 0 rfl) ?_
      refine x_get (i := (g.1 + 189)) (k := 8) (j := 0) (t := 2) hx hb hts i_8 hown hK hW ⟨⟨hfl, rfl⟩, by decide⟩ rfl ⟨by decide, by decide, rfl⟩ (hts (.fieldLink RX8 13 "OpticalJukeboxModel" "read" "[I") (by decide +kernel)) (v := .ref (adr (g.1 + 189) 31 0)) rfl dX8_closeLine_58 ?_
      refine lv_iload_n hx hb dX8_closeLine_61 rfl (lv_at hl 1 rfl) ?_
      obtain ⟨q12, h_q12, hf⟩ := x_bindE hf
      refine x_cv0 (x_rS ⟨hx, hb, hml, hown, hts⟩ (ct_X8_closes l g hfl w q7 mn q1.2 31 isRow_31 (x3) h_q12) (va_cwS 2 hts gX8_closeLine_X8_closes rfl rfl rfl (by decide +kernel) ⟨Nat.le_of_ble_eq_true rfl, Nat.le_of_ble_eq_true rfl⟩) hK hW hS rfl hl.1 (rest := []) rfl (Nat.le_of_ble_eq_true rfl) dX8_closeLine_62 ⟨Nat.le_of_ble_eq_true rfl, Nat.le_of_ble_eq_true rfl⟩) hS (fun H locs hW hS => ?_)
      have hW : World g (wM w q12 mn q1.2) H := hW
      exact KK9 (q12) ls _ _ hl hW hS hf
  clear eK5
  obtain ⟨K13, eK13, hf⟩ := x_letE hf
  have KK13 : ∀ (_u : Unit) (ls : Array Slot) (H : Heap) (locs : List Loc), lv_has ls 2 [(0, .ref (adr (g.1 + 189) 8 0)), (1, .int x3)] → World g (wM w q2.2 mn q1.2) H → va_S (gA g) s.heap H locs → K13 _u = some q → W p l e rm_X8_closeLine s m [.ref (adr (g.1 + 189) 8 0)].toArray below meth c H locs 0 0 (MQ below (cQv g (wM w q.1 mn q.2)) [.ref (adr (g.1 + 189) 8 0)].toArray s 0 0 (gA g)) (F0 m 44 ls [.ref (adr (g.1 + 189) 8 0)]) := by
    intro _u ls H locs hl hW hS hf
    subst eK13
    refine lv_iconst (v := 0) hx hb dX8_closeLine_44 (by decide) ?_
    exact KK5 ((0 : Int32)) ls _ _ hl hW hS hf
  clear eK13
  refine lv_if_eq (tgt := 44) hx hb dX8_closeLine_24 (by decide) (fun hc => ?_) (fun hc => ?_)
  · have hf := x_iteT hf hc
    exact KK13 (()) ls _ _ (lv_sub hl [1, 0] rfl) hW hS hf
  · have hf := x_iteF hf hc
    refine lv_aload_n hx hb dX8_closeLine_27 rfl (lv_at hl 1 rfl) ?_
    refine x_get (i := (g.1 + 189)) (k := 8) (j := 0) (t := 2) hx hb hts i_8 hown hK hW ⟨⟨hfl, rfl⟩, by decide⟩ rfl ⟨by decide, by decide, rfl⟩ (hts (.fieldLink RX8 13 "OpticalJukeboxModel" "read" "[I") (by decide +kernel)) (v := .ref (adr (g.1 + 189) 31 0)) rfl dX8_closeLine_28 ?_
    refine lv_bipush (v := 79) hx hb dX8_closeLine_31 (by decide) ?_
    refine lv_iload_n hx hb dX8_closeLine_33 rfl (lv_at hl 0 rfl) ?_
    refine lv_iadd hx hb dX8_closeLine_34 ?_
    obtain ⟨hg14, hf⟩ := x_guardE hf
    refine x_iald (i := (g.1 + 189)) (k := 31) (j := 0) (f := q2.2 31 0) hx hb hK hW ⟨⟨hfl, rfl⟩, by decide⟩ (by decide) (rfl) rfl hg14 dX8_closeLine_35 ?_
    refine lv_iconst (v := 1) hx hb dX8_closeLine_36 (by decide) ?_
    refine lv_icmp_ne (tgt := 44) hx hb dX8_closeLine_37 (by decide) (fun hc => ?_) (fun hc => ?_)
    · have hf := x_iteF hf hc
      exact KK13 (()) ls _ _ (lv_sub hl [1, 0] rfl) hW hS hf
    · have hf := x_iteT hf hc
      refine lv_iconst (v := 1) hx hb dX8_closeLine_40 (by decide) ?_
      refine lv_goto (tgt := 45) hx hb dX8_closeLine_41 (by decide) ?_
      exact KK5 ((1 : Int32)) ls _ _ (lv_sub hl [1, 0] rfl) hW hS hf
abbrev rm_X8_line : Room := { frames := 6, cells := 0, slots := 0, locals := 135 }
set_option maxRecDepth 100000 in
set_option maxHeartbeats 4000000 in
theorem ct_X8_line (l : Launch) (g : GT) (hfl : 2 ≤ gf g) (w : WT) (md : SD) (mn : Nat → Int64) (mw : Int64) {q : (SD × (Nat → Int64) × Int64)} (hf : f_X8_line md mn mw  = some q) : Met l yX8_line wsX8_line rm_X8_line (cPre g (wM w md mn mw) [.ref (adr (g.1 + 189) 8 0)]) (cQv g (wM w q.1 q.2.1 q.2.2)) 0 0 (gA g) := by
  have i_8 : ∀ w ∈ u_ws RX8 TX8 27, w ∈ wsX8_line := by decide +kernel
  refine x_met (by decide) rfl (Nat.le_of_ble_eq_true rfl) ?_
  intro p e s m below meth c hx hb hr hml hts hown hlocks hK hW hS ls hl
  have hown : s.vm.findClass RX8 = some m.cls := hown
  have hl : lv_has ls 1 [(0, .ref (adr (g.1 + 189) 8 0))] := hl
  rw [f_X8_line] at hf
  refine lv_aload_n hx hb dX8_line_0 rfl (lv_at hl 0 rfl) ?_
  refine lv_ldc2 (v := 10345069) hx hb hown (hts (.constantLong RX8 339 (10345069)) (by decide +kernel)) dX8_line_1 ?_
  obtain ⟨q1, h_q1, hf⟩ := x_bindE hf
  refine x_ci0 (x_rV ⟨hx, hb, hml, hown, hts⟩ (ct_X8_isWord l g hfl w md mn mw ((10345069 : Int64)) h_q1) (cwV 1 hts gX8_line_X8_isWord rfl rfl rfl (by decide +kernel) ⟨Nat.le_of_ble_eq_true rfl, Nat.le_of_ble_eq_true rfl⟩) hK hW hS (x_recv (i := (g.1 + 189)) (k := 8) (j := 0) hK hW ⟨⟨hfl, rfl⟩, by decide⟩ rfl (by decide)) rfl hl.1 (rest := []) rfl (Nat.le_of_ble_eq_true rfl) dX8_line_4 ⟨Nat.le_of_ble_eq_true rfl, Nat.le_of_ble_eq_true rfl⟩) hS (fun H locs hW hS => ?_)
  have hW : World g (wM w md mn mw) H := hW
  refine W.eq (g2 := F0 m 7 ls [.int q1]) rfl ?_
  obtain ⟨K2, eK2, hf⟩ := x_letE hf
  have KK2 : ∀ (md3 : SD) (mn4 : Nat → Int64) (mw5 : Int64) (ls : Array Slot) (H : Heap) (locs : List Loc), lv_has ls 1 [(0, .ref (adr (g.1 + 189) 8 0))] → World g (wM w md3 mn4 mw5) H → va_S (gA g) s.heap H locs → K2 md3 mn4 mw5 = some q → W p l e rm_X8_line s m [.ref (adr (g.1 + 189) 8 0)].toArray below meth c H locs 0 0 (MQ below (cQv g (wM w q.1 q.2.1 q.2.2)) [.ref (adr (g.1 + 189) 8 0)].toArray s 0 0 (gA g)) (F0 m 125 ls []) := by
    intro md3 mn4 mw5 ls H locs hl hW hS hf
    subst eK2
    refine lv_aload_n hx hb dX8_line_125 rfl (lv_at hl 0 rfl) ?_
    refine lv_dup hx hb dX8_line_126 rfl ?_
    refine x_get (i := (g.1 + 189)) (k := 8) (j := 0) (t := 25) hx hb hts i_8 hown hK hW ⟨⟨hfl, rfl⟩, by decide⟩ rfl ⟨by decide, by decide, rfl⟩ (hts (.fieldLink RX8 367 "OpticalJukeboxModel" "statements" "I") (by decide +kernel)) (rfl) dX8_line_127 ?_
    refine lv_iconst (v := 1) hx hb dX8_line_130 (by decide) ?_
    refine lv_iadd hx hb dX8_line_131 ?_
    obtain ⟨md6, e_md6, hf⟩ := x_letE hf
    refine x_put (i := (g.1 + 189)) (k := 8) (j := 0) (t := 25) (w' := wM w md6 mn4 mw5) hx hb hts i_8 tyX8 tyX8_ok nmX8 hown hK hW ⟨⟨hfl, rfl⟩, by decide⟩ hS rfl ⟨by decide, by decide, rfl⟩ (hts (.fieldLink RX8 367 "OpticalJukeboxModel" "statements" "I") (by decide +kernel)) rfl (ty := .int) (by decide +kernel) rfl rfl ⟨rfl, rfl⟩ dX8_line_132 (fp_M e_md6 rfl) (fun H locs hW hS => ?_)
    cases hf
    exact x_vret hx hb hr hlocks hK hW hS dX8_line_135
  clear eK2
  refine lv_if_eq (tgt := 17) hx hb dX8_line_7 (by decide) (fun hc => ?_) (fun hc => ?_)
  · have hf := x_iteT hf hc
    refine lv_aload_n hx hb dX8_line_17 rfl (lv_at hl 0 rfl) ?_
    refine lv_ldc2 (v := 2487218) hx hb hown (hts (.constantLong RX8 345 (2487218)) (by decide +kernel)) dX8_line_18 ?_
    obtain ⟨q7, h_q7, hf⟩ := x_bindE hf
    refine x_ci0 (x_rV ⟨hx, hb, hml, hown, hts⟩ (ct_X8_isWord l g hfl w md mn mw ((2487218 : Int64)) h_q7) (cwV 1 hts gX8_line_X8_isWord rfl rfl rfl (by decide +kernel) ⟨Nat.le_of_ble_eq_true rfl, Nat.le_of_ble_eq_true rfl⟩) hK hW hS (x_recv (i := (g.1 + 189)) (k := 8) (j := 0) hK hW ⟨⟨hfl, rfl⟩, by decide⟩ rfl (by decide)) rfl hl.1 (rest := []) rfl (Nat.le_of_ble_eq_true rfl) dX8_line_21 ⟨Nat.le_of_ble_eq_true rfl, Nat.le_of_ble_eq_true rfl⟩) hS (fun H locs hW hS => ?_)
    have hW : World g (wM w md mn mw) H := hW
    refine W.eq (g2 := F0 m 24 ls [.int q7]) rfl ?_
    refine lv_if_eq (tgt := 34) hx hb dX8_line_24 (by decide) (fun hc => ?_) (fun hc => ?_)
    · have hf := x_iteT hf hc
      refine lv_aload_n hx hb dX8_line_34 rfl (lv_at hl 0 rfl) ?_
      refine lv_ldc2 (v := 400577) hx hb hown (hts (.constantLong RX8 347 (400577)) (by decide +kernel)) dX8_line_35 ?_
      obtain ⟨q8, h_q8, hf⟩ := x_bindE hf
      refine x_ci0 (x_rV ⟨hx, hb, hml, hown, hts⟩ (ct_X8_isWord l g hfl w md mn mw ((400577 : Int64)) h_q8) (cwV 1 hts gX8_line_X8_isWord rfl rfl rfl (by decide +kernel) ⟨Nat.le_of_ble_eq_true rfl, Nat.le_of_ble_eq_true rfl⟩) hK hW hS (x_recv (i := (g.1 + 189)) (k := 8) (j := 0) hK hW ⟨⟨hfl, rfl⟩, by decide⟩ rfl (by decide)) rfl hl.1 (rest := []) rfl (Nat.le_of_ble_eq_true rfl) dX8_line_38 ⟨Nat.le_of_ble_eq_true rfl, Nat.le_of_ble_eq_true rfl⟩) hS (fun H locs hW hS => ?_)
      have hW : World g (wM w md mn mw) H := hW
      refine W.eq (g2 := F0 m 41 ls [.int q8]) rfl ?_
      refine lv_if_eq (tgt := 51) hx hb dX8_line_41 (by decide) (fun hc => ?_) (fun hc => ?_)
      · have hf := x_iteT hf hc
        refine lv_aload_n hx hb dX8_line_51 rfl (lv_at hl 0 rfl) ?_
        refine lv_ldc2 (v := 6371854542) hx hb hown (hts (.constantLong RX8 349 (6371854542)) (by decide +kernel)) dX8_line_52 ?_
        obtain ⟨q9, h_q9, hf⟩ := x_bindE hf
        refine x_ci0 (x_rV ⟨hx, hb, hml, hown, hts⟩ (ct_X8_isWord l g hfl w md mn mw ((6371854542 : Int64)) h_q9) (cwV 1 hts gX8_line_X8_isWord rfl rfl rfl (by decide +kernel) ⟨Nat.le_of_ble_eq_true rfl, Nat.le_of_ble_eq_true rfl⟩) hK hW hS (x_recv (i := (g.1 + 189)) (k := 8) (j := 0) hK hW ⟨⟨hfl, rfl⟩, by decide⟩ rfl (by decide)) rfl hl.1 (rest := []) rfl (Nat.le_of_ble_eq_true rfl) dX8_line_55 ⟨Nat.le_of_ble_eq_true rfl, Nat.le_of_ble_eq_true rfl⟩) hS (fun H locs hW hS => ?_)
        have hW : World g (wM w md mn mw) H := hW
        refine W.eq (g2 := F0 m 58 ls [.int q9]) rfl ?_
        refine lv_if_eq (tgt := 68) hx hb dX8_line_58 (by decide) (fun hc => ?_) (fun hc => ?_)
        · have hf := x_iteT hf hc
          refine lv_aload_n hx hb dX8_line_68 rfl (lv_at hl 0 rfl) ?_
          refine lv_ldc2 (v := 1489) hx hb hown (hts (.constantLong RX8 351 (1489)) (by decide +kernel)) dX8_line_69 ?_
          obtain ⟨q10, h_q10, hf⟩ := x_bindE hf
          refine x_ci0 (x_rV ⟨hx, hb, hml, hown, hts⟩ (ct_X8_isWord l g hfl w md mn mw ((1489 : Int64)) h_q10) (cwV 1 hts gX8_line_X8_isWord rfl rfl rfl (by decide +kernel) ⟨Nat.le_of_ble_eq_true rfl, Nat.le_of_ble_eq_true rfl⟩) hK hW hS (x_recv (i := (g.1 + 189)) (k := 8) (j := 0) hK hW ⟨⟨hfl, rfl⟩, by decide⟩ rfl (by decide)) rfl hl.1 (rest := []) rfl (Nat.le_of_ble_eq_true rfl) dX8_line_72 ⟨Nat.le_of_ble_eq_true rfl, Nat.le_of_ble_eq_true rfl⟩) hS (fun H locs hW hS => ?_)
          have hW : World g (wM w md mn mw) H := hW
          refine W.eq (g2 := F0 m 75 ls [.int q10]) rfl ?_
          refine lv_if_eq (tgt := 85) hx hb dX8_line_75 (by decide) (fun hc => ?_) (fun hc => ?_)
          · have hf := x_iteT hf hc
            refine lv_aload_n hx hb dX8_line_85 rfl (lv_at hl 0 rfl) ?_
            refine lv_ldc2 (v := 124988) hx hb hown (hts (.constantLong RX8 353 (124988)) (by decide +kernel)) dX8_line_86 ?_
            obtain ⟨q11, h_q11, hf⟩ := x_bindE hf
            refine x_ci0 (x_rV ⟨hx, hb, hml, hown, hts⟩ (ct_X8_isWord l g hfl w md mn mw ((124988 : Int64)) h_q11) (cwV 1 hts gX8_line_X8_isWord rfl rfl rfl (by decide +kernel) ⟨Nat.le_of_ble_eq_true rfl, Nat.le_of_ble_eq_true rfl⟩) hK hW hS (x_recv (i := (g.1 + 189)) (k := 8) (j := 0) hK hW ⟨⟨hfl, rfl⟩, by decide⟩ rfl (by decide)) rfl hl.1 (rest := []) rfl (Nat.le_of_ble_eq_true rfl) dX8_line_89 ⟨Nat.le_of_ble_eq_true rfl, Nat.le_of_ble_eq_true rfl⟩) hS (fun H locs hW hS => ?_)
            have hW : World g (wM w md mn mw) H := hW
            refine W.eq (g2 := F0 m 92 ls [.int q11]) rfl ?_
            refine lv_if_eq (tgt := 102) hx hb dX8_line_92 (by decide) (fun hc => ?_) (fun hc => ?_)
            · have hf := x_iteT hf hc
              refine lv_aload_n hx hb dX8_line_102 rfl (lv_at hl 0 rfl) ?_
              refine lv_aload_n hx hb dX8_line_103 rfl (lv_at hl 0 rfl) ?_
              refine lv_ldc2 (v := 1841972) hx hb hown (hts (.constantLong RX8 355 (1841972)) (by decide +kernel)) dX8_line_104 ?_
              obtain ⟨q12, h_q12, hf⟩ := x_bindE hf
              refine x_ci0 (x_rV ⟨hx, hb, hml, hown, hts⟩ (ct_X8_isWord l g hfl w md mn mw ((1841972 : Int64)) h_q12) (cwV 1 hts gX8_line_X8_isWord rfl rfl rfl (by decide +kernel) ⟨Nat.le_of_ble_eq_true rfl, Nat.le_of_ble_eq_true rfl⟩) hK hW hS (x_recv (i := (g.1 + 189)) (k := 8) (j := 0) hK hW ⟨⟨hfl, rfl⟩, by decide⟩ rfl (by decide)) rfl hl.1 (rest := [.ref (adr (g.1 + 189) 8 0)]) rfl (Nat.le_of_ble_eq_true rfl) dX8_line_107 ⟨Nat.le_of_ble_eq_true rfl, Nat.le_of_ble_eq_true rfl⟩) hS (fun H locs hW hS => ?_)
              have hW : World g (wM w md mn mw) H := hW
              refine W.eq (g2 := F0 m 110 ls [.int q12, .ref (adr (g.1 + 189) 8 0)]) rfl ?_
              refine lv_iconst (v := 2) hx hb dX8_line_110 (by decide) ?_
              obtain ⟨q13, h_q13, hf⟩ := x_bindE hf
              refine x_cv0 (x_rV ⟨hx, hb, hml, hown, hts⟩ (ct_X8_must l g hfl w md mn mw (q12) ((2 : Int32)) h_q13) (cwV 2 hts gX8_line_X8_must rfl rfl rfl (by decide +kernel) ⟨Nat.le_of_ble_eq_true rfl, Nat.le_of_ble_eq_true rfl⟩) hK hW hS (x_recv (i := (g.1 + 189)) (k := 8) (j := 0) hK hW ⟨⟨hfl, rfl⟩, by decide⟩ rfl (by decide)) rfl hl.1 (rest := []) rfl (Nat.le_of_ble_eq_true rfl) dX8_line_111 ⟨Nat.le_of_ble_eq_true rfl, Nat.le_of_ble_eq_true rfl⟩) hS (fun H locs hW hS => ?_)
              have hW : World g (wM w q13 mn mw) H := hW
              refine lv_aload_n hx hb dX8_line_114 rfl (lv_at hl 0 rfl) ?_
              obtain ⟨q14, h_q14, hf⟩ := x_bindE hf
              refine x_ci0 (x_rV ⟨hx, hb, hml, hown, hts⟩ (ct_X8_good l g hfl w q13 mn mw  h_q14) (cwV 0 hts gX8_line_X8_good rfl rfl rfl (by decide +kernel) ⟨Nat.le_of_ble_eq_true rfl, Nat.le_of_ble_eq_true rfl⟩) hK hW hS (x_recv (i := (g.1 + 189)) (k := 8) (j := 0) hK hW ⟨⟨hfl, rfl⟩, by decide⟩ rfl (by decide)) rfl hl.1 (rest := []) rfl (Nat.le_of_ble_eq_true rfl) dX8_line_115 ⟨Nat.le_of_ble_eq_true rfl, Nat.le_of_ble_eq_true rfl⟩) hS (fun H locs hW hS => ?_)
              have hW : World g (wM w q13 mn mw) H := hW
              refine W.eq (g2 := F0 m 118 ls [.int q14]) rfl ?_
              refine lv_if_eq (tgt := 125) hx hb dX8_line_118 (by decide) (fun hc => ?_) (fun hc => ?_)
              · have hf := x_iteT hf hc
                exact KK2 (q13) (mn) (mw) ls _ _ hl hW hS hf
              · have hf := x_iteF hf hc
                refine lv_aload_n hx hb dX8_line_121 rfl (lv_at hl 0 rfl) ?_
                obtain ⟨q15, h_q15, hf⟩ := x_bindE hf
                refine x_cv0 (x_rV ⟨hx, hb, hml, hown, hts⟩ (ct_X8_closeLine l g hfl w q13 mn mw  h_q15) (cwV 0 hts gX8_line_X8_closeLine rfl rfl rfl (by decide +kernel) ⟨Nat.le_of_ble_eq_true rfl, Nat.le_of_ble_eq_true rfl⟩) hK hW hS (x_recv (i := (g.1 + 189)) (k := 8) (j := 0) hK hW ⟨⟨hfl, rfl⟩, by decide⟩ rfl (by decide)) rfl hl.1 (rest := []) rfl (Nat.le_of_ble_eq_true rfl) dX8_line_122 ⟨Nat.le_of_ble_eq_true rfl, Nat.le_of_ble_eq_true rfl⟩) hS (fun H locs hW hS => ?_)
                have hW : World g (wM w q15.1 mn q15.2) H := hW
                exact KK2 (q15.1) (mn) (q15.2) ls _ _ hl hW hS hf
            · have hf := x_iteF hf hc
              refine lv_aload_n hx hb dX8_line_95 rfl (lv_at hl 0 rfl) ?_
              obtain ⟨q16, h_q16, hf⟩ := x_bindE hf
              refine x_cv0 (x_rV ⟨hx, hb, hml, hown, hts⟩ (ct_X8_fileLine l g hfl w md mn mw  h_q16) (cwV 0 hts gX8_line_X8_fileLine rfl rfl rfl (by decide +kernel) ⟨Nat.le_of_ble_eq_true rfl, Nat.le_of_ble_eq_true rfl⟩) hK hW hS (x_recv (i := (g.1 + 189)) (k := 8) (j := 0) hK hW ⟨⟨hfl, rfl⟩, by decide⟩ rfl (by decide)) rfl hl.1 (rest := []) rfl (Nat.le_of_ble_eq_true rfl) dX8_line_96 ⟨Nat.le_of_ble_eq_true rfl, Nat.le_of_ble_eq_true rfl⟩) hS (fun H locs hW hS => ?_)
              have hW : World g (wM w q16.1 q16.2.1 q16.2.2) H := hW
              refine lv_goto (tgt := 125) hx hb dX8_line_99 (by decide) ?_
              exact KK2 (q16.1) (q16.2.1) (q16.2.2) ls _ _ hl hW hS hf
          · have hf := x_iteF hf hc
            refine lv_aload_n hx hb dX8_line_78 rfl (lv_at hl 0 rfl) ?_
            obtain ⟨q17, h_q17, hf⟩ := x_bindE hf
            refine x_cv0 (x_rV ⟨hx, hb, hml, hown, hts⟩ (ct_X8_badLine l g hfl w md mn mw  h_q17) (cwV 0 hts gX8_line_X8_badLine rfl rfl rfl (by decide +kernel) ⟨Nat.le_of_ble_eq_true rfl, Nat.le_of_ble_eq_true rfl⟩) hK hW hS (x_recv (i := (g.1 + 189)) (k := 8) (j := 0) hK hW ⟨⟨hfl, rfl⟩, by decide⟩ rfl (by decide)) rfl hl.1 (rest := []) rfl (Nat.le_of_ble_eq_true rfl) dX8_line_79 ⟨Nat.le_of_ble_eq_true rfl, Nat.le_of_ble_eq_true rfl⟩) hS (fun H locs hW hS => ?_)
            have hW : World g (wM w q17.1 mn q17.2) H := hW
            refine lv_goto (tgt := 125) hx hb dX8_line_82 (by decide) ?_
            exact KK2 (q17.1) (mn) (q17.2) ls _ _ hl hW hS hf
        · have hf := x_iteF hf hc
          refine lv_aload_n hx hb dX8_line_61 rfl (lv_at hl 0 rfl) ?_
          obtain ⟨q18, h_q18, hf⟩ := x_bindE hf
          refine x_cv0 (x_rV ⟨hx, hb, hml, hown, hts⟩ (ct_X8_platterLine l g hfl w md mn mw  h_q18) (cwV 0 hts gX8_line_X8_platterLine rfl rfl rfl (by decide +kernel) ⟨Nat.le_of_ble_eq_true rfl, Nat.le_of_ble_eq_true rfl⟩) hK hW hS (x_recv (i := (g.1 + 189)) (k := 8) (j := 0) hK hW ⟨⟨hfl, rfl⟩, by decide⟩ rfl (by decide)) rfl hl.1 (rest := []) rfl (Nat.le_of_ble_eq_true rfl) dX8_line_62 ⟨Nat.le_of_ble_eq_true rfl, Nat.le_of_ble_eq_true rfl⟩) hS (fun H locs hW hS => ?_)
          have hW : World g (wM w q18.1 mn q18.2) H := hW
          refine lv_goto (tgt := 125) hx hb dX8_line_65 (by decide) ?_
          exact KK2 (q18.1) (mn) (q18.2) ls _ _ hl hW hS hf
      · have hf := x_iteF hf hc
        refine lv_aload_n hx hb dX8_line_44 rfl (lv_at hl 0 rfl) ?_
        obtain ⟨q19, h_q19, hf⟩ := x_bindE hf
        refine x_cv0 (x_rV ⟨hx, hb, hml, hown, hts⟩ (ct_X8_timeLine l g hfl w md mn mw  h_q19) (cwV 0 hts gX8_line_X8_timeLine rfl rfl rfl (by decide +kernel) ⟨Nat.le_of_ble_eq_true rfl, Nat.le_of_ble_eq_true rfl⟩) hK hW hS (x_recv (i := (g.1 + 189)) (k := 8) (j := 0) hK hW ⟨⟨hfl, rfl⟩, by decide⟩ rfl (by decide)) rfl hl.1 (rest := []) rfl (Nat.le_of_ble_eq_true rfl) dX8_line_45 ⟨Nat.le_of_ble_eq_true rfl, Nat.le_of_ble_eq_true rfl⟩) hS (fun H locs hW hS => ?_)
        have hW : World g (wM w q19.1 mn q19.2) H := hW
        refine lv_goto (tgt := 125) hx hb dX8_line_48 (by decide) ?_
        exact KK2 (q19.1) (mn) (q19.2) ls _ _ hl hW hS hf
    · have hf := x_iteF hf hc
      refine lv_aload_n hx hb dX8_line_27 rfl (lv_at hl 0 rfl) ?_
      obtain ⟨q20, h_q20, hf⟩ := x_bindE hf
      refine x_cv0 (x_rV ⟨hx, hb, hml, hown, hts⟩ (ct_X8_driveLine l g hfl w md mn mw  h_q20) (cwV 0 hts gX8_line_X8_driveLine rfl rfl rfl (by decide +kernel) ⟨Nat.le_of_ble_eq_true rfl, Nat.le_of_ble_eq_true rfl⟩) hK hW hS (x_recv (i := (g.1 + 189)) (k := 8) (j := 0) hK hW ⟨⟨hfl, rfl⟩, by decide⟩ rfl (by decide)) rfl hl.1 (rest := []) rfl (Nat.le_of_ble_eq_true rfl) dX8_line_28 ⟨Nat.le_of_ble_eq_true rfl, Nat.le_of_ble_eq_true rfl⟩) hS (fun H locs hW hS => ?_)
      have hW : World g (wM w q20.1 mn q20.2) H := hW
      refine lv_goto (tgt := 125) hx hb dX8_line_31 (by decide) ?_
      exact KK2 (q20.1) (mn) (q20.2) ls _ _ hl hW hS hf
  · have hf := x_iteF hf hc
    refine lv_aload_n hx hb dX8_line_10 rfl (lv_at hl 0 rfl) ?_
    obtain ⟨q21, h_q21, hf⟩ := x_bindE hf
    refine x_cv0 (x_rV ⟨hx, hb, hml, hown, hts⟩ (ct_X8_slotsLine l g hfl w md mn mw  h_q21) (cwV 0 hts gX8_line_X8_slotsLine rfl rfl rfl (by decide +kernel) ⟨Nat.le_of_ble_eq_true rfl, Nat.le_of_ble_eq_true rfl⟩) hK hW hS (x_recv (i := (g.1 + 189)) (k := 8) (j := 0) hK hW ⟨⟨hfl, rfl⟩, by decide⟩ rfl (by decide)) rfl hl.1 (rest := []) rfl (Nat.le_of_ble_eq_true rfl) dX8_line_11 ⟨Nat.le_of_ble_eq_true rfl, Nat.le_of_ble_eq_true rfl⟩) hS (fun H locs hW hS => ?_)
    have hW : World g (wM w q21.1 mn q21.2) H := hW
    refine lv_goto (tgt := 125) hx hb dX8_line_14 (by decide) ?_
    exact KK2 (q21.1) (mn) (q21.2) ls _ _ hl hW hS hf
