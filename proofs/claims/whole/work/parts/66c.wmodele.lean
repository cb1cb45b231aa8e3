set_option maxRecDepth 20000 in
theorem ggX8_platterLine_X8_must : GoodIn wsX8_platterLine wsX8_must := goodIn_r _ [6, 7, 8, 9, 10, 48, 49, 50, 51, 52, 53, 54, 55, 56, 57, 58, 59, 60, 61, 62, 63, 64, 65, 66, 67, 68, 69, 70, 71, 72, 73, 74] (by decide +kernel) (by decide +kernel)
set_option maxRecDepth 20000 in
theorem gX8_platterLine_X8_must : GoodIn wsX8_platterLine (wsV RX8 357 RX8 yX8_must wsX8_must) := goodIn_app (goodIn_of _ (by decide +kernel)) ggX8_platterLine_X8_must
set_option maxRecDepth 20000 in
theorem ggX8_platterLine_X8_goesOn : GoodIn wsX8_platterLine wsX8_goesOn := goodIn_r _ [14, 15, 16, 17, 5, 18, 7, 19, 20, 21, 22, 23, 9, 24, 25, 8, 26, 27, 28, 29, 30, 31, 32, 33, 34, 35, 36, 48, 49, 50, 51, 52, 53, 54, 55, 56, 57, 58, 59, 60, 61, 62, 63, 64, 65, 66, 67, 68, 69, 70, 71, 72, 73, 74] (by decide +kernel) (by decide +kernel)
set_option maxRecDepth 20000 in
theorem gX8_platterLine_X8_goesOn : GoodIn wsX8_platterLine (wsV RX8 364 RX8 yX8_goesOn wsX8_goesOn) := goodIn_app (goodIn_of _ (by decide +kernel)) ggX8_platterLine_X8_goesOn
set_option maxRecDepth 20000 in
theorem ggX8_platterLine_X8_sees : GoodIn wsX8_platterLine wsX8_sees := goodIn_r _ [40, 8, 29, 2, 3, 4, 5, 6, 7, 9, 10, 34, 35, 36, 15, 16, 17, 18, 48, 49, 50, 51, 52, 53, 54, 55, 56, 57, 58, 59, 60, 61, 62, 63, 64, 65, 66, 67, 68, 69, 70, 71, 72, 73, 74] (by decide +kernel) (by decide +kernel)
set_option maxRecDepth 20000 in
theorem gX8_platterLine_X8_sees : GoodIn wsX8_platterLine (wsV RX8 361 RX8 yX8_sees wsX8_sees) := goodIn_app (goodIn_of _ (by decide +kernel)) ggX8_platterLine_X8_sees
set_option maxRecDepth 20000 in
theorem ggX8_platterLine_X8_homeAt : GoodIn wsX8_platterLine wsX8_homeAt := goodIn_r _ [43] (by decide +kernel) (by decide +kernel)
set_option maxRecDepth 20000 in
theorem gX8_platterLine_X8_homeAt : GoodIn wsX8_platterLine (va_wsS RX8 265 yX8_homeAt wsX8_homeAt) := goodIn_app (goodIn_of _ (by decide +kernel)) ggX8_platterLine_X8_homeAt
set_option maxRecDepth 20000 in
theorem ggX8_platterLine_X8_takes : GoodIn wsX8_platterLine wsX8_takes := goodIn_r _ [47, 37, 38, 39, 5, 40, 8, 29, 2, 3, 4, 6, 7, 9, 10, 34, 35, 36, 15, 16, 17, 18, 11, 12, 13, 14, 19, 20, 21, 22, 23, 24, 25, 26, 27, 28, 30, 31, 32, 33, 48, 49, 50, 51, 52, 53, 54, 55, 56, 57, 58, 59, 60, 61, 62, 63, 64, 65, 66, 67, 68, 69, 70, 71, 72, 73, 74] (by decide +kernel) (by decide +kernel)
set_option maxRecDepth 20000 in
theorem gX8_platterLine_X8_takes : GoodIn wsX8_platterLine (wsV RX8 370 RX8 yX8_takes wsX8_takes) := goodIn_app (goodIn_of _ (by decide +kernel)) ggX8_platterLine_X8_takes
set_option maxRecDepth 20000 in
theorem ggX8_platterLine_X8_good : GoodIn wsX8_platterLine wsX8_good := goodIn_r _ [18, 7, 48, 49, 50, 51, 52, 53, 54, 55, 56, 57, 58, 59, 60, 61, 62, 63, 64, 65, 66, 67, 68, 69, 70, 71, 72, 73, 74] (by decide +kernel) (by decide +kernel)
set_option maxRecDepth 20000 in
theorem gX8_platterLine_X8_good : GoodIn wsX8_platterLine (wsV RX8 333 RX8 yX8_good wsX8_good) := goodIn_app (goodIn_of _ (by decide +kernel)) ggX8_platterLine_X8_good
theorem dX8_platterLine_0 : decode cX8_platterLine 0 = .ok (.aload_n 0, 1) := by decide +kernel
theorem dX8_platterLine_1 : decode cX8_platterLine 1 = .ok (.aload_n 0, 1) := by decide +kernel
theorem dX8_platterLine_2 : decode cX8_platterLine 2 = .ok (.getfield 13, 3) := by decide +kernel
theorem dX8_platterLine_5 : decode cX8_platterLine 5 = .ok (.bipush 7, 2) := by decide +kernel
theorem dX8_platterLine_7 : decode cX8_platterLine 7 = .ok (.iaload, 1) := by decide +kernel
theorem dX8_platterLine_8 : decode cX8_platterLine 8 = .ok (.bipush 10, 2) := by decide +kernel
theorem dX8_platterLine_10 : decode cX8_platterLine 10 = .ok (.if_icmp .ge 7, 3) := by decide +kernel
theorem dX8_platterLine_13 : decode cX8_platterLine 13 = .ok (.iconst 1, 1) := by decide +kernel
theorem dX8_platterLine_14 : decode cX8_platterLine 14 = .ok (.goto 4, 3) := by decide +kernel
theorem dX8_platterLine_17 : decode cX8_platterLine 17 = .ok (.iconst 0, 1) := by decide +kernel
theorem dX8_platterLine_18 : decode cX8_platterLine 18 = .ok (.iconst 5, 1) := by decide +kernel
theorem dX8_platterLine_19 : decode cX8_platterLine 19 = .ok (.invokevirtual 357, 3) := by decide +kernel
theorem dX8_platterLine_22 : decode cX8_platterLine 22 = .ok (.aload_n 0, 1) := by decide +kernel
theorem dX8_platterLine_23 : decode cX8_platterLine 23 = .ok (.invokevirtual 364, 3) := by decide +kernel
theorem dX8_platterLine_26 : decode cX8_platterLine 26 = .ok (.aload_n 0, 1) := by decide +kernel
theorem dX8_platterLine_27 : decode cX8_platterLine 27 = .ok (.iconst 0, 1) := by decide +kernel
theorem dX8_platterLine_28 : decode cX8_platterLine 28 = .ok (.aload_n 0, 1) := by decide +kernel
theorem dX8_platterLine_29 : decode cX8_platterLine 29 = .ok (.getfield 13, 3) := by decide +kernel
theorem dX8_platterLine_32 : decode cX8_platterLine 32 = .ok (.iconst 0, 1) := by decide +kernel
theorem dX8_platterLine_33 : decode cX8_platterLine 33 = .ok (.iaload, 1) := by decide +kernel
theorem dX8_platterLine_34 : decode cX8_platterLine 34 = .ok (.iconst 1, 1) := by decide +kernel
theorem dX8_platterLine_35 : decode cX8_platterLine 35 = .ok (.isub, 1) := by decide +kernel
theorem dX8_platterLine_36 : decode cX8_platterLine 36 = .ok (.invokevirtual 361, 3) := by decide +kernel
theorem dX8_platterLine_39 : decode cX8_platterLine 39 = .ok (.istore_n 1, 1) := by decide +kernel
theorem dX8_platterLine_40 : decode cX8_platterLine 40 = .ok (.aload_n 0, 1) := by decide +kernel
theorem dX8_platterLine_41 : decode cX8_platterLine 41 = .ok (.aload_n 0, 1) := by decide +kernel
theorem dX8_platterLine_42 : decode cX8_platterLine 42 = .ok (.getfield 13, 3) := by decide +kernel
theorem dX8_platterLine_45 : decode cX8_platterLine 45 = .ok (.iload_n 1, 1) := by decide +kernel
theorem dX8_platterLine_46 : decode cX8_platterLine 46 = .ok (.invokestatic 265, 3) := by decide +kernel
theorem dX8_platterLine_49 : decode cX8_platterLine 49 = .ok (.iconst (-1), 1) := by decide +kernel
theorem dX8_platterLine_50 : decode cX8_platterLine 50 = .ok (.if_icmp .ne 7, 3) := by decide +kernel
theorem dX8_platterLine_53 : decode cX8_platterLine 53 = .ok (.iconst 1, 1) := by decide +kernel
theorem dX8_platterLine_54 : decode cX8_platterLine 54 = .ok (.goto 4, 3) := by decide +kernel
theorem dX8_platterLine_57 : decode cX8_platterLine 57 = .ok (.iconst 0, 1) := by decide +kernel
theorem dX8_platterLine_58 : decode cX8_platterLine 58 = .ok (.iconst 4, 1) := by decide +kernel
theorem dX8_platterLine_59 : decode cX8_platterLine 59 = .ok (.invokevirtual 357, 3) := by decide +kernel
theorem dX8_platterLine_62 : decode cX8_platterLine 62 = .ok (.aload_n 0, 1) := by decide +kernel
theorem dX8_platterLine_63 : decode cX8_platterLine 63 = .ok (.invokevirtual 364, 3) := by decide +kernel
theorem dX8_platterLine_66 : decode cX8_platterLine 66 = .ok (.aload_n 0, 1) := by decide +kernel
theorem dX8_platterLine_67 : decode cX8_platterLine 67 = .ok (.bipush 10, 2) := by decide +kernel
theorem dX8_platterLine_69 : decode cX8_platterLine 69 = .ok (.sipush 300, 3) := by decide +kernel
theorem dX8_platterLine_72 : decode cX8_platterLine 72 = .ok (.invokevirtual 370, 3) := by decide +kernel
theorem dX8_platterLine_75 : decode cX8_platterLine 75 = .ok (.istore_n 2, 1) := by decide +kernel
theorem dX8_platterLine_76 : decode cX8_platterLine 76 = .ok (.aload_n 0, 1) := by decide +kernel
theorem dX8_platterLine_77 : decode cX8_platterLine 77 = .ok (.iconst 0, 1) := by decide +kernel
theorem dX8_platterLine_78 : decode cX8_platterLine 78 = .ok (.bipush 9, 2) := by decide +kernel
theorem dX8_platterLine_80 : decode cX8_platterLine 80 = .ok (.invokevirtual 370, 3) := by decide +kernel
theorem dX8_platterLine_83 : decode cX8_platterLine 83 = .ok (.istore_n 3, 1) := by decide +kernel
theorem dX8_platterLine_84 : decode cX8_platterLine 84 = .ok (.aload_n 0, 1) := by decide +kernel
theorem dX8_platterLine_85 : decode cX8_platterLine 85 = .ok (.invokevirtual 333, 3) := by decide +kernel
theorem dX8_platterLine_88 : decode cX8_platterLine 88 = .ok (.ifCond .ne 4, 3) := by decide +kernel
theorem dX8_platterLine_91 : decode cX8_platterLine 91 = .ok (.return_, 1) := by decide +kernel
theorem dX8_platterLine_92 : decode cX8_platterLine 92 = .ok (.aload_n 0, 1) := by decide +kernel
theorem dX8_platterLine_93 : decode cX8_platterLine 93 = .ok (.getfield 13, 3) := by decide +kernel
theorem dX8_platterLine_96 : decode cX8_platterLine 96 = .ok (.bipush 7, 2) := by decide +kernel
theorem dX8_platterLine_98 : decode cX8_platterLine 98 = .ok (.iaload, 1) := by decide +kernel
theorem dX8_platterLine_99 : decode cX8_platterLine 99 = .ok (.istore 4, 2) := by decide +kernel
theorem dX8_platterLine_101 : decode cX8_platterLine 101 = .ok (.aload_n 0, 1) := by decide +kernel
theorem dX8_platterLine_102 : decode cX8_platterLine 102 = .ok (.getfield 13, 3) := by decide +kernel
theorem dX8_platterLine_105 : decode cX8_platterLine 105 = .ok (.bipush 7, 2) := by decide +kernel
theorem dX8_platterLine_107 : decode cX8_platterLine 107 = .ok (.dup2, 1) := by decide +kernel
theorem dX8_platterLine_108 : decode cX8_platterLine 108 = .ok (.iaload, 1) := by decide +kernel
theorem dX8_platterLine_109 : decode cX8_platterLine 109 = .ok (.iconst 1, 1) := by decide +kernel
theorem dX8_platterLine_110 : decode cX8_platterLine 110 = .ok (.iadd, 1) := by decide +kernel
theorem dX8_platterLine_111 : decode cX8_platterLine 111 = .ok (.iastore, 1) := by decide +kernel
theorem dX8_platterLine_112 : decode cX8_platterLine 112 = .ok (.aload_n 0, 1) := by decide +kernel
theorem dX8_platterLine_113 : decode cX8_platterLine 113 = .ok (.getfield 13, 3) := by decide +kernel
theorem dX8_platterLine_116 : decode cX8_platterLine 116 = .ok (.bipush 29, 2) := by decide +kernel
theorem dX8_platterLine_118 : decode cX8_platterLine 118 = .ok (.iload 4, 2) := by decide +kernel
theorem dX8_platterLine_120 : decode cX8_platterLine 120 = .ok (.iadd, 1) := by decide +kernel
theorem dX8_platterLine_121 : decode cX8_platterLine 121 = .ok (.iload_n 1, 1) := by decide +kernel
theorem dX8_platterLine_122 : decode cX8_platterLine 122 = .ok (.iastore, 1) := by decide +kernel
theorem dX8_platterLine_123 : decode cX8_platterLine 123 = .ok (.aload_n 0, 1) := by decide +kernel
theorem dX8_platterLine_124 : decode cX8_platterLine 124 = .ok (.getfield 13, 3) := by decide +kernel
theorem dX8_platterLine_127 : decode cX8_platterLine 127 = .ok (.bipush 39, 2) := by decide +kernel
theorem dX8_platterLine_129 : decode cX8_platterLine 129 = .ok (.iload 4, 2) := by decide +kernel
theorem dX8_platterLine_131 : decode cX8_platterLine 131 = .ok (.iadd, 1) := by decide +kernel
theorem dX8_platterLine_132 : decode cX8_platterLine 132 = .ok (.iload_n 2, 1) := by decide +kernel
theorem dX8_platterLine_133 : decode cX8_platterLine 133 = .ok (.iastore, 1) := by decide +kernel
theorem dX8_platterLine_134 : decode cX8_platterLine 134 = .ok (.aload_n 0, 1) := by decide +kernel
theorem dX8_platterLine_135 : decode cX8_platterLine 135 = .ok (.getfield 13, 3) := by decide +kernel
theorem dX8_platterLine_138 : decode cX8_platterLine 138 = .ok (.bipush 49, 2) := by decide +kernel
theorem dX8_platterLine_140 : decode cX8_platterLine 140 = .ok (.iload 4, 2) := by decide +kernel
theorem dX8_platterLine_142 : decode cX8_platterLine 142 = .ok (.iadd, 1) := by decide +kernel
theorem dX8_platterLine_143 : decode cX8_platterLine 143 = .ok (.iload_n 3, 1) := by decide +kernel
theorem dX8_platterLine_144 : decode cX8_platterLine 144 = .ok (.iastore, 1) := by decide +kernel
theorem dX8_platterLine_145 : decode cX8_platterLine 145 = .ok (.return_, 1) := by decide +kernel
set_option maxRecDepth 20000 in
theorem ggX8_badLine_X8_must : GoodIn wsX8_badLine wsX8_must := goodIn_r _ [6, 7, 8, 9, 10, 54, 55, 56, 57, 58, 59, 60, 61, 62, 63, 64, 65, 66, 67, 68, 69, 70, 71, 72, 73, 74, 75, 76, 77, 78, 79, 80] (by decide +kernel) (by decide +kernel)
set_option maxRecDepth 20000 in
theorem gX8_badLine_X8_must : GoodIn wsX8_badLine (wsV RX8 357 RX8 yX8_must wsX8_must) := goodIn_app (goodIn_of _ (by decide +kernel)) ggX8_badLine_X8_must
set_option maxRecDepth 20000 in
theorem ggX8_badLine_X8_goesOn : GoodIn wsX8_badLine wsX8_goesOn := goodIn_r _ [14, 15, 16, 17, 5, 18, 7, 19, 20, 21, 22, 23, 9, 24, 25, 8, 26, 27, 28, 29, 30, 31, 32, 33, 34, 35, 36, 54, 55, 56, 57, 58, 59, 60, 61, 62, 63, 64, 65, 66, 67, 68, 69, 70, 71, 72, 73, 74, 75, 76, 77, 78, 79, 80] (by decide +kernel) (by decide +kernel)
set_option maxRecDepth 20000 in
theorem gX8_badLine_X8_goesOn : GoodIn wsX8_badLine (wsV RX8 364 RX8 yX8_goesOn wsX8_goesOn) := goodIn_app (goodIn_of _ (by decide +kernel)) ggX8_badLine_X8_goesOn
set_option maxRecDepth 20000 in
theorem ggX8_badLine_X8_takes : GoodIn wsX8_badLine wsX8_takes := goodIn_r _ [40, 41, 42, 43, 5, 44, 8, 29, 2, 3, 4, 6, 7, 9, 10, 34, 35, 36, 15, 16, 17, 18, 11, 12, 13, 14, 19, 20, 21, 22, 23, 24, 25, 26, 27, 28, 30, 31, 32, 33, 54, 55, 56, 57, 58, 59, 60, 61, 62, 63, 64, 65, 66, 67, 68, 69, 70, 71, 72, 73, 74, 75, 76, 77, 78, 79, 80] (by decide +kernel) (by decide +kernel)
set_option maxRecDepth 20000 in
theorem gX8_badLine_X8_takes : GoodIn wsX8_badLine (wsV RX8 370 RX8 yX8_takes wsX8_takes) := goodIn_app (goodIn_of _ (by decide +kernel)) ggX8_badLine_X8_takes
set_option maxRecDepth 20000 in
theorem ggX8_badLine_X8_good : GoodIn wsX8_badLine wsX8_good := goodIn_r _ [18, 7, 54, 55, 56, 57, 58, 59, 60, 61, 62, 63, 64, 65, 66, 67, 68, 69, 70, 71, 72, 73, 74, 75, 76, 77, 78, 79, 80] (by decide +kernel) (by decide +kernel)
set_option maxRecDepth 20000 in
theorem gX8_badLine_X8_good : GoodIn wsX8_badLine (wsV RX8 333 RX8 yX8_good wsX8_good) := goodIn_app (goodIn_of _ (by decide +kernel)) ggX8_badLine_X8_good
set_option maxRecDepth 20000 in
theorem ggX8_badLine_X8_sees : GoodIn wsX8_badLine wsX8_sees := goodIn_r _ [44, 8, 29, 2, 3, 4, 5, 6, 7, 9, 10, 34, 35, 36, 15, 16, 17, 18, 54, 55, 56, 57, 58, 59, 60, 61, 62, 63, 64, 65, 66, 67, 68, 69, 70, 71, 72, 73, 74, 75, 76, 77, 78, 79, 80] (by decide +kernel) (by decide +kernel)
set_option maxRecDepth 20000 in
theorem gX8_badLine_X8_sees : GoodIn wsX8_badLine (wsV RX8 361 RX8 yX8_sees wsX8_sees) := goodIn_app (goodIn_of _ (by decide +kernel)) ggX8_badLine_X8_sees
set_option maxRecDepth 20000 in
theorem ggX8_badLine_X8_isBad : GoodIn wsX8_badLine wsX8_isBad := goodIn_r _ [47] (by decide +kernel) (by decide +kernel)
set_option maxRecDepth 20000 in
theorem gX8_badLine_X8_isBad : GoodIn wsX8_badLine (va_wsS RX8 212 yX8_isBad wsX8_isBad) := goodIn_app (goodIn_of _ (by decide +kernel)) ggX8_badLine_X8_isBad
set_option maxRecDepth 20000 in
theorem ggX8_badLine_X8_marks : GoodIn wsX8_badLine wsX8_marks := goodIn_r _ [50, 51, 52, 5, 53, 34, 35, 36] (by decide +kernel) (by decide +kernel)
set_option maxRecDepth 20000 in
theorem gX8_badLine_X8_marks : GoodIn wsX8_badLine (va_wsS RX8 261 yX8_marks wsX8_marks) := goodIn_app (goodIn_of _ (by decide +kernel)) ggX8_badLine_X8_marks
theorem dX8_badLine_0 : decode cX8_badLine 0 = .ok (.aload_n 0, 1) := by decide +kernel
theorem dX8_badLine_1 : decode cX8_badLine 1 = .ok (.aload_n 0, 1) := by decide +kernel
theorem dX8_badLine_2 : decode cX8_badLine 2 = .ok (.getfield 13, 3) := by decide +kernel
theorem dX8_badLine_5 : decode cX8_badLine 5 = .ok (.bipush 8, 2) := by decide +kernel
theorem dX8_badLine_7 : decode cX8_badLine 7 = .ok (.iaload, 1) := by decide +kernel
theorem dX8_badLine_8 : decode cX8_badLine 8 = .ok (.bipush 20, 2) := by decide +kernel
theorem dX8_badLine_10 : decode cX8_badLine 10 = .ok (.if_icmp .ge 7, 3) := by decide +kernel
theorem dX8_badLine_13 : decode cX8_badLine 13 = .ok (.iconst 1, 1) := by decide +kernel
theorem dX8_badLine_14 : decode cX8_badLine 14 = .ok (.goto 4, 3) := by decide +kernel
theorem dX8_badLine_17 : decode cX8_badLine 17 = .ok (.iconst 0, 1) := by decide +kernel
theorem dX8_badLine_18 : decode cX8_badLine 18 = .ok (.iconst 5, 1) := by decide +kernel
theorem dX8_badLine_19 : decode cX8_badLine 19 = .ok (.invokevirtual 357, 3) := by decide +kernel
theorem dX8_badLine_22 : decode cX8_badLine 22 = .ok (.aload_n 0, 1) := by decide +kernel
theorem dX8_badLine_23 : decode cX8_badLine 23 = .ok (.invokevirtual 364, 3) := by decide +kernel
theorem dX8_badLine_26 : decode cX8_badLine 26 = .ok (.aload_n 0, 1) := by decide +kernel
theorem dX8_badLine_27 : decode cX8_badLine 27 = .ok (.iconst 0, 1) := by decide +kernel
theorem dX8_badLine_28 : decode cX8_badLine 28 = .ok (.aload_n 0, 1) := by decide +kernel
theorem dX8_badLine_29 : decode cX8_badLine 29 = .ok (.getfield 13, 3) := by decide +kernel
theorem dX8_badLine_32 : decode cX8_badLine 32 = .ok (.bipush 7, 2) := by decide +kernel
theorem dX8_badLine_34 : decode cX8_badLine 34 = .ok (.iaload, 1) := by decide +kernel
theorem dX8_badLine_35 : decode cX8_badLine 35 = .ok (.iconst 1, 1) := by decide +kernel
theorem dX8_badLine_36 : decode cX8_badLine 36 = .ok (.isub, 1) := by decide +kernel
theorem dX8_badLine_37 : decode cX8_badLine 37 = .ok (.invokevirtual 370, 3) := by decide +kernel
theorem dX8_badLine_40 : decode cX8_badLine 40 = .ok (.istore_n 1, 1) := by decide +kernel
theorem dX8_badLine_41 : decode cX8_badLine 41 = .ok (.aload_n 0, 1) := by decide +kernel
theorem dX8_badLine_42 : decode cX8_badLine 42 = .ok (.iconst 0, 1) := by decide +kernel
theorem dX8_badLine_43 : decode cX8_badLine 43 = .ok (.aload_n 0, 1) := by decide +kernel
theorem dX8_badLine_44 : decode cX8_badLine 44 = .ok (.invokevirtual 333, 3) := by decide +kernel
theorem dX8_badLine_47 : decode cX8_badLine 47 = .ok (.ifCond .eq 17, 3) := by decide +kernel
theorem dX8_badLine_50 : decode cX8_badLine 50 = .ok (.aload_n 0, 1) := by decide +kernel
theorem dX8_badLine_51 : decode cX8_badLine 51 = .ok (.getfield 13, 3) := by decide +kernel
theorem dX8_badLine_54 : decode cX8_badLine 54 = .ok (.bipush 39, 2) := by decide +kernel
theorem dX8_badLine_56 : decode cX8_badLine 56 = .ok (.iload_n 1, 1) := by decide +kernel
theorem dX8_badLine_57 : decode cX8_badLine 57 = .ok (.iadd, 1) := by decide +kernel
theorem dX8_badLine_58 : decode cX8_badLine 58 = .ok (.iaload, 1) := by decide +kernel
theorem dX8_badLine_59 : decode cX8_badLine 59 = .ok (.iconst 1, 1) := by decide +kernel
theorem dX8_badLine_60 : decode cX8_badLine 60 = .ok (.isub, 1) := by decide +kernel
theorem dX8_badLine_61 : decode cX8_badLine 61 = .ok (.goto 4, 3) := by decide +kernel
theorem dX8_badLine_64 : decode cX8_badLine 64 = .ok (.iconst 0, 1) := by decide +kernel
theorem dX8_badLine_65 : decode cX8_badLine 65 = .ok (.invokevirtual 361, 3) := by decide +kernel
theorem dX8_badLine_68 : decode cX8_badLine 68 = .ok (.istore_n 2, 1) := by decide +kernel
theorem dX8_badLine_69 : decode cX8_badLine 69 = .ok (.aload_n 0, 1) := by decide +kernel
theorem dX8_badLine_70 : decode cX8_badLine 70 = .ok (.aload_n 0, 1) := by decide +kernel
theorem dX8_badLine_71 : decode cX8_badLine 71 = .ok (.invokevirtual 333, 3) := by decide +kernel
theorem dX8_badLine_74 : decode cX8_badLine 74 = .ok (.ifCond .eq 19, 3) := by decide +kernel
theorem dX8_badLine_77 : decode cX8_badLine 77 = .ok (.aload_n 0, 1) := by decide +kernel
theorem dX8_badLine_78 : decode cX8_badLine 78 = .ok (.getfield 13, 3) := by decide +kernel
theorem dX8_badLine_81 : decode cX8_badLine 81 = .ok (.iload_n 1, 1) := by decide +kernel
theorem dX8_badLine_82 : decode cX8_badLine 82 = .ok (.iload_n 2, 1) := by decide +kernel
theorem dX8_badLine_83 : decode cX8_badLine 83 = .ok (.invokestatic 212, 3) := by decide +kernel
theorem dX8_badLine_86 : decode cX8_badLine 86 = .ok (.ifCond .ne 7, 3) := by decide +kernel
theorem dX8_badLine_89 : decode cX8_badLine 89 = .ok (.iconst 1, 1) := by decide +kernel
theorem dX8_badLine_90 : decode cX8_badLine 90 = .ok (.goto 4, 3) := by decide +kernel
theorem dX8_badLine_93 : decode cX8_badLine 93 = .ok (.iconst 0, 1) := by decide +kernel
theorem dX8_badLine_94 : decode cX8_badLine 94 = .ok (.iconst 4, 1) := by decide +kernel
theorem dX8_badLine_95 : decode cX8_badLine 95 = .ok (.invokevirtual 357, 3) := by decide +kernel
theorem dX8_badLine_98 : decode cX8_badLine 98 = .ok (.aload_n 0, 1) := by decide +kernel
theorem dX8_badLine_99 : decode cX8_badLine 99 = .ok (.invokevirtual 333, 3) := by decide +kernel
theorem dX8_badLine_102 : decode cX8_badLine 102 = .ok (.ifCond .eq 12, 3) := by decide +kernel
theorem dX8_badLine_105 : decode cX8_badLine 105 = .ok (.aload_n 0, 1) := by decide +kernel
theorem dX8_badLine_106 : decode cX8_badLine 106 = .ok (.getfield 13, 3) := by decide +kernel
theorem dX8_badLine_109 : decode cX8_badLine 109 = .ok (.iload_n 1, 1) := by decide +kernel
theorem dX8_badLine_110 : decode cX8_badLine 110 = .ok (.iload_n 2, 1) := by decide +kernel
theorem dX8_badLine_111 : decode cX8_badLine 111 = .ok (.invokestatic 261, 3) := by decide +kernel
theorem dX8_badLine_114 : decode cX8_badLine 114 = .ok (.aload_n 0, 1) := by decide +kernel
theorem dX8_badLine_115 : decode cX8_badLine 115 = .ok (.invokevirtual 364, 3) := by decide +kernel
theorem dX8_badLine_118 : decode cX8_badLine 118 = .ok (.return_, 1) := by decide +kernel
set_option maxRecDepth 20000 in
theorem ggX8_fileLine_X8_must : GoodIn wsX8_fileLine wsX8_must := goodIn_r _ [9, 10, 2, 11, 12, 70, 71, 72, 73, 74, 75, 76, 77, 78, 79, 80, 81, 82, 83, 84, 85, 86, 87, 88, 89, 90, 91, 92, 93, 94, 95, 96] (by decide +kernel) (by decide +kernel)
set_option maxRecDepth 20000 in
theorem gX8_fileLine_X8_must : GoodIn wsX8_fileLine (wsV RX8 357 RX8 yX8_must wsX8_must) := goodIn_app (goodIn_of _ (by decide +kernel)) ggX8_fileLine_X8_must
set_option maxRecDepth 20000 in
theorem ggX8_fileLine_X8_goesOn : GoodIn wsX8_fileLine wsX8_goesOn := goodIn_r _ [16, 17, 18, 19, 8, 20, 10, 21, 22, 23, 24, 25, 11, 26, 27, 2, 4, 28, 29, 30, 31, 32, 33, 34, 35, 36, 37, 70, 71, 72, 73, 74, 75, 76, 77, 78, 79, 80, 81, 82, 83, 84, 85, 86, 87, 88, 89, 90, 91, 92, 93, 94, 95, 96] (by decide +kernel) (by decide +kernel)
set_option maxRecDepth 20000 in
theorem gX8_fileLine_X8_goesOn : GoodIn wsX8_fileLine (wsV RX8 364 RX8 yX8_goesOn wsX8_goesOn) := goodIn_app (goodIn_of _ (by decide +kernel)) ggX8_fileLine_X8_goesOn
set_option maxRecDepth 20000 in
theorem ggX8_fileLine_X8_isReserved : GoodIn wsX8_fileLine wsX8_isReserved := goodIn_r _ [41, 42, 43, 44, 45, 46, 47, 48, 49, 50, 51, 8, 52, 2, 4, 17, 18, 19, 20, 10, 70, 71, 72, 73, 74, 75, 76, 77, 78, 79, 80, 81, 82, 83, 84, 85, 86, 87, 88, 89, 90, 91, 92, 93, 94, 95, 96] (by decide +kernel) (by decide +kernel)
set_option maxRecDepth 20000 in
theorem gX8_fileLine_X8_isReserved : GoodIn wsX8_fileLine (wsV RX8 373 RX8 yX8_isReserved wsX8_isReserved) := goodIn_app (goodIn_of _ (by decide +kernel)) ggX8_fileLine_X8_isReserved
set_option maxRecDepth 20000 in
theorem ggX8_fileLine_X8_good : GoodIn wsX8_fileLine wsX8_good := goodIn_r _ [20, 10, 70, 71, 72, 73, 74, 75, 76, 77, 78, 79, 80, 81, 82, 83, 84, 85, 86, 87, 88, 89, 90, 91, 92, 93, 94, 95, 96] (by decide +kernel) (by decide +kernel)
set_option maxRecDepth 20000 in
theorem gX8_fileLine_X8_good : GoodIn wsX8_fileLine (wsV RX8 333 RX8 yX8_good wsX8_good) := goodIn_app (goodIn_of _ (by decide +kernel)) ggX8_fileLine_X8_good
set_option maxRecDepth 20000 in
theorem ggX8_fileLine_X8_takes : GoodIn wsX8_fileLine wsX8_takes := goodIn_r _ [56, 57, 58, 59, 8, 60, 2, 30, 5, 6, 7, 9, 10, 11, 12, 35, 36, 37, 17, 18, 19, 20, 13, 14, 15, 16, 21, 22, 23, 24, 25, 26, 27, 4, 28, 29, 31, 32, 33, 34, 70, 71, 72, 73, 74, 75, 76, 77, 78, 79, 80, 81, 82, 83, 84, 85, 86, 87, 88, 89, 90, 91, 92, 93, 94, 95, 96] (by decide +kernel) (by decide +kernel)
set_option maxRecDepth 20000 in
theorem gX8_fileLine_X8_takes : GoodIn wsX8_fileLine (wsV RX8 370 RX8 yX8_takes wsX8_takes) := goodIn_app (goodIn_of _ (by decide +kernel)) ggX8_fileLine_X8_takes
set_option maxRecDepth 20000 in
theorem ggX8_fileLine_X8_sees : GoodIn wsX8_fileLine wsX8_sees := goodIn_r _ [60, 2, 30, 5, 6, 7, 8, 9, 10, 11, 12, 35, 36, 37, 17, 18, 19, 20, 70, 71, 72, 73, 74, 75, 76, 77, 78, 79, 80, 81, 82, 83, 84, 85, 86, 87, 88, 89, 90, 91, 92, 93, 94, 95, 96] (by decide +kernel) (by decide +kernel)
set_option maxRecDepth 20000 in
theorem gX8_fileLine_X8_sees : GoodIn wsX8_fileLine (wsV RX8 361 RX8 yX8_sees wsX8_sees) := goodIn_app (goodIn_of _ (by decide +kernel)) ggX8_fileLine_X8_sees
set_option maxRecDepth 20000 in
theorem ggX8_fileLine_X8_canWrite : GoodIn wsX8_fileLine wsX8_canWrite := goodIn_r _ [63, 64, 65, 8, 66, 35, 36, 37] (by decide +kernel) (by decide +kernel)
set_option maxRecDepth 20000 in
theorem gX8_fileLine_X8_canWrite : GoodIn wsX8_fileLine (va_wsS RX8 225 yX8_canWrite wsX8_canWrite) := goodIn_app (goodIn_of _ (by decide +kernel)) ggX8_fileLine_X8_canWrite
set_option maxRecDepth 20000 in
theorem ggX8_fileLine_X8_writesVersion : GoodIn wsX8_fileLine wsX8_writesVersion := goodIn_r _ [69, 64, 65, 8, 66, 35, 36, 37] (by decide +kernel) (by decide +kernel)
set_option maxRecDepth 20000 in
theorem gX8_fileLine_X8_writesVersion : GoodIn wsX8_fileLine (va_wsS RX8 244 yX8_writesVersion wsX8_writesVersion) := goodIn_app (goodIn_of _ (by decide +kernel)) ggX8_fileLine_X8_writesVersion
theorem dX8_fileLine_0 : decode cX8_fileLine 0 = .ok (.aload_n 0, 1) := by decide +kernel
theorem dX8_fileLine_1 : decode cX8_fileLine 1 = .ok (.aload_n 0, 1) := by decide +kernel
theorem dX8_fileLine_2 : decode cX8_fileLine 2 = .ok (.getfield 13, 3) := by decide +kernel
theorem dX8_fileLine_5 : decode cX8_fileLine 5 = .ok (.bipush 9, 2) := by decide +kernel
theorem dX8_fileLine_7 : decode cX8_fileLine 7 = .ok (.iaload, 1) := by decide +kernel
theorem dX8_fileLine_8 : decode cX8_fileLine 8 = .ok (.bipush 20, 2) := by decide +kernel
theorem dX8_fileLine_10 : decode cX8_fileLine 10 = .ok (.if_icmp .ge 7, 3) := by decide +kernel
theorem dX8_fileLine_13 : decode cX8_fileLine 13 = .ok (.iconst 1, 1) := by decide +kernel
theorem dX8_fileLine_14 : decode cX8_fileLine 14 = .ok (.goto 4, 3) := by decide +kernel
theorem dX8_fileLine_17 : decode cX8_fileLine 17 = .ok (.iconst 0, 1) := by decide +kernel
theorem dX8_fileLine_18 : decode cX8_fileLine 18 = .ok (.iconst 5, 1) := by decide +kernel
theorem dX8_fileLine_19 : decode cX8_fileLine 19 = .ok (.invokevirtual 357, 3) := by decide +kernel
theorem dX8_fileLine_22 : decode cX8_fileLine 22 = .ok (.aload_n 0, 1) := by decide +kernel
theorem dX8_fileLine_23 : decode cX8_fileLine 23 = .ok (.invokevirtual 364, 3) := by decide +kernel
theorem dX8_fileLine_26 : decode cX8_fileLine 26 = .ok (.aload_n 0, 1) := by decide +kernel
theorem dX8_fileLine_27 : decode cX8_fileLine 27 = .ok (.aload_n 0, 1) := by decide +kernel
theorem dX8_fileLine_28 : decode cX8_fileLine 28 = .ok (.getfield 313, 3) := by decide +kernel
theorem dX8_fileLine_31 : decode cX8_fileLine 31 = .ok (.iconst 1, 1) := by decide +kernel
theorem dX8_fileLine_32 : decode cX8_fileLine 32 = .ok (.if_icmp .ne 14, 3) := by decide +kernel
theorem dX8_fileLine_35 : decode cX8_fileLine 35 = .ok (.aload_n 0, 1) := by decide +kernel
theorem dX8_fileLine_36 : decode cX8_fileLine 36 = .ok (.invokevirtual 373, 3) := by decide +kernel
theorem dX8_fileLine_39 : decode cX8_fileLine 39 = .ok (.ifCond .ne 7, 3) := by decide +kernel
theorem dX8_fileLine_42 : decode cX8_fileLine 42 = .ok (.iconst 1, 1) := by decide +kernel
theorem dX8_fileLine_43 : decode cX8_fileLine 43 = .ok (.goto 4, 3) := by decide +kernel
theorem dX8_fileLine_46 : decode cX8_fileLine 46 = .ok (.iconst 0, 1) := by decide +kernel
theorem dX8_fileLine_47 : decode cX8_fileLine 47 = .ok (.iconst 2, 1) := by decide +kernel
theorem dX8_fileLine_48 : decode cX8_fileLine 48 = .ok (.invokevirtual 357, 3) := by decide +kernel
theorem dX8_fileLine_51 : decode cX8_fileLine 51 = .ok (.iconst 0, 1) := by decide +kernel
theorem dX8_fileLine_52 : decode cX8_fileLine 52 = .ok (.istore_n 1, 1) := by decide +kernel
theorem dX8_fileLine_53 : decode cX8_fileLine 53 = .ok (.iload_n 1, 1) := by decide +kernel
theorem dX8_fileLine_54 : decode cX8_fileLine 54 = .ok (.aload_n 0, 1) := by decide +kernel
theorem dX8_fileLine_55 : decode cX8_fileLine 55 = .ok (.getfield 13, 3) := by decide +kernel
theorem dX8_fileLine_58 : decode cX8_fileLine 58 = .ok (.bipush 9, 2) := by decide +kernel
theorem dX8_fileLine_60 : decode cX8_fileLine 60 = .ok (.iaload, 1) := by decide +kernel
theorem dX8_fileLine_61 : decode cX8_fileLine 61 = .ok (.if_icmp .ge 40, 3) := by decide +kernel
theorem dX8_fileLine_64 : decode cX8_fileLine 64 = .ok (.aload_n 0, 1) := by decide +kernel
theorem dX8_fileLine_65 : decode cX8_fileLine 65 = .ok (.invokevirtual 333, 3) := by decide +kernel
theorem dX8_fileLine_68 : decode cX8_fileLine 68 = .ok (.ifCond .eq 33, 3) := by decide +kernel
theorem dX8_fileLine_71 : decode cX8_fileLine 71 = .ok (.aload_n 0, 1) := by decide +kernel
theorem dX8_fileLine_72 : decode cX8_fileLine 72 = .ok (.aload_n 0, 1) := by decide +kernel
theorem dX8_fileLine_73 : decode cX8_fileLine 73 = .ok (.getfield 38, 3) := by decide +kernel
theorem dX8_fileLine_76 : decode cX8_fileLine 76 = .ok (.iload_n 1, 1) := by decide +kernel
theorem dX8_fileLine_77 : decode cX8_fileLine 77 = .ok (.laload, 1) := by decide +kernel
theorem dX8_fileLine_78 : decode cX8_fileLine 78 = .ok (.aload_n 0, 1) := by decide +kernel
theorem dX8_fileLine_79 : decode cX8_fileLine 79 = .ok (.getfield 316, 3) := by decide +kernel
theorem dX8_fileLine_82 : decode cX8_fileLine 82 = .ok (.lcmp, 1) := by decide +kernel
theorem dX8_fileLine_83 : decode cX8_fileLine 83 = .ok (.ifCond .eq 7, 3) := by decide +kernel
theorem dX8_fileLine_86 : decode cX8_fileLine 86 = .ok (.iconst 1, 1) := by decide +kernel
theorem dX8_fileLine_87 : decode cX8_fileLine 87 = .ok (.goto 4, 3) := by decide +kernel
theorem dX8_fileLine_90 : decode cX8_fileLine 90 = .ok (.iconst 0, 1) := by decide +kernel
theorem dX8_fileLine_91 : decode cX8_fileLine 91 = .ok (.iconst 4, 1) := by decide +kernel
theorem dX8_fileLine_92 : decode cX8_fileLine 92 = .ok (.invokevirtual 357, 3) := by decide +kernel
theorem dX8_fileLine_95 : decode cX8_fileLine 95 = .ok (.iinc 1 1, 3) := by decide +kernel
theorem dX8_fileLine_98 : decode cX8_fileLine 98 = .ok (.goto (-45), 3) := by decide +kernel
theorem dX8_fileLine_101 : decode cX8_fileLine 101 = .ok (.aload_n 0, 1) := by decide +kernel
theorem dX8_fileLine_102 : decode cX8_fileLine 102 = .ok (.getfield 316, 3) := by decide +kernel
theorem dX8_fileLine_105 : decode cX8_fileLine 105 = .ok (.lstore_n 1, 1) := by decide +kernel
theorem dX8_fileLine_106 : decode cX8_fileLine 106 = .ok (.aload_n 0, 1) := by decide +kernel
theorem dX8_fileLine_107 : decode cX8_fileLine 107 = .ok (.invokevirtual 364, 3) := by decide +kernel
theorem dX8_fileLine_110 : decode cX8_fileLine 110 = .ok (.aload_n 0, 1) := by decide +kernel
theorem dX8_fileLine_111 : decode cX8_fileLine 111 = .ok (.iconst 1, 1) := by decide +kernel
theorem dX8_fileLine_112 : decode cX8_fileLine 112 = .ok (.sipush 300, 3) := by decide +kernel
theorem dX8_fileLine_115 : decode cX8_fileLine 115 = .ok (.invokevirtual 370, 3) := by decide +kernel
theorem dX8_fileLine_118 : decode cX8_fileLine 118 = .ok (.istore_n 3, 1) := by decide +kernel
theorem dX8_fileLine_119 : decode cX8_fileLine 119 = .ok (.aload_n 0, 1) := by decide +kernel
theorem dX8_fileLine_120 : decode cX8_fileLine 120 = .ok (.iconst 0, 1) := by decide +kernel
theorem dX8_fileLine_121 : decode cX8_fileLine 121 = .ok (.aload_n 0, 1) := by decide +kernel
theorem dX8_fileLine_122 : decode cX8_fileLine 122 = .ok (.getfield 13, 3) := by decide +kernel
theorem dX8_fileLine_125 : decode cX8_fileLine 125 = .ok (.bipush 7, 2) := by decide +kernel
theorem dX8_fileLine_127 : decode cX8_fileLine 127 = .ok (.iaload, 1) := by decide +kernel
theorem dX8_fileLine_128 : decode cX8_fileLine 128 = .ok (.iconst 1, 1) := by decide +kernel
theorem dX8_fileLine_129 : decode cX8_fileLine 129 = .ok (.isub, 1) := by decide +kernel
theorem dX8_fileLine_130 : decode cX8_fileLine 130 = .ok (.invokevirtual 361, 3) := by decide +kernel
theorem dX8_fileLine_133 : decode cX8_fileLine 133 = .ok (.istore 4, 2) := by decide +kernel
theorem dX8_fileLine_135 : decode cX8_fileLine 135 = .ok (.aload_n 0, 1) := by decide +kernel
theorem dX8_fileLine_136 : decode cX8_fileLine 136 = .ok (.aload_n 0, 1) := by decide +kernel
theorem dX8_fileLine_137 : decode cX8_fileLine 137 = .ok (.invokevirtual 333, 3) := by decide +kernel
theorem dX8_fileLine_140 : decode cX8_fileLine 140 = .ok (.ifCond .eq 20, 3) := by decide +kernel
theorem dX8_fileLine_143 : decode cX8_fileLine 143 = .ok (.aload_n 0, 1) := by decide +kernel
theorem dX8_fileLine_144 : decode cX8_fileLine 144 = .ok (.getfield 13, 3) := by decide +kernel
theorem dX8_fileLine_147 : decode cX8_fileLine 147 = .ok (.iload 4, 2) := by decide +kernel
theorem dX8_fileLine_149 : decode cX8_fileLine 149 = .ok (.iload_n 3, 1) := by decide +kernel
theorem dX8_fileLine_150 : decode cX8_fileLine 150 = .ok (.invokestatic 225, 3) := by decide +kernel
theorem dX8_fileLine_153 : decode cX8_fileLine 153 = .ok (.ifCond .eq 7, 3) := by decide +kernel
theorem dX8_fileLine_156 : decode cX8_fileLine 156 = .ok (.iconst 1, 1) := by decide +kernel
theorem dX8_fileLine_157 : decode cX8_fileLine 157 = .ok (.goto 4, 3) := by decide +kernel
theorem dX8_fileLine_160 : decode cX8_fileLine 160 = .ok (.iconst 0, 1) := by decide +kernel
theorem dX8_fileLine_161 : decode cX8_fileLine 161 = .ok (.bipush 6, 2) := by decide +kernel
theorem dX8_fileLine_163 : decode cX8_fileLine 163 = .ok (.invokevirtual 357, 3) := by decide +kernel
theorem dX8_fileLine_166 : decode cX8_fileLine 166 = .ok (.aload_n 0, 1) := by decide +kernel
theorem dX8_fileLine_167 : decode cX8_fileLine 167 = .ok (.invokevirtual 333, 3) := by decide +kernel
theorem dX8_fileLine_170 : decode cX8_fileLine 170 = .ok (.ifCond .eq 46, 3) := by decide +kernel
theorem dX8_fileLine_173 : decode cX8_fileLine 173 = .ok (.aload_n 0, 1) := by decide +kernel
theorem dX8_fileLine_174 : decode cX8_fileLine 174 = .ok (.getfield 38, 3) := by decide +kernel
theorem dX8_fileLine_177 : decode cX8_fileLine 177 = .ok (.aload_n 0, 1) := by decide +kernel
theorem dX8_fileLine_178 : decode cX8_fileLine 178 = .ok (.getfield 13, 3) := by decide +kernel
theorem dX8_fileLine_181 : decode cX8_fileLine 181 = .ok (.bipush 9, 2) := by decide +kernel
theorem dX8_fileLine_183 : decode cX8_fileLine 183 = .ok (.iaload, 1) := by decide +kernel
theorem dX8_fileLine_184 : decode cX8_fileLine 184 = .ok (.lload_n 1, 1) := by decide +kernel
theorem dX8_fileLine_185 : decode cX8_fileLine 185 = .ok (.lastore, 1) := by decide +kernel
theorem dX8_fileLine_186 : decode cX8_fileLine 186 = .ok (.aload_n 0, 1) := by decide +kernel
theorem dX8_fileLine_187 : decode cX8_fileLine 187 = .ok (.getfield 13, 3) := by decide +kernel
theorem dX8_fileLine_190 : decode cX8_fileLine 190 = .ok (.bipush 9, 2) := by decide +kernel
theorem dX8_fileLine_192 : decode cX8_fileLine 192 = .ok (.dup2, 1) := by decide +kernel
theorem dX8_fileLine_193 : decode cX8_fileLine 193 = .ok (.iaload, 1) := by decide +kernel
theorem dX8_fileLine_194 : decode cX8_fileLine 194 = .ok (.iconst 1, 1) := by decide +kernel
theorem dX8_fileLine_195 : decode cX8_fileLine 195 = .ok (.iadd, 1) := by decide +kernel
theorem dX8_fileLine_196 : decode cX8_fileLine 196 = .ok (.iastore, 1) := by decide +kernel
theorem dX8_fileLine_197 : decode cX8_fileLine 197 = .ok (.aload_n 0, 1) := by decide +kernel
theorem dX8_fileLine_198 : decode cX8_fileLine 198 = .ok (.getfield 13, 3) := by decide +kernel
theorem dX8_fileLine_201 : decode cX8_fileLine 201 = .ok (.aload_n 0, 1) := by decide +kernel
theorem dX8_fileLine_202 : decode cX8_fileLine 202 = .ok (.getfield 13, 3) := by decide +kernel
theorem dX8_fileLine_205 : decode cX8_fileLine 205 = .ok (.bipush 9, 2) := by decide +kernel
theorem dX8_fileLine_207 : decode cX8_fileLine 207 = .ok (.iaload, 1) := by decide +kernel
theorem dX8_fileLine_208 : decode cX8_fileLine 208 = .ok (.iconst 1, 1) := by decide +kernel
theorem dX8_fileLine_209 : decode cX8_fileLine 209 = .ok (.isub, 1) := by decide +kernel
theorem dX8_fileLine_210 : decode cX8_fileLine 210 = .ok (.iload 4, 2) := by decide +kernel
theorem dX8_fileLine_212 : decode cX8_fileLine 212 = .ok (.iload_n 3, 1) := by decide +kernel
theorem dX8_fileLine_213 : decode cX8_fileLine 213 = .ok (.invokestatic 244, 3) := by decide +kernel
theorem dX8_fileLine_216 : decode cX8_fileLine 216 = .ok (.aload_n 0, 1) := by decide +kernel
theorem dX8_fileLine_217 : decode cX8_fileLine 217 = .ok (.invokevirtual 364, 3) := by decide +kernel
theorem dX8_fileLine_220 : decode cX8_fileLine 220 = .ok (.return_, 1) := by decide +kernel
abbrev rm_X8_platterLine : Room := { frames := 5, cells := 0, slots := 0, locals := 111 }
set_option maxRecDepth 100000 in
set_option maxHeartbeats 4000000 in
theorem ct_X8_platterLine (l : Launch) (g : GT) (hfl : 2 ≤ gf g) (w : WT) (md : SD) (mn : Nat → Int64) (mw : Int64) {q : (SD × Int64)} (hf : f_X8_platterLine md mw  = some q) : Met l yX8_platterLine wsX8_platterLine rm_X8_platterLine (cPre g (wM w md mn mw) [.ref (adr (g.1 + 189) 8 0)]) (cQv g (wM w q.1 mn q.2)) 0 0 (gA g) := by
  have i_8 : ∀ w ∈ u_ws RX8 TX8 27, w ∈ wsX8_platterLine := by decide +kernel
  refine x_met (by decide) rfl (Nat.le_of_ble_eq_true rfl) ?_
  intro p e s m below meth c hx hb hr hml hts hown hlocks hK hW hS ls hl
  have hown : s.vm.findClass RX8 = some m.cls := hown
  have hl : lv_has ls 5 [(0, .ref (adr (g.1 + 189) 8 0))] := hl
  rw [f_X8_platterLine] at hf
  refine lv_aload_n hx hb dX8_platterLine_0 rfl (lv_at hl 0 rfl) ?_
  refine lv_aload_n hx hb dX8_platterLine_1 rfl (lv_at hl 0 rfl) ?_
  refine x_get (i := (g.1 + 189)) (k := 8) (j := 0) (t := 2) hx hb hts i_8 hown hK hW ⟨⟨hfl, rfl⟩, by decide⟩ rfl ⟨by decide, by decide, rfl⟩ (hts (.fieldLink RX8 13 "OpticalJukeboxModel" "read" "[I") (by decide +kernel)) (v := .ref (adr (g.1 + 189) 31 0)) rfl dX8_platterLine_2 ?_
  refine lv_bipush (v := 7) hx hb dX8_platterLine_5 (by decide) ?_
  refine x_iald (i := (g.1 + 189)) (k := 31) (j := 0) (f := md 31 0) hx hb hK hW ⟨⟨hfl, rfl⟩, by decide⟩ (by decide) (rfl) rfl (by unfold vp_in; decide) dX8_platterLine_7 ?_
  refine W.eq (g2 := F0 m 8 ls [.int (md 31 0 7), .ref (adr (g.1 + 189) 8 0)]) rfl ?_
  refine lv_bipush (v := 10) hx hb dX8_platterLine_8 (by decide) ?_
  obtain ⟨K1, eK1, hf⟩ := x_letE hf
  have KK1 : ∀ (y2 : Int32) (ls : Array Slot) (H : Heap) (locs : List Loc), lv_has ls 5 [(0, .ref (adr (g.1 + 189) 8 0))] → World g (wM w md mn mw) H → va_S (gA g) s.heap H locs → K1 y2 = some q → W p l e rm_X8_platterLine s m [.ref (adr (g.1 + 189) 8 0)].toArray below meth c H locs 0 0 (MQ below (cQv g (wM w q.1 mn q.2)) [.ref (adr (g.1 + 189) 8 0)].toArray s 0 0 (gA g)) (F0 m 18 ls [.int y2, .ref (adr (g.1 + 189) 8 0)]) := by
    intro y2 ls H locs hl hW hS hf
    subst eK1
    refine lv_iconst (v := 5) hx hb dX8_platterLine_18 (by decide) ?_
    obtain ⟨q3, h_q3, hf⟩ := x_bindE hf
    refine x_cv0 (x_rV ⟨hx, hb, hml, hown, hts⟩ (ct_X8_must l g hfl w md mn mw (y2) ((5 : Int32)) h_q3) (cwV 2 hts gX8_platterLine_X8_must rfl rfl rfl (by decide +kernel) ⟨Nat.le_of_ble_eq_true rfl, Nat.le_of_ble_eq_true rfl⟩) hK hW hS (x_recv (i := (g.1 + 189)) (k := 8) (j := 0) hK hW ⟨⟨hfl, rfl⟩, by decide⟩ rfl (by decide)) rfl hl.1 (rest := []) rfl (Nat.le_of_ble_eq_true rfl) dX8_platterLine_19 ⟨Nat.le_of_ble_eq_true rfl, Nat.le_of_ble_eq_true rfl⟩) hS (fun H locs hW hS => ?_)
    have hW : World g (wM w q3 mn mw) H := hW
    refine lv_aload_n hx hb dX8_platterLine_22 rfl (lv_at hl 0 rfl) ?_
    obtain ⟨q4, h_q4, hf⟩ := x_bindE hf
    refine x_cv0 (x_rV ⟨hx, hb, hml, hown, hts⟩ (ct_X8_goesOn l g hfl w q3 mn mw  h_q4) (cwV 0 hts gX8_platterLine_X8_goesOn rfl rfl rfl (by decide +kernel) ⟨Nat.le_of_ble_eq_true rfl, Nat.le_of_ble_eq_true rfl⟩) hK hW hS (x_recv (i := (g.1 + 189)) (k := 8) (j := 0) hK hW ⟨⟨hfl, rfl⟩, by decide⟩ rfl (by decide)) rfl hl.1 (rest := []) rfl (Nat.le_of_ble_eq_true rfl) dX8_platterLine_23 ⟨Nat.le_of_ble_eq_true rfl, Nat.le_of_ble_eq_true rfl⟩) hS (fun H locs hW hS => ?_)
    have hW : World g (wM w q4.1 mn q4.2) H := hW
    refine lv_aload_n hx hb dX8_platterLine_26 rfl (lv_at hl 0 rfl) ?_
    refine lv_iconst (v := 0) hx hb dX8_platterLine_27 (by decide) ?_
    refine lv_aload_n hx hb dX8_platterLine_28 rfl (lv_at hl 0 rfl) ?_
    refine x_get (i := (g.1 + 189)) (k := 8) (j := 0) (t := 2) hx hb hts i_8 hown hK hW ⟨⟨hfl, rfl⟩, by decide⟩ rfl ⟨by decide, by decide, rfl⟩ (hts (.fieldLink RX8 13 "OpticalJukeboxModel" "read" "[I") (by decide +kernel)) (v := .ref (adr (g.1 + 189) 31 0)) rfl dX8_platterLine_29 ?_
    refine lv_iconst (v := 0) hx hb dX8_platterLine_32 (by decide) ?_
    refine x_iald (i := (g.1 + 189)) (k := 31) (j := 0) (f := q4.1 31 0) hx hb hK hW ⟨⟨hfl, rfl⟩, by decide⟩ (by decide) (rfl) rfl (by unfold vp_in; decide) dX8_platterLine_33 ?_
    refine W.eq (g2 := F0 m 34 ls [.int (q4.1 31 0 0), .int (0 : Int32), .ref (adr (g.1 + 189) 8 0)]) rfl ?_
    refine lv_iconst (v := 1) hx hb dX8_platterLine_34 (by decide) ?_
    refine lv_isub hx hb dX8_platterLine_35 ?_
    obtain ⟨q5, h_q5, hf⟩ := x_bindE hf
    refine x_ci0 (x_rV ⟨hx, hb, hml, hown, hts⟩ (ct_X8_sees l g hfl w q4.1 mn q4.2 ((0 : Int32)) (((q4.1 31 0 0) - (1 : Int32))) h_q5) (cwV 2 hts gX8_platterLine_X8_sees rfl rfl rfl (by decide +kernel) ⟨Nat.le_of_ble_eq_true rfl, Nat.le_of_ble_eq_true rfl⟩) hK hW hS (x_recv (i := (g.1 + 189)) (k := 8) (j := 0) hK hW ⟨⟨hfl, rfl⟩, by decide⟩ rfl (by decide)) rfl hl.1 (rest := []) rfl (Nat.le_of_ble_eq_true rfl) dX8_platterLine_36 ⟨Nat.le_of_ble_eq_true rfl, Nat.le_of_ble_eq_true rfl⟩) hS (fun H locs hW hS => ?_)
    have hW : World g (wM w q5.2 mn q4.2) H := hW
    refine W.eq (g2 := F0 m 39 ls [.int q5.1]) rfl ?_
    obtain ⟨x6, e_x6, hf⟩ := x_letE hf
    refine x_topi e_x6 ?_
    refine lv_istore_n (lv' := [(1, .int x6), (0, .ref (adr (g.1 + 189) 8 0))]) hx hb dX8_platterLine_39 rfl hl (by decide) rfl (fun ls hl => ?_)
    refine lv_aload_n hx hb dX8_platterLine_40 rfl (lv_at hl 1 rfl) ?_
    refine lv_aload_n hx hb dX8_platterLine_41 rfl (lv_at hl 1 rfl) ?_
    refine x_get (i := (g.1 + 189)) (k := 8) (j := 0) (t := 2) hx hb hts i_8 hown hK hW ⟨⟨hfl, rfl⟩, by decide⟩ rfl ⟨by decide, by decide, rfl⟩ (hts (.fieldLink RX8 13 "OpticalJukeboxModel" "read" "[I") (by decide +kernel)) (v := .ref (adr (g.1 + 189) 31 0)) rfl dX8_platterLine_42 ?_
    refine lv_iload_n hx hb dX8_platterLine_45 rfl (lv_at hl 0 rfl) ?_
    obtain ⟨q7, h_q7, hf⟩ := x_bindE hf
    refine x_ci0 (x_rS ⟨hx, hb, hml, hown, hts⟩ (ct_X8_homeAt l g hfl w q5.2 mn q4.2 31 isRow_31 (x6) h_q7) (va_cwS 2 hts gX8_platterLine_X8_homeAt rfl rfl rfl (by decide +kernel) ⟨Nat.le_of_ble_eq_true rfl, Nat.le_of_ble_eq_true rfl⟩) hK hW hS rfl hl.1 (rest := [.ref (adr (g.1 + 189) 8 0)]) rfl (Nat.le_of_ble_eq_true rfl) dX8_platterLine_46 ⟨Nat.le_of_ble_eq_true rfl, Nat.le_of_ble_eq_true rfl⟩) hS (fun H locs hW hS => ?_)
    have hW : World g (wM w q5.2 mn q4.2) H := hW
    refine W.eq (g2 := F0 m 49 ls [.int q7, .ref (adr (g.1 + 189) 8 0)]) rfl ?_
    refine lv_iconst (v := -1) hx hb dX8_platterLine_49 (by decide) ?_
    obtain ⟨K8, eK8, hf⟩ := x_letE hf
    have KK8 : ∀ (y9 : Int32) (ls : Array Slot) (H : Heap) (locs : List Loc), lv_has ls 5 [(0, .ref (adr (g.1 + 189) 8 0)), (1, .int x6)] → World g (wM w q5.2 mn q4.2) H → va_S (gA g) s.heap H locs → K8 y9 = some q → W p l e rm_X8_platterLine s m [.ref (adr (g.1 + 189) 8 0)].toArray below meth c H locs 0 0 (MQ below (cQv g (wM w q.1 mn q.2)) [.ref (adr (g.1 + 189) 8 0)].toArray s 0 0 (gA g)) (F0 m 58 ls [.int y9, .ref (adr (g.1 + 189) 8 0)]) := by
      intro y9 ls H locs hl hW hS hf
      subst eK8
      refine lv_iconst (v := 4) hx hb dX8_platterLine_58 (by decide) ?_
      obtain ⟨q10, h_q10, hf⟩ := x_bindE hf
      refine x_cv0 (x_rV ⟨hx, hb, hml, hown, hts⟩ (ct_X8_must l g hfl w q5.2 mn q4.2 (y9) ((4 : Int32)) h_q10) (cwV 2 hts gX8_platterLine_X8_must rfl rfl rfl (by decide +kernel) ⟨Nat.le_of_ble_eq_true rfl, Nat.le_of_ble_eq_true rfl⟩) hK hW hS (x_recv (i := (g.1 + 189)) (k := 8) (j := 0) hK hW ⟨⟨hfl, rfl⟩, by decide⟩ rfl (by decide)) rfl hl.1 (rest := []) rfl (Nat.le_of_ble_eq_true rfl) dX8_platterLine_59 ⟨Nat.le_of_ble_eq_true rfl, Nat.le_of_ble_eq_true rfl⟩) hS (fun H locs hW hS => ?_)
      have hW : World g (wM w q10 mn q4.2) H := hW
      refine lv_aload_n hx hb dX8_platterLine_62 rfl (lv_at hl 0 rfl) ?_
      obtain ⟨q11, h_q11, hf⟩ := x_bindE hf
      refine x_cv0 (x_rV ⟨hx, hb, hml, hown, hts⟩ (ct_X8_goesOn l g hfl w q10 mn q4.2  h_q11) (cwV 0 hts gX8_platterLine_X8_goesOn rfl rfl rfl (by decide +kernel) ⟨Nat.le_of_ble_eq_true rfl, Nat.le_of_ble_eq_true rfl⟩) hK hW hS (x_recv (i := (g.1 + 189)) (k := 8) (j := 0) hK hW ⟨⟨hfl, rfl⟩, by decide⟩ rfl (by decide)) rfl hl.1 (rest := []) rfl (Nat.le_of_ble_eq_true rfl) dX8_platterLine_63 ⟨Nat.le_of_ble_eq_true rfl, Nat.le_of_ble_eq_true rfl⟩) hS (fun H locs hW hS => ?_)
      have hW : World g (wM w q11.1 mn q11.2) H := hW
      refine lv_aload_n hx hb dX8_platterLine_66 rfl (lv_at hl 0 rfl) ?_
      refine lv_bipush (v := 10) hx hb dX8_platterLine_67 (by decide) ?_
      refine lv_sipush (v := 300) hx hb dX8_platterLine_69 (by decide) ?_
      obtain ⟨q12, h_q12, hf⟩ := x_bindE hf
      refine x_ci0 (x_rV ⟨hx, hb, hml, hown, hts⟩ (ct_X8_takes l g hfl w q11.1 mn q11.2 ((10 : Int32)) ((300 : Int32)) h_q12) (cwV 2 hts gX8_platterLine_X8_takes rfl rfl rfl (by decide +kernel) ⟨Nat.le_of_ble_eq_true rfl, Nat.le_of_ble_eq_true rfl⟩) hK hW hS (x_recv (i := (g.1 + 189)) (k := 8) (j := 0) hK hW ⟨⟨hfl, rfl⟩, by decide⟩ rfl (by decide)) rfl hl.1 (rest := []) rfl (Nat.le_of_ble_eq_true rfl) dX8_platterLine_72 ⟨Nat.le_of_ble_eq_true rfl, Nat.le_of_ble_eq_true rfl⟩) hS (fun H locs hW hS => ?_)
      have hW : World g (wM w q12.2.1 mn q12.2.2) H := hW
      refine W.eq (g2 := F0 m 75 ls [.int q12.1]) rfl ?_
      obtain ⟨x13, e_x13, hf⟩ := x_letE hf
      refine x_topi e_x13 ?_
      refine lv_istore_n (lv' := [(2, .int x13), (0, .ref (adr (g.1 + 189) 8 0)), (1, .int x6)]) hx hb dX8_platterLine_75 rfl hl (by decide) rfl (fun ls hl => ?_)
      refine lv_aload_n hx hb dX8_platterLine_76 rfl (lv_at hl 1 rfl) ?_
      refine lv_iconst (v := 0) hx hb dX8_platterLine_77 (by decide) ?_
      refine lv_bipush (v := 9) hx hb dX8_platterLine_78 (by decide) ?_
      obtain ⟨q14, h_q14, hf⟩ := x_bindE hf
      refine x_ci0 (x_rV ⟨hx, hb, hml, hown, hts⟩ (ct_X8_takes l g hfl w q12.2.1 mn q12.2.2 ((0 : Int32)) ((9 : Int32)) h_q14) (cwV 2 hts gX8_platterLine_X8_takes rfl rfl rfl (by decide +kernel) ⟨Nat.le_of_ble_eq_true rfl, Nat.le_of_ble_eq_true rfl⟩) hK hW hS (x_recv (i := (g.1 + 189)) (k := 8) (j := 0) hK hW ⟨⟨hfl, rfl⟩, by decide⟩ rfl (by decide)) rfl hl.1 (rest := []) rfl (Nat.le_of_ble_eq_true rfl) dX8_platterLine_80 ⟨Nat.le_of_ble_eq_true rfl, Nat.le_of_ble_eq_true rfl⟩) hS (fun H locs hW hS => ?_)
      have hW : World g (wM w q14.2.1 mn q14.2.2) H := hW
      refine W.eq (g2 := F0 m 83 ls [.int q14.1]) rfl ?_
      obtain ⟨x15, e_x15, hf⟩ := x_letE hf
      refine x_topi e_x15 ?_
      refine lv_istore_n (lv' := [(3, .int x15), (2, .int x13), (0, .ref (adr (g.1 + 189) 8 0)), (1, .int x6)]) hx hb dX8_platterLine_83 rfl hl (by decide) rfl (fun ls hl => ?_)
      refine lv_aload_n hx hb dX8_platterLine_84 rfl (lv_at hl 2 rfl) ?_
      obtain ⟨q16, h_q16, hf⟩ := x_bindE hf
      refine x_ci0 (x_rV ⟨hx, hb, hml, hown, hts⟩ (ct_X8_good l g hfl w q14.2.1 mn q14.2.2  h_q16) (cwV 0 hts gX8_platterLine_X8_good rfl rfl rfl (by decide +kernel) ⟨Nat.le_of_ble_eq_true rfl, Nat.le_of_ble_eq_true rfl⟩) hK hW hS (x_recv (i := (g.1 + 189)) (k := 8) (j := 0) hK hW ⟨⟨hfl, rfl⟩, by decide⟩ rfl (by decide)) rfl hl.1 (rest := []) rfl (Nat.le_of_ble_eq_true rfl) dX8_platterLine_85 ⟨Nat.le_of_ble_eq_true rfl, Nat.le_of_ble_eq_true rfl⟩) hS (fun H locs hW hS => ?_)
      have hW : World g (wM w q14.2.1 mn q14.2.2) H := hW
      refine W.eq (g2 := F0 m 88 ls [.int q16]) rfl ?_
      refine lv_if_ne (tgt := 92) hx hb dX8_platterLine_88 (by decide) (fun hc => ?_) (fun hc => ?_)
      · have hf := x_iteF hf hc
        refine lv_aload_n hx hb dX8_platterLine_92 rfl (lv_at hl 2 rfl) ?_
        refine x_get (i := (g.1 + 189)) (k := 8) (j := 0) (t := 2) hx hb hts i_8 hown hK hW ⟨⟨hfl, rfl⟩, by decide⟩ rfl ⟨by decide, by decide, rfl⟩ (hts (.fieldLink RX8 13 "OpticalJukeboxModel" "read" "[I") (by decide +kernel)) (v := .ref (adr (g.1 + 189) 31 0)) rfl dX8_platterLine_93 ?_
        refine lv_bipush (v := 7) hx hb dX8_platterLine_96 (by decide) ?_
        refine x_iald (i := (g.1 + 189)) (k := 31) (j := 0) (f := q14.2.1 31 0) hx hb hK hW ⟨⟨hfl, rfl⟩, by decide⟩ (by decide) (rfl) rfl (by unfold vp_in; decide) dX8_platterLine_98 ?_
        refine W.eq (g2 := F0 m 99 ls [.int (q14.2.1 31 0 7)]) rfl ?_
        obtain ⟨x17, e_x17, hf⟩ := x_letE hf
        refine x_topi e_x17 ?_
        refine lv_istore (lv' := [(4, .int x17), (3, .int x15), (2, .int x13), (0, .ref (adr (g.1 + 189) 8 0)), (1, .int x6)]) hx hb dX8_platterLine_99 hl (by decide) rfl (fun ls hl => ?_)
        refine lv_aload_n hx hb dX8_platterLine_101 rfl (lv_at hl 3 rfl) ?_
        refine x_get (i := (g.1 + 189)) (k := 8) (j := 0) (t := 2) hx hb hts i_8 hown hK hW ⟨⟨hfl, rfl⟩, by decide⟩ rfl ⟨by decide, by decide, rfl⟩ (hts (.fieldLink RX8 13 "OpticalJukeboxModel" "read" "[I") (by decide +kernel)) (v := .ref (adr (g.1 + 189) 31 0)) rfl dX8_platterLine_102 ?_
        refine lv_bipush (v := 7) hx hb dX8_platterLine_105 (by decide) ?_
        refine lv_dup2_11 hx hb dX8_platterLine_107 rfl rfl ?_
        refine x_iald (i := (g.1 + 189)) (k := 31) (j := 0) (f := q14.2.1 31 0) hx hb hK hW ⟨⟨hfl, rfl⟩, by decide⟩ (by decide) (rfl) rfl (by unfold vp_in; decide) dX8_platterLine_108 ?_
        refine W.eq (g2 := F0 m 109 ls [.int (q14.2.1 31 0 7), .int (7 : Int32), .ref (adr (g.1 + 189) 31 0)]) rfl ?_
        refine lv_iconst (v := 1) hx hb dX8_platterLine_109 (by decide) ?_
        refine lv_iadd hx hb dX8_platterLine_110 ?_
        obtain ⟨md18, e_md18, hf⟩ := x_letE hf
        refine x_iast (i := (g.1 + 189)) (k := 31) (j := 0) (w' := wM w md18 mn q14.2.2) hx hb hK hW ⟨⟨hfl, rfl⟩, by decide⟩ hS (by decide) rfl rfl rfl (by unfold vp_in; decide) dX8_platterLine_111 (fp_M e_md18 rfl) (fun H locs hW hS => ?_)
        refine lv_aload_n hx hb dX8_platterLine_112 rfl (lv_at hl 3 rfl) ?_
        refine x_get (i := (g.1 + 189)) (k := 8) (j := 0) (t := 2) hx hb hts i_8 hown hK hW ⟨⟨hfl, rfl⟩, by decide⟩ rfl ⟨by decide, by decide, rfl⟩ (hts (.fieldLink RX8 13 "OpticalJukeboxModel" "read" "[I") (by decide +kernel)) (v := .ref (adr (g.1 + 189) 31 0)) rfl dX8_platterLine_113 ?_
        refine lv_bipush (v := 29) hx hb dX8_platterLine_116 (by decide) ?_
        refine lv_iload hx hb dX8_platterLine_118 (lv_at hl 0 rfl) ?_
        refine lv_iadd hx hb dX8_platterLine_120 ?_
        refine lv_iload_n hx hb dX8_platterLine_121 rfl (lv_at hl 4 rfl) ?_
        obtain ⟨hg19, hf⟩ := x_guardE hf
        obtain ⟨md20, e_md20, hf⟩ := x_letE hf
        refine x_iast (i := (g.1 + 189)) (k := 31) (j := 0) (w' := wM w md20 mn q14.2.2) hx hb hK hW ⟨⟨hfl, rfl⟩, by decide⟩ hS (by decide) rfl rfl rfl hg19 dX8_platterLine_122 (fp_M e_md20 rfl) (fun H locs hW hS => ?_)
        refine lv_aload_n hx hb dX8_platterLine_123 rfl (lv_at hl 3 rfl) ?_
        refine x_get (i := (g.1 + 189)) (k := 8) (j := 0) (t := 2) hx hb hts i_8 hown hK hW ⟨⟨hfl, rfl⟩, by decide⟩ rfl ⟨by decide, by decide, rfl⟩ (hts (.fieldLink RX8 13 "OpticalJukeboxModel" "read" "[I") (by decide +kernel)) (v := .ref (adr (g.1 + 189) 31 0)) rfl dX8_platterLine_124 ?_
        refine lv_bipush (v := 39) hx hb dX8_platterLine_127 (by decide) ?_
        refine lv_iload hx hb dX8_platterLine_129 (lv_at hl 0 rfl) ?_
        refine lv_iadd hx hb dX8_platterLine_131 ?_
        refine lv_iload_n hx hb dX8_platterLine_132 rfl (lv_at hl 2 rfl) ?_
        obtain ⟨hg21, hf⟩ := x_guardE hf
        obtain ⟨md22, e_md22, hf⟩ := x_letE hf
        refine x_iast (i := (g.1 + 189)) (k := 31) (j := 0) (w' := wM w md22 mn q14.2.2) hx hb hK hW ⟨⟨hfl, rfl⟩, by decide⟩ hS (by decide) rfl rfl rfl hg21 dX8_platterLine_133 (fp_M e_md22 rfl) (fun H locs hW hS => ?_)
        refine lv_aload_n hx hb dX8_platterLine_134 rfl (lv_at hl 3 rfl) ?_
        refine x_get (i := (g.1 + 189)) (k := 8) (j := 0) (t := 2) hx hb hts i_8 hown hK hW ⟨⟨hfl, rfl⟩, by decide⟩ rfl ⟨by decide, by decide, rfl⟩ (hts (.fieldLink RX8 13 "OpticalJukeboxModel" "read" "[I") (by decide +kernel)) (v := .ref (adr (g.1 + 189) 31 0)) rfl dX8_platterLine_135 ?_
        refine lv_bipush (v := 49) hx hb dX8_platterLine_138 (by decide) ?_
        refine lv_iload hx hb dX8_platterLine_140 (lv_at hl 0 rfl) ?_
        refine lv_iadd hx hb dX8_platterLine_142 ?_
        refine lv_iload_n hx hb dX8_platterLine_143 rfl (lv_at hl 1 rfl) ?_
        obtain ⟨hg23, hf⟩ := x_guardE hf
        obtain ⟨md24, e_md24, hf⟩ := x_letE hf
        refine x_iast (i := (g.1 + 189)) (k := 31) (j := 0) (w' := wM w md24 mn q14.2.2) hx hb hK hW ⟨⟨hfl, rfl⟩, by decide⟩ hS (by decide) rfl rfl rfl hg23 dX8_platterLine_144 (fp_M e_md24 rfl) (fun H locs hW hS => ?_)
        cases hf
        exact x_vret hx hb hr hlocks hK hW hS dX8_platterLine_145
      · have hf := x_iteT hf hc
        cases hf
        exact x_vret hx hb hr hlocks hK hW hS dX8_platterLine_91
    clear eK8
    refine lv_icmp_ne (tgt := 57) hx hb dX8_platterLine_50 (by decide) (fun hc => ?_) (fun hc => ?_)
    · have hf := x_iteF hf hc
      refine lv_iconst (v := 0) hx hb dX8_platterLine_57 (by decide) ?_
      exact KK8 ((0 : Int32)) ls _ _ (lv_sub hl [1, 0] rfl) hW hS hf
    · have hf := x_iteT hf hc
      refine lv_iconst (v := 1) hx hb dX8_platterLine_53 (by decide) ?_
      refine lv_goto (tgt := 58) hx hb dX8_platterLine_54 (by decide) ?_
      exact KK8 ((1 : Int32)) ls _ _ (lv_sub hl [1, 0] rfl) hW hS hf
  clear eK1
  refine lv_icmp_ge (tgt := 17) hx hb dX8_platterLine_10 (by decide) (fun hc => ?_) (fun hc => ?_)
  · have hf := x_iteT hf hc
    refine lv_iconst (v := 0) hx hb dX8_platterLine_17 (by decide) ?_
    exact KK1 ((0 : Int32)) ls _ _ hl hW hS hf
  · have hf := x_iteF hf hc
    refine lv_iconst (v := 1) hx hb dX8_platterLine_13 (by decide) ?_
    refine lv_goto (tgt := 18) hx hb dX8_platterLine_14 (by decide) ?_
    exact KK1 ((1 : Int32)) ls _ _ hl hW hS hf
abbrev rm_X8_badLine : Room := { frames := 5, cells := 0, slots := 0, locals := 111 }
set_option maxRecDepth 100000 in
set_option maxHeartbeats 4000000 in
theorem ct_X8_badLine (l : Launch) (g : GT) (hfl : 2 ≤ gf g) (w : WT) (md : SD) (mn : Nat → Int64) (mw : Int64) {q : (SD × Int64)} (hf : f_X8_badLine md mw  = some q) : Met l yX8_badLine wsX8_badLine rm_X8_badLine (cPre g (wM w md mn mw) [.ref (adr (g.1 + 189) 8 0)]) (cQv g (wM w q.1 mn q.2)) 0 0 (gA g) := by
  have i_8 : ∀ w ∈ u_ws RX8 TX8 27, w ∈ wsX8_badLine := by decide +kernel
  refine x_met (by decide) rfl (Nat.le_of_ble_eq_true rfl) ?_
  intro p e s m below meth c hx hb hr hml hts hown hlocks hK hW hS ls hl
  have hown : s.vm.findClass RX8 = some m.cls := hown
  have hl : lv_has ls 3 [(0, .ref (adr (g.1 + 189) 8 0))] := hl
  rw [f_X8_badLine] at hf
  refine lv_aload_n hx hb dX8_badLine_0 rfl (lv_at hl 0 rfl) ?_
  refine lv_aload_n hx hb dX8_badLine_1 rfl (lv_at hl 0 rfl) ?_
  refine x_get (i := (g.1 + 189)) (k := 8) (j := 0) (t := 2) hx hb hts i_8 hown hK hW ⟨⟨hfl, rfl⟩, by decide⟩ rfl ⟨by decide, by decide, rfl⟩ (hts (.fieldLink RX8 13 "OpticalJukeboxModel" "read" "[I") (by decide +kernel)) (v := .ref (adr (g.1 + 189) 31 0)) rfl dX8_badLine_2 ?_
  refine lv_bipush (v := 8) hx hb dX8_badLine_5 (by decide) ?_
  refine x_iald (i := (g.1 + 189)) (k := 31) (j := 0) (f := md 31 0) hx hb hK hW ⟨⟨hfl, rfl⟩, by decide⟩ (by decide) (rfl) rfl (by unfold vp_in; decide) dX8_badLine_7 ?_
  refine W.eq (g2 := F0 m 8 ls [.int (md 31 0 8), .ref (adr (g.1 + 189) 8 0)]) rfl ?_
  refine lv_bipush (v := 20) hx hb dX8_badLine_8 (by decide) ?_
  obtain ⟨K1, eK1, hf⟩ := x_letE hf
  have KK1 : ∀ (y2 : Int32) (ls : Array Slot) (H : Heap) (locs : List Loc), lv_has ls 3 [(0, .ref (adr (g.1 + 189) 8 0))] → World g (wM w md mn mw) H → va_S (gA g) s.heap H locs → K1 y2 = some q → W p l e rm_X8_badLine s m [.ref (adr (g.1 + 189) 8 0)].toArray below meth c H locs 0 0 (MQ below (cQv g (wM w q.1 mn q.2)) [.ref (adr (g.1 + 189) 8 0)].toArray s 0 0 (gA g)) (F0 m 18 ls [.int y2, .ref (adr (g.1 + 189) 8 0)]) := by
    intro y2 ls H locs hl hW hS hf
    subst eK1
    refine lv_iconst (v := 5) hx hb dX8_badLine_18 (by decide) ?_
    obtain ⟨q3, h_q3, hf⟩ := x_bindE hf
    refine x_cv0 (x_rV ⟨hx, hb, hml, hown, hts⟩ (ct_X8_must l g hfl w md mn mw (y2) ((5 : Int32)) h_q3) (cwV 2 hts gX8_badLine_X8_must rfl rfl rfl (by decide +kernel) ⟨Nat.le_of_ble_eq_true rfl, Nat.le_of_ble_eq_true rfl⟩) hK hW hS (x_recv (i := (g.1 + 189)) (k := 8) (j := 0) hK hW ⟨⟨hfl, rfl⟩, by decide⟩ rfl (by decide)) rfl hl.1 (rest := []) rfl (Nat.le_of_ble_eq_true rfl) dX8_badLine_19 ⟨Nat.le_of_ble_eq_true rfl, Nat.le_of_ble_eq_true rfl⟩) hS (fun H locs hW hS => ?_)
    have hW : World g (wM w q3 mn mw) H := hW
    refine lv_aload_n hx hb dX8_badLine_22 rfl (lv_at hl 0 rfl) ?_
    obtain ⟨q4, h_q4, hf⟩ := x_bindE hf
    refine x_cv0 (x_rV ⟨hx, hb, hml, hown, hts⟩ (ct_X8_goesOn l g hfl w q3 mn mw  h_q4) (cwV 0 hts gX8_badLine_X8_goesOn rfl rfl rfl (by decide +kernel) ⟨Nat.le_of_ble_eq_true rfl, Nat.le_of_ble_eq_true rfl⟩) hK hW hS (x_recv (i := (g.1 + 189)) (k := 8) (j := 0) hK hW ⟨⟨hfl, rfl⟩, by decide⟩ rfl (by decide)) rfl hl.1 (rest := []) rfl (Nat.le_of_ble_eq_true rfl) dX8_badLine_23 ⟨Nat.le_of_ble_eq_true rfl, Nat.le_of_ble_eq_true rfl⟩) hS (fun H locs hW hS => ?_)
    have hW : World g (wM w q4.1 mn q4.2) H := hW
    refine lv_aload_n hx hb dX8_badLine_26 rfl (lv_at hl 0 rfl) ?_
    refine lv_iconst (v := 0) hx hb dX8_badLine_27 (by decide) ?_
    refine lv_aload_n hx hb dX8_badLine_28 rfl (lv_at hl 0 rfl) ?_
    refine x_get (i := (g.1 + 189)) (k := 8) (j := 0) (t := 2) hx hb hts i_8 hown hK hW ⟨⟨hfl, rfl⟩, by decide⟩ rfl ⟨by decide, by decide, rfl⟩ (hts (.fieldLink RX8 13 "OpticalJukeboxModel" "read" "[I") (by decide +kernel)) (v := .ref (adr (g.1 + 189) 31 0)) rfl dX8_badLine_29 ?_
    refine lv_bipush (v := 7) hx hb dX8_badLine_32 (by decide) ?_
    refine x_iald (i := (g.1 + 189)) (k := 31) (j := 0) (f := q4.1 31 0) hx hb hK hW ⟨⟨hfl, rfl⟩, by decide⟩ (by decide) (rfl) rfl (by unfold vp_in; decide) dX8_badLine_34 ?_
    refine W.eq (g2 := F0 m 35 ls [.int (q4.1 31 0 7), .int (0 : Int32), .ref (adr (g.1 + 189) 8 0)]) rfl ?_
    refine lv_iconst (v := 1) hx hb dX8_badLine_35 (by decide) ?_
    refine lv_isub hx hb dX8_badLine_36 ?_
    obtain ⟨q5, h_q5, hf⟩ := x_bindE hf
    refine x_ci0 (x_rV ⟨hx, hb, hml, hown, hts⟩ (ct_X8_takes l g hfl w q4.1 mn q4.2 ((0 : Int32)) (((q4.1 31 0 7) - (1 : Int32))) h_q5) (cwV 2 hts gX8_badLine_X8_takes rfl rfl rfl (by decide +kernel) ⟨Nat.le_of_ble_eq_true rfl, Nat.le_of_ble_eq_true rfl⟩) hK hW hS (x_recv (i := (g.1 + 189)) (k := 8) (j := 0) hK hW ⟨⟨hfl, rfl⟩, by decide⟩ rfl (by decide)) rfl hl.1 (rest := []) rfl (Nat.le_of_ble_eq_true rfl) dX8_badLine_37 ⟨Nat.le_of_ble_eq_true rfl, Nat.le_of_ble_eq_true rfl⟩) hS (fun H locs hW hS => ?_)
    have hW : World g (wM w q5.2.1 mn q5.2.2) H := hW
    refine W.eq (g2 := F0 m 40 ls [.int q5.1]) rfl ?_
    obtain ⟨x6, e_x6, hf⟩ := x_letE hf
    refine x_topi e_x6 ?_
    refine lv_istore_n (lv' := [(1, .int x6), (0, .ref (adr (g.1 + 189) 8 0))]) hx hb dX8_badLine_40 rfl hl (by decide) rfl (fun ls hl => ?_)
    refine lv_aload_n hx hb dX8_badLine_41 rfl (lv_at hl 1 rfl) ?_
    refine lv_iconst (v := 0) hx hb dX8_badLine_42 (by decide) ?_
    refine lv_aload_n hx hb dX8_badLine_43 rfl (lv_at hl 1 rfl) ?_
    obtain ⟨q7, h_q7, hf⟩ := x_bindE hf
    refine x_ci0 (x_rV ⟨hx, hb, hml, hown, hts⟩ (ct_X8_good l g hfl w q5.2.1 mn q5.2.2  h_q7) (cwV 0 hts gX8_badLine_X8_good rfl rfl rfl (by decide +kernel) ⟨Nat.le_of_ble_eq_true rfl, Nat.le_of_ble_eq_true rfl⟩) hK hW hS (x_recv (i := (g.1 + 189)) (k := 8) (j := 0) hK hW ⟨⟨hfl, rfl⟩, by decide⟩ rfl (by decide)) rfl hl.1 (rest := [.int (0 : Int32), .ref (adr (g.1 + 189) 8 0)]) rfl (Nat.le_of_ble_eq_true rfl) dX8_badLine_44 ⟨Nat.le_of_ble_eq_true rfl, Nat.le_of_ble_eq_true rfl⟩) hS (fun H locs hW hS => ?_)
    have hW : World g (wM w q5.2.1 mn q5.2.2) H := hW
    refine W.eq (g2 := F0 m 47 ls [.int q7, .int (0 : Int32), .ref (adr (g.1 + 189) 8 0)]) rfl ?_
    obtain ⟨K8, eK8, hf⟩ := x_letE hf
    have KK8 : ∀ (y9 : Int32) (ls : Array Slot) (H : Heap) (locs : List Loc), lv_has ls 3 [(0, .ref (adr (g.1 + 189) 8 0)), (1, .int x6)] → World g (wM w q5.2.1 mn q5.2.2) H → va_S (gA g) s.heap H locs → K8 y9 = some q → W p l e rm_X8_badLine s m [.ref (adr (g.1 + 189) 8 0)].toArray below meth c H locs 0 0 (MQ below (cQv g (wM w q.1 mn q.2)) [.ref (adr (g.1 + 189) 8 0)].toArray s 0 0 (gA g)) (F0 m 65 ls [.int y9, .int (0 : Int32), .ref (adr (g.1 + 189) 8 0)]) := by
      intro y9 ls H locs hl hW hS hf
      subst eK8
      obtain ⟨q10, h_q10, hf⟩ := x_bindE hf
      refine x_ci0 (x_rV ⟨hx, hb, hml, hown, hts⟩ (ct_X8_sees l g hfl w q5.2.1 mn q5.2.2 ((0 : Int32)) (y9) h_q10) (cwV 2 hts gX8_badLine_X8_sees rfl rfl rfl (by decide +kernel) ⟨Nat.le_of_ble_eq_true rfl, Nat.le_of_ble_eq_true rfl⟩) hK hW hS (x_recv (i := (g.1 + 189)) (k := 8) (j := 0) hK hW ⟨⟨hfl, rfl⟩, by decide⟩ rfl (by decide)) rfl hl.1 (rest := []) rfl (Nat.le_of_ble_eq_true rfl) dX8_badLine_65 ⟨Nat.le_of_ble_eq_true rfl, Nat.le_of_ble_eq_true rfl⟩) hS (fun H locs hW hS => ?_)
      have hW : World g (wM w q10.2 mn q5.2.2) H := hW
      refine W.eq (g2 := F0 m 68 ls [.int q10.1]) rfl ?_
      obtain ⟨x11, e_x11, hf⟩ := x_letE hf
      refine x_topi e_x11 ?_
      refine lv_istore_n (lv' := [(2, .int x11), (0, .ref (adr (g.1 + 189) 8 0)), (1, .int x6)]) hx hb dX8_badLine_68 rfl hl (by decide) rfl (fun ls hl => ?_)
      refine lv_aload_n hx hb dX8_badLine_69 rfl (lv_at hl 1 rfl) ?_
      refine lv_aload_n hx hb dX8_badLine_70 rfl (lv_at hl 1 rfl) ?_
      obtain ⟨q12, h_q12, hf⟩ := x_bindE hf
      refine x_ci0 (x_rV ⟨hx, hb, hml, hown, hts⟩ (ct_X8_good l g hfl w q10.2 mn q5.2.2  h_q12) (cwV 0 hts gX8_badLine_X8_good rfl rfl rfl (by decide +kernel) ⟨Nat.le_of_ble_eq_true rfl, Nat.le_of_ble_eq_true rfl⟩) hK hW hS (x_recv (i := (g.1 + 189)) (k := 8) (j := 0) hK hW ⟨⟨hfl, rfl⟩, by decide⟩ rfl (by decide)) rfl hl.1 (rest := [.ref (adr (g.1 + 189) 8 0)]) rfl (Nat.le_of_ble_eq_true rfl) dX8_badLine_71 ⟨Nat.le_of_ble_eq_true rfl, Nat.le_of_ble_eq_true rfl⟩) hS (fun H locs hW hS => ?_)
      have hW : World g (wM w q10.2 mn q5.2.2) H := hW
      refine W.eq (g2 := F0 m 74 ls [.int q12, .ref (adr (g.1 + 189) 8 0)]) rfl ?_
      obtain ⟨K13, eK13, hf⟩ := x_letE hf
      have KK13 : ∀ (y14 : Int32) (ls : Array Slot) (H : Heap) (locs : List Loc), lv_has ls 3 [(0, .ref (adr (g.1 + 189) 8 0)), (1, .int x6), (2, .int x11)] → World g (wM w q10.2 mn q5.2.2) H → va_S (gA g) s.heap H locs → K13 y14 = some q → W p l e rm_X8_badLine s m [.ref (adr (g.1 + 189) 8 0)].toArray below meth c H locs 0 0 (MQ below (cQv g (wM w q.1 mn q.2)) [.ref (adr (g.1 + 189) 8 0)].toArray s 0 0 (gA g)) (F0 m 94 ls [.int y14, .ref (adr (g.1 + 189) 8 0)]) := by
        intro y14 ls H locs hl hW hS hf
        subst eK13
        refine lv_iconst (v := 4) hx hb dX8_badLine_94 (by decide) ?_
        obtain ⟨q15, h_q15, hf⟩ := x_bindE hf
        refine x_cv0 (x_rV ⟨hx, hb, hml, hown, hts⟩ (ct_X8_must l g hfl w q10.2 mn q5.2.2 (y14) ((4 : Int32)) h_q15) (cwV 2 hts gX8_badLine_X8_must rfl rfl rfl (by decide +kernel) ⟨Nat.le_of_ble_eq_true rfl, Nat.le_of_ble_eq_true rfl⟩) hK hW hS (x_recv (i := (g.1 + 189)) (k := 8) (j := 0) hK hW ⟨⟨hfl, rfl⟩, by decide⟩ rfl (by decide)) rfl hl.1 (rest := []) rfl (Nat.le_of_ble_eq_true rfl) dX8_badLine_95 ⟨Nat.le_of_ble_eq_true rfl, Nat.le_of_ble_eq_true rfl⟩) hS (fun H locs hW hS => ?_)
        have hW : World g (wM w q15 mn q5.2.2) H := hW
        refine lv_aload_n hx hb dX8_badLine_98 rfl (lv_at hl 0 rfl) ?_
        obtain ⟨q16, h_q16, hf⟩ := x_bindE hf
        refine x_ci0 (x_rV ⟨hx, hb, hml, hown, hts⟩ (ct_X8_good l g hfl w q15 mn q5.2.2  h_q16) (cwV 0 hts gX8_badLine_X8_good rfl rfl rfl (by decide +kernel) ⟨Nat.le_of_ble_eq_true rfl, Nat.le_of_ble_eq_true rfl⟩) hK hW hS (x_recv (i := (g.1 + 189)) (k := 8) (j := 0) hK hW ⟨⟨hfl, rfl⟩, by decide⟩ rfl (by decide)) rfl hl.1 (rest := []) rfl (Nat.le_of_ble_eq_true rfl) dX8_badLine_99 ⟨Nat.le_of_ble_eq_true rfl, Nat.le_of_ble_eq_true rfl⟩) hS (fun H locs hW hS => ?_)
        have hW : World g (wM w q15 mn q5.2.2) H := hW
        refine W.eq (g2 := F0 m 102 ls [.int q16]) rfl ?_
        obtain ⟨K17, eK17, hf⟩ := x_letE hf
        have KK17 : ∀ (md18 : SD) (ls : Array Slot) (H : Heap) (locs : List Loc), lv_has ls 3 [(0, .ref (adr (g.1 + 189) 8 0)), (1, .int x6), (2, .int x11)] → World g (wM w md18 mn q5.2.2) H → va_S (gA g) s.heap H locs → K17 md18 = some q → W p l e rm_X8_badLine s m [.ref (adr (g.1 + 189) 8 0)].toArray below meth c H locs 0 0 (MQ below (cQv g (wM w q.1 mn q.2)) [.ref (adr (g.1 + 189) 8 0)].toArray s 0 0 (gA g)) (F0 m 114 ls []) := by
          intro md18 ls H locs hl hW hS hf
          subst eK17
          refine lv_aload_n hx hb dX8_badLine_114 rfl (lv_at hl 0 rfl) ?_
          obtain ⟨q19, h_q19, hf⟩ := x_bindE hf
          refine x_cv0 (x_rV ⟨hx, hb, hml, hown, hts⟩ (ct_X8_goesOn l g hfl w md18 mn q5.2.2  h_q19) (cwV 0 hts gX8_badLine_X8_goesOn rfl rfl rfl (by decide +kernel) ⟨Nat.le_of_ble_eq_true rfl, Nat.le_of_ble_eq_true rfl⟩) hK hW hS (x_recv (i := (g.1 + 189)) (k := 8) (j := 0) hK hW ⟨⟨hfl, rfl⟩, by decide⟩ rfl (by decide)) rfl hl.1 (rest := []) rfl (Nat.le_of_ble_eq_true rfl) dX8_badLine_115 ⟨Nat.le_of_ble_eq_true rfl, Nat.le_of_ble_eq_true rfl⟩) hS (fun H locs hW hS => ?_)
          have hW : World g (wM w q19.1 mn q19.2) H := hW
          cases hf
          exact x_vret hx hb hr hlocks hK hW hS dX8_badLine_118
        clear eK17
        refine lv_if_eq (tgt := 114) hx hb dX8_badLine_102 (by decide) (fun hc => ?_) (fun hc => ?_)
        · have hf := x_iteT hf hc
          exact KK17 (q15) ls _ _ hl hW hS hf
        · have hf := x_iteF hf hc
          refine lv_aload_n hx hb dX8_badLine_105 rfl (lv_at hl 0 rfl) ?_
          refine x_get (i := (g.1 + 189)) (k := 8) (j := 0) (t := 2) hx hb hts i_8 hown hK hW ⟨⟨hfl, rfl⟩, by decide⟩ rfl ⟨by decide, by decide, rfl⟩ (hts (.fieldLink RX8 13 "OpticalJukeboxModel" "read" "[I") (by decide +kernel)) (v := .ref (adr (g.1 + 189) 31 0)) rfl dX8_badLine_106 ?_
          refine lv_iload_n hx hb dX8_badLine_109 rfl (lv_at hl 1 rfl) ?_
          refine lv_iload_n hx hb dX8_badLine_110 rfl (lv_at hl 2 rfl) ?_
          obtain ⟨q20, h_q20, hf⟩ := x_bindE hf
          refine x_cv0 (x_rS ⟨hx, hb, hml, hown, hts⟩ (ct_X8_marks l g hfl w q15 mn q5.2.2 31 isRow_31 (x6) (x11) h_q20) (va_cwS 3 hts gX8_badLine_X8_marks rfl rfl rfl (by decide +kernel) ⟨Nat.le_of_ble_eq_true rfl, Nat.le_of_ble_eq_true rfl⟩) hK hW hS rfl hl.1 (rest := []) rfl (Nat.le_of_ble_eq_true rfl) dX8_badLine_111 ⟨Nat.le_of_ble_eq_true rfl, Nat.le_of_ble_eq_true rfl⟩) hS (fun H locs hW hS => ?_)
          have hW : World g (wM w q20 mn q5.2.2) H := hW
          exact KK17 (q20) ls _ _ hl hW hS hf
      clear eK13
      obtain ⟨K21, eK21, hf⟩ := x_letE hf
      have KK21 : ∀ (_u : Unit) (ls : Array Slot) (H : Heap) (locs : List Loc), lv_has ls 3 [(0, .ref (adr (g.1 + 189) 8 0)), (1, .int x6), (2, .int x11)] → World g (wM w q10.2 mn q5.2.2) H → va_S (gA g) s.heap H locs → K21 _u = some q → W p l e rm_X8_badLine s m [.ref (adr (g.1 + 189) 8 0)].toArray below meth c H locs 0 0 (MQ below (cQv g (wM w q.1 mn q.2)) [.ref (adr (g.1 + 189) 8 0)].toArray s 0 0 (gA g)) (F0 m 93 ls [.ref (adr (g.1 + 189) 8 0)]) := by
        intro _u ls H locs hl hW hS hf
        subst eK21
        refine lv_iconst (v := 0) hx hb dX8_badLine_93 (by decide) ?_
        exact KK13 ((0 : Int32)) ls _ _ hl hW hS hf
      clear eK21
      refine lv_if_eq (tgt := 93) hx hb dX8_badLine_74 (by decide) (fun hc => ?_) (fun hc => ?_)
      · have hf := x_iteT hf hc
        exact KK21 (()) ls _ _ (lv_sub hl [1, 2, 0] rfl) hW hS hf
      · have hf := x_iteF hf hc
        refine lv_aload_n hx hb dX8_badLine_77 rfl (lv_at hl 1 rfl) ?_
        refine x_get (i := (g.1 + 189)) (k := 8) (j := 0) (t := 2) hx hb hts i_8 hown hK hW ⟨⟨hfl, rfl⟩, by decide⟩ rfl ⟨by decide, by decide, rfl⟩ (hts (.fieldLink RX8 13 "OpticalJukeboxModel" "read" "[I") (by decide +kernel)) (v := .ref (adr (g.1 + 189) 31 0)) rfl dX8_badLine_78 ?_
        refine lv_iload_n hx hb dX8_badLine_81 rfl (lv_at hl 2 rfl) ?_
        refine lv_iload_n hx hb dX8_badLine_82 rfl (lv_at hl 0 rfl) ?_
        obtain ⟨q22, h_q22, hf⟩ := x_bindE hf
        refine x_ci0 (x_rS ⟨hx, hb, hml, hown, hts⟩ (ct_X8_isBad l g hfl w q10.2 mn q5.2.2 31 isRow_31 (x6) (x11) h_q22) (va_cwS 3 hts gX8_badLine_X8_isBad rfl rfl rfl (by decide +kernel) ⟨Nat.le_of_ble_eq_true rfl, Nat.le_of_ble_eq_true rfl⟩) hK hW hS rfl hl.1 (rest := [.ref (adr (g.1 + 189) 8 0)]) rfl (Nat.le_of_ble_eq_true rfl) dX8_badLine_83 ⟨Nat.le_of_ble_eq_true rfl, Nat.le_of_ble_eq_true rfl⟩) hS (fun H locs hW hS => ?_)
        have hW : World g (wM w q10.2 mn q5.2.2) H := hW
        refine W.eq (g2 := F0 m 86 ls [.int q22, .ref (adr (g.1 + 189) 8 0)]) rfl ?_
        refine lv_if_ne (tgt := 93) hx hb dX8_badLine_86 (by decide) (fun hc => ?_) (fun hc => ?_)
        · have hf := x_iteF hf hc
          exact KK21 (()) ls _ _ (lv_sub hl [1, 2, 0] rfl) hW hS hf
        · have hf := x_iteT hf hc
          refine lv_iconst (v := 1) hx hb dX8_badLine_89 (by decide) ?_
          refine lv_goto (tgt := 94) hx hb dX8_badLine_90 (by decide) ?_
          exact KK13 ((1 : Int32)) ls _ _ (lv_sub hl [1, 2, 0] rfl) hW hS hf
    clear eK8
    refine lv_if_eq (tgt := 64) hx hb dX8_badLine_47 (by decide) (fun hc => ?_) (fun hc => ?_)
    · have hf := x_iteT hf hc
      refine lv_iconst (v := 0) hx hb dX8_badLine_64 (by decide) ?_
      exact KK8 ((0 : Int32)) ls _ _ (lv_sub hl [1, 0] rfl) hW hS hf
    · have hf := x_iteF hf hc
      refine lv_aload_n hx hb dX8_badLine_50 rfl (lv_at hl 1 rfl) ?_
      refine x_get (i := (g.1 + 189)) (k := 8) (j := 0) (t := 2) hx hb hts i_8 hown hK hW ⟨⟨hfl, rfl⟩, by decide⟩ rfl ⟨by decide, by decide, rfl⟩ (hts (.fieldLink RX8 13 "OpticalJukeboxModel" "read" "[I") (by decide +kernel)) (v := .ref (adr (g.1 + 189) 31 0)) rfl dX8_badLine_51 ?_
      refine lv_bipush (v := 39) hx hb dX8_badLine_54 (by decide) ?_
      refine lv_iload_n hx hb dX8_badLine_56 rfl (lv_at hl 0 rfl) ?_
      refine lv_iadd hx hb dX8_badLine_57 ?_
      obtain ⟨hg23, hf⟩ := x_guardE hf
      refine x_iald (i := (g.1 + 189)) (k := 31) (j := 0) (f := q5.2.1 31 0) hx hb hK hW ⟨⟨hfl, rfl⟩, by decide⟩ (by decide) (rfl) rfl hg23 dX8_badLine_58 ?_
      refine lv_iconst (v := 1) hx hb dX8_badLine_59 (by decide) ?_
      refine lv_isub hx hb dX8_badLine_60 ?_
      refine lv_goto (tgt := 65) hx hb dX8_badLine_61 (by decide) ?_
      exact KK8 (((q5.2.1 31 0 (((39 : Int32) + x6)).toNatClampNeg) - (1 : Int32))) ls _ _ (lv_sub hl [1, 0] rfl) hW hS hf
  clear eK1
  refine lv_icmp_ge (tgt := 17) hx hb dX8_badLine_10 (by decide) (fun hc => ?_) (fun hc => ?_)
  · have hf := x_iteT hf hc
    refine lv_iconst (v := 0) hx hb dX8_badLine_17 (by decide) ?_
    exact KK1 ((0 : Int32)) ls _ _ hl hW hS hf
  · have hf := x_iteF hf hc
    refine lv_iconst (v := 1) hx hb dX8_badLine_13 (by decide) ?_
    refine lv_goto (tgt := 18) hx hb dX8_badLine_14 (by decide) ?_
    exact KK1 ((1 : Int32)) ls _ _ hl hW hS hf
abbrev rm_X8_fileLine : Room := { frames := 5, cells := 0, slots := 0, locals := 111 }
set_option maxRecDepth 100000 in
set_option maxHeartbeats 4000000 in
theorem ct_X8_fileLine (l : Launch) (g : GT) (hfl : 2 ≤ gf g) (w : WT) (md : SD) (mn : Nat → Int64) (mw : Int64) {q : (SD × (Nat → Int64) × Int64)} (hf : f_X8_fileLine md mn mw  = some q) : Met l yX8_fileLine wsX8_fileLine rm_X8_fileLine (cPre g (wM w md mn mw) [.ref (adr (g.1 + 189) 8 0)]) (cQv g (wM w q.1 q.2.1 q.2.2)) 0 0 (gA g) := by
  have i_8 : ∀ w ∈ u_ws RX8 TX8 27, w ∈ wsX8_fileLine := by decide +kernel
  refine x_met (by decide) rfl (Nat.le_of_ble_eq_true rfl) ?_
  intro p e s m below meth c hx hb hr hml hts hown hlocks hK hW hS ls hl
  have hown : s.vm.findClass RX8 = some m.cls := hown
  have hl : lv_has ls 5 [(0, .ref (adr (g.1 + 189) 8 0))] := hl
  rw [f_X8_fileLine] at hf
  refine lv_aload_n hx hb dX8_fileLine_0 rfl (lv_at hl 0 rfl) ?_
  refine lv_aload_n hx hb dX8_fileLine_1 rfl (lv_at hl 0 rfl) ?_
  refine x_get (i := (g.1 + 189)) (k := 8) (j := 0) (t := 2) hx hb hts i_8 hown hK hW ⟨⟨hfl, rfl⟩, by decide⟩ rfl ⟨by decide, by decide, rfl⟩ (hts (.fieldLink RX8 13 "OpticalJukeboxModel" "read" "[I") (by decide +kernel)) (v := .ref (adr (g.1 + 189) 31 0)) rfl dX8_fileLine_2 ?_
  refine lv_bipush (v := 9) hx hb dX8_fileLine_5 (by decide) ?_
  refine x_iald (i := (g.1 + 189)) (k := 31) (j := 0) (f := md 31 0) hx hb hK hW ⟨⟨hfl, rfl⟩, by decide⟩ (by decide) (rfl) rfl (by unfold vp_in; decide) dX8_fileLine_7 ?_
  refine W.eq (g2 := F0 m 8 ls [.int (md 31 0 9), .ref (adr (g.1 + 189) 8 0)]) rfl ?_
  refine lv_bipush (v := 20) hx hb dX8_fileLine_8 (by decide) ?_
  obtain ⟨K1, eK1, hf⟩ := x_letE hf
  have KK1 : ∀ (y2 : Int32) (ls : Array Slot) (H : Heap) (locs : List Loc), lv_has ls 5 [(0, .ref (adr (g.1 + 189) 8 0))] → World g (wM w md mn mw) H → va_S (gA g) s.heap H locs → K1 y2 = some q → W p l e rm_X8_fileLine s m [.ref (adr (g.1 + 189) 8 0)].toArray below meth c H locs 0 0 (MQ below (cQv g (wM w q.1 q.2.1 q.2.2)) [.ref (adr (g.1 + 189) 8 0)].toArray s 0 0 (gA g)) (F0 m 18 ls [.int y2, .ref (adr (g.1 + 189) 8 0)]) := by
    intro y2 ls H locs hl hW hS hf
    subst eK1
    refine lv_iconst (v := 5) hx hb dX8_fileLine_18 (by decide) ?_
    obtain ⟨q3, h_q3, hf⟩ := x_bindE hf
    refine x_cv0 (x_rV ⟨hx, hb, hml, hown, hts⟩ (ct_X8_must l g hfl w md mn mw (y2) ((5 : Int32)) h_q3) (cwV 2 hts gX8_fileLine_X8_must rfl rfl rfl (by decide +kernel) ⟨Nat.le_of_ble_eq_true rfl, Nat.le_of_ble_eq_true rfl⟩) hK hW hS (x_recv (i := (g.1 + 189)) (k := 8) (j := 0) hK hW ⟨⟨hfl, rfl⟩, by decide⟩ rfl (by decide)) rfl hl.1 (rest := []) rfl (Nat.le_of_ble_eq_true rfl) dX8_fileLine_19 ⟨Nat.le_of_ble_eq_true rfl, Nat.le_of_ble_eq_true rfl⟩) hS (fun H locs hW hS => ?_)
    have hW : World g (wM w q3 mn mw) H := hW
    refine lv_aload_n hx hb dX8_fileLine_22 rfl (lv_at hl 0 rfl) ?_
    obtain ⟨q4, h_q4, hf⟩ := x_bindE hf
    refine x_cv0 (x_rV ⟨hx, hb, hml, hown, hts⟩ (ct_X8_goesOn l g hfl w q3 mn mw  h_q4) (cwV 0 hts gX8_fileLine_X8_goesOn rfl rfl rfl (by decide +kernel) ⟨Nat.le_of_ble_eq_true rfl, Nat.le_of_ble_eq_true rfl⟩) hK hW hS (x_recv (i := (g.1 + 189)) (k := 8) (j := 0) hK hW ⟨⟨hfl, rfl⟩, by decide⟩ rfl (by decide)) rfl hl.1 (rest := []) rfl (Nat.le_of_ble_eq_true rfl) dX8_fileLine_23 ⟨Nat.le_of_ble_eq_true rfl, Nat.le_of_ble_eq_true rfl⟩) hS (fun H locs hW hS => ?_)
    have hW : World g (wM w q4.1 mn q4.2) H := hW
    refine lv_aload_n hx hb dX8_fileLine_26 rfl (lv_at hl 0 rfl) ?_
    refine lv_aload_n hx hb dX8_fileLine_27 rfl (lv_at hl 0 rfl) ?_
    refine x_get (i := (g.1 + 189)) (k := 8) (j := 0) (t := 22) hx hb hts i_8 hown hK hW ⟨⟨hfl, rfl⟩, by decide⟩ rfl ⟨by decide, by decide, rfl⟩ (hts (.fieldLink RX8 313 "OpticalJukeboxModel" "sort" "I") (by decide +kernel)) (rfl) dX8_fileLine_28 ?_
    refine lv_iconst (v := 1) hx hb dX8_fileLine_31 (by decide) ?_
    obtain ⟨K5, eK5, hf⟩ := x_letE hf
    have KK5 : ∀ (y6 : Int32) (ls : Array Slot) (H : Heap) (locs : List Loc), lv_has ls 5 [(0, .ref (adr (g.1 + 189) 8 0))] → World g (wM w q4.1 mn q4.2) H → va_S (gA g) s.heap H locs → K5 y6 = some q → W p l e rm_X8_fileLine s m [.ref (adr (g.1 + 189) 8 0)].toArray below meth c H locs 0 0 (MQ below (cQv g (wM w q.1 q.2.1 q.2.2)) [.ref (adr (g.1 + 189) 8 0)].toArray s 0 0 (gA g)) (F0 m 47 ls [.int y6, .ref (adr (g.1 + 189) 8 0)]) := by
      intro y6 ls H locs hl hW hS hf
      subst eK5
      refine lv_iconst (v := 2) hx hb dX8_fileLine_47 (by decide) ?_
      obtain ⟨q7, h_q7, hf⟩ := x_bindE hf
      refine x_cv0 (x_rV ⟨hx, hb, hml, hown, hts⟩ (ct_X8_must l g hfl w q4.1 mn q4.2 (y6) ((2 : Int32)) h_q7) (cwV 2 hts gX8_fileLine_X8_must rfl rfl rfl (by decide +kernel) ⟨Nat.le_of_ble_eq_true rfl, Nat.le_of_ble_eq_true rfl⟩) hK hW hS (x_recv (i := (g.1 + 189)) (k := 8) (j := 0) hK hW ⟨⟨hfl, rfl⟩, by decide⟩ rfl (by decide)) rfl hl.1 (rest := []) rfl (Nat.le_of_ble_eq_true rfl) dX8_fileLine_48 ⟨Nat.le_of_ble_eq_true rfl, Nat.le_of_ble_eq_true rfl⟩) hS (fun H locs hW hS => ?_)
      have hW : World g (wM w q7 mn q4.2) H := hW
      refine lv_iconst (v := 0) hx hb dX8_fileLine_51 (by decide) ?_
      refine lv_istore_n (lv' := [(1, .int (0 : Int32)), (0, .ref (adr (g.1 + 189) 8 0))]) hx hb dX8_fileLine_52 rfl hl (by decide) rfl (fun ls hl => ?_)
      have L53 : ∀ (n : Nat) (v1_53 : Int32) (md_53 : SD) (ls : Array Slot) (H : Heap) (locs : List Loc), lv_has ls 5 [(0, .ref (adr (g.1 + 189) 8 0)), (1, .int v1_53)] → World g (wM w md_53 mn q4.2) H → va_S (gA g) s.heap H locs → f_X8_fileLine_L53 q4 mn n v1_53 md_53 = some q → W p l e rm_X8_fileLine s m [.ref (adr (g.1 + 189) 8 0)].toArray below meth c H locs 0 0 (MQ below (cQv g (wM w q.1 q.2.1 q.2.2)) [.ref (adr (g.1 + 189) 8 0)].toArray s 0 0 (gA g)) (F0 m 53 ls []) := by
        clear hW hS hl
        intro n
        induction n with
        | zero => intro v1_53 md_53 ls H locs hl hW hS hf; cases hf
        | succ n_53 ih =>
          intro v1_53 md_53 ls H locs hl hW hS hf
          rw [f_X8_fileLine_L53] at hf
          refine lv_iload_n hx hb dX8_fileLine_53 rfl (lv_at hl 1 rfl) ?_
          refine lv_aload_n hx hb dX8_fileLine_54 rfl (lv_at hl 0 rfl) ?_
          refine x_get (i := (g.1 + 189)) (k := 8) (j := 0) (t := 2) hx hb hts i_8 hown hK hW ⟨⟨hfl, rfl⟩, by decide⟩ rfl ⟨by decide, by decide, rfl⟩ (hts (.fieldLink RX8 13 "OpticalJukeboxModel" "read" "[I") (by decide +kernel)) (v := .ref (adr (g.1 + 189) 31 0)) rfl dX8_fileLine_55 ?_
          refine lv_bipush (v := 9) hx hb dX8_fileLine_58 (by decide) ?_
          refine x_iald (i := (g.1 + 189)) (k := 31) (j := 0) (f := md_53 31 0) hx hb hK hW ⟨⟨hfl, rfl⟩, by decide⟩ (by decide) (rfl) rfl (by unfold vp_in; decide) dX8_fileLine_60 ?_
          refine W.eq (g2 := F0 m 61 ls [.int (md_53 31 0 9), .int v1_53]) rfl ?_
          obtain ⟨K8, eK8, hf⟩ := x_letE hf
          have KK8 : ∀ (_u : Unit) (ls : Array Slot) (H : Heap) (locs : List Loc), lv_has ls 5 [(0, .ref (adr (g.1 + 189) 8 0)), (1, .int v1_53)] → World g (wM w md_53 mn q4.2) H → va_S (gA g) s.heap H locs → K8 _u = some q → W p l e rm_X8_fileLine s m [.ref (adr (g.1 + 189) 8 0)].toArray below meth c H locs 0 0 (MQ below (cQv g (wM w q.1 q.2.1 q.2.2)) [.ref (adr (g.1 + 189) 8 0)].toArray s 0 0 (gA g)) (F0 m 101 ls []) := by
            intro _u ls H locs hl hW hS hf
            subst eK8
            refine lv_aload_n hx hb dX8_fileLine_101 rfl (lv_at hl 0 rfl) ?_
            refine x_get (i := (g.1 + 189)) (k := 8) (j := 0) (t := 26) hx hb hts i_8 hown hK hW ⟨⟨hfl, rfl⟩, by decide⟩ rfl ⟨by decide, by decide, rfl⟩ (hts (.fieldLink RX8 316 "OpticalJukeboxModel" "word" "J") (by decide +kernel)) rfl dX8_fileLine_102 ?_
            obtain ⟨x9, e_x9, hf⟩ := x_letE hf
            refine x_topl e_x9 ?_
            refine lv_lstore_n (lv' := [(1, .long x9), (0, .ref (adr (g.1 + 189) 8 0))]) hx hb dX8_fileLine_105 rfl hl (by decide) rfl (fun ls hl => ?_)
            refine lv_aload_n hx hb dX8_fileLine_106 rfl (lv_at hl 1 rfl) ?_
            obtain ⟨q10, h_q10, hf⟩ := x_bindE hf
            refine x_cv0 (x_rV ⟨hx, hb, hml, hown, hts⟩ (ct_X8_goesOn l g hfl w md_53 mn q4.2  h_q10) (cwV 0 hts gX8_fileLine_X8_goesOn rfl rfl rfl (by decide +kernel) ⟨Nat.le_of_ble_eq_true rfl, Nat.le_of_ble_eq_true rfl⟩) hK hW hS (x_recv (i := (g.1 + 189)) (k := 8) (j := 0) hK hW ⟨⟨hfl, rfl⟩, by decide⟩ rfl (by decide)) rfl hl.1 (rest := []) rfl (Nat.le_of_ble_eq_true rfl) dX8_fileLine_107 ⟨Nat.le_of_ble_eq_true rfl, Nat.le_of_ble_eq_true rfl⟩) hS (fun H locs hW hS => ?_)
            have hW : World g (wM w q10.1 mn q10.2) H := hW
            refine lv_aload_n hx hb dX8_fileLine_110 rfl (lv_at hl 1 rfl) ?_
            refine lv_iconst (v := 1) hx hb dX8_fileLine_111 (by decide) ?_
            refine lv_sipush (v := 300) hx hb dX8_fileLine_112 (by decide) ?_
            obtain ⟨q11, h_q11, hf⟩ := x_bindE hf
            refine x_ci0 (x_rV ⟨hx, hb, hml, hown, hts⟩ (ct_X8_takes l g hfl w q10.1 mn q10.2 ((1 : Int32)) ((300 : Int32)) h_q11) (cwV 2 hts gX8_fileLine_X8_takes rfl rfl rfl (by decide +kernel) ⟨Nat.le_of_ble_eq_true rfl, Nat.le_of_ble_eq_true rfl⟩) hK hW hS (x_recv (i := (g.1 + 189)) (k := 8) (j := 0) hK hW ⟨⟨hfl, rfl⟩, by decide⟩ rfl (by decide)) rfl hl.1 (rest := []) rfl (Nat.le_of_ble_eq_true rfl) dX8_fileLine_115 ⟨Nat.le_of_ble_eq_true rfl, Nat.le_of_ble_eq_true rfl⟩) hS (fun H locs hW hS => ?_)
            have hW : World g (wM w q11.2.1 mn q11.2.2) H := hW
            refine W.eq (g2 := F0 m 118 ls [.int q11.1]) rfl ?_
            obtain ⟨x12, e_x12, hf⟩ := x_letE hf
            refine x_topi e_x12 ?_
            refine lv_istore_n (lv' := [(3, .int x12), (1, .long x9), (0, .ref (adr (g.1 + 189) 8 0))]) hx hb dX8_fileLine_118 rfl hl (by decide) rfl (fun ls hl => ?_)
            refine lv_aload_n hx hb dX8_fileLine_119 rfl (lv_at hl 2 rfl) ?_
            refine lv_iconst (v := 0) hx hb dX8_fileLine_120 (by decide) ?_
            refine lv_aload_n hx hb dX8_fileLine_121 rfl (lv_at hl 2 rfl) ?_
            refine x_get (i := (g.1 + 189)) (k := 8) (j := 0) (t := 2) hx hb hts i_8 hown hK hW ⟨⟨hfl, rfl⟩, by decide⟩ rfl ⟨by decide, by decide, rfl⟩ (hts (.fieldLink RX8 13 "OpticalJukeboxModel" "read" "[I") (by decide +kernel)) (v := .ref (adr (g.1 + 189) 31 0)) rfl dX8_fileLine_122 ?_
            refine lv_bipush (v := 7) hx hb dX8_fileLine_125 (by decide) ?_
            refine x_iald (i := (g.1 + 189)) (k := 31) (j := 0) (f := q11.2.1 31 0) hx hb hK hW ⟨⟨hfl, rfl⟩, by decide⟩ (by decide) (rfl) rfl (by unfold vp_in; decide) dX8_fileLine_127 ?_
            refine W.eq (g2 := F0 m 128 ls [.int (q11.2.1 31 0 7), .int (0 : Int32), .ref (adr (g.1 + 189) 8 0)]) rfl ?_
            refine lv_iconst (v := 1) hx hb dX8_fileLine_128 (by decide) ?_
            refine lv_isub hx hb dX8_fileLine_129 ?_
            obtain ⟨q13, h_q13, hf⟩ := x_bindE hf
            refine x_ci0 (x_rV ⟨hx, hb, hml, hown, hts⟩ (ct_X8_sees l g hfl w q11.2.1 mn q11.2.2 ((0 : Int32)) (((q11.2.1 31 0 7) - (1 : Int32))) h_q13) (cwV 2 hts gX8_fileLine_X8_sees rfl rfl rfl (by decide +kernel) ⟨Nat.le_of_ble_eq_true rfl, Nat.le_of_ble_eq_true rfl⟩) hK hW hS (x_recv (i := (g.1 + 189)) (k := 8) (j := 0) hK hW ⟨⟨hfl, rfl⟩, by decide⟩ rfl (by decide)) rfl hl.1 (rest := []) rfl (Nat.le_of_ble_eq_true rfl) dX8_fileLine_130 ⟨Nat.le_of_ble_eq_true rfl, Nat.le_of_ble_eq_true rfl⟩) hS (fun H locs hW hS => ?_)
            have hW : World g (wM w q13.2 mn q11.2.2) H := hW
            refine W.eq (g2 := F0 m 133 ls [.int q13.1]) rfl ?_
            obtain ⟨x14, e_x14, hf⟩ := x_letE hf
            refine x_topi e_x14 ?_
            refine lv_istore (lv' := [(4, .int x14), (3, .int x12), (1, .long x9), (0, .ref (adr (g.1 + 189) 8 0))]) hx hb dX8_fileLine_133 hl (by decide) rfl (fun ls hl => ?_)
            refine lv_aload_n hx hb dX8_fileLine_135 rfl (lv_at hl 3 rfl) ?_
            refine lv_aload_n hx hb dX8_fileLine_136 rfl (lv_at hl 3 rfl) ?_
            obtain ⟨q15, h_q15, hf⟩ := x_bindE hf
            refine x_ci0 (x_rV ⟨hx, hb, hml, hown, hts⟩ (ct_X8_good l g hfl w q13.2 mn q11.2.2  h_q15) (cwV 0 hts gX8_fileLine_X8_good rfl rfl rfl (by decide +kernel) ⟨Nat.le_of_ble_eq_true rfl, Nat.le_of_ble_eq_true rfl⟩) hK hW hS (x_recv (i := (g.1 + 189)) (k := 8) (j := 0) hK hW ⟨⟨hfl, rfl⟩, by decide⟩ rfl (by decide)) rfl hl.1 (rest := [.ref (adr (g.1 + 189) 8 0)]) rfl (Nat.le_of_ble_eq_true rfl) dX8_fileLine_137 ⟨Nat.le_of_ble_eq_true rfl, Nat.le_of_ble_eq_true rfl⟩) hS (fun H locs hW hS => ?_)
            have hW : World g (wM w q13.2 mn q11.2.2) H := hW
            refine W.eq (g2 := F0 m 140 ls [.int q15, .ref (adr (g.1 + 189) 8 0)]) rfl ?_
            obtain ⟨K16, eK16, hf⟩ := x_letE hf
            have KK16 : ∀ (y17 : Int32) (ls : Array Slot) (H : Heap) (locs : List Loc), lv_has ls 5 [(0, .ref (adr (g.1 + 189) 8 0)), (1, .long x9), (3, .int x12), (4, .int x14)] → World g (wM w q13.2 mn q11.2.2) H → va_S (gA g) s.heap H locs → K16 y17 = some q → W p l e rm_X8_fileLine s m [.ref (adr (g.1 + 189) 8 0)].toArray below meth c H locs 0 0 (MQ below (cQv g (wM w q.1 q.2.1 q.2.2)) [.ref (adr (g.1 + 189) 8 0)].toArray s 0 0 (gA g)) (F0 m 161 ls [.int y17, .ref (adr (g.1 + 189) 8 0)]) := by
              intro y17 ls H locs hl hW hS hf
              subst eK16
              refine lv_bipush (v := 6) hx hb dX8_fileLine_161 (by decide) ?_
              obtain ⟨q18, h_q18, hf⟩ := x_bindE hf
              refine x_cv0 (x_rV ⟨hx, hb, hml, hown, hts⟩ (ct_X8_must l g hfl w q13.2 mn q11.2.2 (y17) ((6 : Int32)) h_q18) (cwV 2 hts gX8_fileLine_X8_must rfl rfl rfl (by decide +kernel) ⟨Nat.le_of_ble_eq_true rfl, Nat.le_of_ble_eq_true rfl⟩) hK hW hS (x_recv (i := (g.1 + 189)) (k := 8) (j := 0) hK hW ⟨⟨hfl, rfl⟩, by decide⟩ rfl (by decide)) rfl hl.1 (rest := []) rfl (Nat.le_of_ble_eq_true rfl) dX8_fileLine_163 ⟨Nat.le_of_ble_eq_true rfl, Nat.le_of_ble_eq_true rfl⟩) hS (fun H locs hW hS => ?_)
              have hW : World g (wM w q18 mn q11.2.2) H := hW
              refine lv_aload_n hx hb dX8_fileLine_166 rfl (lv_at hl 0 rfl) ?_
              obtain ⟨q19, h_q19, hf⟩ := x_bindE hf
              refine x_ci0 (x_rV ⟨hx, hb, hml, hown, hts⟩ (ct_X8_good l g hfl w q18 mn q11.2.2  h_q19) (cwV 0 hts gX8_fileLine_X8_good rfl rfl rfl (by decide +kernel) ⟨Nat.le_of_ble_eq_true rfl, Nat.le_of_ble_eq_true rfl⟩) hK hW hS (x_recv (i := (g.1 + 189)) (k := 8) (j := 0) hK hW ⟨⟨hfl, rfl⟩, by decide⟩ rfl (by decide)) rfl hl.1 (rest := []) rfl (Nat.le_of_ble_eq_true rfl) dX8_fileLine_167 ⟨Nat.le_of_ble_eq_true rfl, Nat.le_of_ble_eq_true rfl⟩) hS (fun H locs hW hS => ?_)
              have hW : World g (wM w q18 mn q11.2.2) H := hW
              refine W.eq (g2 := F0 m 170 ls [.int q19]) rfl ?_
              obtain ⟨K20, eK20, hf⟩ := x_letE hf
              have KK20 : ∀ (md21 : SD) (mn22 : Nat → Int64) (ls : Array Slot) (H : Heap) (locs : List Loc), lv_has ls 5 [(0, .ref (adr (g.1 + 189) 8 0)), (1, .long x9), (3, .int x12), (4, .int x14)] → World g (wM w md21 mn22 q11.2.2) H → va_S (gA g) s.heap H locs → K20 md21 mn22 = some q → W p l e rm_X8_fileLine s m [.ref (adr (g.1 + 189) 8 0)].toArray below meth c H locs 0 0 (MQ below (cQv g (wM w q.1 q.2.1 q.2.2)) [.ref (adr (g.1 + 189) 8 0)].toArray s 0 0 (gA g)) (F0 m 216 ls []) := by
                intro md21 mn22 ls H locs hl hW hS hf
                subst eK20
                refine lv_aload_n hx hb dX8_fileLine_216 rfl (lv_at hl 0 rfl) ?_
                obtain ⟨q23, h_q23, hf⟩ := x_bindE hf
                refine x_cv0 (x_rV ⟨hx, hb, hml, hown, hts⟩ (ct_X8_goesOn l g hfl w md21 mn22 q11.2.2  h_q23) (cwV 0 hts gX8_fileLine_X8_goesOn rfl rfl rfl (by decide +kernel) ⟨Nat.le_of_ble_eq_true rfl, Nat.le_of_ble_eq_true rfl⟩) hK hW hS (x_recv (i := (g.1 + 189)) (k := 8) (j := 0) hK hW ⟨⟨hfl, rfl⟩, by decide⟩ rfl (by decide)) rfl hl.1 (rest := []) rfl (Nat.le_of_ble_eq_true rfl) dX8_fileLine_217 ⟨Nat.le_of_ble_eq_true rfl, Nat.le_of_ble_eq_true rfl⟩) hS (fun H locs hW hS => ?_)
                have hW : World g (wM w q23.1 mn22 q23.2) H := hW
                cases hf
                exact x_vret hx hb hr hlocks hK hW hS dX8_fileLine_220
              clear eK20
              refine lv_if_eq (tgt := 216) hx hb dX8_fileLine_170 (by decide) (fun hc => ?_) (fun hc => ?_)
              · have hf := x_iteT hf hc
                exact KK20 (q18) (mn) ls _ _ hl hW hS hf
              · have hf := x_iteF hf hc
                refine lv_aload_n hx hb dX8_fileLine_173 rfl (lv_at hl 0 rfl) ?_
                refine x_get (i := (g.1 + 189)) (k := 8) (j := 0) (t := 14) hx hb hts i_8 hown hK hW ⟨⟨hfl, rfl⟩, by decide⟩ rfl ⟨by decide, by decide, rfl⟩ (hts (.fieldLink RX8 38 "OpticalJukeboxModel" "names" "[J") (by decide +kernel)) (v := .ref (adr (g.1 + 189) 39 0)) rfl dX8_fileLine_174 ?_
                refine lv_aload_n hx hb dX8_fileLine_177 rfl (lv_at hl 0 rfl) ?_
                refine x_get (i := (g.1 + 189)) (k := 8) (j := 0) (t := 2) hx hb hts i_8 hown hK hW ⟨⟨hfl, rfl⟩, by decide⟩ rfl ⟨by decide, by decide, rfl⟩ (hts (.fieldLink RX8 13 "OpticalJukeboxModel" "read" "[I") (by decide +kernel)) (v := .ref (adr (g.1 + 189) 31 0)) rfl dX8_fileLine_178 ?_
                refine lv_bipush (v := 9) hx hb dX8_fileLine_181 (by decide) ?_
                refine x_iald (i := (g.1 + 189)) (k := 31) (j := 0) (f := q18 31 0) hx hb hK hW ⟨⟨hfl, rfl⟩, by decide⟩ (by decide) (rfl) rfl (by unfold vp_in; decide) dX8_fileLine_183 ?_
                refine W.eq (g2 := F0 m 184 ls [.int (q18 31 0 9), .ref (adr (g.1 + 189) 39 0)]) rfl ?_
                refine lv_lload_n hx hb dX8_fileLine_184 rfl (lv_at hl 1 rfl) ?_
                obtain ⟨hg24, hf⟩ := x_guardE hf
                obtain ⟨mn25, e_mn25, hf⟩ := x_letE hf
                refine x_last (i := (g.1 + 189)) (k := 39) (j := 0) (f := mn) (w' := wM w q18 mn25 q11.2.2) hx hb hK hW ⟨⟨hfl, rfl⟩, by decide⟩ hS (by decide) rfl rfl hg24 dX8_fileLine_185 (wf_mn e_mn25 hW) (fun H locs hW hS => ?_)
                refine lv_aload_n hx hb dX8_fileLine_186 rfl (lv_at hl 0 rfl) ?_
                refine x_get (i := (g.1 + 189)) (k := 8) (j := 0) (t := 2) hx hb hts i_8 hown hK hW ⟨⟨hfl, rfl⟩, by decide⟩ rfl ⟨by decide, by decide, rfl⟩ (hts (.fieldLink RX8 13 "OpticalJukeboxModel" "read" "[I") (by decide +kernel)) (v := .ref (adr (g.1 + 189) 31 0)) rfl dX8_fileLine_187 ?_
                refine lv_bipush (v := 9) hx hb dX8_fileLine_190 (by decide) ?_
                refine lv_dup2_11 hx hb dX8_fileLine_192 rfl rfl ?_
                refine x_iald (i := (g.1 + 189)) (k := 31) (j := 0) (f := q18 31 0) hx hb hK hW ⟨⟨hfl, rfl⟩, by decide⟩ (by decide) (rfl) rfl (by unfold vp_in; decide) dX8_fileLine_193 ?_
                refine W.eq (g2 := F0 m 194 ls [.int (q18 31 0 9), .int (9 : Int32), .ref (adr (g.1 + 189) 31 0)]) rfl ?_
                refine lv_iconst (v := 1) hx hb dX8_fileLine_194 (by decide) ?_
                refine lv_iadd hx hb dX8_fileLine_195 ?_
                obtain ⟨md26, e_md26, hf⟩ := x_letE hf
                refine x_iast (i := (g.1 + 189)) (k := 31) (j := 0) (w' := wM w md26 mn25 q11.2.2) hx hb hK hW ⟨⟨hfl, rfl⟩, by decide⟩ hS (by decide) rfl rfl rfl (by unfold vp_in; decide) dX8_fileLine_196 (fp_M e_md26 rfl) (fun H locs hW hS => ?_)
                refine lv_aload_n hx hb dX8_fileLine_197 rfl (lv_at hl 0 rfl) ?_
                refine x_get (i := (g.1 + 189)) (k := 8) (j := 0) (t := 2) hx hb hts i_8 hown hK hW ⟨⟨hfl, rfl⟩, by decide⟩ rfl ⟨by decide, by decide, rfl⟩ (hts (.fieldLink RX8 13 "OpticalJukeboxModel" "read" "[I") (by decide +kernel)) (v := .ref (adr (g.1 + 189) 31 0)) rfl dX8_fileLine_198 ?_
                refine lv_aload_n hx hb dX8_fileLine_201 rfl (lv_at hl 0 rfl) ?_
                refine x_get (i := (g.1 + 189)) (k := 8) (j := 0) (t := 2) hx hb hts i_8 hown hK hW ⟨⟨hfl, rfl⟩, by decide⟩ rfl ⟨by decide, by decide, rfl⟩ (hts (.fieldLink RX8 13 "OpticalJukeboxModel" "read" "[I") (by decide +kernel)) (v := .ref (adr (g.1 + 189) 31 0)) rfl dX8_fileLine_202 ?_
                refine lv_bipush (v := 9) hx hb dX8_fileLine_205 (by decide) ?_
                refine x_iald (i := (g.1 + 189)) (k := 31) (j := 0) (f := md26 31 0) hx hb hK hW ⟨⟨hfl, rfl⟩, by decide⟩ (by decide) (rfl) rfl (by unfold vp_in; decide) dX8_fileLine_207 ?_
                refine W.eq (g2 := F0 m 208 ls [.int (md26 31 0 9), .ref (adr (g.1 + 189) 31 0)]) rfl ?_
                refine lv_iconst (v := 1) hx hb dX8_fileLine_208 (by decide) ?_
                refine lv_isub hx hb dX8_fileLine_209 ?_
                refine lv_iload hx hb dX8_fileLine_210 (lv_at hl 3 rfl) ?_
                refine lv_iload_n hx hb dX8_fileLine_212 rfl (lv_at hl 2 rfl) ?_
                obtain ⟨q27, h_q27, hf⟩ := x_bindE hf
                refine x_cv0 (x_rS ⟨hx, hb, hml, hown, hts⟩ (ct_X8_writesVersion l g hfl w md26 mn25 q11.2.2 31 isRow_31 (((md26 31 0 9) - (1 : Int32))) (x14) (x12) h_q27) (va_cwS 4 hts gX8_fileLine_X8_writesVersion rfl rfl rfl (by decide +kernel) ⟨Nat.le_of_ble_eq_true rfl, Nat.le_of_ble_eq_true rfl⟩) hK hW hS rfl hl.1 (rest := []) rfl (Nat.le_of_ble_eq_true rfl) dX8_fileLine_213 ⟨Nat.le_of_ble_eq_true rfl, Nat.le_of_ble_eq_true rfl⟩) hS (fun H locs hW hS => ?_)
                have hW : World g (wM w q27 mn25 q11.2.2) H := hW
                exact KK20 (q27) (mn25) ls _ _ hl hW hS hf
            clear eK16
            obtain ⟨K28, eK28, hf⟩ := x_letE hf
            have KK28 : ∀ (_u : Unit) (ls : Array Slot) (H : Heap) (locs : List Loc), lv_has ls 5 [(0, .ref (adr (g.1 + 189) 8 0)), (1, .long x9), (3, .int x12), (4, .int x14)] → World g (wM w q13.2 mn q11.2.2) H → va_S (gA g) s.heap H locs → K28 _u = some q → W p l e rm_X8_fileLine s m [.ref (adr (g.1 + 189) 8 0)].toArray below meth c H locs 0 0 (MQ below (cQv g (wM w q.1 q.2.1 q.2.2)) [.ref (adr (g.1 + 189) 8 0)].toArray s 0 0 (gA g)) (F0 m 160 ls [.ref (adr (g.1 + 189) 8 0)]) := by
              intro _u ls H locs hl hW hS hf
              subst eK28
              refine lv_iconst (v := 0) hx hb dX8_fileLine_160 (by decide) ?_
              exact KK16 ((0 : Int32)) ls _ _ hl hW hS hf
            clear eK28
            refine lv_if_eq (tgt := 160) hx hb dX8_fileLine_140 (by decide) (fun hc => ?_) (fun hc => ?_)
            · have hf := x_iteT hf hc
              exact KK28 (()) ls _ _ (lv_sub hl [3, 2, 1, 0] rfl) hW hS hf
            · have hf := x_iteF hf hc
              refine lv_aload_n hx hb dX8_fileLine_143 rfl (lv_at hl 3 rfl) ?_
              refine x_get (i := (g.1 + 189)) (k := 8) (j := 0) (t := 2) hx hb hts i_8 hown hK hW ⟨⟨hfl, rfl⟩, by decide⟩ rfl ⟨by decide, by decide, rfl⟩ (hts (.fieldLink RX8 13 "OpticalJukeboxModel" "read" "[I") (by decide +kernel)) (v := .ref (adr (g.1 + 189) 31 0)) rfl dX8_fileLine_144 ?_
              refine lv_iload hx hb dX8_fileLine_147 (lv_at hl 0 rfl) ?_
              refine lv_iload_n hx hb dX8_fileLine_149 rfl (lv_at hl 1 rfl) ?_
              obtain ⟨q29, h_q29, hf⟩ := x_bindE hf
              refine x_ci0 (x_rS ⟨hx, hb, hml, hown, hts⟩ (ct_X8_canWrite l g hfl w q13.2 mn q11.2.2 31 isRow_31 (x14) (x12) h_q29) (va_cwS 3 hts gX8_fileLine_X8_canWrite rfl rfl rfl (by decide +kernel) ⟨Nat.le_of_ble_eq_true rfl, Nat.le_of_ble_eq_true rfl⟩) hK hW hS rfl hl.1 (rest := [.ref (adr (g.1 + 189) 8 0)]) rfl (Nat.le_of_ble_eq_true rfl) dX8_fileLine_150 ⟨Nat.le_of_ble_eq_true rfl, Nat.le_of_ble_eq_true rfl⟩) hS (fun H locs hW hS => ?_)
              have hW : World g (wM w q13.2 mn q11.2.2) H := hW
              refine W.eq (g2 := F0 m 153 ls [.int q29, .ref (adr (g.1 + 189) 8 0)]) rfl ?_
              refine lv_if_eq (tgt := 160) hx hb dX8_fileLine_153 (by decide) (fun hc => ?_) (fun hc => ?_)
              · have hf := x_iteT hf hc
                exact KK28 (()) ls _ _ (lv_sub hl [3, 2, 1, 0] rfl) hW hS hf
              · have hf := x_iteF hf hc
                refine lv_iconst (v := 1) hx hb dX8_fileLine_156 (by decide) ?_
                refine lv_goto (tgt := 161) hx hb dX8_fileLine_157 (by decide) ?_
                exact KK16 ((1 : Int32)) ls _ _ (lv_sub hl [3, 2, 1, 0] rfl) hW hS hf
          clear eK8
          refine lv_icmp_ge (tgt := 101) hx hb dX8_fileLine_61 (by decide) (fun hc => ?_) (fun hc => ?_)
          · have hf := x_iteT hf hc
            exact KK8 (()) ls _ _ hl hW hS hf
          · have hf := x_iteF hf hc
            refine lv_aload_n hx hb dX8_fileLine_64 rfl (lv_at hl 0 rfl) ?_
            obtain ⟨q30, h_q30, hf⟩ := x_bindE hf
            refine x_ci0 (x_rV ⟨hx, hb, hml, hown, hts⟩ (ct_X8_good l g hfl w md_53 mn q4.2  h_q30) (cwV 0 hts gX8_fileLine_X8_good rfl rfl rfl (by decide +kernel) ⟨Nat.le_of_ble_eq_true rfl, Nat.le_of_ble_eq_true rfl⟩) hK hW hS (x_recv (i := (g.1 + 189)) (k := 8) (j := 0) hK hW ⟨⟨hfl, rfl⟩, by decide⟩ rfl (by decide)) rfl hl.1 (rest := []) rfl (Nat.le_of_ble_eq_true rfl) dX8_fileLine_65 ⟨Nat.le_of_ble_eq_true rfl, Nat.le_of_ble_eq_true rfl⟩) hS (fun H locs hW hS => ?_)
            have hW : World g (wM w md_53 mn q4.2) H := hW
            refine W.eq (g2 := F0 m 68 ls [.int q30]) rfl ?_
            refine lv_if_eq (tgt := 101) hx hb dX8_fileLine_68 (by decide) (fun hc => ?_) (fun hc => ?_)
            · have hf := x_iteT hf hc
              exact KK8 (()) ls _ _ hl hW hS hf
            · have hf := x_iteF hf hc
              refine lv_aload_n hx hb dX8_fileLine_71 rfl (lv_at hl 0 rfl) ?_
              refine lv_aload_n hx hb dX8_fileLine_72 rfl (lv_at hl 0 rfl) ?_
              refine x_get (i := (g.1 + 189)) (k := 8) (j := 0) (t := 14) hx hb hts i_8 hown hK hW ⟨⟨hfl, rfl⟩, by decide⟩ rfl ⟨by decide, by decide, rfl⟩ (hts (.fieldLink RX8 38 "OpticalJukeboxModel" "names" "[J") (by decide +kernel)) (v := .ref (adr (g.1 + 189) 39 0)) rfl dX8_fileLine_73 ?_
              refine lv_iload_n hx hb dX8_fileLine_76 rfl (lv_at hl 1 rfl) ?_
              obtain ⟨hg31, hf⟩ := x_guardE hf
              refine x_lald (i := (g.1 + 189)) (k := 39) (j := 0) (f := mn) hx hb hK hW ⟨⟨hfl, rfl⟩, by decide⟩ (by decide) rfl rfl hg31 dX8_fileLine_77 ?_
              refine lv_aload_n hx hb dX8_fileLine_78 rfl (lv_at hl 0 rfl) ?_
              refine x_get (i := (g.1 + 189)) (k := 8) (j := 0) (t := 26) hx hb hts i_8 hown hK hW ⟨⟨hfl, rfl⟩, by decide⟩ rfl ⟨by decide, by decide, rfl⟩ (hts (.fieldLink RX8 316 "OpticalJukeboxModel" "word" "J") (by decide +kernel)) rfl dX8_fileLine_79 ?_
              refine W.lcmp hx hb dX8_fileLine_82 ?_
              obtain ⟨K32, eK32, hf⟩ := x_letE hf
              have KK32 : ∀ (y33 : Int32) (ls : Array Slot) (H : Heap) (locs : List Loc), lv_has ls 5 [(0, .ref (adr (g.1 + 189) 8 0)), (1, .int v1_53)] → World g (wM w md_53 mn q4.2) H → va_S (gA g) s.heap H locs → K32 y33 = some q → W p l e rm_X8_fileLine s m [.ref (adr (g.1 + 189) 8 0)].toArray below meth c H locs 0 0 (MQ below (cQv g (wM w q.1 q.2.1 q.2.2)) [.ref (adr (g.1 + 189) 8 0)].toArray s 0 0 (gA g)) (F0 m 91 ls [.int y33, .ref (adr (g.1 + 189) 8 0)]) := by
                intro y33 ls H locs hl hW hS hf
                subst eK32
                refine lv_iconst (v := 4) hx hb dX8_fileLine_91 (by decide) ?_
                obtain ⟨q34, h_q34, hf⟩ := x_bindE hf
                refine x_cv0 (x_rV ⟨hx, hb, hml, hown, hts⟩ (ct_X8_must l g hfl w md_53 mn q4.2 (y33) ((4 : Int32)) h_q34) (cwV 2 hts gX8_fileLine_X8_must rfl rfl rfl (by decide +kernel) ⟨Nat.le_of_ble_eq_true rfl, Nat.le_of_ble_eq_true rfl⟩) hK hW hS (x_recv (i := (g.1 + 189)) (k := 8) (j := 0) hK hW ⟨⟨hfl, rfl⟩, by decide⟩ rfl (by decide)) rfl hl.1 (rest := []) rfl (Nat.le_of_ble_eq_true rfl) dX8_fileLine_92 ⟨Nat.le_of_ble_eq_true rfl, Nat.le_of_ble_eq_true rfl⟩) hS (fun H locs hW hS => ?_)
                have hW : World g (wM w q34 mn q4.2) H := hW
                obtain ⟨x35, e_x35, hf⟩ := x_letE hf
                refine lv_iinc (v := x35) (lv' := [(1, .int x35), (0, .ref (adr (g.1 + 189) 8 0))]) hx hb dX8_fileLine_95 hl (k := 1) rfl (by rw [e_x35]; rfl) (by decide) rfl (fun ls hl => ?_)
                refine lv_goto (tgt := 53) hx hb dX8_fileLine_98 (by decide) ?_
                exact ih (x35) (q34) ls _ _ (lv_sub hl [1, 0] rfl) hW hS hf
              clear eK32
              refine lv_if_eq (tgt := 90) hx hb dX8_fileLine_83 (by decide) (fun hc => ?_) (fun hc => ?_)
              · have hf := x_iteT hf hc
                refine lv_iconst (v := 0) hx hb dX8_fileLine_90 (by decide) ?_
                exact KK32 ((0 : Int32)) ls _ _ hl hW hS hf
              · have hf := x_iteF hf hc
                refine lv_iconst (v := 1) hx hb dX8_fileLine_86 (by decide) ?_
                refine lv_goto (tgt := 91) hx hb dX8_fileLine_87 (by decide) ?_
                exact KK32 ((1 : Int32)) ls _ _ hl hW hS hf
      exact L53 fuel ((0 : Int32)) (q7) ls _ _ (lv_sub hl [1, 0] rfl) hW hS hf
    clear eK5
    obtain ⟨K36, eK36, hf⟩ := x_letE hf
    have KK36 : ∀ (_u : Unit) (ls : Array Slot) (H : Heap) (locs : List Loc), lv_has ls 5 [(0, .ref (adr (g.1 + 189) 8 0))] → World g (wM w q4.1 mn q4.2) H → va_S (gA g) s.heap H locs → K36 _u = some q → W p l e rm_X8_fileLine s m [.ref (adr (g.1 + 189) 8 0)].toArray below meth c H locs 0 0 (MQ below (cQv g (wM w q.1 q.2.1 q.2.2)) [.ref (adr (g.1 + 189) 8 0)].toArray s 0 0 (gA g)) (F0 m 46 ls [.ref (adr (g.1 + 189) 8 0)]) := by
      intro _u ls H locs hl hW hS hf
      subst eK36
      refine lv_iconst (v := 0) hx hb dX8_fileLine_46 (by decide) ?_
      exact KK5 ((0 : Int32)) ls _ _ hl hW hS hf
    clear eK36
    refine lv_icmp_ne (tgt := 46) hx hb dX8_fileLine_32 (by decide) (fun hc => ?_) (fun hc => ?_)
    · have hf := x_iteF hf hc
      exact KK36 (()) ls _ _ hl hW hS hf
    · have hf := x_iteT hf hc
      refine lv_aload_n hx hb dX8_fileLine_35 rfl (lv_at hl 0 rfl) ?_
      obtain ⟨q37, h_q37, hf⟩ := x_bindE hf
      refine x_ci0 (x_rV ⟨hx, hb, hml, hown, hts⟩ (ct_X8_isReserved l g hfl w q4.1 mn q4.2  h_q37) (cwV 0 hts gX8_fileLine_X8_isReserved rfl rfl rfl (by decide +kernel) ⟨Nat.le_of_ble_eq_true rfl, Nat.le_of_ble_eq_true rfl⟩) hK hW hS (x_recv (i := (g.1 + 189)) (k := 8) (j := 0) hK hW ⟨⟨hfl, rfl⟩, by decide⟩ rfl (by decide)) rfl hl.1 (rest := [.ref (adr (g.1 + 189) 8 0)]) rfl (Nat.le_of_ble_eq_true rfl) dX8_fileLine_36 ⟨Nat.le_of_ble_eq_true rfl, Nat.le_of_ble_eq_true rfl⟩) hS (fun H locs hW hS => ?_)
      have hW : World g (wM w q4.1 mn q4.2) H := hW
      refine W.eq (g2 := F0 m 39 ls [.int q37, .ref (adr (g.1 + 189) 8 0)]) rfl ?_
      refine lv_if_ne (tgt := 46) hx hb dX8_fileLine_39 (by decide) (fun hc => ?_) (fun hc => ?_)
      · have hf := x_iteF hf hc
        exact KK36 (()) ls _ _ hl hW hS hf
      · have hf := x_iteT hf hc
        refine lv_iconst (v := 1) hx hb dX8_fileLine_42 (by decide) ?_
        refine lv_goto (tgt := 47) hx hb dX8_fileLine_43 (by decide) ?_
        exact KK5 ((1 : Int32)) ls _ _ hl hW hS hf
  clear eK1
  refine lv_icmp_ge (tgt := 17) hx hb dX8_fileLine_10 (by decide) (fun hc => ?_) (fun hc => ?_)
  · have hf := x_iteT hf hc
    refine lv_iconst (v := 0) hx hb dX8_fileLine_17 (by decide) ?_
    exact KK1 ((0 : Int32)) ls _ _ hl hW hS hf
  · have hf := x_iteF hf hc
    refine lv_iconst (v := 1) hx hb dX8_fileLine_13 (by decide) ?_
    refine lv_goto (tgt := 18) hx hb dX8_fileLine_14 (by decide) ?_
    exact KK1 ((1 : Int32)) ls _ _ hl hW hS hf
