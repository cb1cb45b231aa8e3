set_option maxRecDepth 20000 in
theorem ggX8_batchExchanges_X8_whyNotServed : GoodIn wsX8_batchExchanges wsX8_whyNotServed := goodIn_r _ [7, 8, 9, 10, 11, 12, 13, 14, 6, 15, 16, 17, 18, 19, 20, 21, 22, 23, 24, 25, 26, 27, 28, 29, 30, 31, 45, 46, 47, 48, 49, 50, 51, 52, 53, 54, 55, 56, 57, 58, 59, 60, 61, 62, 63, 64, 65, 66, 67, 68, 69, 70, 71] (by decide +kernel) (by decide +kernel)
set_option maxRecDepth 20000 in
theorem gX8_batchExchanges_X8_whyNotServed : GoodIn wsX8_batchExchanges (wsV RX8 276 RX8 yX8_whyNotServed wsX8_whyNotServed) := goodIn_app (goodIn_of _ (by decide +kernel)) ggX8_batchExchanges_X8_whyNotServed
set_option maxRecDepth 20000 in
theorem ggX8_batchExchanges_X8_findsWanted : GoodIn wsX8_batchExchanges wsX8_findsWanted := goodIn_r _ [35, 2, 8, 36, 37, 38, 39, 6, 40, 20, 21, 22, 23, 41, 42, 43, 44, 45, 46, 47, 48, 49, 50, 51, 52, 53, 54, 55, 56, 57, 58, 59, 60, 61, 62, 63, 64, 65, 66, 67, 68, 69, 70, 71] (by decide +kernel) (by decide +kernel)
set_option maxRecDepth 20000 in
theorem gX8_batchExchanges_X8_findsWanted : GoodIn wsX8_batchExchanges (wsV RX8 165 RX8 yX8_findsWanted wsX8_findsWanted) := goodIn_app (goodIn_of _ (by decide +kernel)) ggX8_batchExchanges_X8_findsWanted
theorem dX8_batchExchanges_0 : decode cX8_batchExchanges 0 = .ok (.aload_n 0, 1) := by decide +kernel
theorem dX8_batchExchanges_1 : decode cX8_batchExchanges 1 = .ok (.iconst 0, 1) := by decide +kernel
theorem dX8_batchExchanges_2 : decode cX8_batchExchanges 2 = .ok (.putfield 51, 3) := by decide +kernel
theorem dX8_batchExchanges_5 : decode cX8_batchExchanges 5 = .ok (.aload_n 0, 1) := by decide +kernel
theorem dX8_batchExchanges_6 : decode cX8_batchExchanges 6 = .ok (.iconst 1, 1) := by decide +kernel
theorem dX8_batchExchanges_7 : decode cX8_batchExchanges 7 = .ok (.invokevirtual 276, 3) := by decide +kernel
theorem dX8_batchExchanges_10 : decode cX8_batchExchanges 10 = .ok (.istore_n 1, 1) := by decide +kernel
theorem dX8_batchExchanges_11 : decode cX8_batchExchanges 11 = .ok (.iload_n 1, 1) := by decide +kernel
theorem dX8_batchExchanges_12 : decode cX8_batchExchanges 12 = .ok (.ifCond .eq 5, 3) := by decide +kernel
theorem dX8_batchExchanges_15 : decode cX8_batchExchanges 15 = .ok (.iload_n 1, 1) := by decide +kernel
theorem dX8_batchExchanges_16 : decode cX8_batchExchanges 16 = .ok (.ireturn, 1) := by decide +kernel
theorem dX8_batchExchanges_17 : decode cX8_batchExchanges 17 = .ok (.aload_n 0, 1) := by decide +kernel
theorem dX8_batchExchanges_18 : decode cX8_batchExchanges 18 = .ok (.invokevirtual 165, 3) := by decide +kernel
theorem dX8_batchExchanges_21 : decode cX8_batchExchanges 21 = .ok (.aload_n 0, 1) := by decide +kernel
theorem dX8_batchExchanges_22 : decode cX8_batchExchanges 22 = .ok (.getfield 145, 3) := by decide +kernel
theorem dX8_batchExchanges_25 : decode cX8_batchExchanges 25 = .ok (.ireturn, 1) := by decide +kernel
set_option maxRecDepth 20000 in
theorem ggX8_batchPlatter_X8_whyNotServed : GoodIn wsX8_batchPlatter wsX8_whyNotServed := goodIn_r _ [10, 11, 12, 13, 14, 15, 16, 17, 9, 18, 19, 20, 21, 22, 23, 24, 25, 26, 27, 28, 29, 30, 31, 32, 33, 34, 136, 137, 138, 139, 140, 141, 142, 143, 144, 145, 146, 147, 148, 149, 150, 151, 152, 153, 154, 155, 156, 157, 158, 159, 160, 161, 162] (by decide +kernel) (by decide +kernel)
set_option maxRecDepth 20000 in
theorem gX8_batchPlatter_X8_whyNotServed : GoodIn wsX8_batchPlatter (wsV RX8 276 RX8 yX8_whyNotServed wsX8_whyNotServed) := goodIn_app (goodIn_of _ (by decide +kernel)) ggX8_batchPlatter_X8_whyNotServed
set_option maxRecDepth 20000 in
theorem ggX8_batchPlatter_X8_servingTime : GoodIn wsX8_batchPlatter wsX8_servingTime := goodIn_r _ [38, 39, 40, 41, 9, 42, 11, 43, 44, 45, 46, 47, 48, 49, 50, 51, 2, 3, 4, 52, 53, 54, 55, 56, 57, 58, 59, 23, 24, 25, 26, 60, 61, 62, 63, 64, 65, 66, 67, 68, 69, 70, 71, 72, 73, 74, 75, 76, 77, 78, 79, 80, 81, 82, 83, 84, 85, 86, 87, 88, 89, 90, 91, 92, 93, 94, 95, 96, 97, 98, 99, 100, 101, 102, 103, 104, 105, 106, 107, 108, 109, 110, 111, 112, 113, 114, 115, 116, 117, 118, 119, 120, 121, 122, 123, 124, 125, 126, 127, 128, 129, 130, 131, 132, 136, 137, 138, 139, 140, 141, 142, 143, 144, 145, 146, 147, 148, 149, 150, 151, 152, 153, 154, 155, 156, 157, 158, 159, 160, 161, 162] (by decide +kernel) (by decide +kernel)
set_option maxRecDepth 20000 in
theorem gX8_batchPlatter_X8_servingTime : GoodIn wsX8_batchPlatter (wsV RX8 279 RX8 yX8_servingTime wsX8_servingTime) := goodIn_app (goodIn_of _ (by decide +kernel)) ggX8_batchPlatter_X8_servingTime
set_option maxRecDepth 20000 in
theorem ggX8_batchPlatter_X8_isIn : GoodIn wsX8_batchPlatter wsX8_isIn := goodIn_r _ [135] (by decide +kernel) (by decide +kernel)
set_option maxRecDepth 20000 in
theorem gX8_batchPlatter_X8_isIn : GoodIn wsX8_batchPlatter (va_wsS RX8 57 yX8_isIn wsX8_isIn) := goodIn_app (goodIn_of _ (by decide +kernel)) ggX8_batchPlatter_X8_isIn
theorem dX8_batchPlatter_0 : decode cX8_batchPlatter 0 = .ok (.aload_n 0, 1) := by decide +kernel
theorem dX8_batchPlatter_1 : decode cX8_batchPlatter 1 = .ok (.iconst 0, 1) := by decide +kernel
theorem dX8_batchPlatter_2 : decode cX8_batchPlatter 2 = .ok (.putfield 51, 3) := by decide +kernel
theorem dX8_batchPlatter_5 : decode cX8_batchPlatter 5 = .ok (.aload_n 0, 1) := by decide +kernel
theorem dX8_batchPlatter_6 : decode cX8_batchPlatter 6 = .ok (.iconst 1, 1) := by decide +kernel
theorem dX8_batchPlatter_7 : decode cX8_batchPlatter 7 = .ok (.invokevirtual 276, 3) := by decide +kernel
theorem dX8_batchPlatter_10 : decode cX8_batchPlatter 10 = .ok (.istore_n 2, 1) := by decide +kernel
theorem dX8_batchPlatter_11 : decode cX8_batchPlatter 11 = .ok (.iload_n 2, 1) := by decide +kernel
theorem dX8_batchPlatter_12 : decode cX8_batchPlatter 12 = .ok (.ifCond .eq 5, 3) := by decide +kernel
theorem dX8_batchPlatter_15 : decode cX8_batchPlatter 15 = .ok (.iload_n 2, 1) := by decide +kernel
theorem dX8_batchPlatter_16 : decode cX8_batchPlatter 16 = .ok (.ireturn, 1) := by decide +kernel
theorem dX8_batchPlatter_17 : decode cX8_batchPlatter 17 = .ok (.aload_n 0, 1) := by decide +kernel
theorem dX8_batchPlatter_18 : decode cX8_batchPlatter 18 = .ok (.invokevirtual 279, 3) := by decide +kernel
theorem dX8_batchPlatter_21 : decode cX8_batchPlatter 21 = .ok (.pop, 1) := by decide +kernel
theorem dX8_batchPlatter_22 : decode cX8_batchPlatter 22 = .ok (.iload_n 1, 1) := by decide +kernel
theorem dX8_batchPlatter_23 : decode cX8_batchPlatter 23 = .ok (.i2l, 1) := by decide +kernel
theorem dX8_batchPlatter_24 : decode cX8_batchPlatter 24 = .ok (.lconst 0, 1) := by decide +kernel
theorem dX8_batchPlatter_25 : decode cX8_batchPlatter 25 = .ok (.aload_n 0, 1) := by decide +kernel
theorem dX8_batchPlatter_26 : decode cX8_batchPlatter 26 = .ok (.getfield 145, 3) := by decide +kernel
theorem dX8_batchPlatter_29 : decode cX8_batchPlatter 29 = .ok (.iconst 1, 1) := by decide +kernel
theorem dX8_batchPlatter_30 : decode cX8_batchPlatter 30 = .ok (.isub, 1) := by decide +kernel
theorem dX8_batchPlatter_31 : decode cX8_batchPlatter 31 = .ok (.i2l, 1) := by decide +kernel
theorem dX8_batchPlatter_32 : decode cX8_batchPlatter 32 = .ok (.invokestatic 57, 3) := by decide +kernel
theorem dX8_batchPlatter_35 : decode cX8_batchPlatter 35 = .ok (.ifCond .eq 17, 3) := by decide +kernel
theorem dX8_batchPlatter_38 : decode cX8_batchPlatter 38 = .ok (.aload_n 0, 1) := by decide +kernel
theorem dX8_batchPlatter_39 : decode cX8_batchPlatter 39 = .ok (.getfield 22, 3) := by decide +kernel
theorem dX8_batchPlatter_42 : decode cX8_batchPlatter 42 = .ok (.aload_n 0, 1) := by decide +kernel
theorem dX8_batchPlatter_43 : decode cX8_batchPlatter 43 = .ok (.getfield 25, 3) := by decide +kernel
theorem dX8_batchPlatter_46 : decode cX8_batchPlatter 46 = .ok (.iload_n 1, 1) := by decide +kernel
theorem dX8_batchPlatter_47 : decode cX8_batchPlatter 47 = .ok (.iaload, 1) := by decide +kernel
theorem dX8_batchPlatter_48 : decode cX8_batchPlatter 48 = .ok (.iaload, 1) := by decide +kernel
theorem dX8_batchPlatter_49 : decode cX8_batchPlatter 49 = .ok (.goto 5, 3) := by decide +kernel
theorem dX8_batchPlatter_52 : decode cX8_batchPlatter 52 = .ok (.ldc 186, 2) := by decide +kernel
theorem dX8_batchPlatter_54 : decode cX8_batchPlatter 54 = .ok (.ireturn, 1) := by decide +kernel
set_option maxRecDepth 20000 in
theorem ggX8_oneByOneTime_X8_whyNotServed : GoodIn wsX8_oneByOneTime wsX8_whyNotServed := goodIn_r _ [7, 2, 8, 9, 10, 11, 12, 13, 6, 14, 15, 16, 17, 18, 19, 20, 21, 22, 23, 24, 25, 26, 27, 28, 29, 30, 91, 92, 93, 94, 95, 96, 97, 98, 99, 100, 101, 102, 103, 104, 105, 106, 107, 108, 109, 110, 111, 112, 113, 114, 115, 116, 117] (by decide +kernel) (by decide +kernel)
set_option maxRecDepth 20000 in
theorem gX8_oneByOneTime_X8_whyNotServed : GoodIn wsX8_oneByOneTime (wsV RX8 276 RX8 yX8_whyNotServed wsX8_whyNotServed) := goodIn_app (goodIn_of _ (by decide +kernel)) ggX8_oneByOneTime_X8_whyNotServed
set_option maxRecDepth 20000 in
theorem ggX8_oneByOneTime_X8_tries : GoodIn wsX8_oneByOneTime wsX8_tries := goodIn_r _ [34, 2, 35, 36, 37, 38, 6, 39, 91, 92, 93, 94, 95, 96, 97, 98, 99, 100, 101, 102, 103, 104, 105, 106, 107, 108, 109, 110, 111, 112, 113, 114, 115, 116, 117] (by decide +kernel) (by decide +kernel)
set_option maxRecDepth 20000 in
theorem gX8_oneByOneTime_X8_tries : GoodIn wsX8_oneByOneTime (wsV RX8 136 RX8 yX8_tries wsX8_tries) := goodIn_app (goodIn_of _ (by decide +kernel)) ggX8_oneByOneTime_X8_tries
set_option maxRecDepth 20000 in
theorem ggX8_oneByOneTime_X8_reads : GoodIn wsX8_oneByOneTime wsX8_reads := goodIn_r _ [43, 2, 44, 45, 46, 6, 47, 19, 20, 21, 22, 48, 49, 50, 51, 52, 53, 54, 55, 56, 57, 58, 59, 60, 61, 62, 63, 64, 65, 66, 67, 68, 69, 70, 71, 72, 73, 74, 75, 76, 77, 78, 79, 80, 81, 82, 83, 84, 85, 86, 91, 92, 93, 94, 95, 96, 97, 98, 99, 100, 101, 102, 103, 104, 105, 106, 107, 108, 109, 110, 111, 112, 113, 114, 115, 116, 117] (by decide +kernel) (by decide +kernel)
set_option maxRecDepth 20000 in
theorem gX8_oneByOneTime_X8_reads : GoodIn wsX8_oneByOneTime (wsV RX8 162 RX8 yX8_reads wsX8_reads) := goodIn_app (goodIn_of _ (by decide +kernel)) ggX8_oneByOneTime_X8_reads
set_option maxRecDepth 20000 in
theorem ggX8_oneByOneTime_X8_takesBack : GoodIn wsX8_oneByOneTime wsX8_takesBack := goodIn_r _ [90, 2, 36, 35, 37, 38, 6, 39, 91, 92, 93, 94, 95, 96, 97, 98, 99, 100, 101, 102, 103, 104, 105, 106, 107, 108, 109, 110, 111, 112, 113, 114, 115, 116, 117] (by decide +kernel) (by decide +kernel)
set_option maxRecDepth 20000 in
theorem gX8_oneByOneTime_X8_takesBack : GoodIn wsX8_oneByOneTime (wsV RX8 139 RX8 yX8_takesBack wsX8_takesBack) := goodIn_app (goodIn_of _ (by decide +kernel)) ggX8_oneByOneTime_X8_takesBack
theorem dX8_oneByOneTime_0 : decode cX8_oneByOneTime 0 = .ok (.aload_n 0, 1) := by decide +kernel
theorem dX8_oneByOneTime_1 : decode cX8_oneByOneTime 1 = .ok (.iconst 0, 1) := by decide +kernel
theorem dX8_oneByOneTime_2 : decode cX8_oneByOneTime 2 = .ok (.putfield 51, 3) := by decide +kernel
theorem dX8_oneByOneTime_5 : decode cX8_oneByOneTime 5 = .ok (.aload_n 0, 1) := by decide +kernel
theorem dX8_oneByOneTime_6 : decode cX8_oneByOneTime 6 = .ok (.iconst 1, 1) := by decide +kernel
theorem dX8_oneByOneTime_7 : decode cX8_oneByOneTime 7 = .ok (.invokevirtual 276, 3) := by decide +kernel
theorem dX8_oneByOneTime_10 : decode cX8_oneByOneTime 10 = .ok (.istore_n 1, 1) := by decide +kernel
theorem dX8_oneByOneTime_11 : decode cX8_oneByOneTime 11 = .ok (.iload_n 1, 1) := by decide +kernel
theorem dX8_oneByOneTime_12 : decode cX8_oneByOneTime 12 = .ok (.ifCond .eq 5, 3) := by decide +kernel
theorem dX8_oneByOneTime_15 : decode cX8_oneByOneTime 15 = .ok (.iload_n 1, 1) := by decide +kernel
theorem dX8_oneByOneTime_16 : decode cX8_oneByOneTime 16 = .ok (.ireturn, 1) := by decide +kernel
theorem dX8_oneByOneTime_17 : decode cX8_oneByOneTime 17 = .ok (.aload_n 0, 1) := by decide +kernel
theorem dX8_oneByOneTime_18 : decode cX8_oneByOneTime 18 = .ok (.invokevirtual 136, 3) := by decide +kernel
theorem dX8_oneByOneTime_21 : decode cX8_oneByOneTime 21 = .ok (.iconst 0, 1) := by decide +kernel
theorem dX8_oneByOneTime_22 : decode cX8_oneByOneTime 22 = .ok (.istore_n 2, 1) := by decide +kernel
theorem dX8_oneByOneTime_23 : decode cX8_oneByOneTime 23 = .ok (.iload_n 2, 1) := by decide +kernel
theorem dX8_oneByOneTime_24 : decode cX8_oneByOneTime 24 = .ok (.aload_n 0, 1) := by decide +kernel
theorem dX8_oneByOneTime_25 : decode cX8_oneByOneTime 25 = .ok (.getfield 7, 3) := by decide +kernel
theorem dX8_oneByOneTime_28 : decode cX8_oneByOneTime 28 = .ok (.bipush 16, 2) := by decide +kernel
theorem dX8_oneByOneTime_30 : decode cX8_oneByOneTime 30 = .ok (.iaload, 1) := by decide +kernel
theorem dX8_oneByOneTime_31 : decode cX8_oneByOneTime 31 = .ok (.if_icmp .ge 23, 3) := by decide +kernel
theorem dX8_oneByOneTime_34 : decode cX8_oneByOneTime 34 = .ok (.aload_n 0, 1) := by decide +kernel
theorem dX8_oneByOneTime_35 : decode cX8_oneByOneTime 35 = .ok (.aload_n 0, 1) := by decide +kernel
theorem dX8_oneByOneTime_36 : decode cX8_oneByOneTime 36 = .ok (.getfield 7, 3) := by decide +kernel
theorem dX8_oneByOneTime_39 : decode cX8_oneByOneTime 39 = .ok (.sipush 589, 3) := by decide +kernel
theorem dX8_oneByOneTime_42 : decode cX8_oneByOneTime 42 = .ok (.iload_n 2, 1) := by decide +kernel
theorem dX8_oneByOneTime_43 : decode cX8_oneByOneTime 43 = .ok (.iadd, 1) := by decide +kernel
theorem dX8_oneByOneTime_44 : decode cX8_oneByOneTime 44 = .ok (.iaload, 1) := by decide +kernel
theorem dX8_oneByOneTime_45 : decode cX8_oneByOneTime 45 = .ok (.invokevirtual 162, 3) := by decide +kernel
theorem dX8_oneByOneTime_48 : decode cX8_oneByOneTime 48 = .ok (.iinc 2 1, 3) := by decide +kernel
theorem dX8_oneByOneTime_51 : decode cX8_oneByOneTime 51 = .ok (.goto (-28), 3) := by decide +kernel
theorem dX8_oneByOneTime_54 : decode cX8_oneByOneTime 54 = .ok (.aload_n 0, 1) := by decide +kernel
theorem dX8_oneByOneTime_55 : decode cX8_oneByOneTime 55 = .ok (.invokevirtual 139, 3) := by decide +kernel
theorem dX8_oneByOneTime_58 : decode cX8_oneByOneTime 58 = .ok (.ireturn, 1) := by decide +kernel
set_option maxRecDepth 20000 in
theorem ggX8_leastTimeWithoutOne_X8_whyNotServed : GoodIn wsX8_leastTimeWithoutOne wsX8_whyNotServed := goodIn_r _ [8, 3, 9, 10, 11, 12, 13, 14, 7, 15, 16, 17, 18, 19, 20, 21, 22, 23, 24, 25, 26, 27, 28, 29, 30, 31, 132, 133, 134, 135, 136, 137, 138, 139, 140, 141, 142, 143, 144, 145, 146, 147, 148, 149, 150, 151, 152, 153, 154, 155, 156, 157, 158] (by decide +kernel) (by decide +kernel)
set_option maxRecDepth 20000 in
theorem gX8_leastTimeWithoutOne_X8_whyNotServed : GoodIn wsX8_leastTimeWithoutOne (wsV RX8 276 RX8 yX8_whyNotServed wsX8_whyNotServed) := goodIn_app (goodIn_of _ (by decide +kernel)) ggX8_leastTimeWithoutOne_X8_whyNotServed
set_option maxRecDepth 20000 in
theorem ggX8_leastTimeWithoutOne_X8_tries : GoodIn wsX8_leastTimeWithoutOne wsX8_tries := goodIn_r _ [35, 3, 36, 37, 38, 39, 7, 40, 132, 133, 134, 135, 136, 137, 138, 139, 140, 141, 142, 143, 144, 145, 146, 147, 148, 149, 150, 151, 152, 153, 154, 155, 156, 157, 158] (by decide +kernel) (by decide +kernel)
set_option maxRecDepth 20000 in
theorem gX8_leastTimeWithoutOne_X8_tries : GoodIn wsX8_leastTimeWithoutOne (wsV RX8 136 RX8 yX8_tries wsX8_tries) := goodIn_app (goodIn_of _ (by decide +kernel)) ggX8_leastTimeWithoutOne_X8_tries
set_option maxRecDepth 20000 in
theorem ggX8_leastTimeWithoutOne_X8_drops : GoodIn wsX8_leastTimeWithoutOne wsX8_drops := goodIn_r _ [44, 3, 132, 133, 134, 135, 136, 137, 138, 139, 140, 141, 142, 143, 144, 145, 146, 147, 148, 149, 150, 151, 152, 153, 154, 155, 156, 157, 158] (by decide +kernel) (by decide +kernel)
set_option maxRecDepth 20000 in
theorem gX8_leastTimeWithoutOne_X8_drops : GoodIn wsX8_leastTimeWithoutOne (wsV RX8 273 RX8 yX8_drops wsX8_drops) := goodIn_app (goodIn_of _ (by decide +kernel)) ggX8_leastTimeWithoutOne_X8_drops
set_option maxRecDepth 20000 in
theorem ggX8_leastTimeWithoutOne_X8_serves : GoodIn wsX8_leastTimeWithoutOne wsX8_serves := goodIn_r _ [48, 3, 49, 50, 51, 52, 53, 54, 7, 55, 56, 57, 58, 59, 20, 21, 22, 23, 60, 61, 62, 63, 64, 65, 66, 67, 68, 69, 70, 71, 72, 73, 74, 75, 76, 77, 78, 79, 80, 81, 82, 83, 84, 85, 86, 87, 88, 89, 90, 91, 92, 93, 94, 95, 96, 97, 98, 99, 100, 101, 102, 103, 104, 105, 106, 107, 108, 109, 110, 2, 111, 112, 113, 114, 115, 116, 117, 118, 119, 120, 121, 122, 123, 124, 125, 126, 127, 132, 133, 134, 135, 136, 137, 138, 139, 140, 141, 142, 143, 144, 145, 146, 147, 148, 149, 150, 151, 152, 153, 154, 155, 156, 157, 158] (by decide +kernel) (by decide +kernel)
set_option maxRecDepth 20000 in
theorem gX8_leastTimeWithoutOne_X8_serves : GoodIn wsX8_leastTimeWithoutOne (wsV RX8 183 RX8 yX8_serves wsX8_serves) := goodIn_app (goodIn_of _ (by decide +kernel)) ggX8_leastTimeWithoutOne_X8_serves
set_option maxRecDepth 20000 in
theorem ggX8_leastTimeWithoutOne_X8_takesBack : GoodIn wsX8_leastTimeWithoutOne wsX8_takesBack := goodIn_r _ [131, 3, 37, 36, 38, 39, 7, 40, 132, 133, 134, 135, 136, 137, 138, 139, 140, 141, 142, 143, 144, 145, 146, 147, 148, 149, 150, 151, 152, 153, 154, 155, 156, 157, 158] (by decide +kernel) (by decide +kernel)
set_option maxRecDepth 20000 in
theorem gX8_leastTimeWithoutOne_X8_takesBack : GoodIn wsX8_leastTimeWithoutOne (wsV RX8 139 RX8 yX8_takesBack wsX8_takesBack) := goodIn_app (goodIn_of _ (by decide +kernel)) ggX8_leastTimeWithoutOne_X8_takesBack
theorem dX8_leastTimeWithoutOne_0 : decode cX8_leastTimeWithoutOne 0 = .ok (.aload_n 0, 1) := by decide +kernel
theorem dX8_leastTimeWithoutOne_1 : decode cX8_leastTimeWithoutOne 1 = .ok (.iconst 0, 1) := by decide +kernel
theorem dX8_leastTimeWithoutOne_2 : decode cX8_leastTimeWithoutOne 2 = .ok (.putfield 51, 3) := by decide +kernel
theorem dX8_leastTimeWithoutOne_5 : decode cX8_leastTimeWithoutOne 5 = .ok (.aload_n 0, 1) := by decide +kernel
theorem dX8_leastTimeWithoutOne_6 : decode cX8_leastTimeWithoutOne 6 = .ok (.iconst 2, 1) := by decide +kernel
theorem dX8_leastTimeWithoutOne_7 : decode cX8_leastTimeWithoutOne 7 = .ok (.invokevirtual 276, 3) := by decide +kernel
theorem dX8_leastTimeWithoutOne_10 : decode cX8_leastTimeWithoutOne 10 = .ok (.istore_n 1, 1) := by decide +kernel
theorem dX8_leastTimeWithoutOne_11 : decode cX8_leastTimeWithoutOne 11 = .ok (.iload_n 1, 1) := by decide +kernel
theorem dX8_leastTimeWithoutOne_12 : decode cX8_leastTimeWithoutOne 12 = .ok (.ifCond .eq 5, 3) := by decide +kernel
theorem dX8_leastTimeWithoutOne_15 : decode cX8_leastTimeWithoutOne 15 = .ok (.iload_n 1, 1) := by decide +kernel
theorem dX8_leastTimeWithoutOne_16 : decode cX8_leastTimeWithoutOne 16 = .ok (.ireturn, 1) := by decide +kernel
theorem dX8_leastTimeWithoutOne_17 : decode cX8_leastTimeWithoutOne 17 = .ok (.ldc 151, 2) := by decide +kernel
theorem dX8_leastTimeWithoutOne_19 : decode cX8_leastTimeWithoutOne 19 = .ok (.istore_n 2, 1) := by decide +kernel
theorem dX8_leastTimeWithoutOne_20 : decode cX8_leastTimeWithoutOne 20 = .ok (.iconst 0, 1) := by decide +kernel
theorem dX8_leastTimeWithoutOne_21 : decode cX8_leastTimeWithoutOne 21 = .ok (.istore_n 3, 1) := by decide +kernel
theorem dX8_leastTimeWithoutOne_22 : decode cX8_leastTimeWithoutOne 22 = .ok (.iload_n 3, 1) := by decide +kernel
theorem dX8_leastTimeWithoutOne_23 : decode cX8_leastTimeWithoutOne 23 = .ok (.aload_n 0, 1) := by decide +kernel
theorem dX8_leastTimeWithoutOne_24 : decode cX8_leastTimeWithoutOne 24 = .ok (.getfield 7, 3) := by decide +kernel
theorem dX8_leastTimeWithoutOne_27 : decode cX8_leastTimeWithoutOne 27 = .ok (.bipush 16, 2) := by decide +kernel
theorem dX8_leastTimeWithoutOne_29 : decode cX8_leastTimeWithoutOne 29 = .ok (.iaload, 1) := by decide +kernel
theorem dX8_leastTimeWithoutOne_30 : decode cX8_leastTimeWithoutOne 30 = .ok (.if_icmp .ge 41, 3) := by decide +kernel
theorem dX8_leastTimeWithoutOne_33 : decode cX8_leastTimeWithoutOne 33 = .ok (.aload_n 0, 1) := by decide +kernel
theorem dX8_leastTimeWithoutOne_34 : decode cX8_leastTimeWithoutOne 34 = .ok (.invokevirtual 136, 3) := by decide +kernel
theorem dX8_leastTimeWithoutOne_37 : decode cX8_leastTimeWithoutOne 37 = .ok (.aload_n 0, 1) := by decide +kernel
theorem dX8_leastTimeWithoutOne_38 : decode cX8_leastTimeWithoutOne 38 = .ok (.iload_n 3, 1) := by decide +kernel
theorem dX8_leastTimeWithoutOne_39 : decode cX8_leastTimeWithoutOne 39 = .ok (.invokevirtual 273, 3) := by decide +kernel
theorem dX8_leastTimeWithoutOne_42 : decode cX8_leastTimeWithoutOne 42 = .ok (.aload_n 0, 1) := by decide +kernel
theorem dX8_leastTimeWithoutOne_43 : decode cX8_leastTimeWithoutOne 43 = .ok (.invokevirtual 183, 3) := by decide +kernel
theorem dX8_leastTimeWithoutOne_46 : decode cX8_leastTimeWithoutOne 46 = .ok (.aload_n 0, 1) := by decide +kernel
theorem dX8_leastTimeWithoutOne_47 : decode cX8_leastTimeWithoutOne 47 = .ok (.invokevirtual 139, 3) := by decide +kernel
theorem dX8_leastTimeWithoutOne_50 : decode cX8_leastTimeWithoutOne 50 = .ok (.istore 4, 2) := by decide +kernel
theorem dX8_leastTimeWithoutOne_52 : decode cX8_leastTimeWithoutOne 52 = .ok (.iload 4, 2) := by decide +kernel
theorem dX8_leastTimeWithoutOne_54 : decode cX8_leastTimeWithoutOne 54 = .ok (.iload_n 2, 1) := by decide +kernel
theorem dX8_leastTimeWithoutOne_55 : decode cX8_leastTimeWithoutOne 55 = .ok (.if_icmp .ge 8, 3) := by decide +kernel
theorem dX8_leastTimeWithoutOne_58 : decode cX8_leastTimeWithoutOne 58 = .ok (.iload 4, 2) := by decide +kernel
theorem dX8_leastTimeWithoutOne_60 : decode cX8_leastTimeWithoutOne 60 = .ok (.goto 4, 3) := by decide +kernel
theorem dX8_leastTimeWithoutOne_63 : decode cX8_leastTimeWithoutOne 63 = .ok (.iload_n 2, 1) := by decide +kernel
theorem dX8_leastTimeWithoutOne_64 : decode cX8_leastTimeWithoutOne 64 = .ok (.istore_n 2, 1) := by decide +kernel
theorem dX8_leastTimeWithoutOne_65 : decode cX8_leastTimeWithoutOne 65 = .ok (.iinc 3 1, 3) := by decide +kernel
theorem dX8_leastTimeWithoutOne_68 : decode cX8_leastTimeWithoutOne 68 = .ok (.goto (-46), 3) := by decide +kernel
theorem dX8_leastTimeWithoutOne_71 : decode cX8_leastTimeWithoutOne 71 = .ok (.iload_n 2, 1) := by decide +kernel
theorem dX8_leastTimeWithoutOne_72 : decode cX8_leastTimeWithoutOne 72 = .ok (.ireturn, 1) := by decide +kernel
set_option maxRecDepth 20000 in
theorem ggX8_nearest_X8_far : GoodIn wsX8_nearest wsX8_far := goodIn_r _ [10] (by decide +kernel) (by decide +kernel)
set_option maxRecDepth 20000 in
theorem gX8_nearest_X8_far : GoodIn wsX8_nearest (va_wsS RX8 93 yX8_far wsX8_far) := goodIn_app (goodIn_of _ (by decide +kernel)) ggX8_nearest_X8_far
theorem dX8_nearest_0 : decode cX8_nearest 0 = .ok (.ldc 151, 2) := by decide +kernel
theorem dX8_nearest_2 : decode cX8_nearest 2 = .ok (.istore_n 2, 1) := by decide +kernel
theorem dX8_nearest_3 : decode cX8_nearest 3 = .ok (.iconst 0, 1) := by decide +kernel
theorem dX8_nearest_4 : decode cX8_nearest 4 = .ok (.istore_n 3, 1) := by decide +kernel
theorem dX8_nearest_5 : decode cX8_nearest 5 = .ok (.iload_n 3, 1) := by decide +kernel
theorem dX8_nearest_6 : decode cX8_nearest 6 = .ok (.aload_n 0, 1) := by decide +kernel
theorem dX8_nearest_7 : decode cX8_nearest 7 = .ok (.getfield 7, 3) := by decide +kernel
theorem dX8_nearest_10 : decode cX8_nearest 10 = .ok (.bipush 6, 2) := by decide +kernel
theorem dX8_nearest_12 : decode cX8_nearest 12 = .ok (.iaload, 1) := by decide +kernel
theorem dX8_nearest_13 : decode cX8_nearest 13 = .ok (.if_icmp .ge 27, 3) := by decide +kernel
theorem dX8_nearest_16 : decode cX8_nearest 16 = .ok (.iload_n 2, 1) := by decide +kernel
theorem dX8_nearest_17 : decode cX8_nearest 17 = .ok (.iload_n 1, 1) := by decide +kernel
theorem dX8_nearest_18 : decode cX8_nearest 18 = .ok (.aload_n 0, 1) := by decide +kernel
theorem dX8_nearest_19 : decode cX8_nearest 19 = .ok (.getfield 7, 3) := by decide +kernel
theorem dX8_nearest_22 : decode cX8_nearest 22 = .ok (.bipush 17, 2) := by decide +kernel
theorem dX8_nearest_24 : decode cX8_nearest 24 = .ok (.iload_n 3, 1) := by decide +kernel
theorem dX8_nearest_25 : decode cX8_nearest 25 = .ok (.iadd, 1) := by decide +kernel
theorem dX8_nearest_26 : decode cX8_nearest 26 = .ok (.iaload, 1) := by decide +kernel
theorem dX8_nearest_27 : decode cX8_nearest 27 = .ok (.invokestatic 93, 3) := by decide +kernel
theorem dX8_nearest_30 : decode cX8_nearest 30 = .ok (.invokestatic 69, 3) := by decide +kernel
theorem dX8_nearest_33 : decode cX8_nearest 33 = .ok (.istore_n 2, 1) := by decide +kernel
theorem dX8_nearest_34 : decode cX8_nearest 34 = .ok (.iinc 3 1, 3) := by decide +kernel
theorem dX8_nearest_37 : decode cX8_nearest 37 = .ok (.goto (-32), 3) := by decide +kernel
theorem dX8_nearest_40 : decode cX8_nearest 40 = .ok (.iload_n 2, 1) := by decide +kernel
theorem dX8_nearest_41 : decode cX8_nearest 41 = .ok (.ireturn, 1) := by decide +kernel
set_option maxRecDepth 20000 in
theorem ggX8_nearestHome_X8_isPlatter : GoodIn wsX8_nearestHome wsX8_isPlatter := goodIn_r _ [9, 3, 10, 11, 8, 12, 28, 29, 30, 31, 32, 33, 34, 35, 36, 37, 38, 39, 40, 41, 42, 43, 44, 45, 46, 47, 48, 49, 50, 51, 52, 53, 54] (by decide +kernel) (by decide +kernel)
set_option maxRecDepth 20000 in
theorem gX8_nearestHome_X8_isPlatter : GoodIn wsX8_nearestHome (wsV RX8 61 RX8 yX8_isPlatter wsX8_isPlatter) := goodIn_app (goodIn_of _ (by decide +kernel)) ggX8_nearestHome_X8_isPlatter
set_option maxRecDepth 20000 in
theorem ggX8_nearestHome_X8_homeAt : GoodIn wsX8_nearestHome wsX8_homeAt := goodIn_r _ [15] (by decide +kernel) (by decide +kernel)
set_option maxRecDepth 20000 in
theorem gX8_nearestHome_X8_homeAt : GoodIn wsX8_nearestHome (va_wsS RX8 265 yX8_homeAt wsX8_homeAt) := goodIn_app (goodIn_of _ (by decide +kernel)) ggX8_nearestHome_X8_homeAt
set_option maxRecDepth 20000 in
theorem ggX8_nearestHome_X8_nearest : GoodIn wsX8_nearestHome wsX8_nearest := goodIn_r _ [19, 20, 3, 21, 22, 23, 24, 25, 26, 8, 27, 28, 29, 30, 31, 32, 33, 34, 35, 36, 37, 38, 39, 40, 41, 42, 43, 44, 45, 46, 47, 48, 49, 50, 51, 52, 53, 54] (by decide +kernel) (by decide +kernel)
set_option maxRecDepth 20000 in
theorem gX8_nearestHome_X8_nearest : GoodIn wsX8_nearestHome (wsV RX8 282 RX8 yX8_nearest wsX8_nearest) := goodIn_app (goodIn_of _ (by decide +kernel)) ggX8_nearestHome_X8_nearest
theorem dX8_nearestHome_0 : decode cX8_nearestHome 0 = .ok (.aload_n 0, 1) := by decide +kernel
theorem dX8_nearestHome_1 : decode cX8_nearestHome 1 = .ok (.iconst 0, 1) := by decide +kernel
theorem dX8_nearestHome_2 : decode cX8_nearestHome 2 = .ok (.putfield 51, 3) := by decide +kernel
theorem dX8_nearestHome_5 : decode cX8_nearestHome 5 = .ok (.aload_n 0, 1) := by decide +kernel
theorem dX8_nearestHome_6 : decode cX8_nearestHome 6 = .ok (.iload_n 1, 1) := by decide +kernel
theorem dX8_nearestHome_7 : decode cX8_nearestHome 7 = .ok (.invokevirtual 61, 3) := by decide +kernel
theorem dX8_nearestHome_10 : decode cX8_nearestHome 10 = .ok (.ifCond .ne 6, 3) := by decide +kernel
theorem dX8_nearestHome_13 : decode cX8_nearestHome 13 = .ok (.ldc 186, 2) := by decide +kernel
theorem dX8_nearestHome_15 : decode cX8_nearestHome 15 = .ok (.ireturn, 1) := by decide +kernel
theorem dX8_nearestHome_16 : decode cX8_nearestHome 16 = .ok (.aload_n 0, 1) := by decide +kernel
theorem dX8_nearestHome_17 : decode cX8_nearestHome 17 = .ok (.getfield 7, 3) := by decide +kernel
theorem dX8_nearestHome_20 : decode cX8_nearestHome 20 = .ok (.bipush 6, 2) := by decide +kernel
theorem dX8_nearestHome_22 : decode cX8_nearestHome 22 = .ok (.iaload, 1) := by decide +kernel
theorem dX8_nearestHome_23 : decode cX8_nearestHome 23 = .ok (.ifCond .ne 6, 3) := by decide +kernel
theorem dX8_nearestHome_26 : decode cX8_nearestHome 26 = .ok (.ldc 177, 2) := by decide +kernel
theorem dX8_nearestHome_28 : decode cX8_nearestHome 28 = .ok (.ireturn, 1) := by decide +kernel
theorem dX8_nearestHome_29 : decode cX8_nearestHome 29 = .ok (.iconst (-1), 1) := by decide +kernel
theorem dX8_nearestHome_30 : decode cX8_nearestHome 30 = .ok (.istore_n 2, 1) := by decide +kernel
theorem dX8_nearestHome_31 : decode cX8_nearestHome 31 = .ok (.iconst 0, 1) := by decide +kernel
theorem dX8_nearestHome_32 : decode cX8_nearestHome 32 = .ok (.istore_n 3, 1) := by decide +kernel
theorem dX8_nearestHome_33 : decode cX8_nearestHome 33 = .ok (.iload_n 3, 1) := by decide +kernel
theorem dX8_nearestHome_34 : decode cX8_nearestHome 34 = .ok (.aload_n 0, 1) := by decide +kernel
theorem dX8_nearestHome_35 : decode cX8_nearestHome 35 = .ok (.getfield 7, 3) := by decide +kernel
theorem dX8_nearestHome_38 : decode cX8_nearestHome 38 = .ok (.iconst 0, 1) := by decide +kernel
theorem dX8_nearestHome_39 : decode cX8_nearestHome 39 = .ok (.iaload, 1) := by decide +kernel
theorem dX8_nearestHome_40 : decode cX8_nearestHome 40 = .ok (.if_icmp .ge 54, 3) := by decide +kernel
theorem dX8_nearestHome_43 : decode cX8_nearestHome 43 = .ok (.aload_n 0, 1) := by decide +kernel
theorem dX8_nearestHome_44 : decode cX8_nearestHome 44 = .ok (.getfield 7, 3) := by decide +kernel
theorem dX8_nearestHome_47 : decode cX8_nearestHome 47 = .ok (.iload_n 3, 1) := by decide +kernel
theorem dX8_nearestHome_48 : decode cX8_nearestHome 48 = .ok (.invokestatic 265, 3) := by decide +kernel
theorem dX8_nearestHome_51 : decode cX8_nearestHome 51 = .ok (.istore 4, 2) := by decide +kernel
theorem dX8_nearestHome_53 : decode cX8_nearestHome 53 = .ok (.iload 4, 2) := by decide +kernel
theorem dX8_nearestHome_55 : decode cX8_nearestHome 55 = .ok (.iconst (-1), 1) := by decide +kernel
theorem dX8_nearestHome_56 : decode cX8_nearestHome 56 = .ok (.if_icmp .eq 12, 3) := by decide +kernel
theorem dX8_nearestHome_59 : decode cX8_nearestHome 59 = .ok (.iload 4, 2) := by decide +kernel
theorem dX8_nearestHome_61 : decode cX8_nearestHome 61 = .ok (.iload_n 1, 1) := by decide +kernel
theorem dX8_nearestHome_62 : decode cX8_nearestHome 62 = .ok (.if_icmp .eq 6, 3) := by decide +kernel
theorem dX8_nearestHome_65 : decode cX8_nearestHome 65 = .ok (.goto 23, 3) := by decide +kernel
theorem dX8_nearestHome_68 : decode cX8_nearestHome 68 = .ok (.iload_n 2, 1) := by decide +kernel
theorem dX8_nearestHome_69 : decode cX8_nearestHome 69 = .ok (.iconst (-1), 1) := by decide +kernel
theorem dX8_nearestHome_70 : decode cX8_nearestHome 70 = .ok (.if_icmp .eq 16, 3) := by decide +kernel
theorem dX8_nearestHome_73 : decode cX8_nearestHome 73 = .ok (.aload_n 0, 1) := by decide +kernel
theorem dX8_nearestHome_74 : decode cX8_nearestHome 74 = .ok (.iload_n 3, 1) := by decide +kernel
theorem dX8_nearestHome_75 : decode cX8_nearestHome 75 = .ok (.invokevirtual 282, 3) := by decide +kernel
theorem dX8_nearestHome_78 : decode cX8_nearestHome 78 = .ok (.aload_n 0, 1) := by decide +kernel
theorem dX8_nearestHome_79 : decode cX8_nearestHome 79 = .ok (.iload_n 2, 1) := by decide +kernel
theorem dX8_nearestHome_80 : decode cX8_nearestHome 80 = .ok (.invokevirtual 282, 3) := by decide +kernel
theorem dX8_nearestHome_83 : decode cX8_nearestHome 83 = .ok (.if_icmp .ge 5, 3) := by decide +kernel
theorem dX8_nearestHome_86 : decode cX8_nearestHome 86 = .ok (.iload_n 3, 1) := by decide +kernel
theorem dX8_nearestHome_87 : decode cX8_nearestHome 87 = .ok (.istore_n 2, 1) := by decide +kernel
theorem dX8_nearestHome_88 : decode cX8_nearestHome 88 = .ok (.iinc 3 1, 3) := by decide +kernel
theorem dX8_nearestHome_91 : decode cX8_nearestHome 91 = .ok (.goto (-58), 3) := by decide +kernel
theorem dX8_nearestHome_94 : decode cX8_nearestHome 94 = .ok (.iload_n 2, 1) := by decide +kernel
theorem dX8_nearestHome_95 : decode cX8_nearestHome 95 = .ok (.ireturn, 1) := by decide +kernel
theorem dX8_puts_0 : decode cX8_puts 0 = .ok (.aload_n 0, 1) := by decide +kernel
theorem dX8_puts_1 : decode cX8_puts 1 = .ok (.getfield 31, 3) := by decide +kernel
theorem dX8_puts_4 : decode cX8_puts 4 = .ok (.aload_n 0, 1) := by decide +kernel
theorem dX8_puts_5 : decode cX8_puts 5 = .ok (.getfield 285, 3) := by decide +kernel
theorem dX8_puts_8 : decode cX8_puts 8 = .ok (.iload_n 1, 1) := by decide +kernel
theorem dX8_puts_9 : decode cX8_puts 9 = .ok (.i2b, 1) := by decide +kernel
theorem dX8_puts_10 : decode cX8_puts 10 = .ok (.bastore, 1) := by decide +kernel
theorem dX8_puts_11 : decode cX8_puts 11 = .ok (.aload_n 0, 1) := by decide +kernel
theorem dX8_puts_12 : decode cX8_puts 12 = .ok (.dup, 1) := by decide +kernel
theorem dX8_puts_13 : decode cX8_puts 13 = .ok (.getfield 285, 3) := by decide +kernel
theorem dX8_puts_16 : decode cX8_puts 16 = .ok (.iconst 1, 1) := by decide +kernel
theorem dX8_puts_17 : decode cX8_puts 17 = .ok (.iadd, 1) := by decide +kernel
theorem dX8_puts_18 : decode cX8_puts 18 = .ok (.putfield 285, 3) := by decide +kernel
theorem dX8_puts_21 : decode cX8_puts 21 = .ok (.return_, 1) := by decide +kernel
set_option maxRecDepth 20000 in
theorem ggX8_digits_X8_puts : GoodIn wsX8_digits wsX8_puts := goodIn_r _ [5, 6, 7, 8, 9, 10, 11, 12, 13, 14, 15, 16, 17, 18, 19, 20, 21, 22, 23, 24, 25, 26, 27, 28, 29, 30, 31, 32, 33, 34] (by decide +kernel) (by decide +kernel)
set_option maxRecDepth 20000 in
theorem gX8_digits_X8_puts : GoodIn wsX8_digits (wsV RX8 288 RX8 yX8_puts wsX8_puts) := goodIn_app (goodIn_of _ (by decide +kernel)) ggX8_digits_X8_puts
theorem dX8_digits_0 : decode cX8_digits 0 = .ok (.iconst 1, 1) := by decide +kernel
theorem dX8_digits_1 : decode cX8_digits 1 = .ok (.istore_n 2, 1) := by decide +kernel
theorem dX8_digits_2 : decode cX8_digits 2 = .ok (.iload_n 1, 1) := by decide +kernel
theorem dX8_digits_3 : decode cX8_digits 3 = .ok (.iload_n 2, 1) := by decide +kernel
theorem dX8_digits_4 : decode cX8_digits 4 = .ok (.idiv, 1) := by decide +kernel
theorem dX8_digits_5 : decode cX8_digits 5 = .ok (.bipush 9, 2) := by decide +kernel
theorem dX8_digits_7 : decode cX8_digits 7 = .ok (.if_icmp .le 11, 3) := by decide +kernel
theorem dX8_digits_10 : decode cX8_digits 10 = .ok (.iload_n 2, 1) := by decide +kernel
theorem dX8_digits_11 : decode cX8_digits 11 = .ok (.bipush 10, 2) := by decide +kernel
theorem dX8_digits_13 : decode cX8_digits 13 = .ok (.imul, 1) := by decide +kernel
theorem dX8_digits_14 : decode cX8_digits 14 = .ok (.istore_n 2, 1) := by decide +kernel
theorem dX8_digits_15 : decode cX8_digits 15 = .ok (.goto (-13), 3) := by decide +kernel
theorem dX8_digits_18 : decode cX8_digits 18 = .ok (.iload_n 2, 1) := by decide +kernel
theorem dX8_digits_19 : decode cX8_digits 19 = .ok (.istore_n 3, 1) := by decide +kernel
theorem dX8_digits_20 : decode cX8_digits 20 = .ok (.iload_n 3, 1) := by decide +kernel
theorem dX8_digits_21 : decode cX8_digits 21 = .ok (.ifCond .le 24, 3) := by decide +kernel
theorem dX8_digits_24 : decode cX8_digits 24 = .ok (.aload_n 0, 1) := by decide +kernel
theorem dX8_digits_25 : decode cX8_digits 25 = .ok (.bipush 48, 2) := by decide +kernel
theorem dX8_digits_27 : decode cX8_digits 27 = .ok (.iload_n 1, 1) := by decide +kernel
theorem dX8_digits_28 : decode cX8_digits 28 = .ok (.iload_n 3, 1) := by decide +kernel
theorem dX8_digits_29 : decode cX8_digits 29 = .ok (.idiv, 1) := by decide +kernel
theorem dX8_digits_30 : decode cX8_digits 30 = .ok (.bipush 10, 2) := by decide +kernel
theorem dX8_digits_32 : decode cX8_digits 32 = .ok (.irem, 1) := by decide +kernel
theorem dX8_digits_33 : decode cX8_digits 33 = .ok (.iadd, 1) := by decide +kernel
theorem dX8_digits_34 : decode cX8_digits 34 = .ok (.invokevirtual 288, 3) := by decide +kernel
theorem dX8_digits_37 : decode cX8_digits 37 = .ok (.iload_n 3, 1) := by decide +kernel
theorem dX8_digits_38 : decode cX8_digits 38 = .ok (.bipush 10, 2) := by decide +kernel
theorem dX8_digits_40 : decode cX8_digits 40 = .ok (.idiv, 1) := by decide +kernel
theorem dX8_digits_41 : decode cX8_digits 41 = .ok (.istore_n 3, 1) := by decide +kernel
theorem dX8_digits_42 : decode cX8_digits 42 = .ok (.goto (-22), 3) := by decide +kernel
theorem dX8_digits_45 : decode cX8_digits 45 = .ok (.return_, 1) := by decide +kernel
set_option maxRecDepth 20000 in
theorem ggX8_writeCatalogue_X8_digits : GoodIn wsX8_writeCatalogue wsX8_digits := goodIn_r _ [8, 9, 10, 11, 7, 12, 13, 2, 34, 35, 36, 37, 38, 39, 40, 41, 42, 43, 44, 45, 46, 47, 48, 49, 50, 51, 52, 53, 54, 55, 56, 57, 58, 59, 60] (by decide +kernel) (by decide +kernel)
set_option maxRecDepth 20000 in
theorem gX8_writeCatalogue_X8_digits : GoodIn wsX8_writeCatalogue (wsV RX8 291 RX8 yX8_digits wsX8_digits) := goodIn_app (goodIn_of _ (by decide +kernel)) ggX8_writeCatalogue_X8_digits
set_option maxRecDepth 20000 in
theorem ggX8_writeCatalogue_X8_puts : GoodIn wsX8_writeCatalogue wsX8_puts := goodIn_r _ [12, 13, 2, 34, 35, 36, 37, 38, 39, 40, 41, 42, 43, 44, 45, 46, 47, 48, 49, 50, 51, 52, 53, 54, 55, 56, 57, 58, 59, 60] (by decide +kernel) (by decide +kernel)
set_option maxRecDepth 20000 in
theorem gX8_writeCatalogue_X8_puts : GoodIn wsX8_writeCatalogue (wsV RX8 288 RX8 yX8_puts wsX8_puts) := goodIn_app (goodIn_of _ (by decide +kernel)) ggX8_writeCatalogue_X8_puts
set_option maxRecDepth 20000 in
theorem ggX8_writeCatalogue_X8_platterOf : GoodIn wsX8_writeCatalogue wsX8_platterOf := goodIn_r _ [17, 3, 18, 19, 20, 7, 21, 34, 35, 36, 37, 38, 39, 40, 41, 42, 43, 44, 45, 46, 47, 48, 49, 50, 51, 52, 53, 54, 55, 56, 57, 58, 59, 60] (by decide +kernel) (by decide +kernel)
set_option maxRecDepth 20000 in
theorem gX8_writeCatalogue_X8_platterOf : GoodIn wsX8_writeCatalogue (wsV RX8 123 RX8 yX8_platterOf wsX8_platterOf) := goodIn_app (goodIn_of _ (by decide +kernel)) ggX8_writeCatalogue_X8_platterOf
set_option maxRecDepth 20000 in
theorem ggX8_writeCatalogue_X8_version : GoodIn wsX8_writeCatalogue wsX8_version := goodIn_r _ [21, 3, 34, 35, 36, 37, 38, 39, 40, 41, 42, 43, 44, 45, 46, 47, 48, 49, 50, 51, 52, 53, 54, 55, 56, 57, 58, 59, 60] (by decide +kernel) (by decide +kernel)
set_option maxRecDepth 20000 in
theorem gX8_writeCatalogue_X8_version : GoodIn wsX8_writeCatalogue (wsV RX8 86 RX8 yX8_version wsX8_version) := goodIn_app (goodIn_of _ (by decide +kernel)) ggX8_writeCatalogue_X8_version
set_option maxRecDepth 20000 in
theorem ggX8_writeCatalogue_X8_isReadable : GoodIn wsX8_writeCatalogue wsX8_isReadable := goodIn_r _ [25, 18, 19, 20, 7, 21, 3, 26, 27, 28, 29, 30, 31, 32, 33, 34, 35, 36, 37, 38, 39, 40, 41, 42, 43, 44, 45, 46, 47, 48, 49, 50, 51, 52, 53, 54, 55, 56, 57, 58, 59, 60] (by decide +kernel) (by decide +kernel)
set_option maxRecDepth 20000 in
theorem gX8_writeCatalogue_X8_isReadable : GoodIn wsX8_writeCatalogue (wsV RX8 174 RX8 yX8_isReadable wsX8_isReadable) := goodIn_app (goodIn_of _ (by decide +kernel)) ggX8_writeCatalogue_X8_isReadable
theorem dX8_writeCatalogue_0 : decode cX8_writeCatalogue 0 = .ok (.aload_n 0, 1) := by decide +kernel
theorem dX8_writeCatalogue_1 : decode cX8_writeCatalogue 1 = .ok (.iconst 0, 1) := by decide +kernel
theorem dX8_writeCatalogue_2 : decode cX8_writeCatalogue 2 = .ok (.putfield 51, 3) := by decide +kernel
theorem dX8_writeCatalogue_5 : decode cX8_writeCatalogue 5 = .ok (.aload_n 0, 1) := by decide +kernel
theorem dX8_writeCatalogue_6 : decode cX8_writeCatalogue 6 = .ok (.iconst 0, 1) := by decide +kernel
theorem dX8_writeCatalogue_7 : decode cX8_writeCatalogue 7 = .ok (.putfield 285, 3) := by decide +kernel
theorem dX8_writeCatalogue_10 : decode cX8_writeCatalogue 10 = .ok (.iconst 0, 1) := by decide +kernel
theorem dX8_writeCatalogue_11 : decode cX8_writeCatalogue 11 = .ok (.istore_n 1, 1) := by decide +kernel
theorem dX8_writeCatalogue_12 : decode cX8_writeCatalogue 12 = .ok (.iload_n 1, 1) := by decide +kernel
theorem dX8_writeCatalogue_13 : decode cX8_writeCatalogue 13 = .ok (.aload_n 0, 1) := by decide +kernel
theorem dX8_writeCatalogue_14 : decode cX8_writeCatalogue 14 = .ok (.getfield 7, 3) := by decide +kernel
theorem dX8_writeCatalogue_17 : decode cX8_writeCatalogue 17 = .ok (.bipush 9, 2) := by decide +kernel
theorem dX8_writeCatalogue_19 : decode cX8_writeCatalogue 19 = .ok (.iaload, 1) := by decide +kernel
theorem dX8_writeCatalogue_20 : decode cX8_writeCatalogue 20 = .ok (.if_icmp .ge 97, 3) := by decide +kernel
theorem dX8_writeCatalogue_23 : decode cX8_writeCatalogue 23 = .ok (.aload_n 0, 1) := by decide +kernel
theorem dX8_writeCatalogue_24 : decode cX8_writeCatalogue 24 = .ok (.iload_n 1, 1) := by decide +kernel
theorem dX8_writeCatalogue_25 : decode cX8_writeCatalogue 25 = .ok (.invokevirtual 291, 3) := by decide +kernel
theorem dX8_writeCatalogue_28 : decode cX8_writeCatalogue 28 = .ok (.aload_n 0, 1) := by decide +kernel
theorem dX8_writeCatalogue_29 : decode cX8_writeCatalogue 29 = .ok (.bipush 58, 2) := by decide +kernel
theorem dX8_writeCatalogue_31 : decode cX8_writeCatalogue 31 = .ok (.invokevirtual 288, 3) := by decide +kernel
theorem dX8_writeCatalogue_34 : decode cX8_writeCatalogue 34 = .ok (.aload_n 0, 1) := by decide +kernel
theorem dX8_writeCatalogue_35 : decode cX8_writeCatalogue 35 = .ok (.aload_n 0, 1) := by decide +kernel
theorem dX8_writeCatalogue_36 : decode cX8_writeCatalogue 36 = .ok (.iload_n 1, 1) := by decide +kernel
theorem dX8_writeCatalogue_37 : decode cX8_writeCatalogue 37 = .ok (.invokevirtual 123, 3) := by decide +kernel
theorem dX8_writeCatalogue_40 : decode cX8_writeCatalogue 40 = .ok (.invokevirtual 291, 3) := by decide +kernel
theorem dX8_writeCatalogue_43 : decode cX8_writeCatalogue 43 = .ok (.aload_n 0, 1) := by decide +kernel
theorem dX8_writeCatalogue_44 : decode cX8_writeCatalogue 44 = .ok (.bipush 44, 2) := by decide +kernel
theorem dX8_writeCatalogue_46 : decode cX8_writeCatalogue 46 = .ok (.invokevirtual 288, 3) := by decide +kernel
theorem dX8_writeCatalogue_49 : decode cX8_writeCatalogue 49 = .ok (.aload_n 0, 1) := by decide +kernel
theorem dX8_writeCatalogue_50 : decode cX8_writeCatalogue 50 = .ok (.aload_n 0, 1) := by decide +kernel
theorem dX8_writeCatalogue_51 : decode cX8_writeCatalogue 51 = .ok (.getfield 7, 3) := by decide +kernel
theorem dX8_writeCatalogue_54 : decode cX8_writeCatalogue 54 = .ok (.sipush 389, 3) := by decide +kernel
theorem dX8_writeCatalogue_57 : decode cX8_writeCatalogue 57 = .ok (.aload_n 0, 1) := by decide +kernel
theorem dX8_writeCatalogue_58 : decode cX8_writeCatalogue 58 = .ok (.iload_n 1, 1) := by decide +kernel
theorem dX8_writeCatalogue_59 : decode cX8_writeCatalogue 59 = .ok (.invokevirtual 86, 3) := by decide +kernel
theorem dX8_writeCatalogue_62 : decode cX8_writeCatalogue 62 = .ok (.iadd, 1) := by decide +kernel
theorem dX8_writeCatalogue_63 : decode cX8_writeCatalogue 63 = .ok (.iaload, 1) := by decide +kernel
theorem dX8_writeCatalogue_64 : decode cX8_writeCatalogue 64 = .ok (.invokevirtual 291, 3) := by decide +kernel
theorem dX8_writeCatalogue_67 : decode cX8_writeCatalogue 67 = .ok (.aload_n 0, 1) := by decide +kernel
theorem dX8_writeCatalogue_68 : decode cX8_writeCatalogue 68 = .ok (.bipush 44, 2) := by decide +kernel
theorem dX8_writeCatalogue_70 : decode cX8_writeCatalogue 70 = .ok (.invokevirtual 288, 3) := by decide +kernel
theorem dX8_writeCatalogue_73 : decode cX8_writeCatalogue 73 = .ok (.aload_n 0, 1) := by decide +kernel
theorem dX8_writeCatalogue_74 : decode cX8_writeCatalogue 74 = .ok (.aload_n 0, 1) := by decide +kernel
theorem dX8_writeCatalogue_75 : decode cX8_writeCatalogue 75 = .ok (.getfield 7, 3) := by decide +kernel
theorem dX8_writeCatalogue_78 : decode cX8_writeCatalogue 78 = .ok (.sipush 429, 3) := by decide +kernel
theorem dX8_writeCatalogue_81 : decode cX8_writeCatalogue 81 = .ok (.aload_n 0, 1) := by decide +kernel
theorem dX8_writeCatalogue_82 : decode cX8_writeCatalogue 82 = .ok (.iload_n 1, 1) := by decide +kernel
theorem dX8_writeCatalogue_83 : decode cX8_writeCatalogue 83 = .ok (.invokevirtual 86, 3) := by decide +kernel
theorem dX8_writeCatalogue_86 : decode cX8_writeCatalogue 86 = .ok (.iadd, 1) := by decide +kernel
theorem dX8_writeCatalogue_87 : decode cX8_writeCatalogue 87 = .ok (.iaload, 1) := by decide +kernel
theorem dX8_writeCatalogue_88 : decode cX8_writeCatalogue 88 = .ok (.invokevirtual 291, 3) := by decide +kernel
theorem dX8_writeCatalogue_91 : decode cX8_writeCatalogue 91 = .ok (.aload_n 0, 1) := by decide +kernel
theorem dX8_writeCatalogue_92 : decode cX8_writeCatalogue 92 = .ok (.iload_n 1, 1) := by decide +kernel
theorem dX8_writeCatalogue_93 : decode cX8_writeCatalogue 93 = .ok (.invokevirtual 174, 3) := by decide +kernel
theorem dX8_writeCatalogue_96 : decode cX8_writeCatalogue 96 = .ok (.ifCond .eq 9, 3) := by decide +kernel
theorem dX8_writeCatalogue_99 : decode cX8_writeCatalogue 99 = .ok (.aload_n 0, 1) := by decide +kernel
theorem dX8_writeCatalogue_100 : decode cX8_writeCatalogue 100 = .ok (.bipush 42, 2) := by decide +kernel
theorem dX8_writeCatalogue_102 : decode cX8_writeCatalogue 102 = .ok (.invokevirtual 288, 3) := by decide +kernel
theorem dX8_writeCatalogue_105 : decode cX8_writeCatalogue 105 = .ok (.aload_n 0, 1) := by decide +kernel
theorem dX8_writeCatalogue_106 : decode cX8_writeCatalogue 106 = .ok (.bipush 59, 2) := by decide +kernel
theorem dX8_writeCatalogue_108 : decode cX8_writeCatalogue 108 = .ok (.invokevirtual 288, 3) := by decide +kernel
theorem dX8_writeCatalogue_111 : decode cX8_writeCatalogue 111 = .ok (.iinc 1 1, 3) := by decide +kernel
theorem dX8_writeCatalogue_114 : decode cX8_writeCatalogue 114 = .ok (.goto (-102), 3) := by decide +kernel
theorem dX8_writeCatalogue_117 : decode cX8_writeCatalogue 117 = .ok (.aload_n 0, 1) := by decide +kernel
theorem dX8_writeCatalogue_118 : decode cX8_writeCatalogue 118 = .ok (.getfield 285, 3) := by decide +kernel
theorem dX8_writeCatalogue_121 : decode cX8_writeCatalogue 121 = .ok (.ireturn, 1) := by decide +kernel
set_option maxRecDepth 20000 in
theorem ggX8_outputByte_X8_isIn : GoodIn wsX8_outputByte wsX8_isIn := goodIn_r _ [8] (by decide +kernel) (by decide +kernel)
set_option maxRecDepth 20000 in
theorem gX8_outputByte_X8_isIn : GoodIn wsX8_outputByte (va_wsS RX8 57 yX8_isIn wsX8_isIn) := goodIn_app (goodIn_of _ (by decide +kernel)) ggX8_outputByte_X8_isIn
theorem dX8_outputByte_0 : decode cX8_outputByte 0 = .ok (.aload_n 0, 1) := by decide +kernel
theorem dX8_outputByte_1 : decode cX8_outputByte 1 = .ok (.iconst 0, 1) := by decide +kernel
theorem dX8_outputByte_2 : decode cX8_outputByte 2 = .ok (.putfield 51, 3) := by decide +kernel
theorem dX8_outputByte_5 : decode cX8_outputByte 5 = .ok (.iload_n 1, 1) := by decide +kernel
theorem dX8_outputByte_6 : decode cX8_outputByte 6 = .ok (.i2l, 1) := by decide +kernel
theorem dX8_outputByte_7 : decode cX8_outputByte 7 = .ok (.lconst 0, 1) := by decide +kernel
theorem dX8_outputByte_8 : decode cX8_outputByte 8 = .ok (.aload_n 0, 1) := by decide +kernel
theorem dX8_outputByte_9 : decode cX8_outputByte 9 = .ok (.getfield 285, 3) := by decide +kernel
theorem dX8_outputByte_12 : decode cX8_outputByte 12 = .ok (.iconst 1, 1) := by decide +kernel
theorem dX8_outputByte_13 : decode cX8_outputByte 13 = .ok (.isub, 1) := by decide +kernel
theorem dX8_outputByte_14 : decode cX8_outputByte 14 = .ok (.i2l, 1) := by decide +kernel
theorem dX8_outputByte_15 : decode cX8_outputByte 15 = .ok (.invokestatic 57, 3) := by decide +kernel
theorem dX8_outputByte_18 : decode cX8_outputByte 18 = .ok (.ifCond .eq 12, 3) := by decide +kernel
theorem dX8_outputByte_21 : decode cX8_outputByte 21 = .ok (.aload_n 0, 1) := by decide +kernel
theorem dX8_outputByte_22 : decode cX8_outputByte 22 = .ok (.getfield 31, 3) := by decide +kernel
theorem dX8_outputByte_25 : decode cX8_outputByte 25 = .ok (.iload_n 1, 1) := by decide +kernel
theorem dX8_outputByte_26 : decode cX8_outputByte 26 = .ok (.baload, 1) := by decide +kernel
theorem dX8_outputByte_27 : decode cX8_outputByte 27 = .ok (.goto 5, 3) := by decide +kernel
theorem dX8_outputByte_30 : decode cX8_outputByte 30 = .ok (.ldc 186, 2) := by decide +kernel
theorem dX8_outputByte_32 : decode cX8_outputByte 32 = .ok (.ireturn, 1) := by decide +kernel
theorem dX8_feeds_0 : decode cX8_feeds 0 = .ok (.bipush 24, 2) := by decide +kernel
theorem dX8_feeds_2 : decode cX8_feeds 2 = .ok (.istore_n 2, 1) := by decide +kernel
theorem dX8_feeds_3 : decode cX8_feeds 3 = .ok (.iload_n 2, 1) := by decide +kernel
theorem dX8_feeds_4 : decode cX8_feeds 4 = .ok (.ifCond .lt 32, 3) := by decide +kernel
theorem dX8_feeds_7 : decode cX8_feeds 7 = .ok (.aload_n 0, 1) := by decide +kernel
theorem dX8_feeds_8 : decode cX8_feeds 8 = .ok (.getfield 35, 3) := by decide +kernel
theorem dX8_feeds_11 : decode cX8_feeds 11 = .ok (.aload_n 0, 1) := by decide +kernel
theorem dX8_feeds_12 : decode cX8_feeds 12 = .ok (.getfield 294, 3) := by decide +kernel
theorem dX8_feeds_15 : decode cX8_feeds 15 = .ok (.iload_n 1, 1) := by decide +kernel
theorem dX8_feeds_16 : decode cX8_feeds 16 = .ok (.iload_n 2, 1) := by decide +kernel
theorem dX8_feeds_17 : decode cX8_feeds 17 = .ok (.ishr, 1) := by decide +kernel
theorem dX8_feeds_18 : decode cX8_feeds 18 = .ok (.i2b, 1) := by decide +kernel
theorem dX8_feeds_19 : decode cX8_feeds 19 = .ok (.bastore, 1) := by decide +kernel
theorem dX8_feeds_20 : decode cX8_feeds 20 = .ok (.aload_n 0, 1) := by decide +kernel
theorem dX8_feeds_21 : decode cX8_feeds 21 = .ok (.dup, 1) := by decide +kernel
theorem dX8_feeds_22 : decode cX8_feeds 22 = .ok (.getfield 294, 3) := by decide +kernel
theorem dX8_feeds_25 : decode cX8_feeds 25 = .ok (.iconst 1, 1) := by decide +kernel
theorem dX8_feeds_26 : decode cX8_feeds 26 = .ok (.iadd, 1) := by decide +kernel
theorem dX8_feeds_27 : decode cX8_feeds 27 = .ok (.putfield 294, 3) := by decide +kernel
theorem dX8_feeds_30 : decode cX8_feeds 30 = .ok (.iinc 2 (-8), 3) := by decide +kernel
theorem dX8_feeds_33 : decode cX8_feeds 33 = .ok (.goto (-30), 3) := by decide +kernel
theorem dX8_feeds_36 : decode cX8_feeds 36 = .ok (.return_, 1) := by decide +kernel
set_option maxRecDepth 20000 in
theorem ggX8_feed_X8_feeds : GoodIn wsX8_feed wsX8_feeds := goodIn_r _ [8, 9, 2, 10, 11, 12, 13, 14, 15, 16, 17, 18, 19, 20, 21, 22, 23, 24, 25, 26, 27, 28, 29, 30, 31, 32, 33, 34, 35, 36] (by decide +kernel) (by decide +kernel)
set_option maxRecDepth 20000 in
theorem gX8_feed_X8_feeds : GoodIn wsX8_feed (wsV RX8 297 RX8 yX8_feeds wsX8_feeds) := goodIn_app (goodIn_of _ (by decide +kernel)) ggX8_feed_X8_feeds
theorem dX8_feed_0 : decode cX8_feed 0 = .ok (.aload_n 0, 1) := by decide +kernel
theorem dX8_feed_1 : decode cX8_feed 1 = .ok (.iconst 0, 1) := by decide +kernel
theorem dX8_feed_2 : decode cX8_feed 2 = .ok (.putfield 51, 3) := by decide +kernel
theorem dX8_feed_5 : decode cX8_feed 5 = .ok (.aload_n 0, 1) := by decide +kernel
theorem dX8_feed_6 : decode cX8_feed 6 = .ok (.getfield 294, 3) := by decide +kernel
theorem dX8_feed_9 : decode cX8_feed 9 = .ok (.bipush 20, 2) := by decide +kernel
theorem dX8_feed_11 : decode cX8_feed 11 = .ok (.iadd, 1) := by decide +kernel
theorem dX8_feed_12 : decode cX8_feed 12 = .ok (.sipush 900, 3) := by decide +kernel
theorem dX8_feed_15 : decode cX8_feed 15 = .ok (.if_icmp .le 6, 3) := by decide +kernel
theorem dX8_feed_18 : decode cX8_feed 18 = .ok (.ldc 243, 2) := by decide +kernel
theorem dX8_feed_20 : decode cX8_feed 20 = .ok (.ireturn, 1) := by decide +kernel
theorem dX8_feed_21 : decode cX8_feed 21 = .ok (.aload_n 0, 1) := by decide +kernel
theorem dX8_feed_22 : decode cX8_feed 22 = .ok (.iload_n 1, 1) := by decide +kernel
theorem dX8_feed_23 : decode cX8_feed 23 = .ok (.invokevirtual 297, 3) := by decide +kernel
theorem dX8_feed_26 : decode cX8_feed 26 = .ok (.aload_n 0, 1) := by decide +kernel
theorem dX8_feed_27 : decode cX8_feed 27 = .ok (.iload_n 2, 1) := by decide +kernel
theorem dX8_feed_28 : decode cX8_feed 28 = .ok (.invokevirtual 297, 3) := by decide +kernel
theorem dX8_feed_31 : decode cX8_feed 31 = .ok (.aload_n 0, 1) := by decide +kernel
theorem dX8_feed_32 : decode cX8_feed 32 = .ok (.iload_n 3, 1) := by decide +kernel
theorem dX8_feed_33 : decode cX8_feed 33 = .ok (.invokevirtual 297, 3) := by decide +kernel
theorem dX8_feed_36 : decode cX8_feed 36 = .ok (.aload_n 0, 1) := by decide +kernel
theorem dX8_feed_37 : decode cX8_feed 37 = .ok (.iload 4, 2) := by decide +kernel
theorem dX8_feed_39 : decode cX8_feed 39 = .ok (.invokevirtual 297, 3) := by decide +kernel
theorem dX8_feed_42 : decode cX8_feed 42 = .ok (.aload_n 0, 1) := by decide +kernel
theorem dX8_feed_43 : decode cX8_feed 43 = .ok (.iload 5, 2) := by decide +kernel
theorem dX8_feed_45 : decode cX8_feed 45 = .ok (.invokevirtual 297, 3) := by decide +kernel
theorem dX8_feed_48 : decode cX8_feed 48 = .ok (.aload_n 0, 1) := by decide +kernel
theorem dX8_feed_49 : decode cX8_feed 49 = .ok (.getfield 294, 3) := by decide +kernel
theorem dX8_feed_52 : decode cX8_feed 52 = .ok (.ireturn, 1) := by decide +kernel
set_option maxRecDepth 20000 in
theorem ggX8_isOf_X8_isIn : GoodIn wsX8_isOf wsX8_isIn := goodIn_r _ [6] (by decide +kernel) (by decide +kernel)
set_option maxRecDepth 20000 in
theorem gX8_isOf_X8_isIn : GoodIn wsX8_isOf (va_wsS RX8 57 yX8_isIn wsX8_isIn) := goodIn_app (goodIn_of _ (by decide +kernel)) ggX8_isOf_X8_isIn
theorem dX8_isOf_0 : decode cX8_isOf 0 = .ok (.iload_n 1, 1) := by decide +kernel
theorem dX8_isOf_1 : decode cX8_isOf 1 = .ok (.aload_n 0, 1) := by decide +kernel
theorem dX8_isOf_2 : decode cX8_isOf 2 = .ok (.getfield 300, 3) := by decide +kernel
theorem dX8_isOf_5 : decode cX8_isOf 5 = .ok (.if_icmp .ge 24, 3) := by decide +kernel
theorem dX8_isOf_8 : decode cX8_isOf 8 = .ok (.aload_n 0, 1) := by decide +kernel
theorem dX8_isOf_9 : decode cX8_isOf 9 = .ok (.getfield 35, 3) := by decide +kernel
theorem dX8_isOf_12 : decode cX8_isOf 12 = .ok (.iload_n 1, 1) := by decide +kernel
theorem dX8_isOf_13 : decode cX8_isOf 13 = .ok (.baload, 1) := by decide +kernel
theorem dX8_isOf_14 : decode cX8_isOf 14 = .ok (.i2l, 1) := by decide +kernel
theorem dX8_isOf_15 : decode cX8_isOf 15 = .ok (.iload_n 2, 1) := by decide +kernel
theorem dX8_isOf_16 : decode cX8_isOf 16 = .ok (.i2l, 1) := by decide +kernel
theorem dX8_isOf_17 : decode cX8_isOf 17 = .ok (.iload_n 3, 1) := by decide +kernel
theorem dX8_isOf_18 : decode cX8_isOf 18 = .ok (.i2l, 1) := by decide +kernel
theorem dX8_isOf_19 : decode cX8_isOf 19 = .ok (.invokestatic 57, 3) := by decide +kernel
theorem dX8_isOf_22 : decode cX8_isOf 22 = .ok (.ifCond .eq 7, 3) := by decide +kernel
theorem dX8_isOf_25 : decode cX8_isOf 25 = .ok (.iconst 1, 1) := by decide +kernel
theorem dX8_isOf_26 : decode cX8_isOf 26 = .ok (.goto 4, 3) := by decide +kernel
theorem dX8_isOf_29 : decode cX8_isOf 29 = .ok (.iconst 0, 1) := by decide +kernel
theorem dX8_isOf_30 : decode cX8_isOf 30 = .ok (.ireturn, 1) := by decide +kernel
set_option maxRecDepth 20000 in
theorem ggX8_next_X8_isOf : GoodIn wsX8_next wsX8_isOf := goodIn_r _ [14, 3, 4, 15, 16, 13, 17, 18, 19, 20, 21, 22, 23, 24, 25, 26, 27, 28, 29, 30, 31, 32, 33, 34, 35, 36, 37, 38, 39, 40, 41, 42, 43, 44] (by decide +kernel) (by decide +kernel)
set_option maxRecDepth 20000 in
theorem gX8_next_X8_isOf : GoodIn wsX8_next (wsV RX8 309 RX8 yX8_isOf wsX8_isOf) := goodIn_app (goodIn_of _ (by decide +kernel)) ggX8_next_X8_isOf
theorem dX8_next_0 : decode cX8_next 0 = .ok (.aload_n 0, 1) := by decide +kernel
theorem dX8_next_1 : decode cX8_next 1 = .ok (.aload_n 0, 1) := by decide +kernel
theorem dX8_next_2 : decode cX8_next 2 = .ok (.getfield 303, 3) := by decide +kernel
theorem dX8_next_5 : decode cX8_next 5 = .ok (.putfield 306, 3) := by decide +kernel
theorem dX8_next_8 : decode cX8_next 8 = .ok (.aload_n 0, 1) := by decide +kernel
theorem dX8_next_9 : decode cX8_next 9 = .ok (.aload_n 0, 1) := by decide +kernel
theorem dX8_next_10 : decode cX8_next 10 = .ok (.getfield 306, 3) := by decide +kernel
theorem dX8_next_13 : decode cX8_next 13 = .ok (.bipush 32, 2) := by decide +kernel
theorem dX8_next_15 : decode cX8_next 15 = .ok (.bipush 32, 2) := by decide +kernel
theorem dX8_next_17 : decode cX8_next 17 = .ok (.invokevirtual 309, 3) := by decide +kernel
theorem dX8_next_20 : decode cX8_next 20 = .ok (.ifCond .ne 18, 3) := by decide +kernel
theorem dX8_next_23 : decode cX8_next 23 = .ok (.aload_n 0, 1) := by decide +kernel
theorem dX8_next_24 : decode cX8_next 24 = .ok (.aload_n 0, 1) := by decide +kernel
theorem dX8_next_25 : decode cX8_next 25 = .ok (.getfield 306, 3) := by decide +kernel
theorem dX8_next_28 : decode cX8_next 28 = .ok (.bipush 10, 2) := by decide +kernel
theorem dX8_next_30 : decode cX8_next 30 = .ok (.bipush 10, 2) := by decide +kernel
theorem dX8_next_32 : decode cX8_next 32 = .ok (.invokevirtual 309, 3) := by decide +kernel
theorem dX8_next_35 : decode cX8_next 35 = .ok (.ifCond .eq 16, 3) := by decide +kernel
theorem dX8_next_38 : decode cX8_next 38 = .ok (.aload_n 0, 1) := by decide +kernel
theorem dX8_next_39 : decode cX8_next 39 = .ok (.dup, 1) := by decide +kernel
theorem dX8_next_40 : decode cX8_next 40 = .ok (.getfield 306, 3) := by decide +kernel
theorem dX8_next_43 : decode cX8_next 43 = .ok (.iconst 1, 1) := by decide +kernel
theorem dX8_next_44 : decode cX8_next 44 = .ok (.iadd, 1) := by decide +kernel
theorem dX8_next_45 : decode cX8_next 45 = .ok (.putfield 306, 3) := by decide +kernel
theorem dX8_next_48 : decode cX8_next 48 = .ok (.goto (-40), 3) := by decide +kernel
theorem dX8_next_51 : decode cX8_next 51 = .ok (.aload_n 0, 1) := by decide +kernel
theorem dX8_next_52 : decode cX8_next 52 = .ok (.aload_n 0, 1) := by decide +kernel
theorem dX8_next_53 : decode cX8_next 53 = .ok (.getfield 306, 3) := by decide +kernel
theorem dX8_next_56 : decode cX8_next 56 = .ok (.iconst 1, 1) := by decide +kernel
theorem dX8_next_57 : decode cX8_next 57 = .ok (.iadd, 1) := by decide +kernel
theorem dX8_next_58 : decode cX8_next 58 = .ok (.putfield 303, 3) := by decide +kernel
theorem dX8_next_61 : decode cX8_next 61 = .ok (.aload_n 0, 1) := by decide +kernel
theorem dX8_next_62 : decode cX8_next 62 = .ok (.aload_n 0, 1) := by decide +kernel
theorem dX8_next_63 : decode cX8_next 63 = .ok (.getfield 306, 3) := by decide +kernel
theorem dX8_next_66 : decode cX8_next 66 = .ok (.aload_n 0, 1) := by decide +kernel
theorem dX8_next_67 : decode cX8_next 67 = .ok (.getfield 300, 3) := by decide +kernel
theorem dX8_next_70 : decode cX8_next 70 = .ok (.if_icmp .lt 7, 3) := by decide +kernel
theorem dX8_next_73 : decode cX8_next 73 = .ok (.iconst 0, 1) := by decide +kernel
theorem dX8_next_74 : decode cX8_next 74 = .ok (.goto 22, 3) := by decide +kernel
theorem dX8_next_77 : decode cX8_next 77 = .ok (.aload_n 0, 1) := by decide +kernel
theorem dX8_next_78 : decode cX8_next 78 = .ok (.getfield 35, 3) := by decide +kernel
theorem dX8_next_81 : decode cX8_next 81 = .ok (.aload_n 0, 1) := by decide +kernel
theorem dX8_next_82 : decode cX8_next 82 = .ok (.getfield 306, 3) := by decide +kernel
theorem dX8_next_85 : decode cX8_next 85 = .ok (.baload, 1) := by decide +kernel
theorem dX8_next_86 : decode cX8_next 86 = .ok (.bipush 59, 2) := by decide +kernel
theorem dX8_next_88 : decode cX8_next 88 = .ok (.if_icmp .ne 7, 3) := by decide +kernel
theorem dX8_next_91 : decode cX8_next 91 = .ok (.iconst 3, 1) := by decide +kernel
theorem dX8_next_92 : decode cX8_next 92 = .ok (.goto 4, 3) := by decide +kernel
theorem dX8_next_95 : decode cX8_next 95 = .ok (.iconst 4, 1) := by decide +kernel
theorem dX8_next_96 : decode cX8_next 96 = .ok (.putfield 313, 3) := by decide +kernel
theorem dX8_next_99 : decode cX8_next 99 = .ok (.aload_n 0, 1) := by decide +kernel
theorem dX8_next_100 : decode cX8_next 100 = .ok (.aload_n 0, 1) := by decide +kernel
theorem dX8_next_101 : decode cX8_next 101 = .ok (.getfield 306, 3) := by decide +kernel
theorem dX8_next_104 : decode cX8_next 104 = .ok (.bipush 97, 2) := by decide +kernel
theorem dX8_next_106 : decode cX8_next 106 = .ok (.bipush 122, 2) := by decide +kernel
theorem dX8_next_108 : decode cX8_next 108 = .ok (.invokevirtual 309, 3) := by decide +kernel
theorem dX8_next_111 : decode cX8_next 111 = .ok (.ifCond .eq 115, 3) := by decide +kernel
theorem dX8_next_114 : decode cX8_next 114 = .ok (.aload_n 0, 1) := by decide +kernel
theorem dX8_next_115 : decode cX8_next 115 = .ok (.lconst 0, 1) := by decide +kernel
theorem dX8_next_116 : decode cX8_next 116 = .ok (.putfield 316, 3) := by decide +kernel
theorem dX8_next_119 : decode cX8_next 119 = .ok (.aload_n 0, 1) := by decide +kernel
theorem dX8_next_120 : decode cX8_next 120 = .ok (.aload_n 0, 1) := by decide +kernel
theorem dX8_next_121 : decode cX8_next 121 = .ok (.getfield 306, 3) := by decide +kernel
theorem dX8_next_124 : decode cX8_next 124 = .ok (.putfield 303, 3) := by decide +kernel
theorem dX8_next_127 : decode cX8_next 127 = .ok (.aload_n 0, 1) := by decide +kernel
theorem dX8_next_128 : decode cX8_next 128 = .ok (.aload_n 0, 1) := by decide +kernel
theorem dX8_next_129 : decode cX8_next 129 = .ok (.getfield 303, 3) := by decide +kernel
theorem dX8_next_132 : decode cX8_next 132 = .ok (.bipush 97, 2) := by decide +kernel
theorem dX8_next_134 : decode cX8_next 134 = .ok (.bipush 122, 2) := by decide +kernel
theorem dX8_next_136 : decode cX8_next 136 = .ok (.invokevirtual 309, 3) := by decide +kernel
theorem dX8_next_139 : decode cX8_next 139 = .ok (.ifCond .eq 61, 3) := by decide +kernel
theorem dX8_next_142 : decode cX8_next 142 = .ok (.aload_n 0, 1) := by decide +kernel
theorem dX8_next_143 : decode cX8_next 143 = .ok (.aload_n 0, 1) := by decide +kernel
theorem dX8_next_144 : decode cX8_next 144 = .ok (.getfield 303, 3) := by decide +kernel
theorem dX8_next_147 : decode cX8_next 147 = .ok (.aload_n 0, 1) := by decide +kernel
theorem dX8_next_148 : decode cX8_next 148 = .ok (.getfield 306, 3) := by decide +kernel
theorem dX8_next_151 : decode cX8_next 151 = .ok (.isub, 1) := by decide +kernel
theorem dX8_next_152 : decode cX8_next 152 = .ok (.bipush 8, 2) := by decide +kernel
theorem dX8_next_154 : decode cX8_next 154 = .ok (.if_icmp .ge 29, 3) := by decide +kernel
theorem dX8_next_157 : decode cX8_next 157 = .ok (.ldc2_w 320, 3) := by decide +kernel
theorem dX8_next_160 : decode cX8_next 160 = .ok (.aload_n 0, 1) := by decide +kernel
theorem dX8_next_161 : decode cX8_next 161 = .ok (.getfield 316, 3) := by decide +kernel
theorem dX8_next_164 : decode cX8_next 164 = .ok (.lmul, 1) := by decide +kernel
theorem dX8_next_165 : decode cX8_next 165 = .ok (.aload_n 0, 1) := by decide +kernel
theorem dX8_next_166 : decode cX8_next 166 = .ok (.getfield 35, 3) := by decide +kernel
theorem dX8_next_169 : decode cX8_next 169 = .ok (.aload_n 0, 1) := by decide +kernel
theorem dX8_next_170 : decode cX8_next 170 = .ok (.getfield 303, 3) := by decide +kernel
theorem dX8_next_173 : decode cX8_next 173 = .ok (.baload, 1) := by decide +kernel
theorem dX8_next_174 : decode cX8_next 174 = .ok (.i2l, 1) := by decide +kernel
theorem dX8_next_175 : decode cX8_next 175 = .ok (.ladd, 1) := by decide +kernel
theorem dX8_next_176 : decode cX8_next 176 = .ok (.ldc2_w 322, 3) := by decide +kernel
theorem dX8_next_179 : decode cX8_next 179 = .ok (.lsub, 1) := by decide +kernel
theorem dX8_next_180 : decode cX8_next 180 = .ok (.goto 4, 3) := by decide +kernel
theorem dX8_next_183 : decode cX8_next 183 = .ok (.lconst 0, 1) := by decide +kernel
theorem dX8_next_184 : decode cX8_next 184 = .ok (.putfield 316, 3) := by decide +kernel
theorem dX8_next_187 : decode cX8_next 187 = .ok (.aload_n 0, 1) := by decide +kernel
theorem dX8_next_188 : decode cX8_next 188 = .ok (.dup, 1) := by decide +kernel
theorem dX8_next_189 : decode cX8_next 189 = .ok (.getfield 303, 3) := by decide +kernel
theorem dX8_next_192 : decode cX8_next 192 = .ok (.iconst 1, 1) := by decide +kernel
theorem dX8_next_193 : decode cX8_next 193 = .ok (.iadd, 1) := by decide +kernel
theorem dX8_next_194 : decode cX8_next 194 = .ok (.putfield 303, 3) := by decide +kernel
theorem dX8_next_197 : decode cX8_next 197 = .ok (.goto (-70), 3) := by decide +kernel
theorem dX8_next_200 : decode cX8_next 200 = .ok (.aload_n 0, 1) := by decide +kernel
theorem dX8_next_201 : decode cX8_next 201 = .ok (.aload_n 0, 1) := by decide +kernel
theorem dX8_next_202 : decode cX8_next 202 = .ok (.getfield 303, 3) := by decide +kernel
theorem dX8_next_205 : decode cX8_next 205 = .ok (.aload_n 0, 1) := by decide +kernel
theorem dX8_next_206 : decode cX8_next 206 = .ok (.getfield 306, 3) := by decide +kernel
theorem dX8_next_209 : decode cX8_next 209 = .ok (.isub, 1) := by decide +kernel
theorem dX8_next_210 : decode cX8_next 210 = .ok (.bipush 8, 2) := by decide +kernel
theorem dX8_next_212 : decode cX8_next 212 = .ok (.if_icmp .le 7, 3) := by decide +kernel
theorem dX8_next_215 : decode cX8_next 215 = .ok (.iconst 4, 1) := by decide +kernel
theorem dX8_next_216 : decode cX8_next 216 = .ok (.goto 4, 3) := by decide +kernel
theorem dX8_next_219 : decode cX8_next 219 = .ok (.iconst 1, 1) := by decide +kernel
theorem dX8_next_220 : decode cX8_next 220 = .ok (.putfield 313, 3) := by decide +kernel
theorem dX8_next_223 : decode cX8_next 223 = .ok (.goto 125, 3) := by decide +kernel
theorem dX8_next_226 : decode cX8_next 226 = .ok (.aload_n 0, 1) := by decide +kernel
theorem dX8_next_227 : decode cX8_next 227 = .ok (.aload_n 0, 1) := by decide +kernel
theorem dX8_next_228 : decode cX8_next 228 = .ok (.getfield 306, 3) := by decide +kernel
theorem dX8_next_231 : decode cX8_next 231 = .ok (.bipush 48, 2) := by decide +kernel
theorem dX8_next_233 : decode cX8_next 233 = .ok (.bipush 57, 2) := by decide +kernel
theorem dX8_next_235 : decode cX8_next 235 = .ok (.invokevirtual 309, 3) := by decide +kernel
theorem dX8_next_238 : decode cX8_next 238 = .ok (.ifCond .eq 110, 3) := by decide +kernel
theorem dX8_next_241 : decode cX8_next 241 = .ok (.aload_n 0, 1) := by decide +kernel
theorem dX8_next_242 : decode cX8_next 242 = .ok (.iconst 0, 1) := by decide +kernel
theorem dX8_next_243 : decode cX8_next 243 = .ok (.putfield 324, 3) := by decide +kernel
theorem dX8_next_246 : decode cX8_next 246 = .ok (.aload_n 0, 1) := by decide +kernel
theorem dX8_next_247 : decode cX8_next 247 = .ok (.aload_n 0, 1) := by decide +kernel
theorem dX8_next_248 : decode cX8_next 248 = .ok (.getfield 306, 3) := by decide +kernel
theorem dX8_next_251 : decode cX8_next 251 = .ok (.putfield 303, 3) := by decide +kernel
theorem dX8_next_254 : decode cX8_next 254 = .ok (.aload_n 0, 1) := by decide +kernel
theorem dX8_next_255 : decode cX8_next 255 = .ok (.aload_n 0, 1) := by decide +kernel
theorem dX8_next_256 : decode cX8_next 256 = .ok (.getfield 303, 3) := by decide +kernel
theorem dX8_next_259 : decode cX8_next 259 = .ok (.bipush 48, 2) := by decide +kernel
theorem dX8_next_261 : decode cX8_next 261 = .ok (.bipush 57, 2) := by decide +kernel
theorem dX8_next_263 : decode cX8_next 263 = .ok (.invokevirtual 309, 3) := by decide +kernel
theorem dX8_next_266 : decode cX8_next 266 = .ok (.ifCond .eq 60, 3) := by decide +kernel
theorem dX8_next_269 : decode cX8_next 269 = .ok (.aload_n 0, 1) := by decide +kernel
theorem dX8_next_270 : decode cX8_next 270 = .ok (.aload_n 0, 1) := by decide +kernel
theorem dX8_next_271 : decode cX8_next 271 = .ok (.getfield 303, 3) := by decide +kernel
theorem dX8_next_274 : decode cX8_next 274 = .ok (.aload_n 0, 1) := by decide +kernel
theorem dX8_next_275 : decode cX8_next 275 = .ok (.getfield 306, 3) := by decide +kernel
theorem dX8_next_278 : decode cX8_next 278 = .ok (.isub, 1) := by decide +kernel
theorem dX8_next_279 : decode cX8_next 279 = .ok (.iconst 5, 1) := by decide +kernel
theorem dX8_next_280 : decode cX8_next 280 = .ok (.if_icmp .ge 26, 3) := by decide +kernel
theorem dX8_next_283 : decode cX8_next 283 = .ok (.bipush 10, 2) := by decide +kernel
theorem dX8_next_285 : decode cX8_next 285 = .ok (.aload_n 0, 1) := by decide +kernel
theorem dX8_next_286 : decode cX8_next 286 = .ok (.getfield 324, 3) := by decide +kernel
theorem dX8_next_289 : decode cX8_next 289 = .ok (.imul, 1) := by decide +kernel
theorem dX8_next_290 : decode cX8_next 290 = .ok (.aload_n 0, 1) := by decide +kernel
theorem dX8_next_291 : decode cX8_next 291 = .ok (.getfield 35, 3) := by decide +kernel
theorem dX8_next_294 : decode cX8_next 294 = .ok (.aload_n 0, 1) := by decide +kernel
theorem dX8_next_295 : decode cX8_next 295 = .ok (.getfield 303, 3) := by decide +kernel
theorem dX8_next_298 : decode cX8_next 298 = .ok (.baload, 1) := by decide +kernel
theorem dX8_next_299 : decode cX8_next 299 = .ok (.iadd, 1) := by decide +kernel
theorem dX8_next_300 : decode cX8_next 300 = .ok (.bipush 48, 2) := by decide +kernel
theorem dX8_next_302 : decode cX8_next 302 = .ok (.isub, 1) := by decide +kernel
theorem dX8_next_303 : decode cX8_next 303 = .ok (.goto 7, 3) := by decide +kernel
theorem dX8_next_306 : decode cX8_next 306 = .ok (.aload_n 0, 1) := by decide +kernel
theorem dX8_next_307 : decode cX8_next 307 = .ok (.getfield 324, 3) := by decide +kernel
theorem dX8_next_310 : decode cX8_next 310 = .ok (.putfield 324, 3) := by decide +kernel
theorem dX8_next_313 : decode cX8_next 313 = .ok (.aload_n 0, 1) := by decide +kernel
theorem dX8_next_314 : decode cX8_next 314 = .ok (.dup, 1) := by decide +kernel
theorem dX8_next_315 : decode cX8_next 315 = .ok (.getfield 303, 3) := by decide +kernel
theorem dX8_next_318 : decode cX8_next 318 = .ok (.iconst 1, 1) := by decide +kernel
theorem dX8_next_319 : decode cX8_next 319 = .ok (.iadd, 1) := by decide +kernel
theorem dX8_next_320 : decode cX8_next 320 = .ok (.putfield 303, 3) := by decide +kernel
theorem dX8_next_323 : decode cX8_next 323 = .ok (.goto (-69), 3) := by decide +kernel
theorem dX8_next_326 : decode cX8_next 326 = .ok (.aload_n 0, 1) := by decide +kernel
theorem dX8_next_327 : decode cX8_next 327 = .ok (.aload_n 0, 1) := by decide +kernel
theorem dX8_next_328 : decode cX8_next 328 = .ok (.getfield 303, 3) := by decide +kernel
theorem dX8_next_331 : decode cX8_next 331 = .ok (.aload_n 0, 1) := by decide +kernel
theorem dX8_next_332 : decode cX8_next 332 = .ok (.getfield 306, 3) := by decide +kernel
theorem dX8_next_335 : decode cX8_next 335 = .ok (.isub, 1) := by decide +kernel
theorem dX8_next_336 : decode cX8_next 336 = .ok (.iconst 5, 1) := by decide +kernel
theorem dX8_next_337 : decode cX8_next 337 = .ok (.if_icmp .le 7, 3) := by decide +kernel
theorem dX8_next_340 : decode cX8_next 340 = .ok (.iconst 4, 1) := by decide +kernel
theorem dX8_next_341 : decode cX8_next 341 = .ok (.goto 4, 3) := by decide +kernel
theorem dX8_next_344 : decode cX8_next 344 = .ok (.iconst 2, 1) := by decide +kernel
theorem dX8_next_345 : decode cX8_next 345 = .ok (.putfield 313, 3) := by decide +kernel
theorem dX8_next_348 : decode cX8_next 348 = .ok (.return_, 1) := by decide +kernel
theorem dX8_good_0 : decode cX8_good 0 = .ok (.aload_n 0, 1) := by decide +kernel
theorem dX8_good_1 : decode cX8_good 1 = .ok (.getfield 327, 3) := by decide +kernel
theorem dX8_good_4 : decode cX8_good 4 = .ok (.ifCond .ne 7, 3) := by decide +kernel
theorem dX8_good_7 : decode cX8_good 7 = .ok (.iconst 1, 1) := by decide +kernel
theorem dX8_good_8 : decode cX8_good 8 = .ok (.goto 4, 3) := by decide +kernel
theorem dX8_good_11 : decode cX8_good 11 = .ok (.iconst 0, 1) := by decide +kernel
theorem dX8_good_12 : decode cX8_good 12 = .ok (.ireturn, 1) := by decide +kernel
theorem dX8_must_0 : decode cX8_must 0 = .ok (.iload_n 1, 1) := by decide +kernel
theorem dX8_must_1 : decode cX8_must 1 = .ok (.ifCond .ne 10, 3) := by decide +kernel
theorem dX8_must_4 : decode cX8_must 4 = .ok (.aload_n 0, 1) := by decide +kernel
theorem dX8_must_5 : decode cX8_must 5 = .ok (.getfield 327, 3) := by decide +kernel
theorem dX8_must_8 : decode cX8_must 8 = .ok (.ifCond .le 4, 3) := by decide +kernel
theorem dX8_must_11 : decode cX8_must 11 = .ok (.return_, 1) := by decide +kernel
theorem dX8_must_12 : decode cX8_must 12 = .ok (.aload_n 0, 1) := by decide +kernel
theorem dX8_must_13 : decode cX8_must 13 = .ok (.iload_n 2, 1) := by decide +kernel
theorem dX8_must_14 : decode cX8_must 14 = .ok (.iconst 2, 1) := by decide +kernel
theorem dX8_must_15 : decode cX8_must 15 = .ok (.if_icmp .ne 15, 3) := by decide +kernel
theorem dX8_must_18 : decode cX8_must 18 = .ok (.aload_n 0, 1) := by decide +kernel
theorem dX8_must_19 : decode cX8_must 19 = .ok (.getfield 313, 3) := by decide +kernel
theorem dX8_must_22 : decode cX8_must 22 = .ok (.iconst 4, 1) := by decide +kernel
theorem dX8_must_23 : decode cX8_must 23 = .ok (.if_icmp .ne 7, 3) := by decide +kernel
theorem dX8_must_26 : decode cX8_must 26 = .ok (.iconst 1, 1) := by decide +kernel
theorem dX8_must_27 : decode cX8_must 27 = .ok (.goto 4, 3) := by decide +kernel
theorem dX8_must_30 : decode cX8_must 30 = .ok (.iload_n 2, 1) := by decide +kernel
theorem dX8_must_31 : decode cX8_must 31 = .ok (.putfield 327, 3) := by decide +kernel
theorem dX8_must_34 : decode cX8_must 34 = .ok (.aload_n 0, 1) := by decide +kernel
theorem dX8_must_35 : decode cX8_must 35 = .ok (.aload_n 0, 1) := by decide +kernel
theorem dX8_must_36 : decode cX8_must 36 = .ok (.getfield 306, 3) := by decide +kernel
theorem dX8_must_39 : decode cX8_must 39 = .ok (.putfield 330, 3) := by decide +kernel
theorem dX8_must_42 : decode cX8_must 42 = .ok (.return_, 1) := by decide +kernel
abbrev rm_X8_batchExchanges : Room := { frames := 5, cells := 0, slots := 0, locals := 107 }
set_option maxRecDepth 100000 in
set_option maxHeartbeats 4000000 in
theorem ct_X8_batchExchanges (l : Launch) (g : GT) (hfl : 2 ≤ gf g) (w : WT) (md : SD) (mn : Nat → Int64) (mw : Int64) {q : (Int32 × SD)} (hf : f_X8_batchExchanges md  = some q) : Met l yX8_batchExchanges wsX8_batchExchanges rm_X8_batchExchanges (cPre g (wM w md mn mw) [.ref (adr (g.1 + 189) 8 0)]) (cQi g q.1 (wM w q.2 mn mw)) 0 0 (gA g) := by
  have i_8 : ∀ w ∈ u_ws RX8 TX8 27, w ∈ wsX8_batchExchanges := by decide +kernel
  refine x_met (by decide) rfl (Nat.le_of_ble_eq_true rfl) ?_
  intro p e s m below meth c hx hb hr hml hts hown hlocks hK hW hS ls hl
  have hown : s.vm.findClass RX8 = some m.cls := hown
  have hl : lv_has ls 2 [(0, .ref (adr (g.1 + 189) 8 0))] := hl
  rw [f_X8_batchExchanges] at hf
  refine lv_aload_n hx hb dX8_batchExchanges_0 rfl (lv_at hl 0 rfl) ?_
  refine lv_iconst (v := 0) hx hb dX8_batchExchanges_1 (by decide) ?_
  obtain ⟨md1, e_md1, hf⟩ := x_letE hf
  refine x_put (i := (g.1 + 189)) (k := 8) (j := 0) (t := 0) (w' := wM w md1 mn mw) hx hb hts i_8 tyX8 tyX8_ok nmX8 hown hK hW ⟨⟨hfl, rfl⟩, by decide⟩ hS rfl ⟨by decide, by decide, rfl⟩ (hts (.fieldLink RX8 51 "OpticalJukeboxModel" "thrown" "I") (by decide +kernel)) rfl (ty := .int) (by decide +kernel) rfl rfl ⟨rfl, rfl⟩ dX8_batchExchanges_2 (fp_M e_md1 rfl) (fun H locs hW hS => ?_)
  refine lv_aload_n hx hb dX8_batchExchanges_5 rfl (lv_at hl 0 rfl) ?_
  refine lv_iconst (v := 1) hx hb dX8_batchExchanges_6 (by decide) ?_
  obtain ⟨q2, h_q2, hf⟩ := x_bindE hf
  refine x_ci0 (x_rV ⟨hx, hb, hml, hown, hts⟩ (ct_X8_whyNotServed l g hfl w md1 mn mw ((1 : Int32)) h_q2) (cwV 1 hts gX8_batchExchanges_X8_whyNotServed rfl rfl rfl (by decide +kernel) ⟨Nat.le_of_ble_eq_true rfl, Nat.le_of_ble_eq_true rfl⟩) hK hW hS (x_recv (i := (g.1 + 189)) (k := 8) (j := 0) hK hW ⟨⟨hfl, rfl⟩, by decide⟩ rfl (by decide)) rfl hl.1 (rest := []) rfl (Nat.le_of_ble_eq_true rfl) dX8_batchExchanges_7 ⟨Nat.le_of_ble_eq_true rfl, Nat.le_of_ble_eq_true rfl⟩) hS (fun H locs hW hS => ?_)
  have hW : World g (wM w md1 mn mw) H := hW
  refine W.eq (g2 := F0 m 10 ls [.int q2]) rfl ?_
  refine lv_istore_n (lv' := [(1, .int q2), (0, .ref (adr (g.1 + 189) 8 0))]) hx hb dX8_batchExchanges_10 rfl hl (by decide) rfl (fun ls hl => ?_)
  refine lv_iload_n hx hb dX8_batchExchanges_11 rfl (lv_at hl 0 rfl) ?_
  refine lv_if_eq (tgt := 17) hx hb dX8_batchExchanges_12 (by decide) (fun hc => ?_) (fun hc => ?_)
  · have hf := x_iteT hf hc
    refine lv_aload_n hx hb dX8_batchExchanges_17 rfl (lv_at hl 1 rfl) ?_
    obtain ⟨q3, h_q3, hf⟩ := x_bindE hf
    refine x_cv0 (x_rV ⟨hx, hb, hml, hown, hts⟩ (ct_X8_findsWanted l g hfl w md1 mn mw  h_q3) (cwV 0 hts gX8_batchExchanges_X8_findsWanted rfl rfl rfl (by decide +kernel) ⟨Nat.le_of_ble_eq_true rfl, Nat.le_of_ble_eq_true rfl⟩) hK hW hS (x_recv (i := (g.1 + 189)) (k := 8) (j := 0) hK hW ⟨⟨hfl, rfl⟩, by decide⟩ rfl (by decide)) rfl hl.1 (rest := []) rfl (Nat.le_of_ble_eq_true rfl) dX8_batchExchanges_18 ⟨Nat.le_of_ble_eq_true rfl, Nat.le_of_ble_eq_true rfl⟩) hS (fun H locs hW hS => ?_)
    have hW : World g (wM w q3 mn mw) H := hW
    refine lv_aload_n hx hb dX8_batchExchanges_21 rfl (lv_at hl 1 rfl) ?_
    refine x_get (i := (g.1 + 189)) (k := 8) (j := 0) (t := 10) hx hb hts i_8 hown hK hW ⟨⟨hfl, rfl⟩, by decide⟩ rfl ⟨by decide, by decide, rfl⟩ (hts (.fieldLink RX8 145 "OpticalJukeboxModel" "wants" "I") (by decide +kernel)) (rfl) dX8_batchExchanges_22 ?_
    cases hf
    exact x_iret hx hb hr hlocks hK hW hS rfl dX8_batchExchanges_25
  · have hf := x_iteF hf hc
    refine lv_iload_n hx hb dX8_batchExchanges_15 rfl (lv_at hl 0 rfl) ?_
    cases hf
    exact x_iret hx hb hr hlocks hK hW hS rfl dX8_batchExchanges_16
abbrev rm_X8_batchPlatter : Room := { frames := 9, cells := 0, slots := 0, locals := 194 }
set_option maxRecDepth 100000 in
set_option maxHeartbeats 4000000 in
theorem ct_X8_batchPlatter (l : Launch) (g : GT) (hfl : 2 ≤ gf g) (w : WT) (md : SD) (mn : Nat → Int64) (mw : Int64) (a1 : Int32) {q : (Int32 × SD)} (hf : f_X8_batchPlatter md a1 = some q) : Met l yX8_batchPlatter wsX8_batchPlatter rm_X8_batchPlatter (cPre g (wM w md mn mw) [.ref (adr (g.1 + 189) 8 0), .int a1]) (cQi g q.1 (wM w q.2 mn mw)) 0 0 (gA g) := by
  have i_8 : ∀ w ∈ u_ws RX8 TX8 27, w ∈ wsX8_batchPlatter := by decide +kernel
  refine x_met (by decide) rfl (Nat.le_of_ble_eq_true rfl) ?_
  intro p e s m below meth c hx hb hr hml hts hown hlocks hK hW hS ls hl
  have hown : s.vm.findClass RX8 = some m.cls := hown
  have hl : lv_has ls 3 [(0, .ref (adr (g.1 + 189) 8 0)), (1, .int a1)] := hl
  rw [f_X8_batchPlatter] at hf
  refine lv_aload_n hx hb dX8_batchPlatter_0 rfl (lv_at hl 0 rfl) ?_
  refine lv_iconst (v := 0) hx hb dX8_batchPlatter_1 (by decide) ?_
  obtain ⟨md1, e_md1, hf⟩ := x_letE hf
  refine x_put (i := (g.1 + 189)) (k := 8) (j := 0) (t := 0) (w' := wM w md1 mn mw) hx hb hts i_8 tyX8 tyX8_ok nmX8 hown hK hW ⟨⟨hfl, rfl⟩, by decide⟩ hS rfl ⟨by decide, by decide, rfl⟩ (hts (.fieldLink RX8 51 "OpticalJukeboxModel" "thrown" "I") (by decide +kernel)) rfl (ty := .int) (by decide +kernel) rfl rfl ⟨rfl, rfl⟩ dX8_batchPlatter_2 (fp_M e_md1 rfl) (fun H locs hW hS => ?_)
  refine lv_aload_n hx hb dX8_batchPlatter_5 rfl (lv_at hl 0 rfl) ?_
  refine lv_iconst (v := 1) hx hb dX8_batchPlatter_6 (by decide) ?_
  obtain ⟨q2, h_q2, hf⟩ := x_bindE hf
  refine x_ci0 (x_rV ⟨hx, hb, hml, hown, hts⟩ (ct_X8_whyNotServed l g hfl w md1 mn mw ((1 : Int32)) h_q2) (cwV 1 hts gX8_batchPlatter_X8_whyNotServed rfl rfl rfl (by decide +kernel) ⟨Nat.le_of_ble_eq_true rfl, Nat.le_of_ble_eq_true rfl⟩) hK hW hS (x_recv (i := (g.1 + 189)) (k := 8) (j := 0) hK hW ⟨⟨hfl, rfl⟩, by decide⟩ rfl (by decide)) rfl hl.1 (rest := []) rfl (Nat.le_of_ble_eq_true rfl) dX8_batchPlatter_7 ⟨Nat.le_of_ble_eq_true rfl, Nat.le_of_ble_eq_true rfl⟩) hS (fun H locs hW hS => ?_)
  have hW : World g (wM w md1 mn mw) H := hW
  refine W.eq (g2 := F0 m 10 ls [.int q2]) rfl ?_
  refine lv_istore_n (lv' := [(2, .int q2), (0, .ref (adr (g.1 + 189) 8 0)), (1, .int a1)]) hx hb dX8_batchPlatter_10 rfl hl (by decide) rfl (fun ls hl => ?_)
  refine lv_iload_n hx hb dX8_batchPlatter_11 rfl (lv_at hl 0 rfl) ?_
  refine lv_if_eq (tgt := 17) hx hb dX8_batchPlatter_12 (by decide) (fun hc => ?_) (fun hc => ?_)
  · have hf := x_iteT hf hc
    refine lv_aload_n hx hb dX8_batchPlatter_17 rfl (lv_at hl 1 rfl) ?_
    obtain ⟨q3, h_q3, hf⟩ := x_bindE hf
    refine x_ci0 (x_rV ⟨hx, hb, hml, hown, hts⟩ (ct_X8_servingTime l g hfl w md1 mn mw  h_q3) (cwV 0 hts gX8_batchPlatter_X8_servingTime rfl rfl rfl (by decide +kernel) ⟨Nat.le_of_ble_eq_true rfl, Nat.le_of_ble_eq_true rfl⟩) hK hW hS (x_recv (i := (g.1 + 189)) (k := 8) (j := 0) hK hW ⟨⟨hfl, rfl⟩, by decide⟩ rfl (by decide)) rfl hl.1 (rest := []) rfl (Nat.le_of_ble_eq_true rfl) dX8_batchPlatter_18 ⟨Nat.le_of_ble_eq_true rfl, Nat.le_of_ble_eq_true rfl⟩) hS (fun H locs hW hS => ?_)
    have hW : World g (wM w q3.2 mn mw) H := hW
    refine W.eq (g2 := F0 m 21 ls [.int q3.1]) rfl ?_
    refine lv_pop hx hb dX8_batchPlatter_21 rfl ?_
    refine lv_iload_n hx hb dX8_batchPlatter_22 rfl (lv_at hl 2 rfl) ?_
    refine lv_i2l hx hb dX8_batchPlatter_23 rfl ?_
    refine lv_lconst (v := 0) hx hb dX8_batchPlatter_24 (by decide) ?_
    refine lv_aload_n hx hb dX8_batchPlatter_25 rfl (lv_at hl 1 rfl) ?_
    refine x_get (i := (g.1 + 189)) (k := 8) (j := 0) (t := 10) hx hb hts i_8 hown hK hW ⟨⟨hfl, rfl⟩, by decide⟩ rfl ⟨by decide, by decide, rfl⟩ (hts (.fieldLink RX8 145 "OpticalJukeboxModel" "wants" "I") (by decide +kernel)) (rfl) dX8_batchPlatter_26 ?_
    refine lv_iconst (v := 1) hx hb dX8_batchPlatter_29 (by decide) ?_
    refine lv_isub hx hb dX8_batchPlatter_30 ?_
    refine lv_i2l hx hb dX8_batchPlatter_31 rfl ?_
    obtain ⟨q4, h_q4, hf⟩ := x_bindE hf
    refine x_ci0 (x_rS ⟨hx, hb, hml, hown, hts⟩ (ct_X8_isIn l g (wM w q3.2 mn mw) ((a1).toInt64) ((0 : Int64)) ((((q3.2 8 0 10) - (1 : Int32))).toInt64) h_q4) (va_cwS 3 hts gX8_batchPlatter_X8_isIn rfl rfl rfl (by decide +kernel) ⟨Nat.le_of_ble_eq_true rfl, Nat.le_of_ble_eq_true rfl⟩) hK hW hS rfl hl.1 (rest := []) rfl (Nat.le_of_ble_eq_true rfl) dX8_batchPlatter_32 ⟨Nat.le_of_ble_eq_true rfl, Nat.le_of_ble_eq_true rfl⟩) hS (fun H locs hW hS => ?_)
    have hW : World g (wM w q3.2 mn mw) H := hW
    refine W.eq (g2 := F0 m 35 ls [.int q4]) rfl ?_
    refine lv_if_eq (tgt := 52) hx hb dX8_batchPlatter_35 (by decide) (fun hc => ?_) (fun hc => ?_)
    · have hf := x_iteT hf hc
      refine lv_ldc (v := -1000001) hx hb hown (hts (.constant RX8 186 (-1000001)) (by decide +kernel)) dX8_batchPlatter_52 ?_
      cases hf
      exact x_iret hx hb hr hlocks hK hW hS rfl dX8_batchPlatter_54
    · have hf := x_iteF hf hc
      refine lv_aload_n hx hb dX8_batchPlatter_38 rfl (lv_at hl 1 rfl) ?_
      refine x_get (i := (g.1 + 189)) (k := 8) (j := 0) (t := 7) hx hb hts i_8 hown hK hW ⟨⟨hfl, rfl⟩, by decide⟩ rfl ⟨by decide, by decide, rfl⟩ (hts (.fieldLink RX8 22 "OpticalJukeboxModel" "wanted" "[I") (by decide +kernel)) (v := .ref (adr (g.1 + 189) 34 0)) rfl dX8_batchPlatter_39 ?_
      refine lv_aload_n hx hb dX8_batchPlatter_42 rfl (lv_at hl 1 rfl) ?_
      refine x_get (i := (g.1 + 189)) (k := 8) (j := 0) (t := 8) hx hb hts i_8 hown hK hW ⟨⟨hfl, rfl⟩, by decide⟩ rfl ⟨by decide, by decide, rfl⟩ (hts (.fieldLink RX8 25 "OpticalJukeboxModel" "order" "[I") (by decide +kernel)) (v := .ref (adr (g.1 + 189) 35 0)) rfl dX8_batchPlatter_43 ?_
      refine lv_iload_n hx hb dX8_batchPlatter_46 rfl (lv_at hl 2 rfl) ?_
      obtain ⟨hg5, hf⟩ := x_guardE hf
      refine x_iald (i := (g.1 + 189)) (k := 35) (j := 0) (f := q3.2 35 0) hx hb hK hW ⟨⟨hfl, rfl⟩, by decide⟩ (by decide) (rfl) rfl hg5 dX8_batchPlatter_47 ?_
      obtain ⟨hg6, hf⟩ := x_guardE hf
      refine x_iald (i := (g.1 + 189)) (k := 34) (j := 0) (f := q3.2 34 0) hx hb hK hW ⟨⟨hfl, rfl⟩, by decide⟩ (by decide) (rfl) rfl hg6 dX8_batchPlatter_48 ?_
      refine lv_goto (tgt := 54) hx hb dX8_batchPlatter_49 (by decide) ?_
      cases hf
      exact x_iret hx hb hr hlocks hK hW hS rfl dX8_batchPlatter_54
  · have hf := x_iteF hf hc
    refine lv_iload_n hx hb dX8_batchPlatter_15 rfl (lv_at hl 0 rfl) ?_
    cases hf
    exact x_iret hx hb hr hlocks hK hW hS rfl dX8_batchPlatter_16
abbrev rm_X8_oneByOneTime : Room := { frames := 6, cells := 0, slots := 0, locals := 130 }
set_option maxRecDepth 100000 in
set_option maxHeartbeats 4000000 in
theorem ct_X8_oneByOneTime (l : Launch) (g : GT) (hfl : 2 ≤ gf g) (w : WT) (md : SD) (mn : Nat → Int64) (mw : Int64) {q : (Int32 × SD)} (hf : f_X8_oneByOneTime md  = some q) : Met l yX8_oneByOneTime wsX8_oneByOneTime rm_X8_oneByOneTime (cPre g (wM w md mn mw) [.ref (adr (g.1 + 189) 8 0)]) (cQi g q.1 (wM w q.2 mn mw)) 0 0 (gA g) := by
  have i_8 : ∀ w ∈ u_ws RX8 TX8 27, w ∈ wsX8_oneByOneTime := by decide +kernel
  refine x_met (by decide) rfl (Nat.le_of_ble_eq_true rfl) ?_
  intro p e s m below meth c hx hb hr hml hts hown hlocks hK hW hS ls hl
  have hown : s.vm.findClass RX8 = some m.cls := hown
  have hl : lv_has ls 3 [(0, .ref (adr (g.1 + 189) 8 0))] := hl
  rw [f_X8_oneByOneTime] at hf
  refine lv_aload_n hx hb dX8_oneByOneTime_0 rfl (lv_at hl 0 rfl) ?_
  refine lv_iconst (v := 0) hx hb dX8_oneByOneTime_1 (by decide) ?_
  obtain ⟨md1, e_md1, hf⟩ := x_letE hf
  refine x_put (i := (g.1 + 189)) (k := 8) (j := 0) (t := 0) (w' := wM w md1 mn mw) hx hb hts i_8 tyX8 tyX8_ok nmX8 hown hK hW ⟨⟨hfl, rfl⟩, by decide⟩ hS rfl ⟨by decide, by decide, rfl⟩ (hts (.fieldLink RX8 51 "OpticalJukeboxModel" "thrown" "I") (by decide +kernel)) rfl (ty := .int) (by decide +kernel) rfl rfl ⟨rfl, rfl⟩ dX8_oneByOneTime_2 (fp_M e_md1 rfl) (fun H locs hW hS => ?_)
  refine lv_aload_n hx hb dX8_oneByOneTime_5 rfl (lv_at hl 0 rfl) ?_
  refine lv_iconst (v := 1) hx hb dX8_oneByOneTime_6 (by decide) ?_
  obtain ⟨q2, h_q2, hf⟩ := x_bindE hf
  refine x_ci0 (x_rV ⟨hx, hb, hml, hown, hts⟩ (ct_X8_whyNotServed l g hfl w md1 mn mw ((1 : Int32)) h_q2) (cwV 1 hts gX8_oneByOneTime_X8_whyNotServed rfl rfl rfl (by decide +kernel) ⟨Nat.le_of_ble_eq_true rfl, Nat.le_of_ble_eq_true rfl⟩) hK hW hS (x_recv (i := (g.1 + 189)) (k := 8) (j := 0) hK hW ⟨⟨hfl, rfl⟩, by decide⟩ rfl (by decide)) rfl hl.1 (rest := []) rfl (Nat.le_of_ble_eq_true rfl) dX8_oneByOneTime_7 ⟨Nat.le_of_ble_eq_true rfl, Nat.le_of_ble_eq_true rfl⟩) hS (fun H locs hW hS => ?_)
  have hW : World g (wM w md1 mn mw) H := hW
  refine W.eq (g2 := F0 m 10 ls [.int q2]) rfl ?_
  refine lv_istore_n (lv' := [(1, .int q2), (0, .ref (adr (g.1 + 189) 8 0))]) hx hb dX8_oneByOneTime_10 rfl hl (by decide) rfl (fun ls hl => ?_)
  refine lv_iload_n hx hb dX8_oneByOneTime_11 rfl (lv_at hl 0 rfl) ?_
  refine lv_if_eq (tgt := 17) hx hb dX8_oneByOneTime_12 (by decide) (fun hc => ?_) (fun hc => ?_)
  · have hf := x_iteT hf hc
    refine lv_aload_n hx hb dX8_oneByOneTime_17 rfl (lv_at hl 1 rfl) ?_
    obtain ⟨q3, h_q3, hf⟩ := x_bindE hf
    refine x_cv0 (x_rV ⟨hx, hb, hml, hown, hts⟩ (ct_X8_tries l g hfl w md1 mn mw  h_q3) (cwV 0 hts gX8_oneByOneTime_X8_tries rfl rfl rfl (by decide +kernel) ⟨Nat.le_of_ble_eq_true rfl, Nat.le_of_ble_eq_true rfl⟩) hK hW hS (x_recv (i := (g.1 + 189)) (k := 8) (j := 0) hK hW ⟨⟨hfl, rfl⟩, by decide⟩ rfl (by decide)) rfl hl.1 (rest := []) rfl (Nat.le_of_ble_eq_true rfl) dX8_oneByOneTime_18 ⟨Nat.le_of_ble_eq_true rfl, Nat.le_of_ble_eq_true rfl⟩) hS (fun H locs hW hS => ?_)
    have hW : World g (wM w q3 mn mw) H := hW
    refine lv_iconst (v := 0) hx hb dX8_oneByOneTime_21 (by decide) ?_
    refine lv_istore_n (lv' := [(2, .int (0 : Int32)), (1, .int q2), (0, .ref (adr (g.1 + 189) 8 0))]) hx hb dX8_oneByOneTime_22 rfl hl (by decide) rfl (fun ls hl => ?_)
    have L23 : ∀ (n : Nat) (v2_23 : Int32) (md_23 : SD) (ls : Array Slot) (H : Heap) (locs : List Loc), lv_has ls 3 [(0, .ref (adr (g.1 + 189) 8 0)), (1, .int q2), (2, .int v2_23)] → World g (wM w md_23 mn mw) H → va_S (gA g) s.heap H locs → f_X8_oneByOneTime_L23  n v2_23 md_23 = some q → W p l e rm_X8_oneByOneTime s m [.ref (adr (g.1 + 189) 8 0)].toArray below meth c H locs 0 0 (MQ below (cQi g q.1 (wM w q.2 mn mw)) [.ref (adr (g.1 + 189) 8 0)].toArray s 0 0 (gA g)) (F0 m 23 ls []) := by
      clear hW hS hl
      intro n
      induction n with
      | zero => intro v2_23 md_23 ls H locs hl hW hS hf; cases hf
      | succ n_23 ih =>
        intro v2_23 md_23 ls H locs hl hW hS hf
        rw [f_X8_oneByOneTime_L23] at hf
        refine lv_iload_n hx hb dX8_oneByOneTime_23 rfl (lv_at hl 2 rfl) ?_
        refine lv_aload_n hx hb dX8_oneByOneTime_24 rfl (lv_at hl 0 rfl) ?_
        refine x_get (i := (g.1 + 189)) (k := 8) (j := 0) (t := 1) hx hb hts i_8 hown hK hW ⟨⟨hfl, rfl⟩, by decide⟩ rfl ⟨by decide, by decide, rfl⟩ (hts (.fieldLink RX8 7 "OpticalJukeboxModel" "now" "[I") (by decide +kernel)) (v := .ref (adr (g.1 + 189) 30 0)) rfl dX8_oneByOneTime_25 ?_
        refine lv_bipush (v := 16) hx hb dX8_oneByOneTime_28 (by decide) ?_
        refine x_iald (i := (g.1 + 189)) (k := 30) (j := 0) (f := md_23 30 0) hx hb hK hW ⟨⟨hfl, rfl⟩, by decide⟩ (by decide) (rfl) rfl (by unfold vp_in; decide) dX8_oneByOneTime_30 ?_
        refine W.eq (g2 := F0 m 31 ls [.int (md_23 30 0 16), .int v2_23]) rfl ?_
        refine lv_icmp_ge (tgt := 54) hx hb dX8_oneByOneTime_31 (by decide) (fun hc => ?_) (fun hc => ?_)
        · have hf := x_iteT hf hc
          refine lv_aload_n hx hb dX8_oneByOneTime_54 rfl (lv_at hl 0 rfl) ?_
          obtain ⟨q4, h_q4, hf⟩ := x_bindE hf
          refine x_ci0 (x_rV ⟨hx, hb, hml, hown, hts⟩ (ct_X8_takesBack l g hfl w md_23 mn mw  h_q4) (cwV 0 hts gX8_oneByOneTime_X8_takesBack rfl rfl rfl (by decide +kernel) ⟨Nat.le_of_ble_eq_true rfl, Nat.le_of_ble_eq_true rfl⟩) hK hW hS (x_recv (i := (g.1 + 189)) (k := 8) (j := 0) hK hW ⟨⟨hfl, rfl⟩, by decide⟩ rfl (by decide)) rfl hl.1 (rest := []) rfl (Nat.le_of_ble_eq_true rfl) dX8_oneByOneTime_55 ⟨Nat.le_of_ble_eq_true rfl, Nat.le_of_ble_eq_true rfl⟩) hS (fun H locs hW hS => ?_)
          have hW : World g (wM w q4.2 mn mw) H := hW
          refine W.eq (g2 := F0 m 58 ls [.int q4.1]) rfl ?_
          cases hf
          exact x_iret hx hb hr hlocks hK hW hS rfl dX8_oneByOneTime_58
        · have hf := x_iteF hf hc
          refine lv_aload_n hx hb dX8_oneByOneTime_34 rfl (lv_at hl 0 rfl) ?_
          refine lv_aload_n hx hb dX8_oneByOneTime_35 rfl (lv_at hl 0 rfl) ?_
          refine x_get (i := (g.1 + 189)) (k := 8) (j := 0) (t := 1) hx hb hts i_8 hown hK hW ⟨⟨hfl, rfl⟩, by decide⟩ rfl ⟨by decide, by decide, rfl⟩ (hts (.fieldLink RX8 7 "OpticalJukeboxModel" "now" "[I") (by decide +kernel)) (v := .ref (adr (g.1 + 189) 30 0)) rfl dX8_oneByOneTime_36 ?_
          refine lv_sipush (v := 589) hx hb dX8_oneByOneTime_39 (by decide) ?_
          refine lv_iload_n hx hb dX8_oneByOneTime_42 rfl (lv_at hl 2 rfl) ?_
          refine lv_iadd hx hb dX8_oneByOneTime_43 ?_
          obtain ⟨hg5, hf⟩ := x_guardE hf
          refine x_iald (i := (g.1 + 189)) (k := 30) (j := 0) (f := md_23 30 0) hx hb hK hW ⟨⟨hfl, rfl⟩, by decide⟩ (by decide) (rfl) rfl hg5 dX8_oneByOneTime_44 ?_
          obtain ⟨q6, h_q6, hf⟩ := x_bindE hf
          refine x_cv0 (x_rV ⟨hx, hb, hml, hown, hts⟩ (ct_X8_reads l g hfl w md_23 mn mw ((md_23 30 0 (((589 : Int32) + v2_23)).toNatClampNeg)) h_q6) (cwV 1 hts gX8_oneByOneTime_X8_reads rfl rfl rfl (by decide +kernel) ⟨Nat.le_of_ble_eq_true rfl, Nat.le_of_ble_eq_true rfl⟩) hK hW hS (x_recv (i := (g.1 + 189)) (k := 8) (j := 0) hK hW ⟨⟨hfl, rfl⟩, by decide⟩ rfl (by decide)) rfl hl.1 (rest := []) rfl (Nat.le_of_ble_eq_true rfl) dX8_oneByOneTime_45 ⟨Nat.le_of_ble_eq_true rfl, Nat.le_of_ble_eq_true rfl⟩) hS (fun H locs hW hS => ?_)
          have hW : World g (wM w q6 mn mw) H := hW
          obtain ⟨x7, e_x7, hf⟩ := x_letE hf
          refine lv_iinc (v := x7) (lv' := [(2, .int x7), (0, .ref (adr (g.1 + 189) 8 0)), (1, .int q2)]) hx hb dX8_oneByOneTime_48 hl (k := 2) rfl (by rw [e_x7]; rfl) (by decide) rfl (fun ls hl => ?_)
          refine lv_goto (tgt := 23) hx hb dX8_oneByOneTime_51 (by decide) ?_
          exact ih (x7) (q6) ls _ _ (lv_sub hl [1, 2, 0] rfl) hW hS hf
    exact L23 fuel ((0 : Int32)) (q3) ls _ _ (lv_sub hl [2, 1, 0] rfl) hW hS hf
  · have hf := x_iteF hf hc
    refine lv_iload_n hx hb dX8_oneByOneTime_15 rfl (lv_at hl 0 rfl) ?_
    cases hf
    exact x_iret hx hb hr hlocks hK hW hS rfl dX8_oneByOneTime_16
abbrev rm_X8_leastTimeWithoutOne : Room := { frames := 8, cells := 0, slots := 0, locals := 174 }
set_option maxRecDepth 100000 in
set_option maxHeartbeats 4000000 in
theorem ct_X8_leastTimeWithoutOne (l : Launch) (g : GT) (hfl : 2 ≤ gf g) (w : WT) (md : SD) (mn : Nat → Int64) (mw : Int64) {q : (Int32 × SD)} (hf : f_X8_leastTimeWithoutOne md  = some q) : Met l yX8_leastTimeWithoutOne wsX8_leastTimeWithoutOne rm_X8_leastTimeWithoutOne (cPre g (wM w md mn mw) [.ref (adr (g.1 + 189) 8 0)]) (cQi g q.1 (wM w q.2 mn mw)) 0 0 (gA g) := by
  have i_8 : ∀ w ∈ u_ws RX8 TX8 27, w ∈ wsX8_leastTimeWithoutOne := by decide +kernel
  refine x_met (by decide) rfl (Nat.le_of_ble_eq_true rfl) ?_
  intro p e s m below meth c hx hb hr hml hts hown hlocks hK hW hS ls hl
  have hown : s.vm.findClass RX8 = some m.cls := hown
  have hl : lv_has ls 5 [(0, .ref (adr (g.1 + 189) 8 0))] := hl
  rw [f_X8_leastTimeWithoutOne] at hf
  refine lv_aload_n hx hb dX8_leastTimeWithoutOne_0 rfl (lv_at hl 0 rfl) ?_
  refine lv_iconst (v := 0) hx hb dX8_leastTimeWithoutOne_1 (by decide) ?_
  obtain ⟨md1, e_md1, hf⟩ := x_letE hf
  refine x_put (i := (g.1 + 189)) (k := 8) (j := 0) (t := 0) (w' := wM w md1 mn mw) hx hb hts i_8 tyX8 tyX8_ok nmX8 hown hK hW ⟨⟨hfl, rfl⟩, by decide⟩ hS rfl ⟨by decide, by decide, rfl⟩ (hts (.fieldLink RX8 51 "OpticalJukeboxModel" "thrown" "I") (by decide +kernel)) rfl (ty := .int) (by decide +kernel) rfl rfl ⟨rfl, rfl⟩ dX8_leastTimeWithoutOne_2 (fp_M e_md1 rfl) (fun H locs hW hS => ?_)
  refine lv_aload_n hx hb dX8_leastTimeWithoutOne_5 rfl (lv_at hl 0 rfl) ?_
  refine lv_iconst (v := 2) hx hb dX8_leastTimeWithoutOne_6 (by decide) ?_
  obtain ⟨q2, h_q2, hf⟩ := x_bindE hf
  refine x_ci0 (x_rV ⟨hx, hb, hml, hown, hts⟩ (ct_X8_whyNotServed l g hfl w md1 mn mw ((2 : Int32)) h_q2) (cwV 1 hts gX8_leastTimeWithoutOne_X8_whyNotServed rfl rfl rfl (by decide +kernel) ⟨Nat.le_of_ble_eq_true rfl, Nat.le_of_ble_eq_true rfl⟩) hK hW hS (x_recv (i := (g.1 + 189)) (k := 8) (j := 0) hK hW ⟨⟨hfl, rfl⟩, by decide⟩ rfl (by decide)) rfl hl.1 (rest := []) rfl (Nat.le_of_ble_eq_true rfl) dX8_leastTimeWithoutOne_7 ⟨Nat.le_of_ble_eq_true rfl, Nat.le_of_ble_eq_true rfl⟩) hS (fun H locs hW hS => ?_)
  have hW : World g (wM w md1 mn mw) H := hW
  refine W.eq (g2 := F0 m 10 ls [.int q2]) rfl ?_
  refine lv_istore_n (lv' := [(1, .int q2), (0, .ref (adr (g.1 + 189) 8 0))]) hx hb dX8_leastTimeWithoutOne_10 rfl hl (by decide) rfl (fun ls hl => ?_)
  refine lv_iload_n hx hb dX8_leastTimeWithoutOne_11 rfl (lv_at hl 0 rfl) ?_
  refine lv_if_eq (tgt := 17) hx hb dX8_leastTimeWithoutOne_12 (by decide) (fun hc => ?_) (fun hc => ?_)
  · have hf := x_iteT hf hc
    refine lv_ldc (v := 1000000000) hx hb hown (hts (.constant RX8 151 (1000000000)) (by decide +kernel)) dX8_leastTimeWithoutOne_17 ?_
    refine lv_istore_n (lv' := [(2, .int (1000000000 : Int32)), (1, .int q2), (0, .ref (adr (g.1 + 189) 8 0))]) hx hb dX8_leastTimeWithoutOne_19 rfl hl (by decide) rfl (fun ls hl => ?_)
    refine lv_iconst (v := 0) hx hb dX8_leastTimeWithoutOne_20 (by decide) ?_
    refine lv_istore_n (lv' := [(3, .int (0 : Int32)), (2, .int (1000000000 : Int32)), (1, .int q2), (0, .ref (adr (g.1 + 189) 8 0))]) hx hb dX8_leastTimeWithoutOne_21 rfl hl (by decide) rfl (fun ls hl => ?_)
    have L22 : ∀ (n : Nat) (v2_22 : Int32) (v3_22 : Int32) (md_22 : SD) (ls : Array Slot) (H : Heap) (locs : List Loc), lv_has ls 5 [(0, .ref (adr (g.1 + 189) 8 0)), (1, .int q2), (2, .int v2_22), (3, .int v3_22)] → World g (wM w md_22 mn mw) H → va_S (gA g) s.heap H locs → f_X8_leastTimeWithoutOne_L22  n v2_22 v3_22 md_22 = some q → W p l e rm_X8_leastTimeWithoutOne s m [.ref (adr (g.1 + 189) 8 0)].toArray below meth c H locs 0 0 (MQ below (cQi g q.1 (wM w q.2 mn mw)) [.ref (adr (g.1 + 189) 8 0)].toArray s 0 0 (gA g)) (F0 m 22 ls []) := by
      clear hW hS hl
      intro n
      induction n with
      | zero => intro v2_22 v3_22 md_22 ls H locs hl hW hS hf; cases hf
      | succ n_22 ih =>
        intro v2_22 v3_22 md_22 ls H locs hl hW hS hf
        rw [f_X8_leastTimeWithoutOne_L22] at hf
        refine lv_iload_n hx hb dX8_leastTimeWithoutOne_22 rfl (lv_at hl 3 rfl) ?_
        refine lv_aload_n hx hb dX8_leastTimeWithoutOne_23 rfl (lv_at hl 0 rfl) ?_
        refine x_get (i := (g.1 + 189)) (k := 8) (j := 0) (t := 1) hx hb hts i_8 hown hK hW ⟨⟨hfl, rfl⟩, by decide⟩ rfl ⟨by decide, by decide, rfl⟩ (hts (.fieldLink RX8 7 "OpticalJukeboxModel" "now" "[I") (by decide +kernel)) (v := .ref (adr (g.1 + 189) 30 0)) rfl dX8_leastTimeWithoutOne_24 ?_
        refine lv_bipush (v := 16) hx hb dX8_leastTimeWithoutOne_27 (by decide) ?_
        refine x_iald (i := (g.1 + 189)) (k := 30) (j := 0) (f := md_22 30 0) hx hb hK hW ⟨⟨hfl, rfl⟩, by decide⟩ (by decide) (rfl) rfl (by unfold vp_in; decide) dX8_leastTimeWithoutOne_29 ?_
        refine W.eq (g2 := F0 m 30 ls [.int (md_22 30 0 16), .int v3_22]) rfl ?_
        refine lv_icmp_ge (tgt := 71) hx hb dX8_leastTimeWithoutOne_30 (by decide) (fun hc => ?_) (fun hc => ?_)
        · have hf := x_iteT hf hc
          refine lv_iload_n hx hb dX8_leastTimeWithoutOne_71 rfl (lv_at hl 2 rfl) ?_
          cases hf
          exact x_iret hx hb hr hlocks hK hW hS rfl dX8_leastTimeWithoutOne_72
        · have hf := x_iteF hf hc
          refine lv_aload_n hx hb dX8_leastTimeWithoutOne_33 rfl (lv_at hl 0 rfl) ?_
          obtain ⟨q3, h_q3, hf⟩ := x_bindE hf
          refine x_cv0 (x_rV ⟨hx, hb, hml, hown, hts⟩ (ct_X8_tries l g hfl w md_22 mn mw  h_q3) (cwV 0 hts gX8_leastTimeWithoutOne_X8_tries rfl rfl rfl (by decide +kernel) ⟨Nat.le_of_ble_eq_true rfl, Nat.le_of_ble_eq_true rfl⟩) hK hW hS (x_recv (i := (g.1 + 189)) (k := 8) (j := 0) hK hW ⟨⟨hfl, rfl⟩, by decide⟩ rfl (by decide)) rfl hl.1 (rest := []) rfl (Nat.le_of_ble_eq_true rfl) dX8_leastTimeWithoutOne_34 ⟨Nat.le_of_ble_eq_true rfl, Nat.le_of_ble_eq_true rfl⟩) hS (fun H locs hW hS => ?_)
          have hW : World g (wM w q3 mn mw) H := hW
          refine lv_aload_n hx hb dX8_leastTimeWithoutOne_37 rfl (lv_at hl 0 rfl) ?_
          refine lv_iload_n hx hb dX8_leastTimeWithoutOne_38 rfl (lv_at hl 3 rfl) ?_
          obtain ⟨q4, h_q4, hf⟩ := x_bindE hf
          refine x_cv0 (x_rV ⟨hx, hb, hml, hown, hts⟩ (ct_X8_drops l g hfl w q3 mn mw (v3_22) h_q4) (cwV 1 hts gX8_leastTimeWithoutOne_X8_drops rfl rfl rfl (by decide +kernel) ⟨Nat.le_of_ble_eq_true rfl, Nat.le_of_ble_eq_true rfl⟩) hK hW hS (x_recv (i := (g.1 + 189)) (k := 8) (j := 0) hK hW ⟨⟨hfl, rfl⟩, by decide⟩ rfl (by decide)) rfl hl.1 (rest := []) rfl (Nat.le_of_ble_eq_true rfl) dX8_leastTimeWithoutOne_39 ⟨Nat.le_of_ble_eq_true rfl, Nat.le_of_ble_eq_true rfl⟩) hS (fun H locs hW hS => ?_)
          have hW : World g (wM w q4 mn mw) H := hW
          refine lv_aload_n hx hb dX8_leastTimeWithoutOne_42 rfl (lv_at hl 0 rfl) ?_
          obtain ⟨q5, h_q5, hf⟩ := x_bindE hf
          refine x_cv0 (x_rV ⟨hx, hb, hml, hown, hts⟩ (ct_X8_serves l g hfl w q4 mn mw  h_q5) (cwV 0 hts gX8_leastTimeWithoutOne_X8_serves rfl rfl rfl (by decide +kernel) ⟨Nat.le_of_ble_eq_true rfl, Nat.le_of_ble_eq_true rfl⟩) hK hW hS (x_recv (i := (g.1 + 189)) (k := 8) (j := 0) hK hW ⟨⟨hfl, rfl⟩, by decide⟩ rfl (by decide)) rfl hl.1 (rest := []) rfl (Nat.le_of_ble_eq_true rfl) dX8_leastTimeWithoutOne_43 ⟨Nat.le_of_ble_eq_true rfl, Nat.le_of_ble_eq_true rfl⟩) hS (fun H locs hW hS => ?_)
          have hW : World g (wM w q5 mn mw) H := hW
          refine lv_aload_n hx hb dX8_leastTimeWithoutOne_46 rfl (lv_at hl 0 rfl) ?_
          obtain ⟨q6, h_q6, hf⟩ := x_bindE hf
          refine x_ci0 (x_rV ⟨hx, hb, hml, hown, hts⟩ (ct_X8_takesBack l g hfl w q5 mn mw  h_q6) (cwV 0 hts gX8_leastTimeWithoutOne_X8_takesBack rfl rfl rfl (by decide +kernel) ⟨Nat.le_of_ble_eq_true rfl, Nat.le_of_ble_eq_true rfl⟩) hK hW hS (x_recv (i := (g.1 + 189)) (k := 8) (j := 0) hK hW ⟨⟨hfl, rfl⟩, by decide⟩ rfl (by decide)) rfl hl.1 (rest := []) rfl (Nat.le_of_ble_eq_true rfl) dX8_leastTimeWithoutOne_47 ⟨Nat.le_of_ble_eq_true rfl, Nat.le_of_ble_eq_true rfl⟩) hS (fun H locs hW hS => ?_)
          have hW : World g (wM w q6.2 mn mw) H := hW
          refine W.eq (g2 := F0 m 50 ls [.int q6.1]) rfl ?_
          obtain ⟨x7, e_x7, hf⟩ := x_letE hf
          refine x_topi e_x7 ?_
          refine lv_istore (lv' := [(4, .int x7), (0, .ref (adr (g.1 + 189) 8 0)), (1, .int q2), (2, .int v2_22), (3, .int v3_22)]) hx hb dX8_leastTimeWithoutOne_50 hl (by decide) rfl (fun ls hl => ?_)
          refine lv_iload hx hb dX8_leastTimeWithoutOne_52 (lv_at hl 0 rfl) ?_
          refine lv_iload_n hx hb dX8_leastTimeWithoutOne_54 rfl (lv_at hl 3 rfl) ?_
          obtain ⟨K8, eK8, hf⟩ := x_letE hf
          have KK8 : ∀ (y9 : Int32) (ls : Array Slot) (H : Heap) (locs : List Loc), lv_has ls 5 [(0, .ref (adr (g.1 + 189) 8 0)), (1, .int q2), (2, .int v2_22), (3, .int v3_22), (4, .int x7)] → World g (wM w q6.2 mn mw) H → va_S (gA g) s.heap H locs → K8 y9 = some q → W p l e rm_X8_leastTimeWithoutOne s m [.ref (adr (g.1 + 189) 8 0)].toArray below meth c H locs 0 0 (MQ below (cQi g q.1 (wM w q.2 mn mw)) [.ref (adr (g.1 + 189) 8 0)].toArray s 0 0 (gA g)) (F0 m 64 ls [.int y9]) := by
            intro y9 ls H locs hl hW hS hf
            subst eK8
            refine lv_istore_n (lv' := [(2, .int y9), (0, .ref (adr (g.1 + 189) 8 0)), (1, .int q2), (3, .int v3_22), (4, .int x7)]) hx hb dX8_leastTimeWithoutOne_64 rfl hl (by decide) rfl (fun ls hl => ?_)
            obtain ⟨x10, e_x10, hf⟩ := x_letE hf
            refine lv_iinc (v := x10) (lv' := [(3, .int x10), (2, .int y9), (0, .ref (adr (g.1 + 189) 8 0)), (1, .int q2), (4, .int x7)]) hx hb dX8_leastTimeWithoutOne_65 hl (k := 3) rfl (by rw [e_x10]; rfl) (by decide) rfl (fun ls hl => ?_)
            refine lv_goto (tgt := 22) hx hb dX8_leastTimeWithoutOne_68 (by decide) ?_
            exact ih (y9) (x10) (q6.2) ls _ _ (lv_sub hl [2, 3, 1, 0] rfl) hW hS hf
          clear eK8
          refine lv_icmp_ge (tgt := 63) hx hb dX8_leastTimeWithoutOne_55 (by decide) (fun hc => ?_) (fun hc => ?_)
          · have hf := x_iteT hf hc
            refine lv_iload_n hx hb dX8_leastTimeWithoutOne_63 rfl (lv_at hl 3 rfl) ?_
            exact KK8 (v2_22) ls _ _ (lv_sub hl [1, 2, 3, 4, 0] rfl) hW hS hf
          · have hf := x_iteF hf hc
            refine lv_iload hx hb dX8_leastTimeWithoutOne_58 (lv_at hl 0 rfl) ?_
            refine lv_goto (tgt := 64) hx hb dX8_leastTimeWithoutOne_60 (by decide) ?_
            exact KK8 (x7) ls _ _ (lv_sub hl [1, 2, 3, 4, 0] rfl) hW hS hf
    exact L22 fuel ((1000000000 : Int32)) ((0 : Int32)) (md1) ls _ _ (lv_sub hl [3, 2, 1, 0] rfl) hW hS hf
  · have hf := x_iteF hf hc
    refine lv_iload_n hx hb dX8_leastTimeWithoutOne_15 rfl (lv_at hl 0 rfl) ?_
    cases hf
    exact x_iret hx hb hr hlocks hK hW hS rfl dX8_leastTimeWithoutOne_16
abbrev rm_X8_nearest : Room := { frames := 1, cells := 0, slots := 0, locals := 21 }
set_option maxRecDepth 100000 in
set_option maxHeartbeats 4000000 in
theorem ct_X8_nearest (l : Launch) (g : GT) (hfl : 2 ≤ gf g) (w : WT) (md : SD) (mn : Nat → Int64) (mw : Int64) (a1 : Int32) {q : Int32} (hf : f_X8_nearest md a1 = some q) : Met l yX8_nearest wsX8_nearest rm_X8_nearest (cPre g (wM w md mn mw) [.ref (adr (g.1 + 189) 8 0), .int a1]) (cQi g q (wM w md mn mw)) 0 0 (gA g) := by
  have i_8 : ∀ w ∈ u_ws RX8 TX8 27, w ∈ wsX8_nearest := by decide +kernel
  refine x_met (by decide) rfl (Nat.le_of_ble_eq_true rfl) ?_
  intro p e s m below meth c hx hb hr hml hts hown hlocks hK hW hS ls hl
  have hown : s.vm.findClass RX8 = some m.cls := hown
  have hl : lv_has ls 4 [(0, .ref (adr (g.1 + 189) 8 0)), (1, .int a1)] := hl
  rw [f_X8_nearest] at hf
  refine lv_ldc (v := 1000000000) hx hb hown (hts (.constant RX8 151 (1000000000)) (by decide +kernel)) dX8_nearest_0 ?_
  refine lv_istore_n (lv' := [(2, .int (1000000000 : Int32)), (0, .ref (adr (g.1 + 189) 8 0)), (1, .int a1)]) hx hb dX8_nearest_2 rfl hl (by decide) rfl (fun ls hl => ?_)
  refine lv_iconst (v := 0) hx hb dX8_nearest_3 (by decide) ?_
  refine lv_istore_n (lv' := [(3, .int (0 : Int32)), (2, .int (1000000000 : Int32)), (0, .ref (adr (g.1 + 189) 8 0)), (1, .int a1)]) hx hb dX8_nearest_4 rfl hl (by decide) rfl (fun ls hl => ?_)
  have L5 : ∀ (n : Nat) (v2_5 : Int32) (v3_5 : Int32) (ls : Array Slot) (H : Heap) (locs : List Loc), lv_has ls 4 [(0, .ref (adr (g.1 + 189) 8 0)), (1, .int a1), (2, .int v2_5), (3, .int v3_5)] → World g (wM w md mn mw) H → va_S (gA g) s.heap H locs → f_X8_nearest_L5 md a1 n v2_5 v3_5 = some q → W p l e rm_X8_nearest s m [.ref (adr (g.1 + 189) 8 0), .int a1].toArray below meth c H locs 0 0 (MQ below (cQi g q (wM w md mn mw)) [.ref (adr (g.1 + 189) 8 0), .int a1].toArray s 0 0 (gA g)) (F0 m 5 ls []) := by
    clear hW hS hl
    intro n
    induction n with
    | zero => intro v2_5 v3_5 ls H locs hl hW hS hf; cases hf
    | succ n_5 ih =>
      intro v2_5 v3_5 ls H locs hl hW hS hf
      rw [f_X8_nearest_L5] at hf
      refine lv_iload_n hx hb dX8_nearest_5 rfl (lv_at hl 3 rfl) ?_
      refine lv_aload_n hx hb dX8_nearest_6 rfl (lv_at hl 0 rfl) ?_
      refine x_get (i := (g.1 + 189)) (k := 8) (j := 0) (t := 1) hx hb hts i_8 hown hK hW ⟨⟨hfl, rfl⟩, by decide⟩ rfl ⟨by decide, by decide, rfl⟩ (hts (.fieldLink RX8 7 "OpticalJukeboxModel" "now" "[I") (by decide +kernel)) (v := .ref (adr (g.1 + 189) 30 0)) rfl dX8_nearest_7 ?_
      refine lv_bipush (v := 6) hx hb dX8_nearest_10 (by decide) ?_
      refine x_iald (i := (g.1 + 189)) (k := 30) (j := 0) (f := md 30 0) hx hb hK hW ⟨⟨hfl, rfl⟩, by decide⟩ (by decide) (rfl) rfl (by unfold vp_in; decide) dX8_nearest_12 ?_
      refine W.eq (g2 := F0 m 13 ls [.int (md 30 0 6), .int v3_5]) rfl ?_
      refine lv_icmp_ge (tgt := 40) hx hb dX8_nearest_13 (by decide) (fun hc => ?_) (fun hc => ?_)
      · have hf := x_iteT hf hc
        refine lv_iload_n hx hb dX8_nearest_40 rfl (lv_at hl 2 rfl) ?_
        cases hf
        exact x_iret hx hb hr hlocks hK hW hS rfl dX8_nearest_41
      · have hf := x_iteF hf hc
        refine lv_iload_n hx hb dX8_nearest_16 rfl (lv_at hl 2 rfl) ?_
        refine lv_iload_n hx hb dX8_nearest_17 rfl (lv_at hl 1 rfl) ?_
        refine lv_aload_n hx hb dX8_nearest_18 rfl (lv_at hl 0 rfl) ?_
        refine x_get (i := (g.1 + 189)) (k := 8) (j := 0) (t := 1) hx hb hts i_8 hown hK hW ⟨⟨hfl, rfl⟩, by decide⟩ rfl ⟨by decide, by decide, rfl⟩ (hts (.fieldLink RX8 7 "OpticalJukeboxModel" "now" "[I") (by decide +kernel)) (v := .ref (adr (g.1 + 189) 30 0)) rfl dX8_nearest_19 ?_
        refine lv_bipush (v := 17) hx hb dX8_nearest_22 (by decide) ?_
        refine lv_iload_n hx hb dX8_nearest_24 rfl (lv_at hl 3 rfl) ?_
        refine lv_iadd hx hb dX8_nearest_25 ?_
        obtain ⟨hg1, hf⟩ := x_guardE hf
        refine x_iald (i := (g.1 + 189)) (k := 30) (j := 0) (f := md 30 0) hx hb hK hW ⟨⟨hfl, rfl⟩, by decide⟩ (by decide) (rfl) rfl hg1 dX8_nearest_26 ?_
        obtain ⟨q2, h_q2, hf⟩ := x_bindE hf
        refine x_ci0 (x_rS ⟨hx, hb, hml, hown, hts⟩ (ct_X8_far l g (wM w md mn mw) (a1) ((md 30 0 (((17 : Int32) + v3_5)).toNatClampNeg)) h_q2) (va_cwS 2 hts gX8_nearest_X8_far rfl rfl rfl (by decide +kernel) ⟨Nat.le_of_ble_eq_true rfl, Nat.le_of_ble_eq_true rfl⟩) hK hW hS rfl hl.1 (rest := [.int v2_5]) rfl (Nat.le_of_ble_eq_true rfl) dX8_nearest_27 ⟨Nat.le_of_ble_eq_true rfl, Nat.le_of_ble_eq_true rfl⟩) hS (fun H locs hW hS => ?_)
        have hW : World g (wM w md mn mw) H := hW
        refine W.eq (g2 := F0 m 30 ls [.int q2, .int v2_5]) rfl ?_
        refine va_mmin hx hb (hml.trans hl.1.symm) hown (hts (.methodLink RX8 69 Lib.Math.min.name) (by decide +kernel)) (hts (.static Lib.Math.min.name) (by decide +kernel)) (hts (.initialized "java/lang/Math") (by decide +kernel)) (hts (.code Lib.Math.min.name Lib.Math.min.code 2 (some .int)) (by decide +kernel)) (Nat.le_of_ble_eq_true rfl) (Nat.le_of_ble_eq_true rfl) (Nat.le_of_ble_eq_true rfl) (Nat.le_of_ble_eq_true rfl) dX8_nearest_30 ?_
        obtain ⟨x3, e_x3, hf⟩ := x_letE hf
        refine x_topi e_x3 ?_
        refine lv_istore_n (lv' := [(2, .int x3), (0, .ref (adr (g.1 + 189) 8 0)), (1, .int a1), (3, .int v3_5)]) hx hb dX8_nearest_33 rfl hl (by decide) rfl (fun ls hl => ?_)
        obtain ⟨x4, e_x4, hf⟩ := x_letE hf
        refine lv_iinc (v := x4) (lv' := [(3, .int x4), (2, .int x3), (0, .ref (adr (g.1 + 189) 8 0)), (1, .int a1)]) hx hb dX8_nearest_34 hl (k := 3) rfl (by rw [e_x4]; rfl) (by decide) rfl (fun ls hl => ?_)
        refine lv_goto (tgt := 5) hx hb dX8_nearest_37 (by decide) ?_
        exact ih (x3) (x4) ls _ _ (lv_sub hl [2, 3, 1, 0] rfl) hW hS hf
  exact L5 fuel ((1000000000 : Int32)) ((0 : Int32)) ls _ _ (lv_sub hl [2, 3, 1, 0] rfl) hW hS hf
abbrev rm_X8_nearestHome : Room := { frames := 2, cells := 0, slots := 0, locals := 46 }
set_option maxRecDepth 100000 in
set_option maxHeartbeats 4000000 in
theorem ct_X8_nearestHome (l : Launch) (g : GT) (hfl : 2 ≤ gf g) (w : WT) (md : SD) (mn : Nat → Int64) (mw : Int64) (a1 : Int32) {q : (Int32 × SD)} (hf : f_X8_nearestHome md a1 = some q) : Met l yX8_nearestHome wsX8_nearestHome rm_X8_nearestHome (cPre g (wM w md mn mw) [.ref (adr (g.1 + 189) 8 0), .int a1]) (cQi g q.1 (wM w q.2 mn mw)) 0 0 (gA g) := by
  have i_8 : ∀ w ∈ u_ws RX8 TX8 27, w ∈ wsX8_nearestHome := by decide +kernel
  refine x_met (by decide) rfl (Nat.le_of_ble_eq_true rfl) ?_
  intro p e s m below meth c hx hb hr hml hts hown hlocks hK hW hS ls hl
  have hown : s.vm.findClass RX8 = some m.cls := hown
  have hl : lv_has ls 5 [(0, .ref (adr (g.1 + 189) 8 0)), (1, .int a1)] := hl
  rw [f_X8_nearestHome] at hf
  refine lv_aload_n hx hb dX8_nearestHome_0 rfl (lv_at hl 0 rfl) ?_
  refine lv_iconst (v := 0) hx hb dX8_nearestHome_1 (by decide) ?_
  obtain ⟨md1, e_md1, hf⟩ := x_letE hf
  refine x_put (i := (g.1 + 189)) (k := 8) (j := 0) (t := 0) (w' := wM w md1 mn mw) hx hb hts i_8 tyX8 tyX8_ok nmX8 hown hK hW ⟨⟨hfl, rfl⟩, by decide⟩ hS rfl ⟨by decide, by decide, rfl⟩ (hts (.fieldLink RX8 51 "OpticalJukeboxModel" "thrown" "I") (by decide +kernel)) rfl (ty := .int) (by decide +kernel) rfl rfl ⟨rfl, rfl⟩ dX8_nearestHome_2 (fp_M e_md1 rfl) (fun H locs hW hS => ?_)
  refine lv_aload_n hx hb dX8_nearestHome_5 rfl (lv_at hl 0 rfl) ?_
  refine lv_iload_n hx hb dX8_nearestHome_6 rfl (lv_at hl 1 rfl) ?_
  obtain ⟨q2, h_q2, hf⟩ := x_bindE hf
  refine x_ci0 (x_rV ⟨hx, hb, hml, hown, hts⟩ (ct_X8_isPlatter l g hfl w md1 mn mw (a1) h_q2) (cwV 1 hts gX8_nearestHome_X8_isPlatter rfl rfl rfl (by decide +kernel) ⟨Nat.le_of_ble_eq_true rfl, Nat.le_of_ble_eq_true rfl⟩) hK hW hS (x_recv (i := (g.1 + 189)) (k := 8) (j := 0) hK hW ⟨⟨hfl, rfl⟩, by decide⟩ rfl (by decide)) rfl hl.1 (rest := []) rfl (Nat.le_of_ble_eq_true rfl) dX8_nearestHome_7 ⟨Nat.le_of_ble_eq_true rfl, Nat.le_of_ble_eq_true rfl⟩) hS (fun H locs hW hS => ?_)
  have hW : World g (wM w md1 mn mw) H := hW
  refine W.eq (g2 := F0 m 10 ls [.int q2]) rfl ?_
  refine lv_if_ne (tgt := 16) hx hb dX8_nearestHome_10 (by decide) (fun hc => ?_) (fun hc => ?_)
  · have hf := x_iteF hf hc
    refine lv_aload_n hx hb dX8_nearestHome_16 rfl (lv_at hl 0 rfl) ?_
    refine x_get (i := (g.1 + 189)) (k := 8) (j := 0) (t := 1) hx hb hts i_8 hown hK hW ⟨⟨hfl, rfl⟩, by decide⟩ rfl ⟨by decide, by decide, rfl⟩ (hts (.fieldLink RX8 7 "OpticalJukeboxModel" "now" "[I") (by decide +kernel)) (v := .ref (adr (g.1 + 189) 30 0)) rfl dX8_nearestHome_17 ?_
    refine lv_bipush (v := 6) hx hb dX8_nearestHome_20 (by decide) ?_
    refine x_iald (i := (g.1 + 189)) (k := 30) (j := 0) (f := md1 30 0) hx hb hK hW ⟨⟨hfl, rfl⟩, by decide⟩ (by decide) (rfl) rfl (by unfold vp_in; decide) dX8_nearestHome_22 ?_
    refine W.eq (g2 := F0 m 23 ls [.int (md1 30 0 6)]) rfl ?_
    refine lv_if_ne (tgt := 29) hx hb dX8_nearestHome_23 (by decide) (fun hc => ?_) (fun hc => ?_)
    · have hf := x_iteF hf hc
      refine lv_iconst (v := -1) hx hb dX8_nearestHome_29 (by decide) ?_
      refine lv_istore_n (lv' := [(2, .int (-1 : Int32)), (0, .ref (adr (g.1 + 189) 8 0)), (1, .int a1)]) hx hb dX8_nearestHome_30 rfl hl (by decide) rfl (fun ls hl => ?_)
      refine lv_iconst (v := 0) hx hb dX8_nearestHome_31 (by decide) ?_
      refine lv_istore_n (lv' := [(3, .int (0 : Int32)), (2, .int (-1 : Int32)), (0, .ref (adr (g.1 + 189) 8 0)), (1, .int a1)]) hx hb dX8_nearestHome_32 rfl hl (by decide) rfl (fun ls hl => ?_)
      have L33 : ∀ (n : Nat) (v2_33 : Int32) (v3_33 : Int32) (ls : Array Slot) (H : Heap) (locs : List Loc), lv_has ls 5 [(0, .ref (adr (g.1 + 189) 8 0)), (1, .int a1), (2, .int v2_33), (3, .int v3_33)] → World g (wM w md1 mn mw) H → va_S (gA g) s.heap H locs → f_X8_nearestHome_L33 md1 a1 n v2_33 v3_33 = some q → W p l e rm_X8_nearestHome s m [.ref (adr (g.1 + 189) 8 0), .int a1].toArray below meth c H locs 0 0 (MQ below (cQi g q.1 (wM w q.2 mn mw)) [.ref (adr (g.1 + 189) 8 0), .int a1].toArray s 0 0 (gA g)) (F0 m 33 ls []) := by
        clear hW hS hl
        intro n
        induction n with
        | zero => intro v2_33 v3_33 ls H locs hl hW hS hf; cases hf
        | succ n_33 ih =>
          intro v2_33 v3_33 ls H locs hl hW hS hf
          rw [f_X8_nearestHome_L33] at hf
          refine lv_iload_n hx hb dX8_nearestHome_33 rfl (lv_at hl 3 rfl) ?_
          refine lv_aload_n hx hb dX8_nearestHome_34 rfl (lv_at hl 0 rfl) ?_
          refine x_get (i := (g.1 + 189)) (k := 8) (j := 0) (t := 1) hx hb hts i_8 hown hK hW ⟨⟨hfl, rfl⟩, by decide⟩ rfl ⟨by decide, by decide, rfl⟩ (hts (.fieldLink RX8 7 "OpticalJukeboxModel" "now" "[I") (by decide +kernel)) (v := .ref (adr (g.1 + 189) 30 0)) rfl dX8_nearestHome_35 ?_
          refine lv_iconst (v := 0) hx hb dX8_nearestHome_38 (by decide) ?_
          refine x_iald (i := (g.1 + 189)) (k := 30) (j := 0) (f := md1 30 0) hx hb hK hW ⟨⟨hfl, rfl⟩, by decide⟩ (by decide) (rfl) rfl (by unfold vp_in; decide) dX8_nearestHome_39 ?_
          refine W.eq (g2 := F0 m 40 ls [.int (md1 30 0 0), .int v3_33]) rfl ?_
          refine lv_icmp_ge (tgt := 94) hx hb dX8_nearestHome_40 (by decide) (fun hc => ?_) (fun hc => ?_)
          · have hf := x_iteT hf hc
            refine lv_iload_n hx hb dX8_nearestHome_94 rfl (lv_at hl 2 rfl) ?_
            cases hf
            exact x_iret hx hb hr hlocks hK hW hS rfl dX8_nearestHome_95
          · have hf := x_iteF hf hc
            refine lv_aload_n hx hb dX8_nearestHome_43 rfl (lv_at hl 0 rfl) ?_
            refine x_get (i := (g.1 + 189)) (k := 8) (j := 0) (t := 1) hx hb hts i_8 hown hK hW ⟨⟨hfl, rfl⟩, by decide⟩ rfl ⟨by decide, by decide, rfl⟩ (hts (.fieldLink RX8 7 "OpticalJukeboxModel" "now" "[I") (by decide +kernel)) (v := .ref (adr (g.1 + 189) 30 0)) rfl dX8_nearestHome_44 ?_
            refine lv_iload_n hx hb dX8_nearestHome_47 rfl (lv_at hl 3 rfl) ?_
            obtain ⟨q3, h_q3, hf⟩ := x_bindE hf
            refine x_ci0 (x_rS ⟨hx, hb, hml, hown, hts⟩ (ct_X8_homeAt l g hfl w md1 mn mw 30 isRow_30 (v3_33) h_q3) (va_cwS 2 hts gX8_nearestHome_X8_homeAt rfl rfl rfl (by decide +kernel) ⟨Nat.le_of_ble_eq_true rfl, Nat.le_of_ble_eq_true rfl⟩) hK hW hS rfl hl.1 (rest := []) rfl (Nat.le_of_ble_eq_true rfl) dX8_nearestHome_48 ⟨Nat.le_of_ble_eq_true rfl, Nat.le_of_ble_eq_true rfl⟩) hS (fun H locs hW hS => ?_)
            have hW : World g (wM w md1 mn mw) H := hW
            refine W.eq (g2 := F0 m 51 ls [.int q3]) rfl ?_
            refine lv_istore (lv' := [(4, .int q3), (0, .ref (adr (g.1 + 189) 8 0)), (1, .int a1), (2, .int v2_33), (3, .int v3_33)]) hx hb dX8_nearestHome_51 hl (by decide) rfl (fun ls hl => ?_)
            refine lv_iload hx hb dX8_nearestHome_53 (lv_at hl 0 rfl) ?_
            refine lv_iconst (v := -1) hx hb dX8_nearestHome_55 (by decide) ?_
            obtain ⟨K4, eK4, hf⟩ := x_letE hf
            have KK4 : ∀ (_u : Unit) (ls : Array Slot) (H : Heap) (locs : List Loc), lv_has ls 5 [(0, .ref (adr (g.1 + 189) 8 0)), (1, .int a1), (2, .int v2_33), (3, .int v3_33), (4, .int q3)] → World g (wM w md1 mn mw) H → va_S (gA g) s.heap H locs → K4 _u = some q → W p l e rm_X8_nearestHome s m [.ref (adr (g.1 + 189) 8 0), .int a1].toArray below meth c H locs 0 0 (MQ below (cQi g q.1 (wM w q.2 mn mw)) [.ref (adr (g.1 + 189) 8 0), .int a1].toArray s 0 0 (gA g)) (F0 m 68 ls []) := by
              intro _u ls H locs hl hW hS hf
              subst eK4
              refine lv_iload_n hx hb dX8_nearestHome_68 rfl (lv_at hl 2 rfl) ?_
              refine lv_iconst (v := -1) hx hb dX8_nearestHome_69 (by decide) ?_
              obtain ⟨K5, eK5, hf⟩ := x_letE hf
              have KK5 : ∀ (_u : Unit) (ls : Array Slot) (H : Heap) (locs : List Loc), lv_has ls 5 [(0, .ref (adr (g.1 + 189) 8 0)), (1, .int a1), (2, .int v2_33), (3, .int v3_33), (4, .int q3)] → World g (wM w md1 mn mw) H → va_S (gA g) s.heap H locs → K5 _u = some q → W p l e rm_X8_nearestHome s m [.ref (adr (g.1 + 189) 8 0), .int a1].toArray below meth c H locs 0 0 (MQ below (cQi g q.1 (wM w q.2 mn mw)) [.ref (adr (g.1 + 189) 8 0), .int a1].toArray s 0 0 (gA g)) (F0 m 86 ls []) := by
                intro _u ls H locs hl hW hS hf
                subst eK5
                refine lv_iload_n hx hb dX8_nearestHome_86 rfl (lv_at hl 3 rfl) ?_
                refine lv_istore_n (lv' := [(2, .int v3_33), (0, .ref (adr (g.1 + 189) 8 0)), (1, .int a1), (3, .int v3_33), (4, .int q3)]) hx hb dX8_nearestHome_87 rfl hl (by decide) rfl (fun ls hl => ?_)
                obtain ⟨x6, e_x6, hf⟩ := x_letE hf
                refine lv_iinc (v := x6) (lv' := [(3, .int x6), (2, .int v3_33), (0, .ref (adr (g.1 + 189) 8 0)), (1, .int a1), (4, .int q3)]) hx hb dX8_nearestHome_88 hl (k := 3) rfl (by rw [e_x6]; rfl) (by decide) rfl (fun ls hl => ?_)
                refine lv_goto (tgt := 33) hx hb dX8_nearestHome_91 (by decide) ?_
                exact ih (v3_33) (x6) ls _ _ (lv_sub hl [2, 3, 1, 0] rfl) hW hS hf
              clear eK5
              refine lv_icmp_eq (tgt := 86) hx hb dX8_nearestHome_70 (by decide) (fun hc => ?_) (fun hc => ?_)
              · have hf := x_iteT hf hc
                exact KK5 (()) ls _ _ hl hW hS hf
              · have hf := x_iteF hf hc
                refine lv_aload_n hx hb dX8_nearestHome_73 rfl (lv_at hl 0 rfl) ?_
                refine lv_iload_n hx hb dX8_nearestHome_74 rfl (lv_at hl 3 rfl) ?_
                obtain ⟨q7, h_q7, hf⟩ := x_bindE hf
                refine x_ci0 (x_rV ⟨hx, hb, hml, hown, hts⟩ (ct_X8_nearest l g hfl w md1 mn mw (v3_33) h_q7) (cwV 1 hts gX8_nearestHome_X8_nearest rfl rfl rfl (by decide +kernel) ⟨Nat.le_of_ble_eq_true rfl, Nat.le_of_ble_eq_true rfl⟩) hK hW hS (x_recv (i := (g.1 + 189)) (k := 8) (j := 0) hK hW ⟨⟨hfl, rfl⟩, by decide⟩ rfl (by decide)) rfl hl.1 (rest := []) rfl (Nat.le_of_ble_eq_true rfl) dX8_nearestHome_75 ⟨Nat.le_of_ble_eq_true rfl, Nat.le_of_ble_eq_true rfl⟩) hS (fun H locs hW hS => ?_)
                have hW : World g (wM w md1 mn mw) H := hW
                refine W.eq (g2 := F0 m 78 ls [.int q7]) rfl ?_
                refine lv_aload_n hx hb dX8_nearestHome_78 rfl (lv_at hl 0 rfl) ?_
                refine lv_iload_n hx hb dX8_nearestHome_79 rfl (lv_at hl 2 rfl) ?_
                obtain ⟨q8, h_q8, hf⟩ := x_bindE hf
                refine x_ci0 (x_rV ⟨hx, hb, hml, hown, hts⟩ (ct_X8_nearest l g hfl w md1 mn mw (v2_33) h_q8) (cwV 1 hts gX8_nearestHome_X8_nearest rfl rfl rfl (by decide +kernel) ⟨Nat.le_of_ble_eq_true rfl, Nat.le_of_ble_eq_true rfl⟩) hK hW hS (x_recv (i := (g.1 + 189)) (k := 8) (j := 0) hK hW ⟨⟨hfl, rfl⟩, by decide⟩ rfl (by decide)) rfl hl.1 (rest := [.int q7]) rfl (Nat.le_of_ble_eq_true rfl) dX8_nearestHome_80 ⟨Nat.le_of_ble_eq_true rfl, Nat.le_of_ble_eq_true rfl⟩) hS (fun H locs hW hS => ?_)
                have hW : World g (wM w md1 mn mw) H := hW
                refine W.eq (g2 := F0 m 83 ls [.int q8, .int q7]) rfl ?_
                refine lv_icmp_ge (tgt := 88) hx hb dX8_nearestHome_83 (by decide) (fun hc => ?_) (fun hc => ?_)
                · have hf := x_iteT hf hc
                  obtain ⟨x9, e_x9, hf⟩ := x_letE hf
                  refine lv_iinc (v := x9) (lv' := [(3, .int x9), (0, .ref (adr (g.1 + 189) 8 0)), (1, .int a1), (2, .int v2_33), (4, .int q3)]) hx hb dX8_nearestHome_88 hl (k := 3) rfl (by rw [e_x9]; rfl) (by decide) rfl (fun ls hl => ?_)
                  refine lv_goto (tgt := 33) hx hb dX8_nearestHome_91 (by decide) ?_
                  exact ih (v2_33) (x9) ls _ _ (lv_sub hl [1, 2, 3, 0] rfl) hW hS hf
                · have hf := x_iteF hf hc
                  exact KK5 (()) ls _ _ hl hW hS hf
            clear eK4
            refine lv_icmp_eq (tgt := 68) hx hb dX8_nearestHome_56 (by decide) (fun hc => ?_) (fun hc => ?_)
            · have hf := x_iteT hf hc
              exact KK4 (()) ls _ _ (lv_sub hl [1, 2, 3, 4, 0] rfl) hW hS hf
            · have hf := x_iteF hf hc
              refine lv_iload hx hb dX8_nearestHome_59 (lv_at hl 0 rfl) ?_
              refine lv_iload_n hx hb dX8_nearestHome_61 rfl (lv_at hl 2 rfl) ?_
              refine lv_icmp_eq (tgt := 68) hx hb dX8_nearestHome_62 (by decide) (fun hc => ?_) (fun hc => ?_)
              · have hf := x_iteT hf hc
                exact KK4 (()) ls _ _ (lv_sub hl [1, 2, 3, 4, 0] rfl) hW hS hf
              · have hf := x_iteF hf hc
                refine lv_goto (tgt := 88) hx hb dX8_nearestHome_65 (by decide) ?_
                obtain ⟨x10, e_x10, hf⟩ := x_letE hf
                refine lv_iinc (v := x10) (lv' := [(3, .int x10), (4, .int q3), (0, .ref (adr (g.1 + 189) 8 0)), (1, .int a1), (2, .int v2_33)]) hx hb dX8_nearestHome_88 hl (k := 4) rfl (by rw [e_x10]; rfl) (by decide) rfl (fun ls hl => ?_)
                refine lv_goto (tgt := 33) hx hb dX8_nearestHome_91 (by decide) ?_
                exact ih (v2_33) (x10) ls _ _ (lv_sub hl [2, 3, 4, 0] rfl) hW hS hf
      exact L33 fuel ((-1 : Int32)) ((0 : Int32)) ls _ _ (lv_sub hl [2, 3, 1, 0] rfl) hW hS hf
    · have hf := x_iteT hf hc
      refine lv_ldc (v := -1000007) hx hb hown (hts (.constant RX8 177 (-1000007)) (by decide +kernel)) dX8_nearestHome_26 ?_
      cases hf
      exact x_iret hx hb hr hlocks hK hW hS rfl dX8_nearestHome_28
  · have hf := x_iteT hf hc
    refine lv_ldc (v := -1000001) hx hb hown (hts (.constant RX8 186 (-1000001)) (by decide +kernel)) dX8_nearestHome_13 ?_
    cases hf
    exact x_iret hx hb hr hlocks hK hW hS rfl dX8_nearestHome_15
abbrev rm_X8_puts : Room := { frames := 0, cells := 0, slots := 0, locals := 0 }
set_option maxRecDepth 100000 in
set_option maxHeartbeats 4000000 in
theorem ct_X8_puts (l : Launch) (g : GT) (hfl : 2 ≤ gf g) (w : WT) (md : SD) (mn : Nat → Int64) (mw : Int64) (a1 : Int32) {q : SD} (hf : f_X8_puts md a1 = some q) : Met l yX8_puts wsX8_puts rm_X8_puts (cPre g (wM w md mn mw) [.ref (adr (g.1 + 189) 8 0), .int a1]) (cQv g (wM w q mn mw)) 0 0 (gA g) := by
  have i_8 : ∀ w ∈ u_ws RX8 TX8 27, w ∈ wsX8_puts := by decide +kernel
  refine x_met (by decide) rfl (Nat.le_of_ble_eq_true rfl) ?_
  intro p e s m below meth c hx hb hr hml hts hown hlocks hK hW hS ls hl
  have hown : s.vm.findClass RX8 = some m.cls := hown
  have hl : lv_has ls 2 [(0, .ref (adr (g.1 + 189) 8 0)), (1, .int a1)] := hl
  rw [f_X8_puts] at hf
  refine lv_aload_n hx hb dX8_puts_0 rfl (lv_at hl 0 rfl) ?_
  refine x_get (i := (g.1 + 189)) (k := 8) (j := 0) (t := 11) hx hb hts i_8 hown hK hW ⟨⟨hfl, rfl⟩, by decide⟩ rfl ⟨by decide, by decide, rfl⟩ (hts (.fieldLink RX8 31 "OpticalJukeboxModel" "out" "[B") (by decide +kernel)) (v := .ref (adr (g.1 + 189) 37 0)) rfl dX8_puts_1 ?_
  refine lv_aload_n hx hb dX8_puts_4 rfl (lv_at hl 0 rfl) ?_
  refine x_get (i := (g.1 + 189)) (k := 8) (j := 0) (t := 12) hx hb hts i_8 hown hK hW ⟨⟨hfl, rfl⟩, by decide⟩ rfl ⟨by decide, by decide, rfl⟩ (hts (.fieldLink RX8 285 "OpticalJukeboxModel" "outs" "I") (by decide +kernel)) (rfl) dX8_puts_5 ?_
  refine lv_iload_n hx hb dX8_puts_8 rfl (lv_at hl 1 rfl) ?_
  refine lv_i2b hx hb dX8_puts_9 rfl ?_
  obtain ⟨hg1, hf⟩ := x_guardE hf
  obtain ⟨md2, e_md2, hf⟩ := x_letE hf
  refine x_bast (i := (g.1 + 189)) (k := 37) (j := 0) (w' := wM w md2 mn mw) hx hb hK hW ⟨⟨hfl, rfl⟩, by decide⟩ hS (by decide) rfl rfl rfl hg1 dX8_puts_10 (fp_M e_md2 rfl) (fun H locs hW hS => ?_)
  refine lv_aload_n hx hb dX8_puts_11 rfl (lv_at hl 0 rfl) ?_
  refine lv_dup hx hb dX8_puts_12 rfl ?_
  refine x_get (i := (g.1 + 189)) (k := 8) (j := 0) (t := 12) hx hb hts i_8 hown hK hW ⟨⟨hfl, rfl⟩, by decide⟩ rfl ⟨by decide, by decide, rfl⟩ (hts (.fieldLink RX8 285 "OpticalJukeboxModel" "outs" "I") (by decide +kernel)) (rfl) dX8_puts_13 ?_
  refine lv_iconst (v := 1) hx hb dX8_puts_16 (by decide) ?_
  refine lv_iadd hx hb dX8_puts_17 ?_
  obtain ⟨md3, e_md3, hf⟩ := x_letE hf
  refine x_put (i := (g.1 + 189)) (k := 8) (j := 0) (t := 12) (w' := wM w md3 mn mw) hx hb hts i_8 tyX8 tyX8_ok nmX8 hown hK hW ⟨⟨hfl, rfl⟩, by decide⟩ hS rfl ⟨by decide, by decide, rfl⟩ (hts (.fieldLink RX8 285 "OpticalJukeboxModel" "outs" "I") (by decide +kernel)) rfl (ty := .int) (by decide +kernel) rfl rfl ⟨rfl, rfl⟩ dX8_puts_18 (fp_M e_md3 rfl) (fun H locs hW hS => ?_)
  cases hf
  exact x_vret hx hb hr hlocks hK hW hS dX8_puts_21
abbrev rm_X8_digits : Room := { frames := 1, cells := 0, slots := 0, locals := 21 }
set_option maxRecDepth 100000 in
set_option maxHeartbeats 4000000 in
theorem ct_X8_digits (l : Launch) (g : GT) (hfl : 2 ≤ gf g) (w : WT) (md : SD) (mn : Nat → Int64) (mw : Int64) (a1 : Int32) {q : SD} (hf : f_X8_digits md a1 = some q) : Met l yX8_digits wsX8_digits rm_X8_digits (cPre g (wM w md mn mw) [.ref (adr (g.1 + 189) 8 0), .int a1]) (cQv g (wM w q mn mw)) 0 0 (gA g) := by
  refine x_met (by decide) rfl (Nat.le_of_ble_eq_true rfl) ?_
  intro p e s m below meth c hx hb hr hml hts hown hlocks hK hW hS ls hl
  have hown : s.vm.findClass RX8 = some m.cls := hown
  have hl : lv_has ls 4 [(0, .ref (adr (g.1 + 189) 8 0)), (1, .int a1)] := hl
  rw [f_X8_digits] at hf
  refine lv_iconst (v := 1) hx hb dX8_digits_0 (by decide) ?_
  refine lv_istore_n (lv' := [(2, .int (1 : Int32)), (0, .ref (adr (g.1 + 189) 8 0)), (1, .int a1)]) hx hb dX8_digits_1 rfl hl (by decide) rfl (fun ls hl => ?_)
  have L2 : ∀ (n : Nat) (v2_2 : Int32) (ls : Array Slot) (H : Heap) (locs : List Loc), lv_has ls 4 [(0, .ref (adr (g.1 + 189) 8 0)), (1, .int a1), (2, .int v2_2)] → World g (wM w md mn mw) H → va_S (gA g) s.heap H locs → f_X8_digits_L2 a1 md n v2_2 = some q → W p l e rm_X8_digits s m [.ref (adr (g.1 + 189) 8 0), .int a1].toArray below meth c H locs 0 0 (MQ below (cQv g (wM w q mn mw)) [.ref (adr (g.1 + 189) 8 0), .int a1].toArray s 0 0 (gA g)) (F0 m 2 ls []) := by
    clear hW hS hl
    intro n
    induction n with
    | zero => intro v2_2 ls H locs hl hW hS hf; cases hf
    | succ n_2 ih =>
      intro v2_2 ls H locs hl hW hS hf
      rw [f_X8_digits_L2] at hf
      refine lv_iload_n hx hb dX8_digits_2 rfl (lv_at hl 1 rfl) ?_
      refine lv_iload_n hx hb dX8_digits_3 rfl (lv_at hl 2 rfl) ?_
      obtain ⟨hg1, hf⟩ := x_guardE hf
      refine lv_idiv hx hb dX8_digits_4 hg1 ?_
      refine lv_bipush (v := 9) hx hb dX8_digits_5 (by decide) ?_
      refine lv_icmp_le (tgt := 18) hx hb dX8_digits_7 (by decide) (fun hc => ?_) (fun hc => ?_)
      · have hf := x_iteT hf hc
        refine lv_iload_n hx hb dX8_digits_18 rfl (lv_at hl 2 rfl) ?_
        refine lv_istore_n (lv' := [(3, .int v2_2), (0, .ref (adr (g.1 + 189) 8 0)), (1, .int a1), (2, .int v2_2)]) hx hb dX8_digits_19 rfl hl (by decide) rfl (fun ls hl => ?_)
        have L20 : ∀ (n : Nat) (v3_20 : Int32) (md_20 : SD) (ls : Array Slot) (H : Heap) (locs : List Loc), lv_has ls 4 [(0, .ref (adr (g.1 + 189) 8 0)), (1, .int a1), (2, .int v2_2), (3, .int v3_20)] → World g (wM w md_20 mn mw) H → va_S (gA g) s.heap H locs → f_X8_digits_L20 a1 n v3_20 md_20 = some q → W p l e rm_X8_digits s m [.ref (adr (g.1 + 189) 8 0), .int a1].toArray below meth c H locs 0 0 (MQ below (cQv g (wM w q mn mw)) [.ref (adr (g.1 + 189) 8 0), .int a1].toArray s 0 0 (gA g)) (F0 m 20 ls []) := by
          clear hW hS hl
          intro n
          induction n with
          | zero => intro v3_20 md_20 ls H locs hl hW hS hf; cases hf
          | succ n_20 ih =>
            intro v3_20 md_20 ls H locs hl hW hS hf
            rw [f_X8_digits_L20] at hf
            refine lv_iload_n hx hb dX8_digits_20 rfl (lv_at hl 3 rfl) ?_
            refine lv_if_le (tgt := 45) hx hb dX8_digits_21 (by decide) (fun hc => ?_) (fun hc => ?_)
            · have hf := x_iteT hf hc
              cases hf
              exact x_vret hx hb hr hlocks hK hW hS dX8_digits_45
            · have hf := x_iteF hf hc
              refine lv_aload_n hx hb dX8_digits_24 rfl (lv_at hl 0 rfl) ?_
              refine lv_bipush (v := 48) hx hb dX8_digits_25 (by decide) ?_
              refine lv_iload_n hx hb dX8_digits_27 rfl (lv_at hl 1 rfl) ?_
              refine lv_iload_n hx hb dX8_digits_28 rfl (lv_at hl 3 rfl) ?_
              obtain ⟨hg2, hf⟩ := x_guardE hf
              refine lv_idiv hx hb dX8_digits_29 hg2 ?_
              refine lv_bipush (v := 10) hx hb dX8_digits_30 (by decide) ?_
              refine lv_irem hx hb dX8_digits_32 (by decide) ?_
              refine lv_iadd hx hb dX8_digits_33 ?_
              obtain ⟨q3, h_q3, hf⟩ := x_bindE hf
              refine x_cv0 (x_rV ⟨hx, hb, hml, hown, hts⟩ (ct_X8_puts l g hfl w md_20 mn mw (((48 : Int32) + ((a1 / v3_20) - (a1 / v3_20) / (10 : Int32) * (10 : Int32)))) h_q3) (cwV 1 hts gX8_digits_X8_puts rfl rfl rfl (by decide +kernel) ⟨Nat.le_of_ble_eq_true rfl, Nat.le_of_ble_eq_true rfl⟩) hK hW hS (x_recv (i := (g.1 + 189)) (k := 8) (j := 0) hK hW ⟨⟨hfl, rfl⟩, by decide⟩ rfl (by decide)) rfl hl.1 (rest := []) rfl (Nat.le_of_ble_eq_true rfl) dX8_digits_34 ⟨Nat.le_of_ble_eq_true rfl, Nat.le_of_ble_eq_true rfl⟩) hS (fun H locs hW hS => ?_)
              have hW : World g (wM w q3 mn mw) H := hW
              refine lv_iload_n hx hb dX8_digits_37 rfl (lv_at hl 3 rfl) ?_
              refine lv_bipush (v := 10) hx hb dX8_digits_38 (by decide) ?_
              refine lv_idiv hx hb dX8_digits_40 (by decide) ?_
              obtain ⟨x4, e_x4, hf⟩ := x_letE hf
              refine x_topi e_x4 ?_
              refine lv_istore_n (lv' := [(3, .int x4), (0, .ref (adr (g.1 + 189) 8 0)), (1, .int a1), (2, .int v2_2)]) hx hb dX8_digits_41 rfl hl (by decide) rfl (fun ls hl => ?_)
              refine lv_goto (tgt := 20) hx hb dX8_digits_42 (by decide) ?_
              exact ih (x4) (q3) ls _ _ (lv_sub hl [1, 2, 3, 0] rfl) hW hS hf
        exact L20 fuel (v2_2) (md) ls _ _ (lv_sub hl [1, 2, 3, 0] rfl) hW hS hf
      · have hf := x_iteF hf hc
        refine lv_iload_n hx hb dX8_digits_10 rfl (lv_at hl 2 rfl) ?_
        refine lv_bipush (v := 10) hx hb dX8_digits_11 (by decide) ?_
        refine lv_imul hx hb dX8_digits_13 ?_
        obtain ⟨x5, e_x5, hf⟩ := x_letE hf
        refine x_topi e_x5 ?_
        refine lv_istore_n (lv' := [(2, .int x5), (0, .ref (adr (g.1 + 189) 8 0)), (1, .int a1)]) hx hb dX8_digits_14 rfl hl (by decide) rfl (fun ls hl => ?_)
        refine lv_goto (tgt := 2) hx hb dX8_digits_15 (by decide) ?_
        exact ih (x5) ls _ _ (lv_sub hl [1, 2, 0] rfl) hW hS hf
  exact L2 fuel ((1 : Int32)) ls _ _ (lv_sub hl [1, 2, 0] rfl) hW hS hf
abbrev rm_X8_writeCatalogue : Room := { frames := 3, cells := 0, slots := 0, locals := 64 }
set_option maxRecDepth 100000 in
set_option maxHeartbeats 4000000 in
theorem ct_X8_writeCatalogue (l : Launch) (g : GT) (hfl : 2 ≤ gf g) (w : WT) (md : SD) (mn : Nat → Int64) (mw : Int64) {q : (Int32 × SD)} (hf : f_X8_writeCatalogue md  = some q) : Met l yX8_writeCatalogue wsX8_writeCatalogue rm_X8_writeCatalogue (cPre g (wM w md mn mw) [.ref (adr (g.1 + 189) 8 0)]) (cQi g q.1 (wM w q.2 mn mw)) 0 0 (gA g) := by
  have i_8 : ∀ w ∈ u_ws RX8 TX8 27, w ∈ wsX8_writeCatalogue := by decide +kernel
  refine x_met (by decide) rfl (Nat.le_of_ble_eq_true rfl) ?_
  intro p e s m below meth c hx hb hr hml hts hown hlocks hK hW hS ls hl
  have hown : s.vm.findClass RX8 = some m.cls := hown
  have hl : lv_has ls 2 [(0, .ref (adr (g.1 + 189) 8 0))] := hl
  rw [f_X8_writeCatalogue] at hf
  refine lv_aload_n hx hb dX8_writeCatalogue_0 rfl (lv_at hl 0 rfl) ?_
  refine lv_iconst (v := 0) hx hb dX8_writeCatalogue_1 (by decide) ?_
  obtain ⟨md1, e_md1, hf⟩ := x_letE hf
  refine x_put (i := (g.1 + 189)) (k := 8) (j := 0) (t := 0) (w' := wM w md1 mn mw) hx hb hts i_8 tyX8 tyX8_ok nmX8 hown hK hW ⟨⟨hfl, rfl⟩, by decide⟩ hS rfl ⟨by decide, by decide, rfl⟩ (hts (.fieldLink RX8 51 "OpticalJukeboxModel" "thrown" "I") (by decide +kernel)) rfl (ty := .int) (by decide +kernel) rfl rfl ⟨rfl, rfl⟩ dX8_writeCatalogue_2 (fp_M e_md1 rfl) (fun H locs hW hS => ?_)
  refine lv_aload_n hx hb dX8_writeCatalogue_5 rfl (lv_at hl 0 rfl) ?_
  refine lv_iconst (v := 0) hx hb dX8_writeCatalogue_6 (by decide) ?_
  obtain ⟨md2, e_md2, hf⟩ := x_letE hf
  refine x_put (i := (g.1 + 189)) (k := 8) (j := 0) (t := 12) (w' := wM w md2 mn mw) hx hb hts i_8 tyX8 tyX8_ok nmX8 hown hK hW ⟨⟨hfl, rfl⟩, by decide⟩ hS rfl ⟨by decide, by decide, rfl⟩ (hts (.fieldLink RX8 285 "OpticalJukeboxModel" "outs" "I") (by decide +kernel)) rfl (ty := .int) (by decide +kernel) rfl rfl ⟨rfl, rfl⟩ dX8_writeCatalogue_7 (fp_M e_md2 rfl) (fun H locs hW hS => ?_)
  refine lv_iconst (v := 0) hx hb dX8_writeCatalogue_10 (by decide) ?_
  refine lv_istore_n (lv' := [(1, .int (0 : Int32)), (0, .ref (adr (g.1 + 189) 8 0))]) hx hb dX8_writeCatalogue_11 rfl hl (by decide) rfl (fun ls hl => ?_)
  have L12 : ∀ (n : Nat) (v1_12 : Int32) (md_12 : SD) (ls : Array Slot) (H : Heap) (locs : List Loc), lv_has ls 2 [(0, .ref (adr (g.1 + 189) 8 0)), (1, .int v1_12)] → World g (wM w md_12 mn mw) H → va_S (gA g) s.heap H locs → f_X8_writeCatalogue_L12  n v1_12 md_12 = some q → W p l e rm_X8_writeCatalogue s m [.ref (adr (g.1 + 189) 8 0)].toArray below meth c H locs 0 0 (MQ below (cQi g q.1 (wM w q.2 mn mw)) [.ref (adr (g.1 + 189) 8 0)].toArray s 0 0 (gA g)) (F0 m 12 ls []) := by
    clear hW hS hl
    intro n
    induction n with
    | zero => intro v1_12 md_12 ls H locs hl hW hS hf; cases hf
    | succ n_12 ih =>
      intro v1_12 md_12 ls H locs hl hW hS hf
      rw [f_X8_writeCatalogue_L12] at hf
      refine lv_iload_n hx hb dX8_writeCatalogue_12 rfl (lv_at hl 1 rfl) ?_
      refine lv_aload_n hx hb dX8_writeCatalogue_13 rfl (lv_at hl 0 rfl) ?_
      refine x_get (i := (g.1 + 189)) (k := 8) (j := 0) (t := 1) hx hb hts i_8 hown hK hW ⟨⟨hfl, rfl⟩, by decide⟩ rfl ⟨by decide, by decide, rfl⟩ (hts (.fieldLink RX8 7 "OpticalJukeboxModel" "now" "[I") (by decide +kernel)) (v := .ref (adr (g.1 + 189) 30 0)) rfl dX8_writeCatalogue_14 ?_
      refine lv_bipush (v := 9) hx hb dX8_writeCatalogue_17 (by decide) ?_
      refine x_iald (i := (g.1 + 189)) (k := 30) (j := 0) (f := md_12 30 0) hx hb hK hW ⟨⟨hfl, rfl⟩, by decide⟩ (by decide) (rfl) rfl (by unfold vp_in; decide) dX8_writeCatalogue_19 ?_
      refine W.eq (g2 := F0 m 20 ls [.int (md_12 30 0 9), .int v1_12]) rfl ?_
      refine lv_icmp_ge (tgt := 117) hx hb dX8_writeCatalogue_20 (by decide) (fun hc => ?_) (fun hc => ?_)
      · have hf := x_iteT hf hc
        refine lv_aload_n hx hb dX8_writeCatalogue_117 rfl (lv_at hl 0 rfl) ?_
        refine x_get (i := (g.1 + 189)) (k := 8) (j := 0) (t := 12) hx hb hts i_8 hown hK hW ⟨⟨hfl, rfl⟩, by decide⟩ rfl ⟨by decide, by decide, rfl⟩ (hts (.fieldLink RX8 285 "OpticalJukeboxModel" "outs" "I") (by decide +kernel)) (rfl) dX8_writeCatalogue_118 ?_
        cases hf
        exact x_iret hx hb hr hlocks hK hW hS rfl dX8_writeCatalogue_121
      · have hf := x_iteF hf hc
        refine lv_aload_n hx hb dX8_writeCatalogue_23 rfl (lv_at hl 0 rfl) ?_
        refine lv_iload_n hx hb dX8_writeCatalogue_24 rfl (lv_at hl 1 rfl) ?_
        obtain ⟨q3, h_q3, hf⟩ := x_bindE hf
        refine x_cv0 (x_rV ⟨hx, hb, hml, hown, hts⟩ (ct_X8_digits l g hfl w md_12 mn mw (v1_12) h_q3) (cwV 1 hts gX8_writeCatalogue_X8_digits rfl rfl rfl (by decide +kernel) ⟨Nat.le_of_ble_eq_true rfl, Nat.le_of_ble_eq_true rfl⟩) hK hW hS (x_recv (i := (g.1 + 189)) (k := 8) (j := 0) hK hW ⟨⟨hfl, rfl⟩, by decide⟩ rfl (by decide)) rfl hl.1 (rest := []) rfl (Nat.le_of_ble_eq_true rfl) dX8_writeCatalogue_25 ⟨Nat.le_of_ble_eq_true rfl, Nat.le_of_ble_eq_true rfl⟩) hS (fun H locs hW hS => ?_)
        have hW : World g (wM w q3 mn mw) H := hW
        refine lv_aload_n hx hb dX8_writeCatalogue_28 rfl (lv_at hl 0 rfl) ?_
        refine lv_bipush (v := 58) hx hb dX8_writeCatalogue_29 (by decide) ?_
        obtain ⟨q4, h_q4, hf⟩ := x_bindE hf
        refine x_cv0 (x_rV ⟨hx, hb, hml, hown, hts⟩ (ct_X8_puts l g hfl w q3 mn mw ((58 : Int32)) h_q4) (cwV 1 hts gX8_writeCatalogue_X8_puts rfl rfl rfl (by decide +kernel) ⟨Nat.le_of_ble_eq_true rfl, Nat.le_of_ble_eq_true rfl⟩) hK hW hS (x_recv (i := (g.1 + 189)) (k := 8) (j := 0) hK hW ⟨⟨hfl, rfl⟩, by decide⟩ rfl (by decide)) rfl hl.1 (rest := []) rfl (Nat.le_of_ble_eq_true rfl) dX8_writeCatalogue_31 ⟨Nat.le_of_ble_eq_true rfl, Nat.le_of_ble_eq_true rfl⟩) hS (fun H locs hW hS => ?_)
        have hW : World g (wM w q4 mn mw) H := hW
        refine lv_aload_n hx hb dX8_writeCatalogue_34 rfl (lv_at hl 0 rfl) ?_
        refine lv_aload_n hx hb dX8_writeCatalogue_35 rfl (lv_at hl 0 rfl) ?_
        refine lv_iload_n hx hb dX8_writeCatalogue_36 rfl (lv_at hl 1 rfl) ?_
        obtain ⟨q5, h_q5, hf⟩ := x_bindE hf
        refine x_ci0 (x_rV ⟨hx, hb, hml, hown, hts⟩ (ct_X8_platterOf l g hfl w q4 mn mw (v1_12) h_q5) (cwV 1 hts gX8_writeCatalogue_X8_platterOf rfl rfl rfl (by decide +kernel) ⟨Nat.le_of_ble_eq_true rfl, Nat.le_of_ble_eq_true rfl⟩) hK hW hS (x_recv (i := (g.1 + 189)) (k := 8) (j := 0) hK hW ⟨⟨hfl, rfl⟩, by decide⟩ rfl (by decide)) rfl hl.1 (rest := [.ref (adr (g.1 + 189) 8 0)]) rfl (Nat.le_of_ble_eq_true rfl) dX8_writeCatalogue_37 ⟨Nat.le_of_ble_eq_true rfl, Nat.le_of_ble_eq_true rfl⟩) hS (fun H locs hW hS => ?_)
        have hW : World g (wM w q4 mn mw) H := hW
        refine W.eq (g2 := F0 m 40 ls [.int q5, .ref (adr (g.1 + 189) 8 0)]) rfl ?_
        obtain ⟨q6, h_q6, hf⟩ := x_bindE hf
        refine x_cv0 (x_rV ⟨hx, hb, hml, hown, hts⟩ (ct_X8_digits l g hfl w q4 mn mw (q5) h_q6) (cwV 1 hts gX8_writeCatalogue_X8_digits rfl rfl rfl (by decide +kernel) ⟨Nat.le_of_ble_eq_true rfl, Nat.le_of_ble_eq_true rfl⟩) hK hW hS (x_recv (i := (g.1 + 189)) (k := 8) (j := 0) hK hW ⟨⟨hfl, rfl⟩, by decide⟩ rfl (by decide)) rfl hl.1 (rest := []) rfl (Nat.le_of_ble_eq_true rfl) dX8_writeCatalogue_40 ⟨Nat.le_of_ble_eq_true rfl, Nat.le_of_ble_eq_true rfl⟩) hS (fun H locs hW hS => ?_)
        have hW : World g (wM w q6 mn mw) H := hW
        refine lv_aload_n hx hb dX8_writeCatalogue_43 rfl (lv_at hl 0 rfl) ?_
        refine lv_bipush (v := 44) hx hb dX8_writeCatalogue_44 (by decide) ?_
        obtain ⟨q7, h_q7, hf⟩ := x_bindE hf
        refine x_cv0 (x_rV ⟨hx, hb, hml, hown, hts⟩ (ct_X8_puts l g hfl w q6 mn mw ((44 : Int32)) h_q7) (cwV 1 hts gX8_writeCatalogue_X8_puts rfl rfl rfl (by decide +kernel) ⟨Nat.le_of_ble_eq_true rfl, Nat.le_of_ble_eq_true rfl⟩) hK hW hS (x_recv (i := (g.1 + 189)) (k := 8) (j := 0) hK hW ⟨⟨hfl, rfl⟩, by decide⟩ rfl (by decide)) rfl hl.1 (rest := []) rfl (Nat.le_of_ble_eq_true rfl) dX8_writeCatalogue_46 ⟨Nat.le_of_ble_eq_true rfl, Nat.le_of_ble_eq_true rfl⟩) hS (fun H locs hW hS => ?_)
        have hW : World g (wM w q7 mn mw) H := hW
        refine lv_aload_n hx hb dX8_writeCatalogue_49 rfl (lv_at hl 0 rfl) ?_
        refine lv_aload_n hx hb dX8_writeCatalogue_50 rfl (lv_at hl 0 rfl) ?_
        refine x_get (i := (g.1 + 189)) (k := 8) (j := 0) (t := 1) hx hb hts i_8 hown hK hW ⟨⟨hfl, rfl⟩, by decide⟩ rfl ⟨by decide, by decide, rfl⟩ (hts (.fieldLink RX8 7 "OpticalJukeboxModel" "now" "[I") (by decide +kernel)) (v := .ref (adr (g.1 + 189) 30 0)) rfl dX8_writeCatalogue_51 ?_
        refine lv_sipush (v := 389) hx hb dX8_writeCatalogue_54 (by decide) ?_
        refine lv_aload_n hx hb dX8_writeCatalogue_57 rfl (lv_at hl 0 rfl) ?_
        refine lv_iload_n hx hb dX8_writeCatalogue_58 rfl (lv_at hl 1 rfl) ?_
        obtain ⟨q8, h_q8, hf⟩ := x_bindE hf
        refine x_ci0 (x_rV ⟨hx, hb, hml, hown, hts⟩ (ct_X8_version l g hfl w q7 mn mw (v1_12) h_q8) (cwV 1 hts gX8_writeCatalogue_X8_version rfl rfl rfl (by decide +kernel) ⟨Nat.le_of_ble_eq_true rfl, Nat.le_of_ble_eq_true rfl⟩) hK hW hS (x_recv (i := (g.1 + 189)) (k := 8) (j := 0) hK hW ⟨⟨hfl, rfl⟩, by decide⟩ rfl (by decide)) rfl hl.1 (rest := [.int (389 : Int32), .ref (adr (g.1 + 189) 30 0), .ref (adr (g.1 + 189) 8 0)]) rfl (Nat.le_of_ble_eq_true rfl) dX8_writeCatalogue_59 ⟨Nat.le_of_ble_eq_true rfl, Nat.le_of_ble_eq_true rfl⟩) hS (fun H locs hW hS => ?_)
        have hW : World g (wM w q7 mn mw) H := hW
        refine W.eq (g2 := F0 m 62 ls [.int q8, .int (389 : Int32), .ref (adr (g.1 + 189) 30 0), .ref (adr (g.1 + 189) 8 0)]) rfl ?_
        refine lv_iadd hx hb dX8_writeCatalogue_62 ?_
        obtain ⟨hg9, hf⟩ := x_guardE hf
        refine x_iald (i := (g.1 + 189)) (k := 30) (j := 0) (f := q7 30 0) hx hb hK hW ⟨⟨hfl, rfl⟩, by decide⟩ (by decide) (rfl) rfl hg9 dX8_writeCatalogue_63 ?_
        obtain ⟨q10, h_q10, hf⟩ := x_bindE hf
        refine x_cv0 (x_rV ⟨hx, hb, hml, hown, hts⟩ (ct_X8_digits l g hfl w q7 mn mw ((q7 30 0 (((389 : Int32) + q8)).toNatClampNeg)) h_q10) (cwV 1 hts gX8_writeCatalogue_X8_digits rfl rfl rfl (by decide +kernel) ⟨Nat.le_of_ble_eq_true rfl, Nat.le_of_ble_eq_true rfl⟩) hK hW hS (x_recv (i := (g.1 + 189)) (k := 8) (j := 0) hK hW ⟨⟨hfl, rfl⟩, by decide⟩ rfl (by decide)) rfl hl.1 (rest := []) rfl (Nat.le_of_ble_eq_true rfl) dX8_writeCatalogue_64 ⟨Nat.le_of_ble_eq_true rfl, Nat.le_of_ble_eq_true rfl⟩) hS (fun H locs hW hS => ?_)
        have hW : World g (wM w q10 mn mw) H := hW
        refine lv_aload_n hx hb dX8_writeCatalogue_67 rfl (lv_at hl 0 rfl) ?_
        refine lv_bipush (v := 44) hx hb dX8_writeCatalogue_68 (by decide) ?_
        obtain ⟨q11, h_q11, hf⟩ := x_bindE hf
        refine x_cv0 (x_rV ⟨hx, hb, hml, hown, hts⟩ (ct_X8_puts l g hfl w q10 mn mw ((44 : Int32)) h_q11) (cwV 1 hts gX8_writeCatalogue_X8_puts rfl rfl rfl (by decide +kernel) ⟨Nat.le_of_ble_eq_true rfl, Nat.le_of_ble_eq_true rfl⟩) hK hW hS (x_recv (i := (g.1 + 189)) (k := 8) (j := 0) hK hW ⟨⟨hfl, rfl⟩, by decide⟩ rfl (by decide)) rfl hl.1 (rest := []) rfl (Nat.le_of_ble_eq_true rfl) dX8_writeCatalogue_70 ⟨Nat.le_of_ble_eq_true rfl, Nat.le_of_ble_eq_true rfl⟩) hS (fun H locs hW hS => ?_)
        have hW : World g (wM w q11 mn mw) H := hW
        refine lv_aload_n hx hb dX8_writeCatalogue_73 rfl (lv_at hl 0 rfl) ?_
        refine lv_aload_n hx hb dX8_writeCatalogue_74 rfl (lv_at hl 0 rfl) ?_
        refine x_get (i := (g.1 + 189)) (k := 8) (j := 0) (t := 1) hx hb hts i_8 hown hK hW ⟨⟨hfl, rfl⟩, by decide⟩ rfl ⟨by decide, by decide, rfl⟩ (hts (.fieldLink RX8 7 "OpticalJukeboxModel" "now" "[I") (by decide +kernel)) (v := .ref (adr (g.1 + 189) 30 0)) rfl dX8_writeCatalogue_75 ?_
        refine lv_sipush (v := 429) hx hb dX8_writeCatalogue_78 (by decide) ?_
        refine lv_aload_n hx hb dX8_writeCatalogue_81 rfl (lv_at hl 0 rfl) ?_
        refine lv_iload_n hx hb dX8_writeCatalogue_82 rfl (lv_at hl 1 rfl) ?_
        obtain ⟨q12, h_q12, hf⟩ := x_bindE hf
        refine x_ci0 (x_rV ⟨hx, hb, hml, hown, hts⟩ (ct_X8_version l g hfl w q11 mn mw (v1_12) h_q12) (cwV 1 hts gX8_writeCatalogue_X8_version rfl rfl rfl (by decide +kernel) ⟨Nat.le_of_ble_eq_true rfl, Nat.le_of_ble_eq_true rfl⟩) hK hW hS (x_recv (i := (g.1 + 189)) (k := 8) (j := 0) hK hW ⟨⟨hfl, rfl⟩, by decide⟩ rfl (by decide)) rfl hl.1 (rest := [.int (429 : Int32), .ref (adr (g.1 + 189) 30 0), .ref (adr (g.1 + 189) 8 0)]) rfl (Nat.le_of_ble_eq_true rfl) dX8_writeCatalogue_83 ⟨Nat.le_of_ble_eq_true rfl, Nat.le_of_ble_eq_true rfl⟩) hS (fun H locs hW hS => ?_)
        have hW : World g (wM w q11 mn mw) H := hW
        refine W.eq (g2 := F0 m 86 ls [.int q12, .int (429 : Int32), .ref (adr (g.1 + 189) 30 0), .ref (adr (g.1 + 189) 8 0)]) rfl ?_
        refine lv_iadd hx hb dX8_writeCatalogue_86 ?_
        obtain ⟨hg13, hf⟩ := x_guardE hf
        refine x_iald (i := (g.1 + 189)) (k := 30) (j := 0) (f := q11 30 0) hx hb hK hW ⟨⟨hfl, rfl⟩, by decide⟩ (by decide) (rfl) rfl hg13 dX8_writeCatalogue_87 ?_
        obtain ⟨q14, h_q14, hf⟩ := x_bindE hf
        refine x_cv0 (x_rV ⟨hx, hb, hml, hown, hts⟩ (ct_X8_digits l g hfl w q11 mn mw ((q11 30 0 (((429 : Int32) + q12)).toNatClampNeg)) h_q14) (cwV 1 hts gX8_writeCatalogue_X8_digits rfl rfl rfl (by decide +kernel) ⟨Nat.le_of_ble_eq_true rfl, Nat.le_of_ble_eq_true rfl⟩) hK hW hS (x_recv (i := (g.1 + 189)) (k := 8) (j := 0) hK hW ⟨⟨hfl, rfl⟩, by decide⟩ rfl (by decide)) rfl hl.1 (rest := []) rfl (Nat.le_of_ble_eq_true rfl) dX8_writeCatalogue_88 ⟨Nat.le_of_ble_eq_true rfl, Nat.le_of_ble_eq_true rfl⟩) hS (fun H locs hW hS => ?_)
        have hW : World g (wM w q14 mn mw) H := hW
        refine lv_aload_n hx hb dX8_writeCatalogue_91 rfl (lv_at hl 0 rfl) ?_
        refine lv_iload_n hx hb dX8_writeCatalogue_92 rfl (lv_at hl 1 rfl) ?_
        obtain ⟨q15, h_q15, hf⟩ := x_bindE hf
        refine x_ci0 (x_rV ⟨hx, hb, hml, hown, hts⟩ (ct_X8_isReadable l g hfl w q14 mn mw (v1_12) h_q15) (cwV 1 hts gX8_writeCatalogue_X8_isReadable rfl rfl rfl (by decide +kernel) ⟨Nat.le_of_ble_eq_true rfl, Nat.le_of_ble_eq_true rfl⟩) hK hW hS (x_recv (i := (g.1 + 189)) (k := 8) (j := 0) hK hW ⟨⟨hfl, rfl⟩, by decide⟩ rfl (by decide)) rfl hl.1 (rest := []) rfl (Nat.le_of_ble_eq_true rfl) dX8_writeCatalogue_93 ⟨Nat.le_of_ble_eq_true rfl, Nat.le_of_ble_eq_true rfl⟩) hS (fun H locs hW hS => ?_)
        have hW : World g (wM w q14 mn mw) H := hW
        refine W.eq (g2 := F0 m 96 ls [.int q15]) rfl ?_
        obtain ⟨K16, eK16, hf⟩ := x_letE hf
        have KK16 : ∀ (md17 : SD) (ls : Array Slot) (H : Heap) (locs : List Loc), lv_has ls 2 [(0, .ref (adr (g.1 + 189) 8 0)), (1, .int v1_12)] → World g (wM w md17 mn mw) H → va_S (gA g) s.heap H locs → K16 md17 = some q → W p l e rm_X8_writeCatalogue s m [.ref (adr (g.1 + 189) 8 0)].toArray below meth c H locs 0 0 (MQ below (cQi g q.1 (wM w q.2 mn mw)) [.ref (adr (g.1 + 189) 8 0)].toArray s 0 0 (gA g)) (F0 m 105 ls []) := by
          intro md17 ls H locs hl hW hS hf
          subst eK16
          refine lv_aload_n hx hb dX8_writeCatalogue_105 rfl (lv_at hl 0 rfl) ?_
          refine lv_bipush (v := 59) hx hb dX8_writeCatalogue_106 (by decide) ?_
          obtain ⟨q18, h_q18, hf⟩ := x_bindE hf
          refine x_cv0 (x_rV ⟨hx, hb, hml, hown, hts⟩ (ct_X8_puts l g hfl w md17 mn mw ((59 : Int32)) h_q18) (cwV 1 hts gX8_writeCatalogue_X8_puts rfl rfl rfl (by decide +kernel) ⟨Nat.le_of_ble_eq_true rfl, Nat.le_of_ble_eq_true rfl⟩) hK hW hS (x_recv (i := (g.1 + 189)) (k := 8) (j := 0) hK hW ⟨⟨hfl, rfl⟩, by decide⟩ rfl (by decide)) rfl hl.1 (rest := []) rfl (Nat.le_of_ble_eq_true rfl) dX8_writeCatalogue_108 ⟨Nat.le_of_ble_eq_true rfl, Nat.le_of_ble_eq_true rfl⟩) hS (fun H locs hW hS => ?_)
          have hW : World g (wM w q18 mn mw) H := hW
          obtain ⟨x19, e_x19, hf⟩ := x_letE hf
          refine lv_iinc (v := x19) (lv' := [(1, .int x19), (0, .ref (adr (g.1 + 189) 8 0))]) hx hb dX8_writeCatalogue_111 hl (k := 1) rfl (by rw [e_x19]; rfl) (by decide) rfl (fun ls hl => ?_)
          refine lv_goto (tgt := 12) hx hb dX8_writeCatalogue_114 (by decide) ?_
          exact ih (x19) (q18) ls _ _ (lv_sub hl [1, 0] rfl) hW hS hf
        clear eK16
        refine lv_if_eq (tgt := 105) hx hb dX8_writeCatalogue_96 (by decide) (fun hc => ?_) (fun hc => ?_)
        · have hf := x_iteT hf hc
          exact KK16 (q14) ls _ _ hl hW hS hf
        · have hf := x_iteF hf hc
          refine lv_aload_n hx hb dX8_writeCatalogue_99 rfl (lv_at hl 0 rfl) ?_
          refine lv_bipush (v := 42) hx hb dX8_writeCatalogue_100 (by decide) ?_
          obtain ⟨q20, h_q20, hf⟩ := x_bindE hf
          refine x_cv0 (x_rV ⟨hx, hb, hml, hown, hts⟩ (ct_X8_puts l g hfl w q14 mn mw ((42 : Int32)) h_q20) (cwV 1 hts gX8_writeCatalogue_X8_puts rfl rfl rfl (by decide +kernel) ⟨Nat.le_of_ble_eq_true rfl, Nat.le_of_ble_eq_true rfl⟩) hK hW hS (x_recv (i := (g.1 + 189)) (k := 8) (j := 0) hK hW ⟨⟨hfl, rfl⟩, by decide⟩ rfl (by decide)) rfl hl.1 (rest := []) rfl (Nat.le_of_ble_eq_true rfl) dX8_writeCatalogue_102 ⟨Nat.le_of_ble_eq_true rfl, Nat.le_of_ble_eq_true rfl⟩) hS (fun H locs hW hS => ?_)
          have hW : World g (wM w q20 mn mw) H := hW
          exact KK16 (q20) ls _ _ hl hW hS hf
  exact L12 fuel ((0 : Int32)) (md2) ls _ _ (lv_sub hl [1, 0] rfl) hW hS hf
abbrev rm_X8_outputByte : Room := { frames := 1, cells := 0, slots := 0, locals := 25 }
set_option maxRecDepth 100000 in
set_option maxHeartbeats 4000000 in
theorem ct_X8_outputByte (l : Launch) (g : GT) (hfl : 2 ≤ gf g) (w : WT) (md : SD) (mn : Nat → Int64) (mw : Int64) (a1 : Int32) {q : (Int32 × SD)} (hf : f_X8_outputByte md a1 = some q) : Met l yX8_outputByte wsX8_outputByte rm_X8_outputByte (cPre g (wM w md mn mw) [.ref (adr (g.1 + 189) 8 0), .int a1]) (cQi g q.1 (wM w q.2 mn mw)) 0 0 (gA g) := by
  have i_8 : ∀ w ∈ u_ws RX8 TX8 27, w ∈ wsX8_outputByte := by decide +kernel
  refine x_met (by decide) rfl (Nat.le_of_ble_eq_true rfl) ?_
  intro p e s m below meth c hx hb hr hml hts hown hlocks hK hW hS ls hl
  have hown : s.vm.findClass RX8 = some m.cls := hown
  have hl : lv_has ls 2 [(0, .ref (adr (g.1 + 189) 8 0)), (1, .int a1)] := hl
  rw [f_X8_outputByte] at hf
  refine lv_aload_n hx hb dX8_outputByte_0 rfl (lv_at hl 0 rfl) ?_
  refine lv_iconst (v := 0) hx hb dX8_outputByte_1 (by decide) ?_
  obtain ⟨md1, e_md1, hf⟩ := x_letE hf
  refine x_put (i := (g.1 + 189)) (k := 8) (j := 0) (t := 0) (w' := wM w md1 mn mw) hx hb hts i_8 tyX8 tyX8_ok nmX8 hown hK hW ⟨⟨hfl, rfl⟩, by decide⟩ hS rfl ⟨by decide, by decide, rfl⟩ (hts (.fieldLink RX8 51 "OpticalJukeboxModel" "thrown" "I") (by decide +kernel)) rfl (ty := .int) (by decide +kernel) rfl rfl ⟨rfl, rfl⟩ dX8_outputByte_2 (fp_M e_md1 rfl) (fun H locs hW hS => ?_)
  refine lv_iload_n hx hb dX8_outputByte_5 rfl (lv_at hl 1 rfl) ?_
  refine lv_i2l hx hb dX8_outputByte_6 rfl ?_
  refine lv_lconst (v := 0) hx hb dX8_outputByte_7 (by decide) ?_
  refine lv_aload_n hx hb dX8_outputByte_8 rfl (lv_at hl 0 rfl) ?_
  refine x_get (i := (g.1 + 189)) (k := 8) (j := 0) (t := 12) hx hb hts i_8 hown hK hW ⟨⟨hfl, rfl⟩, by decide⟩ rfl ⟨by decide, by decide, rfl⟩ (hts (.fieldLink RX8 285 "OpticalJukeboxModel" "outs" "I") (by decide +kernel)) (rfl) dX8_outputByte_9 ?_
  refine lv_iconst (v := 1) hx hb dX8_outputByte_12 (by decide) ?_
  refine lv_isub hx hb dX8_outputByte_13 ?_
  refine lv_i2l hx hb dX8_outputByte_14 rfl ?_
  obtain ⟨q2, h_q2, hf⟩ := x_bindE hf
  refine x_ci0 (x_rS ⟨hx, hb, hml, hown, hts⟩ (ct_X8_isIn l g (wM w md1 mn mw) ((a1).toInt64) ((0 : Int64)) ((((md1 8 0 12) - (1 : Int32))).toInt64) h_q2) (va_cwS 3 hts gX8_outputByte_X8_isIn rfl rfl rfl (by decide +kernel) ⟨Nat.le_of_ble_eq_true rfl, Nat.le_of_ble_eq_true rfl⟩) hK hW hS rfl hl.1 (rest := []) rfl (Nat.le_of_ble_eq_true rfl) dX8_outputByte_15 ⟨Nat.le_of_ble_eq_true rfl, Nat.le_of_ble_eq_true rfl⟩) hS (fun H locs hW hS => ?_)
  have hW : World g (wM w md1 mn mw) H := hW
  refine W.eq (g2 := F0 m 18 ls [.int q2]) rfl ?_
  refine lv_if_eq (tgt := 30) hx hb dX8_outputByte_18 (by decide) (fun hc => ?_) (fun hc => ?_)
  · have hf := x_iteT hf hc
    refine lv_ldc (v := -1000001) hx hb hown (hts (.constant RX8 186 (-1000001)) (by decide +kernel)) dX8_outputByte_30 ?_
    cases hf
    exact x_iret hx hb hr hlocks hK hW hS rfl dX8_outputByte_32
  · have hf := x_iteF hf hc
    refine lv_aload_n hx hb dX8_outputByte_21 rfl (lv_at hl 0 rfl) ?_
    refine x_get (i := (g.1 + 189)) (k := 8) (j := 0) (t := 11) hx hb hts i_8 hown hK hW ⟨⟨hfl, rfl⟩, by decide⟩ rfl ⟨by decide, by decide, rfl⟩ (hts (.fieldLink RX8 31 "OpticalJukeboxModel" "out" "[B") (by decide +kernel)) (v := .ref (adr (g.1 + 189) 37 0)) rfl dX8_outputByte_22 ?_
    refine lv_iload_n hx hb dX8_outputByte_25 rfl (lv_at hl 1 rfl) ?_
    obtain ⟨hg3, hf⟩ := x_guardE hf
    refine x_bald (i := (g.1 + 189)) (k := 37) (j := 0) (f := md1 37 0) hx hb hK hW ⟨⟨hfl, rfl⟩, by decide⟩ (by decide) (rfl) rfl hg3 dX8_outputByte_26 ?_
    refine lv_goto (tgt := 32) hx hb dX8_outputByte_27 (by decide) ?_
    cases hf
    exact x_iret hx hb hr hlocks hK hW hS rfl dX8_outputByte_32
abbrev rm_X8_feeds : Room := { frames := 0, cells := 0, slots := 0, locals := 0 }
set_option maxRecDepth 100000 in
set_option maxHeartbeats 4000000 in
theorem ct_X8_feeds (l : Launch) (g : GT) (hfl : 2 ≤ gf g) (w : WT) (md : SD) (mn : Nat → Int64) (mw : Int64) (a1 : Int32) {q : SD} (hf : f_X8_feeds md a1 = some q) : Met l yX8_feeds wsX8_feeds rm_X8_feeds (cPre g (wM w md mn mw) [.ref (adr (g.1 + 189) 8 0), .int a1]) (cQv g (wM w q mn mw)) 0 0 (gA g) := by
  have i_8 : ∀ w ∈ u_ws RX8 TX8 27, w ∈ wsX8_feeds := by decide +kernel
  refine x_met (by decide) rfl (Nat.le_of_ble_eq_true rfl) ?_
  intro p e s m below meth c hx hb hr hml hts hown hlocks hK hW hS ls hl
  have hown : s.vm.findClass RX8 = some m.cls := hown
  have hl : lv_has ls 3 [(0, .ref (adr (g.1 + 189) 8 0)), (1, .int a1)] := hl
  rw [f_X8_feeds] at hf
  refine lv_bipush (v := 24) hx hb dX8_feeds_0 (by decide) ?_
  refine lv_istore_n (lv' := [(2, .int (24 : Int32)), (0, .ref (adr (g.1 + 189) 8 0)), (1, .int a1)]) hx hb dX8_feeds_2 rfl hl (by decide) rfl (fun ls hl => ?_)
  have L3 : ∀ (n : Nat) (v2_3 : Int32) (md_3 : SD) (ls : Array Slot) (H : Heap) (locs : List Loc), lv_has ls 3 [(0, .ref (adr (g.1 + 189) 8 0)), (1, .int a1), (2, .int v2_3)] → World g (wM w md_3 mn mw) H → va_S (gA g) s.heap H locs → f_X8_feeds_L3 a1 n v2_3 md_3 = some q → W p l e rm_X8_feeds s m [.ref (adr (g.1 + 189) 8 0), .int a1].toArray below meth c H locs 0 0 (MQ below (cQv g (wM w q mn mw)) [.ref (adr (g.1 + 189) 8 0), .int a1].toArray s 0 0 (gA g)) (F0 m 3 ls []) := by
    clear hW hS hl
    intro n
    induction n with
    | zero => intro v2_3 md_3 ls H locs hl hW hS hf; cases hf
    | succ n_3 ih =>
      intro v2_3 md_3 ls H locs hl hW hS hf
      rw [f_X8_feeds_L3] at hf
      refine lv_iload_n hx hb dX8_feeds_3 rfl (lv_at hl 2 rfl) ?_
      refine lv_if_lt (tgt := 36) hx hb dX8_feeds_4 (by decide) (fun hc => ?_) (fun hc => ?_)
      · have hf := x_iteT hf hc
        cases hf
        exact x_vret hx hb hr hlocks hK hW hS dX8_feeds_36
      · have hf := x_iteF hf hc
        refine lv_aload_n hx hb dX8_feeds_7 rfl (lv_at hl 0 rfl) ?_
        refine x_get (i := (g.1 + 189)) (k := 8) (j := 0) (t := 13) hx hb hts i_8 hown hK hW ⟨⟨hfl, rfl⟩, by decide⟩ rfl ⟨by decide, by decide, rfl⟩ (hts (.fieldLink RX8 35 "OpticalJukeboxModel" "buffer" "[B") (by decide +kernel)) (v := .ref (adr (g.1 + 189) 38 0)) rfl dX8_feeds_8 ?_
        refine lv_aload_n hx hb dX8_feeds_11 rfl (lv_at hl 0 rfl) ?_
        refine x_get (i := (g.1 + 189)) (k := 8) (j := 0) (t := 15) hx hb hts i_8 hown hK hW ⟨⟨hfl, rfl⟩, by decide⟩ rfl ⟨by decide, by decide, rfl⟩ (hts (.fieldLink RX8 294 "OpticalJukeboxModel" "buffered" "I") (by decide +kernel)) (rfl) dX8_feeds_12 ?_
        refine lv_iload_n hx hb dX8_feeds_15 rfl (lv_at hl 1 rfl) ?_
        refine lv_iload_n hx hb dX8_feeds_16 rfl (lv_at hl 2 rfl) ?_
        refine lv_ishr hx hb dX8_feeds_17 ?_
        refine lv_i2b hx hb dX8_feeds_18 rfl ?_
        obtain ⟨hg1, hf⟩ := x_guardE hf
        obtain ⟨md2, e_md2, hf⟩ := x_letE hf
        refine x_bast (i := (g.1 + 189)) (k := 38) (j := 0) (w' := wM w md2 mn mw) hx hb hK hW ⟨⟨hfl, rfl⟩, by decide⟩ hS (by decide) rfl rfl rfl hg1 dX8_feeds_19 (fp_M e_md2 rfl) (fun H locs hW hS => ?_)
        refine lv_aload_n hx hb dX8_feeds_20 rfl (lv_at hl 0 rfl) ?_
        refine lv_dup hx hb dX8_feeds_21 rfl ?_
        refine x_get (i := (g.1 + 189)) (k := 8) (j := 0) (t := 15) hx hb hts i_8 hown hK hW ⟨⟨hfl, rfl⟩, by decide⟩ rfl ⟨by decide, by decide, rfl⟩ (hts (.fieldLink RX8 294 "OpticalJukeboxModel" "buffered" "I") (by decide +kernel)) (rfl) dX8_feeds_22 ?_
        refine lv_iconst (v := 1) hx hb dX8_feeds_25 (by decide) ?_
        refine lv_iadd hx hb dX8_feeds_26 ?_
        obtain ⟨md3, e_md3, hf⟩ := x_letE hf
        refine x_put (i := (g.1 + 189)) (k := 8) (j := 0) (t := 15) (w' := wM w md3 mn mw) hx hb hts i_8 tyX8 tyX8_ok nmX8 hown hK hW ⟨⟨hfl, rfl⟩, by decide⟩ hS rfl ⟨by decide, by decide, rfl⟩ (hts (.fieldLink RX8 294 "OpticalJukeboxModel" "buffered" "I") (by decide +kernel)) rfl (ty := .int) (by decide +kernel) rfl rfl ⟨rfl, rfl⟩ dX8_feeds_27 (fp_M e_md3 rfl) (fun H locs hW hS => ?_)
        obtain ⟨x4, e_x4, hf⟩ := x_letE hf
        refine lv_iinc (v := x4) (lv' := [(2, .int x4), (0, .ref (adr (g.1 + 189) 8 0)), (1, .int a1)]) hx hb dX8_feeds_30 hl (k := 2) rfl (by rw [e_x4]; rfl) (by decide) rfl (fun ls hl => ?_)
        refine lv_goto (tgt := 3) hx hb dX8_feeds_33 (by decide) ?_
        exact ih (x4) (md3) ls _ _ (lv_sub hl [1, 2, 0] rfl) hW hS hf
  exact L3 fuel ((24 : Int32)) (md) ls _ _ (lv_sub hl [1, 2, 0] rfl) hW hS hf
abbrev rm_X8_feed : Room := { frames := 1, cells := 0, slots := 0, locals := 22 }
set_option maxRecDepth 100000 in
set_option maxHeartbeats 4000000 in
theorem ct_X8_feed (l : Launch) (g : GT) (hfl : 2 ≤ gf g) (w : WT) (md : SD) (mn : Nat → Int64) (mw : Int64) (a1 : Int32) (a2 : Int32) (a3 : Int32) (a4 : Int32) (a5 : Int32) {q : (Int32 × SD)} (hf : f_X8_feed md a1 a2 a3 a4 a5 = some q) : Met l yX8_feed wsX8_feed rm_X8_feed (cPre g (wM w md mn mw) [.ref (adr (g.1 + 189) 8 0), .int a1, .int a2, .int a3, .int a4, .int a5]) (cQi g q.1 (wM w q.2 mn mw)) 0 0 (gA g) := by
  have i_8 : ∀ w ∈ u_ws RX8 TX8 27, w ∈ wsX8_feed := by decide +kernel
  refine x_met (by decide) rfl (Nat.le_of_ble_eq_true rfl) ?_
  intro p e s m below meth c hx hb hr hml hts hown hlocks hK hW hS ls hl
  have hown : s.vm.findClass RX8 = some m.cls := hown
  have hl : lv_has ls 6 [(0, .ref (adr (g.1 + 189) 8 0)), (1, .int a1), (2, .int a2), (3, .int a3), (4, .int a4), (5, .int a5)] := hl
  rw [f_X8_feed] at hf
  refine lv_aload_n hx hb dX8_feed_0 rfl (lv_at hl 0 rfl) ?_
  refine lv_iconst (v := 0) hx hb dX8_feed_1 (by decide) ?_
  obtain ⟨md1, e_md1, hf⟩ := x_letE hf
  refine x_put (i := (g.1 + 189)) (k := 8) (j := 0) (t := 0) (w' := wM w md1 mn mw) hx hb hts i_8 tyX8 tyX8_ok nmX8 hown hK hW ⟨⟨hfl, rfl⟩, by decide⟩ hS rfl ⟨by decide, by decide, rfl⟩ (hts (.fieldLink RX8 51 "OpticalJukeboxModel" "thrown" "I") (by decide +kernel)) rfl (ty := .int) (by decide +kernel) rfl rfl ⟨rfl, rfl⟩ dX8_feed_2 (fp_M e_md1 rfl) (fun H locs hW hS => ?_)
  refine lv_aload_n hx hb dX8_feed_5 rfl (lv_at hl 0 rfl) ?_
  refine x_get (i := (g.1 + 189)) (k := 8) (j := 0) (t := 15) hx hb hts i_8 hown hK hW ⟨⟨hfl, rfl⟩, by decide⟩ rfl ⟨by decide, by decide, rfl⟩ (hts (.fieldLink RX8 294 "OpticalJukeboxModel" "buffered" "I") (by decide +kernel)) (rfl) dX8_feed_6 ?_
  refine lv_bipush (v := 20) hx hb dX8_feed_9 (by decide) ?_
  refine lv_iadd hx hb dX8_feed_11 ?_
  refine lv_sipush (v := 900) hx hb dX8_feed_12 (by decide) ?_
  refine lv_icmp_le (tgt := 21) hx hb dX8_feed_15 (by decide) (fun hc => ?_) (fun hc => ?_)
  · have hf := x_iteT hf hc
    refine lv_aload_n hx hb dX8_feed_21 rfl (lv_at hl 0 rfl) ?_
    refine lv_iload_n hx hb dX8_feed_22 rfl (lv_at hl 1 rfl) ?_
    obtain ⟨q2, h_q2, hf⟩ := x_bindE hf
    refine x_cv0 (x_rV ⟨hx, hb, hml, hown, hts⟩ (ct_X8_feeds l g hfl w md1 mn mw (a1) h_q2) (cwV 1 hts gX8_feed_X8_feeds rfl rfl rfl (by decide +kernel) ⟨Nat.le_of_ble_eq_true rfl, Nat.le_of_ble_eq_true rfl⟩) hK hW hS (x_recv (i := (g.1 + 189)) (k := 8) (j := 0) hK hW ⟨⟨hfl, rfl⟩, by decide⟩ rfl (by decide)) rfl hl.1 (rest := []) rfl (Nat.le_of_ble_eq_true rfl) dX8_feed_23 ⟨Nat.le_of_ble_eq_true rfl, Nat.le_of_ble_eq_true rfl⟩) hS (fun H locs hW hS => ?_)
    have hW : World g (wM w q2 mn mw) H := hW
    refine lv_aload_n hx hb dX8_feed_26 rfl (lv_at hl 0 rfl) ?_
    refine lv_iload_n hx hb dX8_feed_27 rfl (lv_at hl 2 rfl) ?_
    obtain ⟨q3, h_q3, hf⟩ := x_bindE hf
    refine x_cv0 (x_rV ⟨hx, hb, hml, hown, hts⟩ (ct_X8_feeds l g hfl w q2 mn mw (a2) h_q3) (cwV 1 hts gX8_feed_X8_feeds rfl rfl rfl (by decide +kernel) ⟨Nat.le_of_ble_eq_true rfl, Nat.le_of_ble_eq_true rfl⟩) hK hW hS (x_recv (i := (g.1 + 189)) (k := 8) (j := 0) hK hW ⟨⟨hfl, rfl⟩, by decide⟩ rfl (by decide)) rfl hl.1 (rest := []) rfl (Nat.le_of_ble_eq_true rfl) dX8_feed_28 ⟨Nat.le_of_ble_eq_true rfl, Nat.le_of_ble_eq_true rfl⟩) hS (fun H locs hW hS => ?_)
    have hW : World g (wM w q3 mn mw) H := hW
    refine lv_aload_n hx hb dX8_feed_31 rfl (lv_at hl 0 rfl) ?_
    refine lv_iload_n hx hb dX8_feed_32 rfl (lv_at hl 3 rfl) ?_
    obtain ⟨q4, h_q4, hf⟩ := x_bindE hf
    refine x_cv0 (x_rV ⟨hx, hb, hml, hown, hts⟩ (ct_X8_feeds l g hfl w q3 mn mw (a3) h_q4) (cwV 1 hts gX8_feed_X8_feeds rfl rfl rfl (by decide +kernel) ⟨Nat.le_of_ble_eq_true rfl, Nat.le_of_ble_eq_true rfl⟩) hK hW hS (x_recv (i := (g.1 + 189)) (k := 8) (j := 0) hK hW ⟨⟨hfl, rfl⟩, by decide⟩ rfl (by decide)) rfl hl.1 (rest := []) rfl (Nat.le_of_ble_eq_true rfl) dX8_feed_33 ⟨Nat.le_of_ble_eq_true rfl, Nat.le_of_ble_eq_true rfl⟩) hS (fun H locs hW hS => ?_)
    have hW : World g (wM w q4 mn mw) H := hW
    refine lv_aload_n hx hb dX8_feed_36 rfl (lv_at hl 0 rfl) ?_
    refine lv_iload hx hb dX8_feed_37 (lv_at hl 4 rfl) ?_
    obtain ⟨q5, h_q5, hf⟩ := x_bindE hf
    refine x_cv0 (x_rV ⟨hx, hb, hml, hown, hts⟩ (ct_X8_feeds l g hfl w q4 mn mw (a4) h_q5) (cwV 1 hts gX8_feed_X8_feeds rfl rfl rfl (by decide +kernel) ⟨Nat.le_of_ble_eq_true rfl, Nat.le_of_ble_eq_true rfl⟩) hK hW hS (x_recv (i := (g.1 + 189)) (k := 8) (j := 0) hK hW ⟨⟨hfl, rfl⟩, by decide⟩ rfl (by decide)) rfl hl.1 (rest := []) rfl (Nat.le_of_ble_eq_true rfl) dX8_feed_39 ⟨Nat.le_of_ble_eq_true rfl, Nat.le_of_ble_eq_true rfl⟩) hS (fun H locs hW hS => ?_)
    have hW : World g (wM w q5 mn mw) H := hW
    refine lv_aload_n hx hb dX8_feed_42 rfl (lv_at hl 0 rfl) ?_
    refine lv_iload hx hb dX8_feed_43 (lv_at hl 5 rfl) ?_
    obtain ⟨q6, h_q6, hf⟩ := x_bindE hf
    refine x_cv0 (x_rV ⟨hx, hb, hml, hown, hts⟩ (ct_X8_feeds l g hfl w q5 mn mw (a5) h_q6) (cwV 1 hts gX8_feed_X8_feeds rfl rfl rfl (by decide +kernel) ⟨Nat.le_of_ble_eq_true rfl, Nat.le_of_ble_eq_true rfl⟩) hK hW hS (x_recv (i := (g.1 + 189)) (k := 8) (j := 0) hK hW ⟨⟨hfl, rfl⟩, by decide⟩ rfl (by decide)) rfl hl.1 (rest := []) rfl (Nat.le_of_ble_eq_true rfl) dX8_feed_45 ⟨Nat.le_of_ble_eq_true rfl, Nat.le_of_ble_eq_true rfl⟩) hS (fun H locs hW hS => ?_)
    have hW : World g (wM w q6 mn mw) H := hW
    refine lv_aload_n hx hb dX8_feed_48 rfl (lv_at hl 0 rfl) ?_
    refine x_get (i := (g.1 + 189)) (k := 8) (j := 0) (t := 15) hx hb hts i_8 hown hK hW ⟨⟨hfl, rfl⟩, by decide⟩ rfl ⟨by decide, by decide, rfl⟩ (hts (.fieldLink RX8 294 "OpticalJukeboxModel" "buffered" "I") (by decide +kernel)) (rfl) dX8_feed_49 ?_
    cases hf
    exact x_iret hx hb hr hlocks hK hW hS rfl dX8_feed_52
  · have hf := x_iteF hf hc
    refine lv_ldc (v := -1000003) hx hb hown (hts (.constant RX8 243 (-1000003)) (by decide +kernel)) dX8_feed_18 ?_
    cases hf
    exact x_iret hx hb hr hlocks hK hW hS rfl dX8_feed_20
abbrev rm_X8_isOf : Room := { frames := 1, cells := 0, slots := 0, locals := 25 }
set_option maxRecDepth 100000 in
set_option maxHeartbeats 4000000 in
theorem ct_X8_isOf (l : Launch) (g : GT) (hfl : 2 ≤ gf g) (w : WT) (md : SD) (mn : Nat → Int64) (mw : Int64) (a1 : Int32) (a2 : Int32) (a3 : Int32) {q : Int32} (hf : f_X8_isOf md a1 a2 a3 = some q) : Met l yX8_isOf wsX8_isOf rm_X8_isOf (cPre g (wM w md mn mw) [.ref (adr (g.1 + 189) 8 0), .int a1, .int a2, .int a3]) (cQi g q (wM w md mn mw)) 0 0 (gA g) := by
  have i_8 : ∀ w ∈ u_ws RX8 TX8 27, w ∈ wsX8_isOf := by decide +kernel
  refine x_met (by decide) rfl (Nat.le_of_ble_eq_true rfl) ?_
  intro p e s m below meth c hx hb hr hml hts hown hlocks hK hW hS ls hl
  have hown : s.vm.findClass RX8 = some m.cls := hown
  have hl : lv_has ls 4 [(0, .ref (adr (g.1 + 189) 8 0)), (1, .int a1), (2, .int a2), (3, .int a3)] := hl
  rw [f_X8_isOf] at hf
  refine lv_iload_n hx hb dX8_isOf_0 rfl (lv_at hl 1 rfl) ?_
  refine lv_aload_n hx hb dX8_isOf_1 rfl (lv_at hl 0 rfl) ?_
  refine x_get (i := (g.1 + 189)) (k := 8) (j := 0) (t := 24) hx hb hts i_8 hown hK hW ⟨⟨hfl, rfl⟩, by decide⟩ rfl ⟨by decide, by decide, rfl⟩ (hts (.fieldLink RX8 300 "OpticalJukeboxModel" "last" "I") (by decide +kernel)) (rfl) dX8_isOf_2 ?_
  refine lv_icmp_ge (tgt := 29) hx hb dX8_isOf_5 (by decide) (fun hc => ?_) (fun hc => ?_)
  · have hf := x_iteT hf hc
    refine lv_iconst (v := 0) hx hb dX8_isOf_29 (by decide) ?_
    cases hf
    exact x_zret hx hb hr hlocks hK hW hS (Or.inl rfl) rfl dX8_isOf_30
  · have hf := x_iteF hf hc
    refine lv_aload_n hx hb dX8_isOf_8 rfl (lv_at hl 0 rfl) ?_
    refine x_get (i := (g.1 + 189)) (k := 8) (j := 0) (t := 13) hx hb hts i_8 hown hK hW ⟨⟨hfl, rfl⟩, by decide⟩ rfl ⟨by decide, by decide, rfl⟩ (hts (.fieldLink RX8 35 "OpticalJukeboxModel" "buffer" "[B") (by decide +kernel)) (v := .ref (adr (g.1 + 189) 38 0)) rfl dX8_isOf_9 ?_
    refine lv_iload_n hx hb dX8_isOf_12 rfl (lv_at hl 1 rfl) ?_
    obtain ⟨hg1, hf⟩ := x_guardE hf
    refine x_bald (i := (g.1 + 189)) (k := 38) (j := 0) (f := md 38 0) hx hb hK hW ⟨⟨hfl, rfl⟩, by decide⟩ (by decide) (rfl) rfl hg1 dX8_isOf_13 ?_
    refine lv_i2l hx hb dX8_isOf_14 rfl ?_
    refine lv_iload_n hx hb dX8_isOf_15 rfl (lv_at hl 2 rfl) ?_
    refine lv_i2l hx hb dX8_isOf_16 rfl ?_
    refine lv_iload_n hx hb dX8_isOf_17 rfl (lv_at hl 3 rfl) ?_
    refine lv_i2l hx hb dX8_isOf_18 rfl ?_
    obtain ⟨q2, h_q2, hf⟩ := x_bindE hf
    refine x_ci0 (x_rS ⟨hx, hb, hml, hown, hts⟩ (ct_X8_isIn l g (wM w md mn mw) (((md 38 0 (a1).toNatClampNeg)).toInt64) ((a2).toInt64) ((a3).toInt64) h_q2) (va_cwS 3 hts gX8_isOf_X8_isIn rfl rfl rfl (by decide +kernel) ⟨Nat.le_of_ble_eq_true rfl, Nat.le_of_ble_eq_true rfl⟩) hK hW hS rfl hl.1 (rest := []) rfl (Nat.le_of_ble_eq_true rfl) dX8_isOf_19 ⟨Nat.le_of_ble_eq_true rfl, Nat.le_of_ble_eq_true rfl⟩) hS (fun H locs hW hS => ?_)
    have hW : World g (wM w md mn mw) H := hW
    refine W.eq (g2 := F0 m 22 ls [.int q2]) rfl ?_
    refine lv_if_eq (tgt := 29) hx hb dX8_isOf_22 (by decide) (fun hc => ?_) (fun hc => ?_)
    · have hf := x_iteT hf hc
      refine lv_iconst (v := 0) hx hb dX8_isOf_29 (by decide) ?_
      cases hf
      exact x_zret hx hb hr hlocks hK hW hS (Or.inl rfl) rfl dX8_isOf_30
    · have hf := x_iteF hf hc
      refine lv_iconst (v := 1) hx hb dX8_isOf_25 (by decide) ?_
      refine lv_goto (tgt := 30) hx hb dX8_isOf_26 (by decide) ?_
      cases hf
      exact x_zret hx hb hr hlocks hK hW hS (Or.inr rfl) rfl dX8_isOf_30
abbrev rm_X8_next : Room := { frames := 2, cells := 0, slots := 0, locals := 48 }
set_option maxRecDepth 100000 in
set_option maxHeartbeats 4000000 in
theorem ct_X8_next (l : Launch) (g : GT) (hfl : 2 ≤ gf g) (w : WT) (md : SD) (mn : Nat → Int64) (mw : Int64) {q : (SD × Int64)} (hf : f_X8_next md mw  = some q) : Met l yX8_next wsX8_next rm_X8_next (cPre g (wM w md mn mw) [.ref (adr (g.1 + 189) 8 0)]) (cQv g (wM w q.1 mn q.2)) 0 0 (gA g) := by
  have i_8 : ∀ w ∈ u_ws RX8 TX8 27, w ∈ wsX8_next := by decide +kernel
  refine x_met (by decide) rfl (Nat.le_of_ble_eq_true rfl) ?_
  intro p e s m below meth c hx hb hr hml hts hown hlocks hK hW hS ls hl
  have hown : s.vm.findClass RX8 = some m.cls := hown
  have hl : lv_has ls 1 [(0, .ref (adr (g.1 + 189) 8 0))] := hl
  rw [f_X8_next] at hf
  refine lv_aload_n hx hb dX8_next_0 rfl (lv_at hl 0 rfl) ?_
  refine lv_aload_n hx hb dX8_next_1 rfl (lv_at hl 0 rfl) ?_
  refine x_get (i := (g.1 + 189)) (k := 8) (j := 0) (t := 21) hx hb hts i_8 hown hK hW ⟨⟨hfl, rfl⟩, by decide⟩ rfl ⟨by decide, by decide, rfl⟩ (hts (.fieldLink RX8 303 "OpticalJukeboxModel" "then" "I") (by decide +kernel)) (rfl) dX8_next_2 ?_
  obtain ⟨md1, e_md1, hf⟩ := x_letE hf
  refine x_put (i := (g.1 + 189)) (k := 8) (j := 0) (t := 20) (w' := wM w md1 mn mw) hx hb hts i_8 tyX8 tyX8_ok nmX8 hown hK hW ⟨⟨hfl, rfl⟩, by decide⟩ hS rfl ⟨by decide, by decide, rfl⟩ (hts (.fieldLink RX8 306 "OpticalJukeboxModel" "at" "I") (by decide +kernel)) rfl (ty := .int) (by decide +kernel) rfl rfl ⟨rfl, rfl⟩ dX8_next_5 (fp_M e_md1 rfl) (fun H locs hW hS => ?_)
  have L8 : ∀ (n : Nat) (md_8 : SD) (ls : Array Slot) (H : Heap) (locs : List Loc), lv_has ls 1 [(0, .ref (adr (g.1 + 189) 8 0))] → World g (wM w md_8 mn mw) H → va_S (gA g) s.heap H locs → f_X8_next_L8 mw n md_8 = some q → W p l e rm_X8_next s m [.ref (adr (g.1 + 189) 8 0)].toArray below meth c H locs 0 0 (MQ below (cQv g (wM w q.1 mn q.2)) [.ref (adr (g.1 + 189) 8 0)].toArray s 0 0 (gA g)) (F0 m 8 ls []) := by
    clear hW hS hl
    intro n
    induction n with
    | zero => intro md_8 ls H locs hl hW hS hf; cases hf
    | succ n_8 ih =>
      intro md_8 ls H locs hl hW hS hf
      rw [f_X8_next_L8] at hf
      refine lv_aload_n hx hb dX8_next_8 rfl (lv_at hl 0 rfl) ?_
      refine lv_aload_n hx hb dX8_next_9 rfl (lv_at hl 0 rfl) ?_
      refine x_get (i := (g.1 + 189)) (k := 8) (j := 0) (t := 20) hx hb hts i_8 hown hK hW ⟨⟨hfl, rfl⟩, by decide⟩ rfl ⟨by decide, by decide, rfl⟩ (hts (.fieldLink RX8 306 "OpticalJukeboxModel" "at" "I") (by decide +kernel)) (rfl) dX8_next_10 ?_
      refine lv_bipush (v := 32) hx hb dX8_next_13 (by decide) ?_
      refine lv_bipush (v := 32) hx hb dX8_next_15 (by decide) ?_
      obtain ⟨q2, h_q2, hf⟩ := x_bindE hf
      refine x_ci0 (x_rV ⟨hx, hb, hml, hown, hts⟩ (ct_X8_isOf l g hfl w md_8 mn mw ((md_8 8 0 20)) ((32 : Int32)) ((32 : Int32)) h_q2) (cwV 3 hts gX8_next_X8_isOf rfl rfl rfl (by decide +kernel) ⟨Nat.le_of_ble_eq_true rfl, Nat.le_of_ble_eq_true rfl⟩) hK hW hS (x_recv (i := (g.1 + 189)) (k := 8) (j := 0) hK hW ⟨⟨hfl, rfl⟩, by decide⟩ rfl (by decide)) rfl hl.1 (rest := []) rfl (Nat.le_of_ble_eq_true rfl) dX8_next_17 ⟨Nat.le_of_ble_eq_true rfl, Nat.le_of_ble_eq_true rfl⟩) hS (fun H locs hW hS => ?_)
      have hW : World g (wM w md_8 mn mw) H := hW
      refine W.eq (g2 := F0 m 20 ls [.int q2]) rfl ?_
      obtain ⟨K3, eK3, hf⟩ := x_letE hf
      have KK3 : ∀ (_u : Unit) (ls : Array Slot) (H : Heap) (locs : List Loc), lv_has ls 1 [(0, .ref (adr (g.1 + 189) 8 0))] → World g (wM w md_8 mn mw) H → va_S (gA g) s.heap H locs → K3 _u = some q → W p l e rm_X8_next s m [.ref (adr (g.1 + 189) 8 0)].toArray below meth c H locs 0 0 (MQ below (cQv g (wM w q.1 mn q.2)) [.ref (adr (g.1 + 189) 8 0)].toArray s 0 0 (gA g)) (F0 m 38 ls []) := by
        intro _u ls H locs hl hW hS hf
        subst eK3
        refine lv_aload_n hx hb dX8_next_38 rfl (lv_at hl 0 rfl) ?_
        refine lv_dup hx hb dX8_next_39 rfl ?_
        refine x_get (i := (g.1 + 189)) (k := 8) (j := 0) (t := 20) hx hb hts i_8 hown hK hW ⟨⟨hfl, rfl⟩, by decide⟩ rfl ⟨by decide, by decide, rfl⟩ (hts (.fieldLink RX8 306 "OpticalJukeboxModel" "at" "I") (by decide +kernel)) (rfl) dX8_next_40 ?_
        refine lv_iconst (v := 1) hx hb dX8_next_43 (by decide) ?_
        refine lv_iadd hx hb dX8_next_44 ?_
        obtain ⟨md4, e_md4, hf⟩ := x_letE hf
        refine x_put (i := (g.1 + 189)) (k := 8) (j := 0) (t := 20) (w' := wM w md4 mn mw) hx hb hts i_8 tyX8 tyX8_ok nmX8 hown hK hW ⟨⟨hfl, rfl⟩, by decide⟩ hS rfl ⟨by decide, by decide, rfl⟩ (hts (.fieldLink RX8 306 "OpticalJukeboxModel" "at" "I") (by decide +kernel)) rfl (ty := .int) (by decide +kernel) rfl rfl ⟨rfl, rfl⟩ dX8_next_45 (fp_M e_md4 rfl) (fun H locs hW hS => ?_)
        refine lv_goto (tgt := 8) hx hb dX8_next_48 (by decide) ?_
        exact ih (md4) ls _ _ hl hW hS hf
      clear eK3
      refine lv_if_ne (tgt := 38) hx hb dX8_next_20 (by decide) (fun hc => ?_) (fun hc => ?_)
      · have hf := x_iteF hf hc
        exact KK3 (()) ls _ _ hl hW hS hf
      · have hf := x_iteT hf hc
        refine lv_aload_n hx hb dX8_next_23 rfl (lv_at hl 0 rfl) ?_
        refine lv_aload_n hx hb dX8_next_24 rfl (lv_at hl 0 rfl) ?_
        refine x_get (i := (g.1 + 189)) (k := 8) (j := 0) (t := 20) hx hb hts i_8 hown hK hW ⟨⟨hfl, rfl⟩, by decide⟩ rfl ⟨by decide, by decide, rfl⟩ (hts (.fieldLink RX8 306 "OpticalJukeboxModel" "at" "I") (by decide +kernel)) (rfl) dX8_next_25 ?_
        refine lv_bipush (v := 10) hx hb dX8_next_28 (by decide) ?_
        refine lv_bipush (v := 10) hx hb dX8_next_30 (by decide) ?_
        obtain ⟨q5, h_q5, hf⟩ := x_bindE hf
        refine x_ci0 (x_rV ⟨hx, hb, hml, hown, hts⟩ (ct_X8_isOf l g hfl w md_8 mn mw ((md_8 8 0 20)) ((10 : Int32)) ((10 : Int32)) h_q5) (cwV 3 hts gX8_next_X8_isOf rfl rfl rfl (by decide +kernel) ⟨Nat.le_of_ble_eq_true rfl, Nat.le_of_ble_eq_true rfl⟩) hK hW hS (x_recv (i := (g.1 + 189)) (k := 8) (j := 0) hK hW ⟨⟨hfl, rfl⟩, by decide⟩ rfl (by decide)) rfl hl.1 (rest := []) rfl (Nat.le_of_ble_eq_true rfl) dX8_next_32 ⟨Nat.le_of_ble_eq_true rfl, Nat.le_of_ble_eq_true rfl⟩) hS (fun H locs hW hS => ?_)
        have hW : World g (wM w md_8 mn mw) H := hW
        refine W.eq (g2 := F0 m 35 ls [.int q5]) rfl ?_
        refine lv_if_eq (tgt := 51) hx hb dX8_next_35 (by decide) (fun hc => ?_) (fun hc => ?_)
        · have hf := x_iteT hf hc
          refine lv_aload_n hx hb dX8_next_51 rfl (lv_at hl 0 rfl) ?_
          refine lv_aload_n hx hb dX8_next_52 rfl (lv_at hl 0 rfl) ?_
          refine x_get (i := (g.1 + 189)) (k := 8) (j := 0) (t := 20) hx hb hts i_8 hown hK hW ⟨⟨hfl, rfl⟩, by decide⟩ rfl ⟨by decide, by decide, rfl⟩ (hts (.fieldLink RX8 306 "OpticalJukeboxModel" "at" "I") (by decide +kernel)) (rfl) dX8_next_53 ?_
          refine lv_iconst (v := 1) hx hb dX8_next_56 (by decide) ?_
          refine lv_iadd hx hb dX8_next_57 ?_
          obtain ⟨md6, e_md6, hf⟩ := x_letE hf
          refine x_put (i := (g.1 + 189)) (k := 8) (j := 0) (t := 21) (w' := wM w md6 mn mw) hx hb hts i_8 tyX8 tyX8_ok nmX8 hown hK hW ⟨⟨hfl, rfl⟩, by decide⟩ hS rfl ⟨by decide, by decide, rfl⟩ (hts (.fieldLink RX8 303 "OpticalJukeboxModel" "then" "I") (by decide +kernel)) rfl (ty := .int) (by decide +kernel) rfl rfl ⟨rfl, rfl⟩ dX8_next_58 (fp_M e_md6 rfl) (fun H locs hW hS => ?_)
          refine lv_aload_n hx hb dX8_next_61 rfl (lv_at hl 0 rfl) ?_
          refine lv_aload_n hx hb dX8_next_62 rfl (lv_at hl 0 rfl) ?_
          refine x_get (i := (g.1 + 189)) (k := 8) (j := 0) (t := 20) hx hb hts i_8 hown hK hW ⟨⟨hfl, rfl⟩, by decide⟩ rfl ⟨by decide, by decide, rfl⟩ (hts (.fieldLink RX8 306 "OpticalJukeboxModel" "at" "I") (by decide +kernel)) (rfl) dX8_next_63 ?_
          refine lv_aload_n hx hb dX8_next_66 rfl (lv_at hl 0 rfl) ?_
          refine x_get (i := (g.1 + 189)) (k := 8) (j := 0) (t := 24) hx hb hts i_8 hown hK hW ⟨⟨hfl, rfl⟩, by decide⟩ rfl ⟨by decide, by decide, rfl⟩ (hts (.fieldLink RX8 300 "OpticalJukeboxModel" "last" "I") (by decide +kernel)) (rfl) dX8_next_67 ?_
          obtain ⟨K7, eK7, hf⟩ := x_letE hf
          have KK7 : ∀ (y8 : Int32) (ls : Array Slot) (H : Heap) (locs : List Loc), lv_has ls 1 [(0, .ref (adr (g.1 + 189) 8 0))] → World g (wM w md6 mn mw) H → va_S (gA g) s.heap H locs → K7 y8 = some q → W p l e rm_X8_next s m [.ref (adr (g.1 + 189) 8 0)].toArray below meth c H locs 0 0 (MQ below (cQv g (wM w q.1 mn q.2)) [.ref (adr (g.1 + 189) 8 0)].toArray s 0 0 (gA g)) (F0 m 96 ls [.int y8, .ref (adr (g.1 + 189) 8 0)]) := by
            intro y8 ls H locs hl hW hS hf
            subst eK7
            obtain ⟨md9, e_md9, hf⟩ := x_letE hf
            refine x_put (i := (g.1 + 189)) (k := 8) (j := 0) (t := 22) (w' := wM w md9 mn mw) hx hb hts i_8 tyX8 tyX8_ok nmX8 hown hK hW ⟨⟨hfl, rfl⟩, by decide⟩ hS rfl ⟨by decide, by decide, rfl⟩ (hts (.fieldLink RX8 313 "OpticalJukeboxModel" "sort" "I") (by decide +kernel)) rfl (ty := .int) (by decide +kernel) rfl rfl ⟨rfl, rfl⟩ dX8_next_96 (fp_M e_md9 rfl) (fun H locs hW hS => ?_)
            refine lv_aload_n hx hb dX8_next_99 rfl (lv_at hl 0 rfl) ?_
            refine lv_aload_n hx hb dX8_next_100 rfl (lv_at hl 0 rfl) ?_
            refine x_get (i := (g.1 + 189)) (k := 8) (j := 0) (t := 20) hx hb hts i_8 hown hK hW ⟨⟨hfl, rfl⟩, by decide⟩ rfl ⟨by decide, by decide, rfl⟩ (hts (.fieldLink RX8 306 "OpticalJukeboxModel" "at" "I") (by decide +kernel)) (rfl) dX8_next_101 ?_
            refine lv_bipush (v := 97) hx hb dX8_next_104 (by decide) ?_
            refine lv_bipush (v := 122) hx hb dX8_next_106 (by decide) ?_
            obtain ⟨q10, h_q10, hf⟩ := x_bindE hf
            refine x_ci0 (x_rV ⟨hx, hb, hml, hown, hts⟩ (ct_X8_isOf l g hfl w md9 mn mw ((md9 8 0 20)) ((97 : Int32)) ((122 : Int32)) h_q10) (cwV 3 hts gX8_next_X8_isOf rfl rfl rfl (by decide +kernel) ⟨Nat.le_of_ble_eq_true rfl, Nat.le_of_ble_eq_true rfl⟩) hK hW hS (x_recv (i := (g.1 + 189)) (k := 8) (j := 0) hK hW ⟨⟨hfl, rfl⟩, by decide⟩ rfl (by decide)) rfl hl.1 (rest := []) rfl (Nat.le_of_ble_eq_true rfl) dX8_next_108 ⟨Nat.le_of_ble_eq_true rfl, Nat.le_of_ble_eq_true rfl⟩) hS (fun H locs hW hS => ?_)
            have hW : World g (wM w md9 mn mw) H := hW
            refine W.eq (g2 := F0 m 111 ls [.int q10]) rfl ?_
            refine lv_if_eq (tgt := 226) hx hb dX8_next_111 (by decide) (fun hc => ?_) (fun hc => ?_)
            · have hf := x_iteT hf hc
              refine lv_aload_n hx hb dX8_next_226 rfl (lv_at hl 0 rfl) ?_
              refine lv_aload_n hx hb dX8_next_227 rfl (lv_at hl 0 rfl) ?_
              refine x_get (i := (g.1 + 189)) (k := 8) (j := 0) (t := 20) hx hb hts i_8 hown hK hW ⟨⟨hfl, rfl⟩, by decide⟩ rfl ⟨by decide, by decide, rfl⟩ (hts (.fieldLink RX8 306 "OpticalJukeboxModel" "at" "I") (by decide +kernel)) (rfl) dX8_next_228 ?_
              refine lv_bipush (v := 48) hx hb dX8_next_231 (by decide) ?_
              refine lv_bipush (v := 57) hx hb dX8_next_233 (by decide) ?_
              obtain ⟨q11, h_q11, hf⟩ := x_bindE hf
              refine x_ci0 (x_rV ⟨hx, hb, hml, hown, hts⟩ (ct_X8_isOf l g hfl w md9 mn mw ((md9 8 0 20)) ((48 : Int32)) ((57 : Int32)) h_q11) (cwV 3 hts gX8_next_X8_isOf rfl rfl rfl (by decide +kernel) ⟨Nat.le_of_ble_eq_true rfl, Nat.le_of_ble_eq_true rfl⟩) hK hW hS (x_recv (i := (g.1 + 189)) (k := 8) (j := 0) hK hW ⟨⟨hfl, rfl⟩, by decide⟩ rfl (by decide)) rfl hl.1 (rest := []) rfl (Nat.le_of_ble_eq_true rfl) dX8_next_235 ⟨Nat.le_of_ble_eq_true rfl, Nat.le_of_ble_eq_true rfl⟩) hS (fun H locs hW hS => ?_)
              have hW : World g (wM w md9 mn mw) H := hW
              refine W.eq (g2 := F0 m 238 ls [.int q11]) rfl ?_
              refine lv_if_eq (tgt := 348) hx hb dX8_next_238 (by decide) (fun hc => ?_) (fun hc => ?_)
              · have hf := x_iteT hf hc
                cases hf
                exact x_vret hx hb hr hlocks hK hW hS dX8_next_348
              · have hf := x_iteF hf hc
                refine lv_aload_n hx hb dX8_next_241 rfl (lv_at hl 0 rfl) ?_
                refine lv_iconst (v := 0) hx hb dX8_next_242 (by decide) ?_
                obtain ⟨md12, e_md12, hf⟩ := x_letE hf
                refine x_put (i := (g.1 + 189)) (k := 8) (j := 0) (t := 23) (w' := wM w md12 mn mw) hx hb hts i_8 tyX8 tyX8_ok nmX8 hown hK hW ⟨⟨hfl, rfl⟩, by decide⟩ hS rfl ⟨by decide, by decide, rfl⟩ (hts (.fieldLink RX8 324 "OpticalJukeboxModel" "number" "I") (by decide +kernel)) rfl (ty := .int) (by decide +kernel) rfl rfl ⟨rfl, rfl⟩ dX8_next_243 (fp_M e_md12 rfl) (fun H locs hW hS => ?_)
                refine lv_aload_n hx hb dX8_next_246 rfl (lv_at hl 0 rfl) ?_
                refine lv_aload_n hx hb dX8_next_247 rfl (lv_at hl 0 rfl) ?_
                refine x_get (i := (g.1 + 189)) (k := 8) (j := 0) (t := 20) hx hb hts i_8 hown hK hW ⟨⟨hfl, rfl⟩, by decide⟩ rfl ⟨by decide, by decide, rfl⟩ (hts (.fieldLink RX8 306 "OpticalJukeboxModel" "at" "I") (by decide +kernel)) (rfl) dX8_next_248 ?_
                obtain ⟨md13, e_md13, hf⟩ := x_letE hf
                refine x_put (i := (g.1 + 189)) (k := 8) (j := 0) (t := 21) (w' := wM w md13 mn mw) hx hb hts i_8 tyX8 tyX8_ok nmX8 hown hK hW ⟨⟨hfl, rfl⟩, by decide⟩ hS rfl ⟨by decide, by decide, rfl⟩ (hts (.fieldLink RX8 303 "OpticalJukeboxModel" "then" "I") (by decide +kernel)) rfl (ty := .int) (by decide +kernel) rfl rfl ⟨rfl, rfl⟩ dX8_next_251 (fp_M e_md13 rfl) (fun H locs hW hS => ?_)
                obtain ⟨q14, h_q14, hf⟩ := x_bindE hf
                have L254 : ∀ (QQ : State → Prop) (n : Nat) (md_254 : SD) (ls : Array Slot) (H : Heap) (locs : List Loc), lv_has ls 1 [(0, .ref (adr (g.1 + 189) 8 0))] → World g (wM w md_254 mn mw) H → va_S (gA g) s.heap H locs → f_X8_next_L254  n md_254 = some q14 → (∀ (ls : Array Slot) (H : Heap) (locs : List Loc), lv_has ls 1 [(0, .ref (adr (g.1 + 189) 8 0))] → World g (wM w q14 mn mw) H → va_S (gA g) s.heap H locs → W p l e rm_X8_next s m [.ref (adr (g.1 + 189) 8 0)].toArray below meth c H locs 0 0 QQ (F0 m 326 ls [])) → W p l e rm_X8_next s m [.ref (adr (g.1 + 189) 8 0)].toArray below meth c H locs 0 0 QQ (F0 m 254 ls []) := by
                  clear hW hS hl hf
                  intro QQ n
                  induction n with
                  | zero => intro md_254 ls H locs hl hW hS hf kk; cases hf
                  | succ n_254 ih =>
                    intro md_254 ls H locs hl hW hS hf kk
                    rw [f_X8_next_L254] at hf
                    refine lv_aload_n hx hb dX8_next_254 rfl (lv_at hl 0 rfl) ?_
                    refine lv_aload_n hx hb dX8_next_255 rfl (lv_at hl 0 rfl) ?_
                    refine x_get (i := (g.1 + 189)) (k := 8) (j := 0) (t := 21) hx hb hts i_8 hown hK hW ⟨⟨hfl, rfl⟩, by decide⟩ rfl ⟨by decide, by decide, rfl⟩ (hts (.fieldLink RX8 303 "OpticalJukeboxModel" "then" "I") (by decide +kernel)) (rfl) dX8_next_256 ?_
                    refine lv_bipush (v := 48) hx hb dX8_next_259 (by decide) ?_
                    refine lv_bipush (v := 57) hx hb dX8_next_261 (by decide) ?_
                    obtain ⟨q15, h_q15, hf⟩ := x_bindE hf
                    refine x_ci0 (x_rV ⟨hx, hb, hml, hown, hts⟩ (ct_X8_isOf l g hfl w md_254 mn mw ((md_254 8 0 21)) ((48 : Int32)) ((57 : Int32)) h_q15) (cwV 3 hts gX8_next_X8_isOf rfl rfl rfl (by decide +kernel) ⟨Nat.le_of_ble_eq_true rfl, Nat.le_of_ble_eq_true rfl⟩) hK hW hS (x_recv (i := (g.1 + 189)) (k := 8) (j := 0) hK hW ⟨⟨hfl, rfl⟩, by decide⟩ rfl (by decide)) rfl hl.1 (rest := []) rfl (Nat.le_of_ble_eq_true rfl) dX8_next_263 ⟨Nat.le_of_ble_eq_true rfl, Nat.le_of_ble_eq_true rfl⟩) hS (fun H locs hW hS => ?_)
                    have hW : World g (wM w md_254 mn mw) H := hW
                    refine W.eq (g2 := F0 m 266 ls [.int q15]) rfl ?_
                    refine lv_if_eq (tgt := 326) hx hb dX8_next_266 (by decide) (fun hc => ?_) (fun hc => ?_)
                    · have hf := x_iteT hf hc
                      cases hf
                      exact kk ls _ _ hl hW hS
                    · have hf := x_iteF hf hc
                      refine lv_aload_n hx hb dX8_next_269 rfl (lv_at hl 0 rfl) ?_
                      refine lv_aload_n hx hb dX8_next_270 rfl (lv_at hl 0 rfl) ?_
                      refine x_get (i := (g.1 + 189)) (k := 8) (j := 0) (t := 21) hx hb hts i_8 hown hK hW ⟨⟨hfl, rfl⟩, by decide⟩ rfl ⟨by decide, by decide, rfl⟩ (hts (.fieldLink RX8 303 "OpticalJukeboxModel" "then" "I") (by decide +kernel)) (rfl) dX8_next_271 ?_
                      refine lv_aload_n hx hb dX8_next_274 rfl (lv_at hl 0 rfl) ?_
                      refine x_get (i := (g.1 + 189)) (k := 8) (j := 0) (t := 20) hx hb hts i_8 hown hK hW ⟨⟨hfl, rfl⟩, by decide⟩ rfl ⟨by decide, by decide, rfl⟩ (hts (.fieldLink RX8 306 "OpticalJukeboxModel" "at" "I") (by decide +kernel)) (rfl) dX8_next_275 ?_
                      refine lv_isub hx hb dX8_next_278 ?_
                      refine lv_iconst (v := 5) hx hb dX8_next_279 (by decide) ?_
                      obtain ⟨K16, eK16, hf⟩ := x_letE hf
                      have KK16 : ∀ (y17 : Int32) (ls : Array Slot) (H : Heap) (locs : List Loc), lv_has ls 1 [(0, .ref (adr (g.1 + 189) 8 0))] → World g (wM w md_254 mn mw) H → va_S (gA g) s.heap H locs → K16 y17 = some q14 → W p l e rm_X8_next s m [.ref (adr (g.1 + 189) 8 0)].toArray below meth c H locs 0 0 QQ (F0 m 310 ls [.int y17, .ref (adr (g.1 + 189) 8 0)]) := by
                        intro y17 ls H locs hl hW hS hf
                        subst eK16
                        obtain ⟨md18, e_md18, hf⟩ := x_letE hf
                        refine x_put (i := (g.1 + 189)) (k := 8) (j := 0) (t := 23) (w' := wM w md18 mn mw) hx hb hts i_8 tyX8 tyX8_ok nmX8 hown hK hW ⟨⟨hfl, rfl⟩, by decide⟩ hS rfl ⟨by decide, by decide, rfl⟩ (hts (.fieldLink RX8 324 "OpticalJukeboxModel" "number" "I") (by decide +kernel)) rfl (ty := .int) (by decide +kernel) rfl rfl ⟨rfl, rfl⟩ dX8_next_310 (fp_M e_md18 rfl) (fun H locs hW hS => ?_)
                        refine lv_aload_n hx hb dX8_next_313 rfl (lv_at hl 0 rfl) ?_
                        refine lv_dup hx hb dX8_next_314 rfl ?_
                        refine x_get (i := (g.1 + 189)) (k := 8) (j := 0) (t := 21) hx hb hts i_8 hown hK hW ⟨⟨hfl, rfl⟩, by decide⟩ rfl ⟨by decide, by decide, rfl⟩ (hts (.fieldLink RX8 303 "OpticalJukeboxModel" "then" "I") (by decide +kernel)) (rfl) dX8_next_315 ?_
                        refine lv_iconst (v := 1) hx hb dX8_next_318 (by decide) ?_
                        refine lv_iadd hx hb dX8_next_319 ?_
                        obtain ⟨md19, e_md19, hf⟩ := x_letE hf
                        refine x_put (i := (g.1 + 189)) (k := 8) (j := 0) (t := 21) (w' := wM w md19 mn mw) hx hb hts i_8 tyX8 tyX8_ok nmX8 hown hK hW ⟨⟨hfl, rfl⟩, by decide⟩ hS rfl ⟨by decide, by decide, rfl⟩ (hts (.fieldLink RX8 303 "OpticalJukeboxModel" "then" "I") (by decide +kernel)) rfl (ty := .int) (by decide +kernel) rfl rfl ⟨rfl, rfl⟩ dX8_next_320 (fp_M e_md19 rfl) (fun H locs hW hS => ?_)
                        refine lv_goto (tgt := 254) hx hb dX8_next_323 (by decide) ?_
                        exact ih (md19) ls _ _ hl hW hS hf kk
                      clear eK16
                      refine lv_icmp_ge (tgt := 306) hx hb dX8_next_280 (by decide) (fun hc => ?_) (fun hc => ?_)
                      · have hf := x_iteT hf hc
                        refine lv_aload_n hx hb dX8_next_306 rfl (lv_at hl 0 rfl) ?_
                        refine x_get (i := (g.1 + 189)) (k := 8) (j := 0) (t := 23) hx hb hts i_8 hown hK hW ⟨⟨hfl, rfl⟩, by decide⟩ rfl ⟨by decide, by decide, rfl⟩ (hts (.fieldLink RX8 324 "OpticalJukeboxModel" "number" "I") (by decide +kernel)) (rfl) dX8_next_307 ?_
                        exact KK16 ((md_254 8 0 23)) ls _ _ hl hW hS hf
                      · have hf := x_iteF hf hc
                        refine lv_bipush (v := 10) hx hb dX8_next_283 (by decide) ?_
                        refine lv_aload_n hx hb dX8_next_285 rfl (lv_at hl 0 rfl) ?_
                        refine x_get (i := (g.1 + 189)) (k := 8) (j := 0) (t := 23) hx hb hts i_8 hown hK hW ⟨⟨hfl, rfl⟩, by decide⟩ rfl ⟨by decide, by decide, rfl⟩ (hts (.fieldLink RX8 324 "OpticalJukeboxModel" "number" "I") (by decide +kernel)) (rfl) dX8_next_286 ?_
                        refine lv_imul hx hb dX8_next_289 ?_
                        refine lv_aload_n hx hb dX8_next_290 rfl (lv_at hl 0 rfl) ?_
                        refine x_get (i := (g.1 + 189)) (k := 8) (j := 0) (t := 13) hx hb hts i_8 hown hK hW ⟨⟨hfl, rfl⟩, by decide⟩ rfl ⟨by decide, by decide, rfl⟩ (hts (.fieldLink RX8 35 "OpticalJukeboxModel" "buffer" "[B") (by decide +kernel)) (v := .ref (adr (g.1 + 189) 38 0)) rfl dX8_next_291 ?_
                        refine lv_aload_n hx hb dX8_next_294 rfl (lv_at hl 0 rfl) ?_
                        refine x_get (i := (g.1 + 189)) (k := 8) (j := 0) (t := 21) hx hb hts i_8 hown hK hW ⟨⟨hfl, rfl⟩, by decide⟩ rfl ⟨by decide, by decide, rfl⟩ (hts (.fieldLink RX8 303 "OpticalJukeboxModel" "then" "I") (by decide +kernel)) (rfl) dX8_next_295 ?_
                        obtain ⟨hg20, hf⟩ := x_guardE hf
                        refine x_bald (i := (g.1 + 189)) (k := 38) (j := 0) (f := md_254 38 0) hx hb hK hW ⟨⟨hfl, rfl⟩, by decide⟩ (by decide) (rfl) rfl hg20 dX8_next_298 ?_
                        refine lv_iadd hx hb dX8_next_299 ?_
                        refine lv_bipush (v := 48) hx hb dX8_next_300 (by decide) ?_
                        refine lv_isub hx hb dX8_next_302 ?_
                        refine lv_goto (tgt := 310) hx hb dX8_next_303 (by decide) ?_
                        exact KK16 (((((10 : Int32) * (md_254 8 0 23)) + (md_254 38 0 ((md_254 8 0 21)).toNatClampNeg)) - (48 : Int32))) ls _ _ hl hW hS hf
                refine L254 _ fuel (md13) ls _ _ hl hW hS h_q14 (fun ls H locs hl hW hS => ?_)
                refine lv_aload_n hx hb dX8_next_326 rfl (lv_at hl 0 rfl) ?_
                refine lv_aload_n hx hb dX8_next_327 rfl (lv_at hl 0 rfl) ?_
                refine x_get (i := (g.1 + 189)) (k := 8) (j := 0) (t := 21) hx hb hts i_8 hown hK hW ⟨⟨hfl, rfl⟩, by decide⟩ rfl ⟨by decide, by decide, rfl⟩ (hts (.fieldLink RX8 303 "OpticalJukeboxModel" "then" "I") (by decide +kernel)) (rfl) dX8_next_328 ?_
                refine lv_aload_n hx hb dX8_next_331 rfl (lv_at hl 0 rfl) ?_
                refine x_get (i := (g.1 + 189)) (k := 8) (j := 0) (t := 20) hx hb hts i_8 hown hK hW ⟨⟨hfl, rfl⟩, by decide⟩ rfl ⟨by decide, by decide, rfl⟩ (hts (.fieldLink RX8 306 "OpticalJukeboxModel" "at" "I") (by decide +kernel)) (rfl) dX8_next_332 ?_
                refine lv_isub hx hb dX8_next_335 ?_
                refine lv_iconst (v := 5) hx hb dX8_next_336 (by decide) ?_
                obtain ⟨K21, eK21, hf⟩ := x_letE hf
                have KK21 : ∀ (y22 : Int32) (ls : Array Slot) (H : Heap) (locs : List Loc), lv_has ls 1 [(0, .ref (adr (g.1 + 189) 8 0))] → World g (wM w q14 mn mw) H → va_S (gA g) s.heap H locs → K21 y22 = some q → W p l e rm_X8_next s m [.ref (adr (g.1 + 189) 8 0)].toArray below meth c H locs 0 0 (MQ below (cQv g (wM w q.1 mn q.2)) [.ref (adr (g.1 + 189) 8 0)].toArray s 0 0 (gA g)) (F0 m 345 ls [.int y22, .ref (adr (g.1 + 189) 8 0)]) := by
                  intro y22 ls H locs hl hW hS hf
                  subst eK21
                  obtain ⟨md23, e_md23, hf⟩ := x_letE hf
                  refine x_put (i := (g.1 + 189)) (k := 8) (j := 0) (t := 22) (w' := wM w md23 mn mw) hx hb hts i_8 tyX8 tyX8_ok nmX8 hown hK hW ⟨⟨hfl, rfl⟩, by decide⟩ hS rfl ⟨by decide, by decide, rfl⟩ (hts (.fieldLink RX8 313 "OpticalJukeboxModel" "sort" "I") (by decide +kernel)) rfl (ty := .int) (by decide +kernel) rfl rfl ⟨rfl, rfl⟩ dX8_next_345 (fp_M e_md23 rfl) (fun H locs hW hS => ?_)
                  cases hf
                  exact x_vret hx hb hr hlocks hK hW hS dX8_next_348
                clear eK21
                refine lv_icmp_le (tgt := 344) hx hb dX8_next_337 (by decide) (fun hc => ?_) (fun hc => ?_)
                · have hf := x_iteT hf hc
                  refine lv_iconst (v := 2) hx hb dX8_next_344 (by decide) ?_
                  exact KK21 ((2 : Int32)) ls _ _ hl hW hS hf
                · have hf := x_iteF hf hc
                  refine lv_iconst (v := 4) hx hb dX8_next_340 (by decide) ?_
                  refine lv_goto (tgt := 345) hx hb dX8_next_341 (by decide) ?_
                  exact KK21 ((4 : Int32)) ls _ _ hl hW hS hf
            · have hf := x_iteF hf hc
              refine lv_aload_n hx hb dX8_next_114 rfl (lv_at hl 0 rfl) ?_
              refine lv_lconst (v := 0) hx hb dX8_next_115 (by decide) ?_
              obtain ⟨mw24, e_mw24, hf⟩ := x_letE hf
              refine x_putV (i := (g.1 + 189)) (k := 8) (j := 0) (t := 26) (w' := wM w md9 mn mw24) hx hb hts i_8 tyX8 tyX8_ok nmX8 hown hK hW ⟨⟨hfl, rfl⟩, by decide⟩ hS rfl ⟨by decide, by decide, rfl⟩ (hts (.fieldLink RX8 316 "OpticalJukeboxModel" "word" "J") (by decide +kernel)) rfl (ty := .long) (by decide +kernel) rfl rfl dX8_next_116 (wf_mw e_mw24 hW) (fun H locs hW hS => ?_)
              refine lv_aload_n hx hb dX8_next_119 rfl (lv_at hl 0 rfl) ?_
              refine lv_aload_n hx hb dX8_next_120 rfl (lv_at hl 0 rfl) ?_
              refine x_get (i := (g.1 + 189)) (k := 8) (j := 0) (t := 20) hx hb hts i_8 hown hK hW ⟨⟨hfl, rfl⟩, by decide⟩ rfl ⟨by decide, by decide, rfl⟩ (hts (.fieldLink RX8 306 "OpticalJukeboxModel" "at" "I") (by decide +kernel)) (rfl) dX8_next_121 ?_
              obtain ⟨md25, e_md25, hf⟩ := x_letE hf
              refine x_put (i := (g.1 + 189)) (k := 8) (j := 0) (t := 21) (w' := wM w md25 mn mw24) hx hb hts i_8 tyX8 tyX8_ok nmX8 hown hK hW ⟨⟨hfl, rfl⟩, by decide⟩ hS rfl ⟨by decide, by decide, rfl⟩ (hts (.fieldLink RX8 303 "OpticalJukeboxModel" "then" "I") (by decide +kernel)) rfl (ty := .int) (by decide +kernel) rfl rfl ⟨rfl, rfl⟩ dX8_next_124 (fp_M e_md25 rfl) (fun H locs hW hS => ?_)
              obtain ⟨q26, h_q26, hf⟩ := x_bindE hf
              have L127 : ∀ (QQ : State → Prop) (n : Nat) (md_127 : SD) (mw_127 : Int64) (ls : Array Slot) (H : Heap) (locs : List Loc), lv_has ls 1 [(0, .ref (adr (g.1 + 189) 8 0))] → World g (wM w md_127 mn mw_127) H → va_S (gA g) s.heap H locs → f_X8_next_L127  n md_127 mw_127 = some q26 → (∀ (ls : Array Slot) (H : Heap) (locs : List Loc), lv_has ls 1 [(0, .ref (adr (g.1 + 189) 8 0))] → World g (wM w q26.1 mn q26.2) H → va_S (gA g) s.heap H locs → W p l e rm_X8_next s m [.ref (adr (g.1 + 189) 8 0)].toArray below meth c H locs 0 0 QQ (F0 m 200 ls [])) → W p l e rm_X8_next s m [.ref (adr (g.1 + 189) 8 0)].toArray below meth c H locs 0 0 QQ (F0 m 127 ls []) := by
                clear hW hS hl hf
                intro QQ n
                induction n with
                | zero => intro md_127 mw_127 ls H locs hl hW hS hf kk; cases hf
                | succ n_127 ih =>
                  intro md_127 mw_127 ls H locs hl hW hS hf kk
                  rw [f_X8_next_L127] at hf
                  refine lv_aload_n hx hb dX8_next_127 rfl (lv_at hl 0 rfl) ?_
                  refine lv_aload_n hx hb dX8_next_128 rfl (lv_at hl 0 rfl) ?_
                  refine x_get (i := (g.1 + 189)) (k := 8) (j := 0) (t := 21) hx hb hts i_8 hown hK hW ⟨⟨hfl, rfl⟩, by decide⟩ rfl ⟨by decide, by decide, rfl⟩ (hts (.fieldLink RX8 303 "OpticalJukeboxModel" "then" "I") (by decide +kernel)) (rfl) dX8_next_129 ?_
                  refine lv_bipush (v := 97) hx hb dX8_next_132 (by decide) ?_
                  refine lv_bipush (v := 122) hx hb dX8_next_134 (by decide) ?_
                  obtain ⟨q27, h_q27, hf⟩ := x_bindE hf
                  refine x_ci0 (x_rV ⟨hx, hb, hml, hown, hts⟩ (ct_X8_isOf l g hfl w md_127 mn mw_127 ((md_127 8 0 21)) ((97 : Int32)) ((122 : Int32)) h_q27) (cwV 3 hts gX8_next_X8_isOf rfl rfl rfl (by decide +kernel) ⟨Nat.le_of_ble_eq_true rfl, Nat.le_of_ble_eq_true rfl⟩) hK hW hS (x_recv (i := (g.1 + 189)) (k := 8) (j := 0) hK hW ⟨⟨hfl, rfl⟩, by decide⟩ rfl (by decide)) rfl hl.1 (rest := []) rfl (Nat.le_of_ble_eq_true rfl) dX8_next_136 ⟨Nat.le_of_ble_eq_true rfl, Nat.le_of_ble_eq_true rfl⟩) hS (fun H locs hW hS => ?_)
                  have hW : World g (wM w md_127 mn mw_127) H := hW
                  refine W.eq (g2 := F0 m 139 ls [.int q27]) rfl ?_
                  refine lv_if_eq (tgt := 200) hx hb dX8_next_139 (by decide) (fun hc => ?_) (fun hc => ?_)
                  · have hf := x_iteT hf hc
                    cases hf
                    exact kk ls _ _ hl hW hS
                  · have hf := x_iteF hf hc
                    refine lv_aload_n hx hb dX8_next_142 rfl (lv_at hl 0 rfl) ?_
                    refine lv_aload_n hx hb dX8_next_143 rfl (lv_at hl 0 rfl) ?_
                    refine x_get (i := (g.1 + 189)) (k := 8) (j := 0) (t := 21) hx hb hts i_8 hown hK hW ⟨⟨hfl, rfl⟩, by decide⟩ rfl ⟨by decide, by decide, rfl⟩ (hts (.fieldLink RX8 303 "OpticalJukeboxModel" "then" "I") (by decide +kernel)) (rfl) dX8_next_144 ?_
                    refine lv_aload_n hx hb dX8_next_147 rfl (lv_at hl 0 rfl) ?_
                    refine x_get (i := (g.1 + 189)) (k := 8) (j := 0) (t := 20) hx hb hts i_8 hown hK hW ⟨⟨hfl, rfl⟩, by decide⟩ rfl ⟨by decide, by decide, rfl⟩ (hts (.fieldLink RX8 306 "OpticalJukeboxModel" "at" "I") (by decide +kernel)) (rfl) dX8_next_148 ?_
                    refine lv_isub hx hb dX8_next_151 ?_
                    refine lv_bipush (v := 8) hx hb dX8_next_152 (by decide) ?_
                    obtain ⟨K28, eK28, hf⟩ := x_letE hf
                    have KK28 : ∀ (y29 : Int64) (ls : Array Slot) (H : Heap) (locs : List Loc), lv_has ls 1 [(0, .ref (adr (g.1 + 189) 8 0))] → World g (wM w md_127 mn mw_127) H → va_S (gA g) s.heap H locs → K28 y29 = some q26 → W p l e rm_X8_next s m [.ref (adr (g.1 + 189) 8 0)].toArray below meth c H locs 0 0 QQ (F0 m 184 ls [.long y29, .ref (adr (g.1 + 189) 8 0)]) := by
                      intro y29 ls H locs hl hW hS hf
                      subst eK28
                      obtain ⟨mw30, e_mw30, hf⟩ := x_letE hf
                      refine x_putV (i := (g.1 + 189)) (k := 8) (j := 0) (t := 26) (w' := wM w md_127 mn mw30) hx hb hts i_8 tyX8 tyX8_ok nmX8 hown hK hW ⟨⟨hfl, rfl⟩, by decide⟩ hS rfl ⟨by decide, by decide, rfl⟩ (hts (.fieldLink RX8 316 "OpticalJukeboxModel" "word" "J") (by decide +kernel)) rfl (ty := .long) (by decide +kernel) rfl rfl dX8_next_184 (wf_mw e_mw30 hW) (fun H locs hW hS => ?_)
                      refine lv_aload_n hx hb dX8_next_187 rfl (lv_at hl 0 rfl) ?_
                      refine lv_dup hx hb dX8_next_188 rfl ?_
                      refine x_get (i := (g.1 + 189)) (k := 8) (j := 0) (t := 21) hx hb hts i_8 hown hK hW ⟨⟨hfl, rfl⟩, by decide⟩ rfl ⟨by decide, by decide, rfl⟩ (hts (.fieldLink RX8 303 "OpticalJukeboxModel" "then" "I") (by decide +kernel)) (rfl) dX8_next_189 ?_
                      refine lv_iconst (v := 1) hx hb dX8_next_192 (by decide) ?_
                      refine lv_iadd hx hb dX8_next_193 ?_
                      obtain ⟨md31, e_md31, hf⟩ := x_letE hf
                      refine x_put (i := (g.1 + 189)) (k := 8) (j := 0) (t := 21) (w' := wM w md31 mn mw30) hx hb hts i_8 tyX8 tyX8_ok nmX8 hown hK hW ⟨⟨hfl, rfl⟩, by decide⟩ hS rfl ⟨by decide, by decide, rfl⟩ (hts (.fieldLink RX8 303 "OpticalJukeboxModel" "then" "I") (by decide +kernel)) rfl (ty := .int) (by decide +kernel) rfl rfl ⟨rfl, rfl⟩ dX8_next_194 (fp_M e_md31 rfl) (fun H locs hW hS => ?_)
                      refine lv_goto (tgt := 127) hx hb dX8_next_197 (by decide) ?_
                      exact ih (md31) (mw30) ls _ _ hl hW hS hf kk
                    clear eK28
                    refine lv_icmp_ge (tgt := 183) hx hb dX8_next_154 (by decide) (fun hc => ?_) (fun hc => ?_)
                    · have hf := x_iteT hf hc
                      refine lv_lconst (v := 0) hx hb dX8_next_183 (by decide) ?_
                      exact KK28 ((0 : Int64)) ls _ _ hl hW hS hf
                    · have hf := x_iteF hf hc
                      refine lv_ldc2 (v := 27) hx hb hown (hts (.constantLong RX8 320 (27)) (by decide +kernel)) dX8_next_157 ?_
                      refine lv_aload_n hx hb dX8_next_160 rfl (lv_at hl 0 rfl) ?_
                      refine x_get (i := (g.1 + 189)) (k := 8) (j := 0) (t := 26) hx hb hts i_8 hown hK hW ⟨⟨hfl, rfl⟩, by decide⟩ rfl ⟨by decide, by decide, rfl⟩ (hts (.fieldLink RX8 316 "OpticalJukeboxModel" "word" "J") (by decide +kernel)) rfl dX8_next_161 ?_
                      refine lv_lmul hx hb dX8_next_164 ?_
                      refine lv_aload_n hx hb dX8_next_165 rfl (lv_at hl 0 rfl) ?_
                      refine x_get (i := (g.1 + 189)) (k := 8) (j := 0) (t := 13) hx hb hts i_8 hown hK hW ⟨⟨hfl, rfl⟩, by decide⟩ rfl ⟨by decide, by decide, rfl⟩ (hts (.fieldLink RX8 35 "OpticalJukeboxModel" "buffer" "[B") (by decide +kernel)) (v := .ref (adr (g.1 + 189) 38 0)) rfl dX8_next_166 ?_
                      refine lv_aload_n hx hb dX8_next_169 rfl (lv_at hl 0 rfl) ?_
                      refine x_get (i := (g.1 + 189)) (k := 8) (j := 0) (t := 21) hx hb hts i_8 hown hK hW ⟨⟨hfl, rfl⟩, by decide⟩ rfl ⟨by decide, by decide, rfl⟩ (hts (.fieldLink RX8 303 "OpticalJukeboxModel" "then" "I") (by decide +kernel)) (rfl) dX8_next_170 ?_
                      obtain ⟨hg32, hf⟩ := x_guardE hf
                      refine x_bald (i := (g.1 + 189)) (k := 38) (j := 0) (f := md_127 38 0) hx hb hK hW ⟨⟨hfl, rfl⟩, by decide⟩ (by decide) (rfl) rfl hg32 dX8_next_173 ?_
                      refine lv_i2l hx hb dX8_next_174 rfl ?_
                      refine lv_ladd hx hb dX8_next_175 ?_
                      refine lv_ldc2 (v := 96) hx hb hown (hts (.constantLong RX8 322 (96)) (by decide +kernel)) dX8_next_176 ?_
                      refine lv_lsub hx hb dX8_next_179 ?_
                      refine lv_goto (tgt := 184) hx hb dX8_next_180 (by decide) ?_
                      exact KK28 (((((27 : Int64) * mw_127) + ((md_127 38 0 ((md_127 8 0 21)).toNatClampNeg)).toInt64) - (96 : Int64))) ls _ _ hl hW hS hf
              refine L127 _ fuel (md25) (mw24) ls _ _ hl hW hS h_q26 (fun ls H locs hl hW hS => ?_)
              refine lv_aload_n hx hb dX8_next_200 rfl (lv_at hl 0 rfl) ?_
              refine lv_aload_n hx hb dX8_next_201 rfl (lv_at hl 0 rfl) ?_
              refine x_get (i := (g.1 + 189)) (k := 8) (j := 0) (t := 21) hx hb hts i_8 hown hK hW ⟨⟨hfl, rfl⟩, by decide⟩ rfl ⟨by decide, by decide, rfl⟩ (hts (.fieldLink RX8 303 "OpticalJukeboxModel" "then" "I") (by decide +kernel)) (rfl) dX8_next_202 ?_
              refine lv_aload_n hx hb dX8_next_205 rfl (lv_at hl 0 rfl) ?_
              refine x_get (i := (g.1 + 189)) (k := 8) (j := 0) (t := 20) hx hb hts i_8 hown hK hW ⟨⟨hfl, rfl⟩, by decide⟩ rfl ⟨by decide, by decide, rfl⟩ (hts (.fieldLink RX8 306 "OpticalJukeboxModel" "at" "I") (by decide +kernel)) (rfl) dX8_next_206 ?_
              refine lv_isub hx hb dX8_next_209 ?_
              refine lv_bipush (v := 8) hx hb dX8_next_210 (by decide) ?_
              obtain ⟨K33, eK33, hf⟩ := x_letE hf
              have KK33 : ∀ (y34 : Int32) (ls : Array Slot) (H : Heap) (locs : List Loc), lv_has ls 1 [(0, .ref (adr (g.1 + 189) 8 0))] → World g (wM w q26.1 mn q26.2) H → va_S (gA g) s.heap H locs → K33 y34 = some q → W p l e rm_X8_next s m [.ref (adr (g.1 + 189) 8 0)].toArray below meth c H locs 0 0 (MQ below (cQv g (wM w q.1 mn q.2)) [.ref (adr (g.1 + 189) 8 0)].toArray s 0 0 (gA g)) (F0 m 220 ls [.int y34, .ref (adr (g.1 + 189) 8 0)]) := by
                intro y34 ls H locs hl hW hS hf
                subst eK33
                obtain ⟨md35, e_md35, hf⟩ := x_letE hf
                refine x_put (i := (g.1 + 189)) (k := 8) (j := 0) (t := 22) (w' := wM w md35 mn q26.2) hx hb hts i_8 tyX8 tyX8_ok nmX8 hown hK hW ⟨⟨hfl, rfl⟩, by decide⟩ hS rfl ⟨by decide, by decide, rfl⟩ (hts (.fieldLink RX8 313 "OpticalJukeboxModel" "sort" "I") (by decide +kernel)) rfl (ty := .int) (by decide +kernel) rfl rfl ⟨rfl, rfl⟩ dX8_next_220 (fp_M e_md35 rfl) (fun H locs hW hS => ?_)
                refine lv_goto (tgt := 348) hx hb dX8_next_223 (by decide) ?_
                cases hf
                exact x_vret hx hb hr hlocks hK hW hS dX8_next_348
              clear eK33
              refine lv_icmp_le (tgt := 219) hx hb dX8_next_212 (by decide) (fun hc => ?_) (fun hc => ?_)
              · have hf := x_iteT hf hc
                refine lv_iconst (v := 1) hx hb dX8_next_219 (by decide) ?_
                exact KK33 ((1 : Int32)) ls _ _ hl hW hS hf
              · have hf := x_iteF hf hc
                refine lv_iconst (v := 4) hx hb dX8_next_215 (by decide) ?_
                refine lv_goto (tgt := 220) hx hb dX8_next_216 (by decide) ?_
                exact KK33 ((4 : Int32)) ls _ _ hl hW hS hf
          clear eK7
          refine lv_icmp_lt (tgt := 77) hx hb dX8_next_70 (by decide) (fun hc => ?_) (fun hc => ?_)
          · have hf := x_iteT hf hc
            refine lv_aload_n hx hb dX8_next_77 rfl (lv_at hl 0 rfl) ?_
            refine x_get (i := (g.1 + 189)) (k := 8) (j := 0) (t := 13) hx hb hts i_8 hown hK hW ⟨⟨hfl, rfl⟩, by decide⟩ rfl ⟨by decide, by decide, rfl⟩ (hts (.fieldLink RX8 35 "OpticalJukeboxModel" "buffer" "[B") (by decide +kernel)) (v := .ref (adr (g.1 + 189) 38 0)) rfl dX8_next_78 ?_
            refine lv_aload_n hx hb dX8_next_81 rfl (lv_at hl 0 rfl) ?_
            refine x_get (i := (g.1 + 189)) (k := 8) (j := 0) (t := 20) hx hb hts i_8 hown hK hW ⟨⟨hfl, rfl⟩, by decide⟩ rfl ⟨by decide, by decide, rfl⟩ (hts (.fieldLink RX8 306 "OpticalJukeboxModel" "at" "I") (by decide +kernel)) (rfl) dX8_next_82 ?_
            obtain ⟨hg36, hf⟩ := x_guardE hf
            refine x_bald (i := (g.1 + 189)) (k := 38) (j := 0) (f := md6 38 0) hx hb hK hW ⟨⟨hfl, rfl⟩, by decide⟩ (by decide) (rfl) rfl hg36 dX8_next_85 ?_
            refine lv_bipush (v := 59) hx hb dX8_next_86 (by decide) ?_
            refine lv_icmp_ne (tgt := 95) hx hb dX8_next_88 (by decide) (fun hc => ?_) (fun hc => ?_)
            · have hf := x_iteF hf hc
              refine lv_iconst (v := 4) hx hb dX8_next_95 (by decide) ?_
              exact KK7 ((4 : Int32)) ls _ _ hl hW hS hf
            · have hf := x_iteT hf hc
              refine lv_iconst (v := 3) hx hb dX8_next_91 (by decide) ?_
              refine lv_goto (tgt := 96) hx hb dX8_next_92 (by decide) ?_
              exact KK7 ((3 : Int32)) ls _ _ hl hW hS hf
          · have hf := x_iteF hf hc
            refine lv_iconst (v := 0) hx hb dX8_next_73 (by decide) ?_
            refine lv_goto (tgt := 96) hx hb dX8_next_74 (by decide) ?_
            exact KK7 ((0 : Int32)) ls _ _ hl hW hS hf
        · have hf := x_iteF hf hc
          exact KK3 (()) ls _ _ hl hW hS hf
  exact L8 fuel (md1) ls _ _ hl hW hS hf
abbrev rm_X8_good : Room := { frames := 0, cells := 0, slots := 0, locals := 0 }
set_option maxRecDepth 100000 in
set_option maxHeartbeats 4000000 in
theorem ct_X8_good (l : Launch) (g : GT) (hfl : 2 ≤ gf g) (w : WT) (md : SD) (mn : Nat → Int64) (mw : Int64) {q : Int32} (hf : f_X8_good md  = some q) : Met l yX8_good wsX8_good rm_X8_good (cPre g (wM w md mn mw) [.ref (adr (g.1 + 189) 8 0)]) (cQi g q (wM w md mn mw)) 0 0 (gA g) := by
  have i_8 : ∀ w ∈ u_ws RX8 TX8 27, w ∈ wsX8_good := by decide +kernel
  refine x_met (by decide) rfl (Nat.le_of_ble_eq_true rfl) ?_
  intro p e s m below meth c hx hb hr hml hts hown hlocks hK hW hS ls hl
  have hown : s.vm.findClass RX8 = some m.cls := hown
  have hl : lv_has ls 1 [(0, .ref (adr (g.1 + 189) 8 0))] := hl
  rw [f_X8_good] at hf
  refine lv_aload_n hx hb dX8_good_0 rfl (lv_at hl 0 rfl) ?_
  refine x_get (i := (g.1 + 189)) (k := 8) (j := 0) (t := 18) hx hb hts i_8 hown hK hW ⟨⟨hfl, rfl⟩, by decide⟩ rfl ⟨by decide, by decide, rfl⟩ (hts (.fieldLink RX8 327 "OpticalJukeboxModel" "wrong" "I") (by decide +kernel)) (rfl) dX8_good_1 ?_
  refine lv_if_ne (tgt := 11) hx hb dX8_good_4 (by decide) (fun hc => ?_) (fun hc => ?_)
  · have hf := x_iteF hf hc
    refine lv_iconst (v := 0) hx hb dX8_good_11 (by decide) ?_
    cases hf
    exact x_zret hx hb hr hlocks hK hW hS (Or.inl rfl) rfl dX8_good_12
  · have hf := x_iteT hf hc
    refine lv_iconst (v := 1) hx hb dX8_good_7 (by decide) ?_
    refine lv_goto (tgt := 12) hx hb dX8_good_8 (by decide) ?_
    cases hf
    exact x_zret hx hb hr hlocks hK hW hS (Or.inr rfl) rfl dX8_good_12
abbrev rm_X8_must : Room := { frames := 0, cells := 0, slots := 0, locals := 0 }
set_option maxRecDepth 100000 in
set_option maxHeartbeats 4000000 in
theorem ct_X8_must (l : Launch) (g : GT) (hfl : 2 ≤ gf g) (w : WT) (md : SD) (mn : Nat → Int64) (mw : Int64) (a1 : Int32) (a2 : Int32) {q : SD} (hf : f_X8_must md a1 a2 = some q) : Met l yX8_must wsX8_must rm_X8_must (cPre g (wM w md mn mw) [.ref (adr (g.1 + 189) 8 0), .int a1, .int a2]) (cQv g (wM w q mn mw)) 0 0 (gA g) := by
  have i_8 : ∀ w ∈ u_ws RX8 TX8 27, w ∈ wsX8_must := by decide +kernel
  refine x_met (by decide) rfl (Nat.le_of_ble_eq_true rfl) ?_
  intro p e s m below meth c hx hb hr hml hts hown hlocks hK hW hS ls hl
  have hown : s.vm.findClass RX8 = some m.cls := hown
  have hl : lv_has ls 3 [(0, .ref (adr (g.1 + 189) 8 0)), (1, .int a1), (2, .int a2)] := hl
  rw [f_X8_must] at hf
  refine lv_iload_n hx hb dX8_must_0 rfl (lv_at hl 1 rfl) ?_
  refine lv_if_ne (tgt := 11) hx hb dX8_must_1 (by decide) (fun hc => ?_) (fun hc => ?_)
  · have hf := x_iteF hf hc
    cases hf
    exact x_vret hx hb hr hlocks hK hW hS dX8_must_11
  · have hf := x_iteT hf hc
    refine lv_aload_n hx hb dX8_must_4 rfl (lv_at hl 0 rfl) ?_
    refine x_get (i := (g.1 + 189)) (k := 8) (j := 0) (t := 18) hx hb hts i_8 hown hK hW ⟨⟨hfl, rfl⟩, by decide⟩ rfl ⟨by decide, by decide, rfl⟩ (hts (.fieldLink RX8 327 "OpticalJukeboxModel" "wrong" "I") (by decide +kernel)) (rfl) dX8_must_5 ?_
    refine lv_if_le (tgt := 12) hx hb dX8_must_8 (by decide) (fun hc => ?_) (fun hc => ?_)
    · have hf := x_iteT hf hc
      refine lv_aload_n hx hb dX8_must_12 rfl (lv_at hl 0 rfl) ?_
      refine lv_iload_n hx hb dX8_must_13 rfl (lv_at hl 2 rfl) ?_
      refine lv_iconst (v := 2) hx hb dX8_must_14 (by decide) ?_
      obtain ⟨K1, eK1, hf⟩ := x_letE hf
      have KK1 : ∀ (y2 : Int32) (ls : Array Slot) (H : Heap) (locs : List Loc), lv_has ls 3 [(0, .ref (adr (g.1 + 189) 8 0)), (1, .int a1), (2, .int a2)] → World g (wM w md mn mw) H → va_S (gA g) s.heap H locs → K1 y2 = some q → W p l e rm_X8_must s m [.ref (adr (g.1 + 189) 8 0), .int a1, .int a2].toArray below meth c H locs 0 0 (MQ below (cQv g (wM w q mn mw)) [.ref (adr (g.1 + 189) 8 0), .int a1, .int a2].toArray s 0 0 (gA g)) (F0 m 31 ls [.int y2, .ref (adr (g.1 + 189) 8 0)]) := by
        intro y2 ls H locs hl hW hS hf
        subst eK1
        obtain ⟨md3, e_md3, hf⟩ := x_letE hf
        refine x_put (i := (g.1 + 189)) (k := 8) (j := 0) (t := 18) (w' := wM w md3 mn mw) hx hb hts i_8 tyX8 tyX8_ok nmX8 hown hK hW ⟨⟨hfl, rfl⟩, by decide⟩ hS rfl ⟨by decide, by decide, rfl⟩ (hts (.fieldLink RX8 327 "OpticalJukeboxModel" "wrong" "I") (by decide +kernel)) rfl (ty := .int) (by decide +kernel) rfl rfl ⟨rfl, rfl⟩ dX8_must_31 (fp_M e_md3 rfl) (fun H locs hW hS => ?_)
        refine lv_aload_n hx hb dX8_must_34 rfl (lv_at hl 0 rfl) ?_
        refine lv_aload_n hx hb dX8_must_35 rfl (lv_at hl 0 rfl) ?_
        refine x_get (i := (g.1 + 189)) (k := 8) (j := 0) (t := 20) hx hb hts i_8 hown hK hW ⟨⟨hfl, rfl⟩, by decide⟩ rfl ⟨by decide, by decide, rfl⟩ (hts (.fieldLink RX8 306 "OpticalJukeboxModel" "at" "I") (by decide +kernel)) (rfl) dX8_must_36 ?_
        obtain ⟨md4, e_md4, hf⟩ := x_letE hf
        refine x_put (i := (g.1 + 189)) (k := 8) (j := 0) (t := 19) (w' := wM w md4 mn mw) hx hb hts i_8 tyX8 tyX8_ok nmX8 hown hK hW ⟨⟨hfl, rfl⟩, by decide⟩ hS rfl ⟨by decide, by decide, rfl⟩ (hts (.fieldLink RX8 330 "OpticalJukeboxModel" "wrongAt" "I") (by decide +kernel)) rfl (ty := .int) (by decide +kernel) rfl rfl ⟨rfl, rfl⟩ dX8_must_39 (fp_M e_md4 rfl) (fun H locs hW hS => ?_)
        cases hf
        exact x_vret hx hb hr hlocks hK hW hS dX8_must_42
      clear eK1
      obtain ⟨K5, eK5, hf⟩ := x_letE hf
      have KK5 : ∀ (_u : Unit) (ls : Array Slot) (H : Heap) (locs : List Loc), lv_has ls 3 [(0, .ref (adr (g.1 + 189) 8 0)), (1, .int a1), (2, .int a2)] → World g (wM w md mn mw) H → va_S (gA g) s.heap H locs → K5 _u = some q → W p l e rm_X8_must s m [.ref (adr (g.1 + 189) 8 0), .int a1, .int a2].toArray below meth c H locs 0 0 (MQ below (cQv g (wM w q mn mw)) [.ref (adr (g.1 + 189) 8 0), .int a1, .int a2].toArray s 0 0 (gA g)) (F0 m 30 ls [.ref (adr (g.1 + 189) 8 0)]) := by
        intro _u ls H locs hl hW hS hf
        subst eK5
        refine lv_iload_n hx hb dX8_must_30 rfl (lv_at hl 2 rfl) ?_
        exact KK1 (a2) ls _ _ hl hW hS hf
      clear eK5
      refine lv_icmp_ne (tgt := 30) hx hb dX8_must_15 (by decide) (fun hc => ?_) (fun hc => ?_)
      · have hf := x_iteF hf hc
        exact KK5 (()) ls _ _ hl hW hS hf
      · have hf := x_iteT hf hc
        refine lv_aload_n hx hb dX8_must_18 rfl (lv_at hl 0 rfl) ?_
        refine x_get (i := (g.1 + 189)) (k := 8) (j := 0) (t := 22) hx hb hts i_8 hown hK hW ⟨⟨hfl, rfl⟩, by decide⟩ rfl ⟨by decide, by decide, rfl⟩ (hts (.fieldLink RX8 313 "OpticalJukeboxModel" "sort" "I") (by decide +kernel)) (rfl) dX8_must_19 ?_
        refine lv_iconst (v := 4) hx hb dX8_must_22 (by decide) ?_
        refine lv_icmp_ne (tgt := 30) hx hb dX8_must_23 (by decide) (fun hc => ?_) (fun hc => ?_)
        · have hf := x_iteF hf hc
          exact KK5 (()) ls _ _ hl hW hS hf
        · have hf := x_iteT hf hc
          refine lv_iconst (v := 1) hx hb dX8_must_26 (by decide) ?_
          refine lv_goto (tgt := 31) hx hb dX8_must_27 (by decide) ?_
          exact KK1 ((1 : Int32)) ls _ _ hl hW hS hf
    · have hf := x_iteF hf hc
      cases hf
      exact x_vret hx hb hr hlocks hK hW hS dX8_must_11
