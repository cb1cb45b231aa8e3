set_option maxRecDepth 20000 in
theorem ggX8_takesBack_X8_copies : GoodIn wsX8_takesBack wsX8_copies := goodIn_r _ [7] (by decide +kernel) (by decide +kernel)
set_option maxRecDepth 20000 in
theorem gX8_takesBack_X8_copies : GoodIn wsX8_takesBack (va_wsS RX8 129 yX8_copies wsX8_copies) := goodIn_app (goodIn_of _ (by decide +kernel)) ggX8_takesBack_X8_copies
theorem dX8_takesBack_0 : decode cX8_takesBack 0 = .ok (.aload_n 0, 1) := by decide +kernel
theorem dX8_takesBack_1 : decode cX8_takesBack 1 = .ok (.getfield 7, 3) := by decide +kernel
theorem dX8_takesBack_4 : decode cX8_takesBack 4 = .ok (.bipush 12, 2) := by decide +kernel
theorem dX8_takesBack_6 : decode cX8_takesBack 6 = .ok (.iaload, 1) := by decide +kernel
theorem dX8_takesBack_7 : decode cX8_takesBack 7 = .ok (.aload_n 0, 1) := by decide +kernel
theorem dX8_takesBack_8 : decode cX8_takesBack 8 = .ok (.getfield 133, 3) := by decide +kernel
theorem dX8_takesBack_11 : decode cX8_takesBack 11 = .ok (.isub, 1) := by decide +kernel
theorem dX8_takesBack_12 : decode cX8_takesBack 12 = .ok (.istore_n 1, 1) := by decide +kernel
theorem dX8_takesBack_13 : decode cX8_takesBack 13 = .ok (.aload_n 0, 1) := by decide +kernel
theorem dX8_takesBack_14 : decode cX8_takesBack 14 = .ok (.getfield 16, 3) := by decide +kernel
theorem dX8_takesBack_17 : decode cX8_takesBack 17 = .ok (.aload_n 0, 1) := by decide +kernel
theorem dX8_takesBack_18 : decode cX8_takesBack 18 = .ok (.getfield 7, 3) := by decide +kernel
theorem dX8_takesBack_21 : decode cX8_takesBack 21 = .ok (.invokestatic 129, 3) := by decide +kernel
theorem dX8_takesBack_24 : decode cX8_takesBack 24 = .ok (.iload_n 1, 1) := by decide +kernel
theorem dX8_takesBack_25 : decode cX8_takesBack 25 = .ok (.ireturn, 1) := by decide +kernel
set_option maxRecDepth 20000 in
theorem ggX8_bringTime_X8_tries : GoodIn wsX8_bringTime wsX8_tries := goodIn_r _ [5, 6, 7, 8, 9, 10, 4, 11, 39, 40, 41, 42, 43, 44, 45, 46, 47, 48, 49, 50, 51, 52, 53, 54, 55, 56, 57, 58, 59, 60, 61, 62, 63, 64, 65] (by decide +kernel) (by decide +kernel)
set_option maxRecDepth 20000 in
theorem gX8_bringTime_X8_tries : GoodIn wsX8_bringTime (wsV RX8 136 RX8 yX8_tries wsX8_tries) := goodIn_app (goodIn_of _ (by decide +kernel)) ggX8_bringTime_X8_tries
set_option maxRecDepth 20000 in
theorem ggX8_bringTime_X8_brings : GoodIn wsX8_bringTime wsX8_brings := goodIn_r _ [15, 6, 16, 17, 18, 4, 19, 20, 21, 22, 23, 24, 25, 26, 27, 28, 29, 30, 31, 32, 33, 34, 39, 40, 41, 42, 43, 44, 45, 46, 47, 48, 49, 50, 51, 52, 53, 54, 55, 56, 57, 58, 59, 60, 61, 62, 63, 64, 65] (by decide +kernel) (by decide +kernel)
set_option maxRecDepth 20000 in
theorem gX8_bringTime_X8_brings : GoodIn wsX8_bringTime (wsV RX8 119 RX8 yX8_brings wsX8_brings) := goodIn_app (goodIn_of _ (by decide +kernel)) ggX8_bringTime_X8_brings
set_option maxRecDepth 20000 in
theorem ggX8_bringTime_X8_takesBack : GoodIn wsX8_bringTime wsX8_takesBack := goodIn_r _ [38, 6, 8, 7, 9, 10, 4, 11, 39, 40, 41, 42, 43, 44, 45, 46, 47, 48, 49, 50, 51, 52, 53, 54, 55, 56, 57, 58, 59, 60, 61, 62, 63, 64, 65] (by decide +kernel) (by decide +kernel)
set_option maxRecDepth 20000 in
theorem gX8_bringTime_X8_takesBack : GoodIn wsX8_bringTime (wsV RX8 139 RX8 yX8_takesBack wsX8_takesBack) := goodIn_app (goodIn_of _ (by decide +kernel)) ggX8_bringTime_X8_takesBack
theorem dX8_bringTime_0 : decode cX8_bringTime 0 = .ok (.aload_n 0, 1) := by decide +kernel
theorem dX8_bringTime_1 : decode cX8_bringTime 1 = .ok (.invokevirtual 136, 3) := by decide +kernel
theorem dX8_bringTime_4 : decode cX8_bringTime 4 = .ok (.aload_n 0, 1) := by decide +kernel
theorem dX8_bringTime_5 : decode cX8_bringTime 5 = .ok (.iload_n 1, 1) := by decide +kernel
theorem dX8_bringTime_6 : decode cX8_bringTime 6 = .ok (.iload_n 2, 1) := by decide +kernel
theorem dX8_bringTime_7 : decode cX8_bringTime 7 = .ok (.invokevirtual 119, 3) := by decide +kernel
theorem dX8_bringTime_10 : decode cX8_bringTime 10 = .ok (.aload_n 0, 1) := by decide +kernel
theorem dX8_bringTime_11 : decode cX8_bringTime 11 = .ok (.invokevirtual 139, 3) := by decide +kernel
theorem dX8_bringTime_14 : decode cX8_bringTime 14 = .ok (.ireturn, 1) := by decide +kernel
set_option maxRecDepth 20000 in
theorem ggX8_timeFor_X8_inDrive : GoodIn wsX8_timeFor wsX8_inDrive := goodIn_r _ [5, 6, 51, 52, 53, 54, 55, 56, 57, 58, 59, 60, 61, 62, 63, 64, 65, 66, 67, 68, 69, 70, 71, 72, 73, 74, 75, 76, 77] (by decide +kernel) (by decide +kernel)
set_option maxRecDepth 20000 in
theorem gX8_timeFor_X8_inDrive : GoodIn wsX8_timeFor (wsV RX8 109 RX8 yX8_inDrive wsX8_inDrive) := goodIn_app (goodIn_of _ (by decide +kernel)) ggX8_timeFor_X8_inDrive
set_option maxRecDepth 20000 in
theorem ggX8_timeFor_X8_freeDrive : GoodIn wsX8_timeFor wsX8_freeDrive := goodIn_r _ [10, 6, 51, 52, 53, 54, 55, 56, 57, 58, 59, 60, 61, 62, 63, 64, 65, 66, 67, 68, 69, 70, 71, 72, 73, 74, 75, 76, 77] (by decide +kernel) (by decide +kernel)
set_option maxRecDepth 20000 in
theorem gX8_timeFor_X8_freeDrive : GoodIn wsX8_timeFor (wsV RX8 112 RX8 yX8_freeDrive wsX8_freeDrive) := goodIn_app (goodIn_of _ (by decide +kernel)) ggX8_timeFor_X8_freeDrive
set_option maxRecDepth 20000 in
theorem ggX8_timeFor_X8_bringTime : GoodIn wsX8_timeFor wsX8_bringTime := goodIn_r _ [14, 15, 16, 17, 4, 18, 6, 19, 20, 21, 22, 23, 24, 25, 26, 27, 28, 29, 30, 31, 32, 33, 34, 35, 36, 37, 38, 39, 40, 41, 42, 43, 44, 45, 46, 47, 48, 49, 50, 51, 52, 53, 54, 55, 56, 57, 58, 59, 60, 61, 62, 63, 64, 65, 66, 67, 68, 69, 70, 71, 72, 73, 74, 75, 76, 77] (by decide +kernel) (by decide +kernel)
set_option maxRecDepth 20000 in
theorem gX8_timeFor_X8_bringTime : GoodIn wsX8_timeFor (wsV RX8 142 RX8 yX8_bringTime wsX8_bringTime) := goodIn_app (goodIn_of _ (by decide +kernel)) ggX8_timeFor_X8_bringTime
theorem dX8_timeFor_0 : decode cX8_timeFor 0 = .ok (.aload_n 0, 1) := by decide +kernel
theorem dX8_timeFor_1 : decode cX8_timeFor 1 = .ok (.iload_n 1, 1) := by decide +kernel
theorem dX8_timeFor_2 : decode cX8_timeFor 2 = .ok (.invokevirtual 109, 3) := by decide +kernel
theorem dX8_timeFor_5 : decode cX8_timeFor 5 = .ok (.iconst (-1), 1) := by decide +kernel
theorem dX8_timeFor_6 : decode cX8_timeFor 6 = .ok (.if_icmp .eq 7, 3) := by decide +kernel
theorem dX8_timeFor_9 : decode cX8_timeFor 9 = .ok (.iconst 0, 1) := by decide +kernel
theorem dX8_timeFor_10 : decode cX8_timeFor 10 = .ok (.goto 12, 3) := by decide +kernel
theorem dX8_timeFor_13 : decode cX8_timeFor 13 = .ok (.aload_n 0, 1) := by decide +kernel
theorem dX8_timeFor_14 : decode cX8_timeFor 14 = .ok (.iload_n 1, 1) := by decide +kernel
theorem dX8_timeFor_15 : decode cX8_timeFor 15 = .ok (.aload_n 0, 1) := by decide +kernel
theorem dX8_timeFor_16 : decode cX8_timeFor 16 = .ok (.invokevirtual 112, 3) := by decide +kernel
theorem dX8_timeFor_19 : decode cX8_timeFor 19 = .ok (.invokevirtual 142, 3) := by decide +kernel
theorem dX8_timeFor_22 : decode cX8_timeFor 22 = .ok (.ireturn, 1) := by decide +kernel
set_option maxRecDepth 20000 in
theorem ggX8_findsWanted_X8_platterOf : GoodIn wsX8_findsWanted wsX8_platterOf := goodIn_r _ [8, 2, 9, 10, 11, 7, 12, 17, 18, 19, 20, 21, 22, 23, 24, 25, 26, 27, 28, 29, 30, 31, 32, 33, 34, 35, 36, 37, 38, 39, 40, 41, 42, 43] (by decide +kernel) (by decide +kernel)
set_option maxRecDepth 20000 in
theorem gX8_findsWanted_X8_platterOf : GoodIn wsX8_findsWanted (wsV RX8 123 RX8 yX8_platterOf wsX8_platterOf) := goodIn_app (goodIn_of _ (by decide +kernel)) ggX8_findsWanted_X8_platterOf
set_option maxRecDepth 20000 in
theorem ggX8_findsWanted_X8_inDrive : GoodIn wsX8_findsWanted wsX8_inDrive := goodIn_r _ [16, 2, 17, 18, 19, 20, 21, 22, 23, 24, 25, 26, 27, 28, 29, 30, 31, 32, 33, 34, 35, 36, 37, 38, 39, 40, 41, 42, 43] (by decide +kernel) (by decide +kernel)
set_option maxRecDepth 20000 in
theorem gX8_findsWanted_X8_inDrive : GoodIn wsX8_findsWanted (wsV RX8 109 RX8 yX8_inDrive wsX8_inDrive) := goodIn_app (goodIn_of _ (by decide +kernel)) ggX8_findsWanted_X8_inDrive
theorem dX8_findsWanted_0 : decode cX8_findsWanted 0 = .ok (.aload_n 0, 1) := by decide +kernel
theorem dX8_findsWanted_1 : decode cX8_findsWanted 1 = .ok (.iconst 0, 1) := by decide +kernel
theorem dX8_findsWanted_2 : decode cX8_findsWanted 2 = .ok (.putfield 145, 3) := by decide +kernel
theorem dX8_findsWanted_5 : decode cX8_findsWanted 5 = .ok (.iconst 0, 1) := by decide +kernel
theorem dX8_findsWanted_6 : decode cX8_findsWanted 6 = .ok (.istore_n 1, 1) := by decide +kernel
theorem dX8_findsWanted_7 : decode cX8_findsWanted 7 = .ok (.iload_n 1, 1) := by decide +kernel
theorem dX8_findsWanted_8 : decode cX8_findsWanted 8 = .ok (.aload_n 0, 1) := by decide +kernel
theorem dX8_findsWanted_9 : decode cX8_findsWanted 9 = .ok (.getfield 7, 3) := by decide +kernel
theorem dX8_findsWanted_12 : decode cX8_findsWanted 12 = .ok (.bipush 7, 2) := by decide +kernel
theorem dX8_findsWanted_14 : decode cX8_findsWanted 14 = .ok (.iaload, 1) := by decide +kernel
theorem dX8_findsWanted_15 : decode cX8_findsWanted 15 = .ok (.if_icmp .ge 94, 3) := by decide +kernel
theorem dX8_findsWanted_18 : decode cX8_findsWanted 18 = .ok (.iconst 0, 1) := by decide +kernel
theorem dX8_findsWanted_19 : decode cX8_findsWanted 19 = .ok (.istore_n 2, 1) := by decide +kernel
theorem dX8_findsWanted_20 : decode cX8_findsWanted 20 = .ok (.iconst 0, 1) := by decide +kernel
theorem dX8_findsWanted_21 : decode cX8_findsWanted 21 = .ok (.istore_n 3, 1) := by decide +kernel
theorem dX8_findsWanted_22 : decode cX8_findsWanted 22 = .ok (.iload_n 3, 1) := by decide +kernel
theorem dX8_findsWanted_23 : decode cX8_findsWanted 23 = .ok (.aload_n 0, 1) := by decide +kernel
theorem dX8_findsWanted_24 : decode cX8_findsWanted 24 = .ok (.getfield 7, 3) := by decide +kernel
theorem dX8_findsWanted_27 : decode cX8_findsWanted 27 = .ok (.bipush 16, 2) := by decide +kernel
theorem dX8_findsWanted_29 : decode cX8_findsWanted 29 = .ok (.iaload, 1) := by decide +kernel
theorem dX8_findsWanted_30 : decode cX8_findsWanted 30 = .ok (.if_icmp .ge 37, 3) := by decide +kernel
theorem dX8_findsWanted_33 : decode cX8_findsWanted 33 = .ok (.iload_n 2, 1) := by decide +kernel
theorem dX8_findsWanted_34 : decode cX8_findsWanted 34 = .ok (.ifCond .ne 21, 3) := by decide +kernel
theorem dX8_findsWanted_37 : decode cX8_findsWanted 37 = .ok (.aload_n 0, 1) := by decide +kernel
theorem dX8_findsWanted_38 : decode cX8_findsWanted 38 = .ok (.aload_n 0, 1) := by decide +kernel
theorem dX8_findsWanted_39 : decode cX8_findsWanted 39 = .ok (.getfield 7, 3) := by decide +kernel
theorem dX8_findsWanted_42 : decode cX8_findsWanted 42 = .ok (.sipush 589, 3) := by decide +kernel
theorem dX8_findsWanted_45 : decode cX8_findsWanted 45 = .ok (.iload_n 3, 1) := by decide +kernel
theorem dX8_findsWanted_46 : decode cX8_findsWanted 46 = .ok (.iadd, 1) := by decide +kernel
theorem dX8_findsWanted_47 : decode cX8_findsWanted 47 = .ok (.iaload, 1) := by decide +kernel
theorem dX8_findsWanted_48 : decode cX8_findsWanted 48 = .ok (.invokevirtual 123, 3) := by decide +kernel
theorem dX8_findsWanted_51 : decode cX8_findsWanted 51 = .ok (.iload_n 1, 1) := by decide +kernel
theorem dX8_findsWanted_52 : decode cX8_findsWanted 52 = .ok (.if_icmp .ne 7, 3) := by decide +kernel
theorem dX8_findsWanted_55 : decode cX8_findsWanted 55 = .ok (.iconst 1, 1) := by decide +kernel
theorem dX8_findsWanted_56 : decode cX8_findsWanted 56 = .ok (.goto 4, 3) := by decide +kernel
theorem dX8_findsWanted_59 : decode cX8_findsWanted 59 = .ok (.iconst 0, 1) := by decide +kernel
theorem dX8_findsWanted_60 : decode cX8_findsWanted 60 = .ok (.istore_n 2, 1) := by decide +kernel
theorem dX8_findsWanted_61 : decode cX8_findsWanted 61 = .ok (.iinc 3 1, 3) := by decide +kernel
theorem dX8_findsWanted_64 : decode cX8_findsWanted 64 = .ok (.goto (-42), 3) := by decide +kernel
theorem dX8_findsWanted_67 : decode cX8_findsWanted 67 = .ok (.iload_n 2, 1) := by decide +kernel
theorem dX8_findsWanted_68 : decode cX8_findsWanted 68 = .ok (.ifCond .eq 35, 3) := by decide +kernel
theorem dX8_findsWanted_71 : decode cX8_findsWanted 71 = .ok (.aload_n 0, 1) := by decide +kernel
theorem dX8_findsWanted_72 : decode cX8_findsWanted 72 = .ok (.iload_n 1, 1) := by decide +kernel
theorem dX8_findsWanted_73 : decode cX8_findsWanted 73 = .ok (.invokevirtual 109, 3) := by decide +kernel
theorem dX8_findsWanted_76 : decode cX8_findsWanted 76 = .ok (.iconst (-1), 1) := by decide +kernel
theorem dX8_findsWanted_77 : decode cX8_findsWanted 77 = .ok (.if_icmp .eq 6, 3) := by decide +kernel
theorem dX8_findsWanted_80 : decode cX8_findsWanted 80 = .ok (.goto 23, 3) := by decide +kernel
theorem dX8_findsWanted_83 : decode cX8_findsWanted 83 = .ok (.aload_n 0, 1) := by decide +kernel
theorem dX8_findsWanted_84 : decode cX8_findsWanted 84 = .ok (.getfield 22, 3) := by decide +kernel
theorem dX8_findsWanted_87 : decode cX8_findsWanted 87 = .ok (.aload_n 0, 1) := by decide +kernel
theorem dX8_findsWanted_88 : decode cX8_findsWanted 88 = .ok (.getfield 145, 3) := by decide +kernel
theorem dX8_findsWanted_91 : decode cX8_findsWanted 91 = .ok (.iload_n 1, 1) := by decide +kernel
theorem dX8_findsWanted_92 : decode cX8_findsWanted 92 = .ok (.iastore, 1) := by decide +kernel
theorem dX8_findsWanted_93 : decode cX8_findsWanted 93 = .ok (.aload_n 0, 1) := by decide +kernel
theorem dX8_findsWanted_94 : decode cX8_findsWanted 94 = .ok (.dup, 1) := by decide +kernel
theorem dX8_findsWanted_95 : decode cX8_findsWanted 95 = .ok (.getfield 145, 3) := by decide +kernel
theorem dX8_findsWanted_98 : decode cX8_findsWanted 98 = .ok (.iconst 1, 1) := by decide +kernel
theorem dX8_findsWanted_99 : decode cX8_findsWanted 99 = .ok (.iadd, 1) := by decide +kernel
theorem dX8_findsWanted_100 : decode cX8_findsWanted 100 = .ok (.putfield 145, 3) := by decide +kernel
theorem dX8_findsWanted_103 : decode cX8_findsWanted 103 = .ok (.iinc 1 1, 3) := by decide +kernel
theorem dX8_findsWanted_106 : decode cX8_findsWanted 106 = .ok (.goto (-99), 3) := by decide +kernel
theorem dX8_findsWanted_109 : decode cX8_findsWanted 109 = .ok (.return_, 1) := by decide +kernel
theorem dX8_homeOf_0 : decode cX8_homeOf 0 = .ok (.aload_n 0, 1) := by decide +kernel
theorem dX8_homeOf_1 : decode cX8_homeOf 1 = .ok (.getfield 7, 3) := by decide +kernel
theorem dX8_homeOf_4 : decode cX8_homeOf 4 = .ok (.bipush 29, 2) := by decide +kernel
theorem dX8_homeOf_6 : decode cX8_homeOf 6 = .ok (.aload_n 0, 1) := by decide +kernel
theorem dX8_homeOf_7 : decode cX8_homeOf 7 = .ok (.getfield 22, 3) := by decide +kernel
theorem dX8_homeOf_10 : decode cX8_homeOf 10 = .ok (.iload_n 1, 1) := by decide +kernel
theorem dX8_homeOf_11 : decode cX8_homeOf 11 = .ok (.iaload, 1) := by decide +kernel
theorem dX8_homeOf_12 : decode cX8_homeOf 12 = .ok (.iadd, 1) := by decide +kernel
theorem dX8_homeOf_13 : decode cX8_homeOf 13 = .ok (.iaload, 1) := by decide +kernel
theorem dX8_homeOf_14 : decode cX8_homeOf 14 = .ok (.ireturn, 1) := by decide +kernel
set_option maxRecDepth 20000 in
theorem ggX8_between_X8_homeOf : GoodIn wsX8_between wsX8_homeOf := goodIn_r _ [5, 6, 7, 11, 12, 13, 14, 15, 16, 17, 18, 19, 20, 21, 22, 23, 24, 25, 26, 27, 28, 29, 30, 31, 32, 33, 34, 35, 36, 37] (by decide +kernel) (by decide +kernel)
set_option maxRecDepth 20000 in
theorem gX8_between_X8_homeOf : GoodIn wsX8_between (wsV RX8 148 RX8 yX8_homeOf wsX8_homeOf) := goodIn_app (goodIn_of _ (by decide +kernel)) ggX8_between_X8_homeOf
set_option maxRecDepth 20000 in
theorem ggX8_between_X8_far : GoodIn wsX8_between wsX8_far := goodIn_r _ [10] (by decide +kernel) (by decide +kernel)
set_option maxRecDepth 20000 in
theorem gX8_between_X8_far : GoodIn wsX8_between (va_wsS RX8 93 yX8_far wsX8_far) := goodIn_app (goodIn_of _ (by decide +kernel)) ggX8_between_X8_far
theorem dX8_between_0 : decode cX8_between 0 = .ok (.iload_n 3, 1) := by decide +kernel
theorem dX8_between_1 : decode cX8_between 1 = .ok (.aload_n 0, 1) := by decide +kernel
theorem dX8_between_2 : decode cX8_between 2 = .ok (.iload_n 1, 1) := by decide +kernel
theorem dX8_between_3 : decode cX8_between 3 = .ok (.invokevirtual 148, 3) := by decide +kernel
theorem dX8_between_6 : decode cX8_between 6 = .ok (.invokestatic 93, 3) := by decide +kernel
theorem dX8_between_9 : decode cX8_between 9 = .ok (.aload_n 0, 1) := by decide +kernel
theorem dX8_between_10 : decode cX8_between 10 = .ok (.iload_n 1, 1) := by decide +kernel
theorem dX8_between_11 : decode cX8_between 11 = .ok (.invokevirtual 148, 3) := by decide +kernel
theorem dX8_between_14 : decode cX8_between 14 = .ok (.aload_n 0, 1) := by decide +kernel
theorem dX8_between_15 : decode cX8_between 15 = .ok (.iload_n 2, 1) := by decide +kernel
theorem dX8_between_16 : decode cX8_between 16 = .ok (.invokevirtual 148, 3) := by decide +kernel
theorem dX8_between_19 : decode cX8_between 19 = .ok (.invokestatic 93, 3) := by decide +kernel
theorem dX8_between_22 : decode cX8_between 22 = .ok (.iadd, 1) := by decide +kernel
theorem dX8_between_23 : decode cX8_between 23 = .ok (.aload_n 0, 1) := by decide +kernel
theorem dX8_between_24 : decode cX8_between 24 = .ok (.iload_n 2, 1) := by decide +kernel
theorem dX8_between_25 : decode cX8_between 25 = .ok (.invokevirtual 148, 3) := by decide +kernel
theorem dX8_between_28 : decode cX8_between 28 = .ok (.iload_n 3, 1) := by decide +kernel
theorem dX8_between_29 : decode cX8_between 29 = .ok (.invokestatic 93, 3) := by decide +kernel
theorem dX8_between_32 : decode cX8_between 32 = .ok (.iadd, 1) := by decide +kernel
theorem dX8_between_33 : decode cX8_between 33 = .ok (.ireturn, 1) := by decide +kernel
set_option maxRecDepth 20000 in
theorem ggX8_findsRest_X8_between : GoodIn wsX8_findsRest wsX8_between := goodIn_r _ [8, 9, 10, 11, 7, 12, 13, 14, 15, 16, 17, 18, 19, 20, 21, 22, 23, 24, 25, 26, 27, 28, 29, 30, 31, 32, 33, 34, 35, 36, 37, 38, 39, 40, 41, 42, 43, 44] (by decide +kernel) (by decide +kernel)
set_option maxRecDepth 20000 in
theorem gX8_findsRest_X8_between : GoodIn wsX8_findsRest (wsV RX8 152 RX8 yX8_between wsX8_between) := goodIn_app (goodIn_of _ (by decide +kernel)) ggX8_findsRest_X8_between
theorem dX8_findsRest_0 : decode cX8_findsRest 0 = .ok (.iconst 0, 1) := by decide +kernel
theorem dX8_findsRest_1 : decode cX8_findsRest 1 = .ok (.istore_n 2, 1) := by decide +kernel
theorem dX8_findsRest_2 : decode cX8_findsRest 2 = .ok (.iload_n 2, 1) := by decide +kernel
theorem dX8_findsRest_3 : decode cX8_findsRest 3 = .ok (.iconst 1, 1) := by decide +kernel
theorem dX8_findsRest_4 : decode cX8_findsRest 4 = .ok (.aload_n 0, 1) := by decide +kernel
theorem dX8_findsRest_5 : decode cX8_findsRest 5 = .ok (.getfield 145, 3) := by decide +kernel
theorem dX8_findsRest_8 : decode cX8_findsRest 8 = .ok (.ishl, 1) := by decide +kernel
theorem dX8_findsRest_9 : decode cX8_findsRest 9 = .ok (.if_icmp .ge 124, 3) := by decide +kernel
theorem dX8_findsRest_12 : decode cX8_findsRest 12 = .ok (.iconst 0, 1) := by decide +kernel
theorem dX8_findsRest_13 : decode cX8_findsRest 13 = .ok (.istore_n 3, 1) := by decide +kernel
theorem dX8_findsRest_14 : decode cX8_findsRest 14 = .ok (.iload_n 3, 1) := by decide +kernel
theorem dX8_findsRest_15 : decode cX8_findsRest 15 = .ok (.aload_n 0, 1) := by decide +kernel
theorem dX8_findsRest_16 : decode cX8_findsRest 16 = .ok (.getfield 145, 3) := by decide +kernel
theorem dX8_findsRest_19 : decode cX8_findsRest 19 = .ok (.if_icmp .ge 108, 3) := by decide +kernel
theorem dX8_findsRest_22 : decode cX8_findsRest 22 = .ok (.iload_n 2, 1) := by decide +kernel
theorem dX8_findsRest_23 : decode cX8_findsRest 23 = .ok (.ifCond .ne 7, 3) := by decide +kernel
theorem dX8_findsRest_26 : decode cX8_findsRest 26 = .ok (.iconst 0, 1) := by decide +kernel
theorem dX8_findsRest_27 : decode cX8_findsRest 27 = .ok (.goto 5, 3) := by decide +kernel
theorem dX8_findsRest_30 : decode cX8_findsRest 30 = .ok (.ldc 151, 2) := by decide +kernel
theorem dX8_findsRest_32 : decode cX8_findsRest 32 = .ok (.istore 4, 2) := by decide +kernel
theorem dX8_findsRest_34 : decode cX8_findsRest 34 = .ok (.iconst 0, 1) := by decide +kernel
theorem dX8_findsRest_35 : decode cX8_findsRest 35 = .ok (.istore 5, 2) := by decide +kernel
theorem dX8_findsRest_37 : decode cX8_findsRest 37 = .ok (.iload 5, 2) := by decide +kernel
theorem dX8_findsRest_39 : decode cX8_findsRest 39 = .ok (.aload_n 0, 1) := by decide +kernel
theorem dX8_findsRest_40 : decode cX8_findsRest 40 = .ok (.getfield 145, 3) := by decide +kernel
theorem dX8_findsRest_43 : decode cX8_findsRest 43 = .ok (.if_icmp .ge 65, 3) := by decide +kernel
theorem dX8_findsRest_46 : decode cX8_findsRest 46 = .ok (.iload_n 2, 1) := by decide +kernel
theorem dX8_findsRest_47 : decode cX8_findsRest 47 = .ok (.iload 5, 2) := by decide +kernel
theorem dX8_findsRest_49 : decode cX8_findsRest 49 = .ok (.ishr, 1) := by decide +kernel
theorem dX8_findsRest_50 : decode cX8_findsRest 50 = .ok (.iconst 1, 1) := by decide +kernel
theorem dX8_findsRest_51 : decode cX8_findsRest 51 = .ok (.iand, 1) := by decide +kernel
theorem dX8_findsRest_52 : decode cX8_findsRest 52 = .ok (.ifCond .ne 6, 3) := by decide +kernel
theorem dX8_findsRest_55 : decode cX8_findsRest 55 = .ok (.goto 47, 3) := by decide +kernel
theorem dX8_findsRest_58 : decode cX8_findsRest 58 = .ok (.aload_n 0, 1) := by decide +kernel
theorem dX8_findsRest_59 : decode cX8_findsRest 59 = .ok (.iload_n 3, 1) := by decide +kernel
theorem dX8_findsRest_60 : decode cX8_findsRest 60 = .ok (.iload 5, 2) := by decide +kernel
theorem dX8_findsRest_62 : decode cX8_findsRest 62 = .ok (.iload_n 1, 1) := by decide +kernel
theorem dX8_findsRest_63 : decode cX8_findsRest 63 = .ok (.invokevirtual 152, 3) := by decide +kernel
theorem dX8_findsRest_66 : decode cX8_findsRest 66 = .ok (.aload_n 0, 1) := by decide +kernel
theorem dX8_findsRest_67 : decode cX8_findsRest 67 = .ok (.getfield 28, 3) := by decide +kernel
theorem dX8_findsRest_70 : decode cX8_findsRest 70 = .ok (.bipush 10, 2) := by decide +kernel
theorem dX8_findsRest_72 : decode cX8_findsRest 72 = .ok (.iload_n 2, 1) := by decide +kernel
theorem dX8_findsRest_73 : decode cX8_findsRest 73 = .ok (.iconst 1, 1) := by decide +kernel
theorem dX8_findsRest_74 : decode cX8_findsRest 74 = .ok (.iload 5, 2) := by decide +kernel
theorem dX8_findsRest_76 : decode cX8_findsRest 76 = .ok (.ishl, 1) := by decide +kernel
theorem dX8_findsRest_77 : decode cX8_findsRest 77 = .ok (.isub, 1) := by decide +kernel
theorem dX8_findsRest_78 : decode cX8_findsRest 78 = .ok (.imul, 1) := by decide +kernel
theorem dX8_findsRest_79 : decode cX8_findsRest 79 = .ok (.iload 5, 2) := by decide +kernel
theorem dX8_findsRest_81 : decode cX8_findsRest 81 = .ok (.iadd, 1) := by decide +kernel
theorem dX8_findsRest_82 : decode cX8_findsRest 82 = .ok (.iaload, 1) := by decide +kernel
theorem dX8_findsRest_83 : decode cX8_findsRest 83 = .ok (.iadd, 1) := by decide +kernel
theorem dX8_findsRest_84 : decode cX8_findsRest 84 = .ok (.istore 6, 2) := by decide +kernel
theorem dX8_findsRest_86 : decode cX8_findsRest 86 = .ok (.iload 6, 2) := by decide +kernel
theorem dX8_findsRest_88 : decode cX8_findsRest 88 = .ok (.iload 4, 2) := by decide +kernel
theorem dX8_findsRest_90 : decode cX8_findsRest 90 = .ok (.if_icmp .ge 8, 3) := by decide +kernel
theorem dX8_findsRest_93 : decode cX8_findsRest 93 = .ok (.iload 6, 2) := by decide +kernel
theorem dX8_findsRest_95 : decode cX8_findsRest 95 = .ok (.goto 5, 3) := by decide +kernel
theorem dX8_findsRest_98 : decode cX8_findsRest 98 = .ok (.iload 4, 2) := by decide +kernel
theorem dX8_findsRest_100 : decode cX8_findsRest 100 = .ok (.istore 4, 2) := by decide +kernel
theorem dX8_findsRest_102 : decode cX8_findsRest 102 = .ok (.iinc 5 1, 3) := by decide +kernel
theorem dX8_findsRest_105 : decode cX8_findsRest 105 = .ok (.goto (-68), 3) := by decide +kernel
theorem dX8_findsRest_108 : decode cX8_findsRest 108 = .ok (.aload_n 0, 1) := by decide +kernel
theorem dX8_findsRest_109 : decode cX8_findsRest 109 = .ok (.getfield 28, 3) := by decide +kernel
theorem dX8_findsRest_112 : decode cX8_findsRest 112 = .ok (.bipush 10, 2) := by decide +kernel
theorem dX8_findsRest_114 : decode cX8_findsRest 114 = .ok (.iload_n 2, 1) := by decide +kernel
theorem dX8_findsRest_115 : decode cX8_findsRest 115 = .ok (.imul, 1) := by decide +kernel
theorem dX8_findsRest_116 : decode cX8_findsRest 116 = .ok (.iload_n 3, 1) := by decide +kernel
theorem dX8_findsRest_117 : decode cX8_findsRest 117 = .ok (.iadd, 1) := by decide +kernel
theorem dX8_findsRest_118 : decode cX8_findsRest 118 = .ok (.iload 4, 2) := by decide +kernel
theorem dX8_findsRest_120 : decode cX8_findsRest 120 = .ok (.iastore, 1) := by decide +kernel
theorem dX8_findsRest_121 : decode cX8_findsRest 121 = .ok (.iinc 3 1, 3) := by decide +kernel
theorem dX8_findsRest_124 : decode cX8_findsRest 124 = .ok (.goto (-110), 3) := by decide +kernel
theorem dX8_findsRest_127 : decode cX8_findsRest 127 = .ok (.iinc 2 1, 3) := by decide +kernel
theorem dX8_findsRest_130 : decode cX8_findsRest 130 = .ok (.goto (-128), 3) := by decide +kernel
theorem dX8_findsRest_133 : decode cX8_findsRest 133 = .ok (.return_, 1) := by decide +kernel
set_option maxRecDepth 20000 in
theorem ggX8_firstWay_X8_far : GoodIn wsX8_firstWay wsX8_far := goodIn_r _ [5] (by decide +kernel) (by decide +kernel)
set_option maxRecDepth 20000 in
theorem gX8_firstWay_X8_far : GoodIn wsX8_firstWay (va_wsS RX8 93 yX8_far wsX8_far) := goodIn_app (goodIn_of _ (by decide +kernel)) ggX8_firstWay_X8_far
set_option maxRecDepth 20000 in
theorem ggX8_firstWay_X8_homeOf : GoodIn wsX8_firstWay wsX8_homeOf := goodIn_r _ [9, 1, 10, 11, 12, 13, 14, 15, 16, 17, 18, 19, 20, 21, 22, 23, 24, 25, 26, 27, 28, 29, 30, 31, 32, 33, 34, 35, 36, 37] (by decide +kernel) (by decide +kernel)
set_option maxRecDepth 20000 in
theorem gX8_firstWay_X8_homeOf : GoodIn wsX8_firstWay (wsV RX8 148 RX8 yX8_homeOf wsX8_homeOf) := goodIn_app (goodIn_of _ (by decide +kernel)) ggX8_firstWay_X8_homeOf
theorem dX8_firstWay_0 : decode cX8_firstWay 0 = .ok (.aload_n 0, 1) := by decide +kernel
theorem dX8_firstWay_1 : decode cX8_firstWay 1 = .ok (.getfield 7, 3) := by decide +kernel
theorem dX8_firstWay_4 : decode cX8_firstWay 4 = .ok (.bipush 17, 2) := by decide +kernel
theorem dX8_firstWay_6 : decode cX8_firstWay 6 = .ok (.iload_n 2, 1) := by decide +kernel
theorem dX8_firstWay_7 : decode cX8_firstWay 7 = .ok (.iadd, 1) := by decide +kernel
theorem dX8_firstWay_8 : decode cX8_firstWay 8 = .ok (.iaload, 1) := by decide +kernel
theorem dX8_firstWay_9 : decode cX8_firstWay 9 = .ok (.istore_n 3, 1) := by decide +kernel
theorem dX8_firstWay_10 : decode cX8_firstWay 10 = .ok (.aload_n 0, 1) := by decide +kernel
theorem dX8_firstWay_11 : decode cX8_firstWay 11 = .ok (.getfield 7, 3) := by decide +kernel
theorem dX8_firstWay_14 : decode cX8_firstWay 14 = .ok (.bipush 11, 2) := by decide +kernel
theorem dX8_firstWay_16 : decode cX8_firstWay 16 = .ok (.iaload, 1) := by decide +kernel
theorem dX8_firstWay_17 : decode cX8_firstWay 17 = .ok (.istore 4, 2) := by decide +kernel
theorem dX8_firstWay_19 : decode cX8_firstWay 19 = .ok (.iconst 0, 1) := by decide +kernel
theorem dX8_firstWay_20 : decode cX8_firstWay 20 = .ok (.istore 5, 2) := by decide +kernel
theorem dX8_firstWay_22 : decode cX8_firstWay 22 = .ok (.aload_n 0, 1) := by decide +kernel
theorem dX8_firstWay_23 : decode cX8_firstWay 23 = .ok (.getfield 7, 3) := by decide +kernel
theorem dX8_firstWay_26 : decode cX8_firstWay 26 = .ok (.bipush 21, 2) := by decide +kernel
theorem dX8_firstWay_28 : decode cX8_firstWay 28 = .ok (.iload_n 2, 1) := by decide +kernel
theorem dX8_firstWay_29 : decode cX8_firstWay 29 = .ok (.iadd, 1) := by decide +kernel
theorem dX8_firstWay_30 : decode cX8_firstWay 30 = .ok (.iaload, 1) := by decide +kernel
theorem dX8_firstWay_31 : decode cX8_firstWay 31 = .ok (.iconst (-1), 1) := by decide +kernel
theorem dX8_firstWay_32 : decode cX8_firstWay 32 = .ok (.if_icmp .eq 41, 3) := by decide +kernel
theorem dX8_firstWay_35 : decode cX8_firstWay 35 = .ok (.aload_n 0, 1) := by decide +kernel
theorem dX8_firstWay_36 : decode cX8_firstWay 36 = .ok (.getfield 7, 3) := by decide +kernel
theorem dX8_firstWay_39 : decode cX8_firstWay 39 = .ok (.bipush 29, 2) := by decide +kernel
theorem dX8_firstWay_41 : decode cX8_firstWay 41 = .ok (.aload_n 0, 1) := by decide +kernel
theorem dX8_firstWay_42 : decode cX8_firstWay 42 = .ok (.getfield 7, 3) := by decide +kernel
theorem dX8_firstWay_45 : decode cX8_firstWay 45 = .ok (.bipush 21, 2) := by decide +kernel
theorem dX8_firstWay_47 : decode cX8_firstWay 47 = .ok (.iload_n 2, 1) := by decide +kernel
theorem dX8_firstWay_48 : decode cX8_firstWay 48 = .ok (.iadd, 1) := by decide +kernel
theorem dX8_firstWay_49 : decode cX8_firstWay 49 = .ok (.iaload, 1) := by decide +kernel
theorem dX8_firstWay_50 : decode cX8_firstWay 50 = .ok (.iadd, 1) := by decide +kernel
theorem dX8_firstWay_51 : decode cX8_firstWay 51 = .ok (.iaload, 1) := by decide +kernel
theorem dX8_firstWay_52 : decode cX8_firstWay 52 = .ok (.istore 6, 2) := by decide +kernel
theorem dX8_firstWay_54 : decode cX8_firstWay 54 = .ok (.iload 4, 2) := by decide +kernel
theorem dX8_firstWay_56 : decode cX8_firstWay 56 = .ok (.iload_n 3, 1) := by decide +kernel
theorem dX8_firstWay_57 : decode cX8_firstWay 57 = .ok (.invokestatic 93, 3) := by decide +kernel
theorem dX8_firstWay_60 : decode cX8_firstWay 60 = .ok (.iload_n 3, 1) := by decide +kernel
theorem dX8_firstWay_61 : decode cX8_firstWay 61 = .ok (.iload 6, 2) := by decide +kernel
theorem dX8_firstWay_63 : decode cX8_firstWay 63 = .ok (.invokestatic 93, 3) := by decide +kernel
theorem dX8_firstWay_66 : decode cX8_firstWay 66 = .ok (.iadd, 1) := by decide +kernel
theorem dX8_firstWay_67 : decode cX8_firstWay 67 = .ok (.istore 5, 2) := by decide +kernel
theorem dX8_firstWay_69 : decode cX8_firstWay 69 = .ok (.iload 6, 2) := by decide +kernel
theorem dX8_firstWay_71 : decode cX8_firstWay 71 = .ok (.istore 4, 2) := by decide +kernel
theorem dX8_firstWay_73 : decode cX8_firstWay 73 = .ok (.iload 5, 2) := by decide +kernel
theorem dX8_firstWay_75 : decode cX8_firstWay 75 = .ok (.iload 4, 2) := by decide +kernel
theorem dX8_firstWay_77 : decode cX8_firstWay 77 = .ok (.aload_n 0, 1) := by decide +kernel
theorem dX8_firstWay_78 : decode cX8_firstWay 78 = .ok (.iload_n 1, 1) := by decide +kernel
theorem dX8_firstWay_79 : decode cX8_firstWay 79 = .ok (.invokevirtual 148, 3) := by decide +kernel
theorem dX8_firstWay_82 : decode cX8_firstWay 82 = .ok (.invokestatic 93, 3) := by decide +kernel
theorem dX8_firstWay_85 : decode cX8_firstWay 85 = .ok (.iadd, 1) := by decide +kernel
theorem dX8_firstWay_86 : decode cX8_firstWay 86 = .ok (.aload_n 0, 1) := by decide +kernel
theorem dX8_firstWay_87 : decode cX8_firstWay 87 = .ok (.iload_n 1, 1) := by decide +kernel
theorem dX8_firstWay_88 : decode cX8_firstWay 88 = .ok (.invokevirtual 148, 3) := by decide +kernel
theorem dX8_firstWay_91 : decode cX8_firstWay 91 = .ok (.iload_n 3, 1) := by decide +kernel
theorem dX8_firstWay_92 : decode cX8_firstWay 92 = .ok (.invokestatic 93, 3) := by decide +kernel
theorem dX8_firstWay_95 : decode cX8_firstWay 95 = .ok (.iadd, 1) := by decide +kernel
theorem dX8_firstWay_96 : decode cX8_firstWay 96 = .ok (.ireturn, 1) := by decide +kernel
set_option maxRecDepth 20000 in
theorem ggX8_findsOrder_X8_findsRest : GoodIn wsX8_findsOrder wsX8_findsRest := goodIn_r _ [10, 2, 3, 5, 11, 12, 13, 9, 14, 15, 16, 17, 18, 1, 19, 20, 21, 22, 27, 28, 29, 30, 31, 32, 33, 34, 35, 36, 37, 38, 39, 40, 41, 42, 43, 44, 45, 46, 47, 48, 49, 50, 51, 52, 53] (by decide +kernel) (by decide +kernel)
set_option maxRecDepth 20000 in
theorem gX8_findsOrder_X8_findsRest : GoodIn wsX8_findsOrder (wsV RX8 156 RX8 yX8_findsRest wsX8_findsRest) := goodIn_app (goodIn_of _ (by decide +kernel)) ggX8_findsOrder_X8_findsRest
set_option maxRecDepth 20000 in
theorem ggX8_findsOrder_X8_firstWay : GoodIn wsX8_findsOrder wsX8_firstWay := goodIn_r _ [26, 1, 20, 21, 9, 22, 15, 16, 17, 18, 19, 27, 28, 29, 30, 31, 32, 33, 34, 35, 36, 37, 38, 39, 40, 41, 42, 43, 44, 45, 46, 47, 48, 49, 50, 51, 52, 53] (by decide +kernel) (by decide +kernel)
set_option maxRecDepth 20000 in
theorem gX8_findsOrder_X8_firstWay : GoodIn wsX8_findsOrder (wsV RX8 159 RX8 yX8_firstWay wsX8_firstWay) := goodIn_app (goodIn_of _ (by decide +kernel)) ggX8_findsOrder_X8_firstWay
set_option maxRecDepth 20000 in
theorem ggX8_findsOrder_X8_between : GoodIn wsX8_findsOrder wsX8_between := goodIn_r _ [14, 15, 16, 17, 9, 18, 1, 19, 20, 21, 22, 27, 28, 29, 30, 31, 32, 33, 34, 35, 36, 37, 38, 39, 40, 41, 42, 43, 44, 45, 46, 47, 48, 49, 50, 51, 52, 53] (by decide +kernel) (by decide +kernel)
set_option maxRecDepth 20000 in
theorem gX8_findsOrder_X8_between : GoodIn wsX8_findsOrder (wsV RX8 152 RX8 yX8_between wsX8_between) := goodIn_app (goodIn_of _ (by decide +kernel)) ggX8_findsOrder_X8_between
theorem dX8_findsOrder_0 : decode cX8_findsOrder 0 = .ok (.aload_n 0, 1) := by decide +kernel
theorem dX8_findsOrder_1 : decode cX8_findsOrder 1 = .ok (.getfield 7, 3) := by decide +kernel
theorem dX8_findsOrder_4 : decode cX8_findsOrder 4 = .ok (.bipush 17, 2) := by decide +kernel
theorem dX8_findsOrder_6 : decode cX8_findsOrder 6 = .ok (.iload_n 1, 1) := by decide +kernel
theorem dX8_findsOrder_7 : decode cX8_findsOrder 7 = .ok (.iadd, 1) := by decide +kernel
theorem dX8_findsOrder_8 : decode cX8_findsOrder 8 = .ok (.iaload, 1) := by decide +kernel
theorem dX8_findsOrder_9 : decode cX8_findsOrder 9 = .ok (.istore_n 2, 1) := by decide +kernel
theorem dX8_findsOrder_10 : decode cX8_findsOrder 10 = .ok (.aload_n 0, 1) := by decide +kernel
theorem dX8_findsOrder_11 : decode cX8_findsOrder 11 = .ok (.iload_n 2, 1) := by decide +kernel
theorem dX8_findsOrder_12 : decode cX8_findsOrder 12 = .ok (.invokevirtual 156, 3) := by decide +kernel
theorem dX8_findsOrder_15 : decode cX8_findsOrder 15 = .ok (.iconst 1, 1) := by decide +kernel
theorem dX8_findsOrder_16 : decode cX8_findsOrder 16 = .ok (.aload_n 0, 1) := by decide +kernel
theorem dX8_findsOrder_17 : decode cX8_findsOrder 17 = .ok (.getfield 145, 3) := by decide +kernel
theorem dX8_findsOrder_20 : decode cX8_findsOrder 20 = .ok (.ishl, 1) := by decide +kernel
theorem dX8_findsOrder_21 : decode cX8_findsOrder 21 = .ok (.iconst 1, 1) := by decide +kernel
theorem dX8_findsOrder_22 : decode cX8_findsOrder 22 = .ok (.isub, 1) := by decide +kernel
theorem dX8_findsOrder_23 : decode cX8_findsOrder 23 = .ok (.istore_n 3, 1) := by decide +kernel
theorem dX8_findsOrder_24 : decode cX8_findsOrder 24 = .ok (.iconst 0, 1) := by decide +kernel
theorem dX8_findsOrder_25 : decode cX8_findsOrder 25 = .ok (.istore 4, 2) := by decide +kernel
theorem dX8_findsOrder_27 : decode cX8_findsOrder 27 = .ok (.iload 4, 2) := by decide +kernel
theorem dX8_findsOrder_29 : decode cX8_findsOrder 29 = .ok (.aload_n 0, 1) := by decide +kernel
theorem dX8_findsOrder_30 : decode cX8_findsOrder 30 = .ok (.getfield 145, 3) := by decide +kernel
theorem dX8_findsOrder_33 : decode cX8_findsOrder 33 = .ok (.if_icmp .ge 148, 3) := by decide +kernel
theorem dX8_findsOrder_36 : decode cX8_findsOrder 36 = .ok (.iconst (-1), 1) := by decide +kernel
theorem dX8_findsOrder_37 : decode cX8_findsOrder 37 = .ok (.istore 5, 2) := by decide +kernel
theorem dX8_findsOrder_39 : decode cX8_findsOrder 39 = .ok (.ldc 151, 2) := by decide +kernel
theorem dX8_findsOrder_41 : decode cX8_findsOrder 41 = .ok (.istore 6, 2) := by decide +kernel
theorem dX8_findsOrder_43 : decode cX8_findsOrder 43 = .ok (.iconst 0, 1) := by decide +kernel
theorem dX8_findsOrder_44 : decode cX8_findsOrder 44 = .ok (.istore 7, 2) := by decide +kernel
theorem dX8_findsOrder_46 : decode cX8_findsOrder 46 = .ok (.iload 7, 2) := by decide +kernel
theorem dX8_findsOrder_48 : decode cX8_findsOrder 48 = .ok (.aload_n 0, 1) := by decide +kernel
theorem dX8_findsOrder_49 : decode cX8_findsOrder 49 = .ok (.getfield 145, 3) := by decide +kernel
theorem dX8_findsOrder_52 : decode cX8_findsOrder 52 = .ok (.if_icmp .ge 107, 3) := by decide +kernel
theorem dX8_findsOrder_55 : decode cX8_findsOrder 55 = .ok (.iload_n 3, 1) := by decide +kernel
theorem dX8_findsOrder_56 : decode cX8_findsOrder 56 = .ok (.iload 7, 2) := by decide +kernel
theorem dX8_findsOrder_58 : decode cX8_findsOrder 58 = .ok (.ishr, 1) := by decide +kernel
theorem dX8_findsOrder_59 : decode cX8_findsOrder 59 = .ok (.iconst 1, 1) := by decide +kernel
theorem dX8_findsOrder_60 : decode cX8_findsOrder 60 = .ok (.iand, 1) := by decide +kernel
theorem dX8_findsOrder_61 : decode cX8_findsOrder 61 = .ok (.ifCond .ne 6, 3) := by decide +kernel
theorem dX8_findsOrder_64 : decode cX8_findsOrder 64 = .ok (.goto 89, 3) := by decide +kernel
theorem dX8_findsOrder_67 : decode cX8_findsOrder 67 = .ok (.iload 4, 2) := by decide +kernel
theorem dX8_findsOrder_69 : decode cX8_findsOrder 69 = .ok (.ifCond .ne 13, 3) := by decide +kernel
theorem dX8_findsOrder_72 : decode cX8_findsOrder 72 = .ok (.aload_n 0, 1) := by decide +kernel
theorem dX8_findsOrder_73 : decode cX8_findsOrder 73 = .ok (.iload 7, 2) := by decide +kernel
theorem dX8_findsOrder_75 : decode cX8_findsOrder 75 = .ok (.iload_n 1, 1) := by decide +kernel
theorem dX8_findsOrder_76 : decode cX8_findsOrder 76 = .ok (.invokevirtual 159, 3) := by decide +kernel
theorem dX8_findsOrder_79 : decode cX8_findsOrder 79 = .ok (.goto 19, 3) := by decide +kernel
theorem dX8_findsOrder_82 : decode cX8_findsOrder 82 = .ok (.aload_n 0, 1) := by decide +kernel
theorem dX8_findsOrder_83 : decode cX8_findsOrder 83 = .ok (.aload_n 0, 1) := by decide +kernel
theorem dX8_findsOrder_84 : decode cX8_findsOrder 84 = .ok (.getfield 25, 3) := by decide +kernel
theorem dX8_findsOrder_87 : decode cX8_findsOrder 87 = .ok (.iload 4, 2) := by decide +kernel
theorem dX8_findsOrder_89 : decode cX8_findsOrder 89 = .ok (.iconst 1, 1) := by decide +kernel
theorem dX8_findsOrder_90 : decode cX8_findsOrder 90 = .ok (.isub, 1) := by decide +kernel
theorem dX8_findsOrder_91 : decode cX8_findsOrder 91 = .ok (.iaload, 1) := by decide +kernel
theorem dX8_findsOrder_92 : decode cX8_findsOrder 92 = .ok (.iload 7, 2) := by decide +kernel
theorem dX8_findsOrder_94 : decode cX8_findsOrder 94 = .ok (.iload_n 2, 1) := by decide +kernel
theorem dX8_findsOrder_95 : decode cX8_findsOrder 95 = .ok (.invokevirtual 152, 3) := by decide +kernel
theorem dX8_findsOrder_98 : decode cX8_findsOrder 98 = .ok (.istore 8, 2) := by decide +kernel
theorem dX8_findsOrder_100 : decode cX8_findsOrder 100 = .ok (.aload_n 0, 1) := by decide +kernel
theorem dX8_findsOrder_101 : decode cX8_findsOrder 101 = .ok (.getfield 7, 3) := by decide +kernel
theorem dX8_findsOrder_104 : decode cX8_findsOrder 104 = .ok (.iconst 1, 1) := by decide +kernel
theorem dX8_findsOrder_105 : decode cX8_findsOrder 105 = .ok (.iaload, 1) := by decide +kernel
theorem dX8_findsOrder_106 : decode cX8_findsOrder 106 = .ok (.iload 8, 2) := by decide +kernel
theorem dX8_findsOrder_108 : decode cX8_findsOrder 108 = .ok (.aload_n 0, 1) := by decide +kernel
theorem dX8_findsOrder_109 : decode cX8_findsOrder 109 = .ok (.getfield 28, 3) := by decide +kernel
theorem dX8_findsOrder_112 : decode cX8_findsOrder 112 = .ok (.bipush 10, 2) := by decide +kernel
theorem dX8_findsOrder_114 : decode cX8_findsOrder 114 = .ok (.iload_n 3, 1) := by decide +kernel
theorem dX8_findsOrder_115 : decode cX8_findsOrder 115 = .ok (.iconst 1, 1) := by decide +kernel
theorem dX8_findsOrder_116 : decode cX8_findsOrder 116 = .ok (.iload 7, 2) := by decide +kernel
theorem dX8_findsOrder_118 : decode cX8_findsOrder 118 = .ok (.ishl, 1) := by decide +kernel
theorem dX8_findsOrder_119 : decode cX8_findsOrder 119 = .ok (.isub, 1) := by decide +kernel
theorem dX8_findsOrder_120 : decode cX8_findsOrder 120 = .ok (.imul, 1) := by decide +kernel
theorem dX8_findsOrder_121 : decode cX8_findsOrder 121 = .ok (.iload 7, 2) := by decide +kernel
theorem dX8_findsOrder_123 : decode cX8_findsOrder 123 = .ok (.iadd, 1) := by decide +kernel
theorem dX8_findsOrder_124 : decode cX8_findsOrder 124 = .ok (.iaload, 1) := by decide +kernel
theorem dX8_findsOrder_125 : decode cX8_findsOrder 125 = .ok (.iadd, 1) := by decide +kernel
theorem dX8_findsOrder_126 : decode cX8_findsOrder 126 = .ok (.imul, 1) := by decide +kernel
theorem dX8_findsOrder_127 : decode cX8_findsOrder 127 = .ok (.istore 8, 2) := by decide +kernel
theorem dX8_findsOrder_129 : decode cX8_findsOrder 129 = .ok (.iload 5, 2) := by decide +kernel
theorem dX8_findsOrder_131 : decode cX8_findsOrder 131 = .ok (.iconst (-1), 1) := by decide +kernel
theorem dX8_findsOrder_132 : decode cX8_findsOrder 132 = .ok (.if_icmp .eq 13, 3) := by decide +kernel
theorem dX8_findsOrder_135 : decode cX8_findsOrder 135 = .ok (.iload 8, 2) := by decide +kernel
theorem dX8_findsOrder_137 : decode cX8_findsOrder 137 = .ok (.iload 6, 2) := by decide +kernel
theorem dX8_findsOrder_139 : decode cX8_findsOrder 139 = .ok (.if_icmp .lt 6, 3) := by decide +kernel
theorem dX8_findsOrder_142 : decode cX8_findsOrder 142 = .ok (.goto 11, 3) := by decide +kernel
theorem dX8_findsOrder_145 : decode cX8_findsOrder 145 = .ok (.iload 7, 2) := by decide +kernel
theorem dX8_findsOrder_147 : decode cX8_findsOrder 147 = .ok (.istore 5, 2) := by decide +kernel
theorem dX8_findsOrder_149 : decode cX8_findsOrder 149 = .ok (.iload 8, 2) := by decide +kernel
theorem dX8_findsOrder_151 : decode cX8_findsOrder 151 = .ok (.istore 6, 2) := by decide +kernel
theorem dX8_findsOrder_153 : decode cX8_findsOrder 153 = .ok (.iinc 7 1, 3) := by decide +kernel
theorem dX8_findsOrder_156 : decode cX8_findsOrder 156 = .ok (.goto (-110), 3) := by decide +kernel
theorem dX8_findsOrder_159 : decode cX8_findsOrder 159 = .ok (.aload_n 0, 1) := by decide +kernel
theorem dX8_findsOrder_160 : decode cX8_findsOrder 160 = .ok (.getfield 25, 3) := by decide +kernel
theorem dX8_findsOrder_163 : decode cX8_findsOrder 163 = .ok (.iload 4, 2) := by decide +kernel
theorem dX8_findsOrder_165 : decode cX8_findsOrder 165 = .ok (.iload 5, 2) := by decide +kernel
theorem dX8_findsOrder_167 : decode cX8_findsOrder 167 = .ok (.iastore, 1) := by decide +kernel
theorem dX8_findsOrder_168 : decode cX8_findsOrder 168 = .ok (.iload_n 3, 1) := by decide +kernel
theorem dX8_findsOrder_169 : decode cX8_findsOrder 169 = .ok (.iconst 1, 1) := by decide +kernel
theorem dX8_findsOrder_170 : decode cX8_findsOrder 170 = .ok (.iload 5, 2) := by decide +kernel
theorem dX8_findsOrder_172 : decode cX8_findsOrder 172 = .ok (.ishl, 1) := by decide +kernel
theorem dX8_findsOrder_173 : decode cX8_findsOrder 173 = .ok (.isub, 1) := by decide +kernel
theorem dX8_findsOrder_174 : decode cX8_findsOrder 174 = .ok (.istore_n 3, 1) := by decide +kernel
theorem dX8_findsOrder_175 : decode cX8_findsOrder 175 = .ok (.iinc 4 1, 3) := by decide +kernel
theorem dX8_findsOrder_178 : decode cX8_findsOrder 178 = .ok (.goto (-151), 3) := by decide +kernel
theorem dX8_findsOrder_181 : decode cX8_findsOrder 181 = .ok (.return_, 1) := by decide +kernel
set_option maxRecDepth 20000 in
theorem ggX8_readsFrom_X8_platterOf : GoodIn wsX8_readsFrom wsX8_platterOf := goodIn_r _ [6, 1, 7, 8, 9, 5, 10, 54, 55, 56, 57, 58, 59, 60, 61, 62, 63, 64, 65, 66, 67, 68, 69, 70, 71, 72, 73, 74, 75, 76, 77, 78, 79, 80] (by decide +kernel) (by decide +kernel)
set_option maxRecDepth 20000 in
theorem gX8_readsFrom_X8_platterOf : GoodIn wsX8_readsFrom (wsV RX8 123 RX8 yX8_platterOf wsX8_platterOf) := goodIn_app (goodIn_of _ (by decide +kernel)) ggX8_readsFrom_X8_platterOf
set_option maxRecDepth 20000 in
theorem ggX8_readsFrom_X8_reads : GoodIn wsX8_readsFrom wsX8_reads := goodIn_r _ [14, 1, 2, 3, 4, 5, 6, 7, 8, 9, 10, 15, 16, 17, 18, 19, 20, 21, 22, 23, 24, 25, 26, 27, 28, 29, 30, 31, 32, 33, 34, 35, 36, 37, 38, 39, 40, 41, 42, 43, 44, 45, 46, 47, 48, 49, 50, 51, 52, 53, 54, 55, 56, 57, 58, 59, 60, 61, 62, 63, 64, 65, 66, 67, 68, 69, 70, 71, 72, 73, 74, 75, 76, 77, 78, 79, 80] (by decide +kernel) (by decide +kernel)
set_option maxRecDepth 20000 in
theorem gX8_readsFrom_X8_reads : GoodIn wsX8_readsFrom (wsV RX8 162 RX8 yX8_reads wsX8_reads) := goodIn_app (goodIn_of _ (by decide +kernel)) ggX8_readsFrom_X8_reads
theorem dX8_readsFrom_0 : decode cX8_readsFrom 0 = .ok (.iconst 0, 1) := by decide +kernel
theorem dX8_readsFrom_1 : decode cX8_readsFrom 1 = .ok (.istore_n 2, 1) := by decide +kernel
theorem dX8_readsFrom_2 : decode cX8_readsFrom 2 = .ok (.iload_n 2, 1) := by decide +kernel
theorem dX8_readsFrom_3 : decode cX8_readsFrom 3 = .ok (.aload_n 0, 1) := by decide +kernel
theorem dX8_readsFrom_4 : decode cX8_readsFrom 4 = .ok (.getfield 7, 3) := by decide +kernel
theorem dX8_readsFrom_7 : decode cX8_readsFrom 7 = .ok (.bipush 16, 2) := by decide +kernel
theorem dX8_readsFrom_9 : decode cX8_readsFrom 9 = .ok (.iaload, 1) := by decide +kernel
theorem dX8_readsFrom_10 : decode cX8_readsFrom 10 = .ok (.if_icmp .ge 41, 3) := by decide +kernel
theorem dX8_readsFrom_13 : decode cX8_readsFrom 13 = .ok (.aload_n 0, 1) := by decide +kernel
theorem dX8_readsFrom_14 : decode cX8_readsFrom 14 = .ok (.aload_n 0, 1) := by decide +kernel
theorem dX8_readsFrom_15 : decode cX8_readsFrom 15 = .ok (.getfield 7, 3) := by decide +kernel
theorem dX8_readsFrom_18 : decode cX8_readsFrom 18 = .ok (.sipush 589, 3) := by decide +kernel
theorem dX8_readsFrom_21 : decode cX8_readsFrom 21 = .ok (.iload_n 2, 1) := by decide +kernel
theorem dX8_readsFrom_22 : decode cX8_readsFrom 22 = .ok (.iadd, 1) := by decide +kernel
theorem dX8_readsFrom_23 : decode cX8_readsFrom 23 = .ok (.iaload, 1) := by decide +kernel
theorem dX8_readsFrom_24 : decode cX8_readsFrom 24 = .ok (.invokevirtual 123, 3) := by decide +kernel
theorem dX8_readsFrom_27 : decode cX8_readsFrom 27 = .ok (.iload_n 1, 1) := by decide +kernel
theorem dX8_readsFrom_28 : decode cX8_readsFrom 28 = .ok (.if_icmp .ne 17, 3) := by decide +kernel
theorem dX8_readsFrom_31 : decode cX8_readsFrom 31 = .ok (.aload_n 0, 1) := by decide +kernel
theorem dX8_readsFrom_32 : decode cX8_readsFrom 32 = .ok (.aload_n 0, 1) := by decide +kernel
theorem dX8_readsFrom_33 : decode cX8_readsFrom 33 = .ok (.getfield 7, 3) := by decide +kernel
theorem dX8_readsFrom_36 : decode cX8_readsFrom 36 = .ok (.sipush 589, 3) := by decide +kernel
theorem dX8_readsFrom_39 : decode cX8_readsFrom 39 = .ok (.iload_n 2, 1) := by decide +kernel
theorem dX8_readsFrom_40 : decode cX8_readsFrom 40 = .ok (.iadd, 1) := by decide +kernel
theorem dX8_readsFrom_41 : decode cX8_readsFrom 41 = .ok (.iaload, 1) := by decide +kernel
theorem dX8_readsFrom_42 : decode cX8_readsFrom 42 = .ok (.invokevirtual 162, 3) := by decide +kernel
theorem dX8_readsFrom_45 : decode cX8_readsFrom 45 = .ok (.iinc 2 1, 3) := by decide +kernel
theorem dX8_readsFrom_48 : decode cX8_readsFrom 48 = .ok (.goto (-46), 3) := by decide +kernel
theorem dX8_readsFrom_51 : decode cX8_readsFrom 51 = .ok (.return_, 1) := by decide +kernel
set_option maxRecDepth 20000 in
theorem ggX8_serves_X8_findsWanted : GoodIn wsX8_serves wsX8_findsWanted := goodIn_r _ [9, 2, 1, 3, 10, 11, 12, 8, 13, 14, 15, 16, 17, 18, 19, 20, 21, 87, 88, 89, 90, 91, 92, 93, 94, 95, 96, 97, 98, 99, 100, 101, 102, 103, 104, 105, 106, 107, 108, 109, 110, 111, 112, 113] (by decide +kernel) (by decide +kernel)
set_option maxRecDepth 20000 in
theorem gX8_serves_X8_findsWanted : GoodIn wsX8_serves (wsV RX8 165 RX8 yX8_findsWanted wsX8_findsWanted) := goodIn_app (goodIn_of _ (by decide +kernel)) ggX8_serves_X8_findsWanted
set_option maxRecDepth 20000 in
theorem ggX8_serves_X8_readsFrom : GoodIn wsX8_serves wsX8_readsFrom := goodIn_r _ [25, 1, 10, 11, 12, 8, 13, 14, 15, 16, 17, 26, 27, 28, 29, 30, 31, 32, 33, 34, 35, 36, 37, 18, 19, 20, 21, 38, 39, 40, 41, 42, 43, 44, 45, 46, 47, 48, 49, 50, 51, 52, 53, 54, 55, 56, 57, 58, 59, 60, 61, 62, 63, 64, 87, 88, 89, 90, 91, 92, 93, 94, 95, 96, 97, 98, 99, 100, 101, 102, 103, 104, 105, 106, 107, 108, 109, 110, 111, 112, 113] (by decide +kernel) (by decide +kernel)
set_option maxRecDepth 20000 in
theorem gX8_serves_X8_readsFrom : GoodIn wsX8_serves (wsV RX8 168 RX8 yX8_readsFrom wsX8_readsFrom) := goodIn_app (goodIn_of _ (by decide +kernel)) ggX8_serves_X8_readsFrom
set_option maxRecDepth 20000 in
theorem ggX8_serves_X8_freeDrive : GoodIn wsX8_serves wsX8_freeDrive := goodIn_r _ [41, 1, 87, 88, 89, 90, 91, 92, 93, 94, 95, 96, 97, 98, 99, 100, 101, 102, 103, 104, 105, 106, 107, 108, 109, 110, 111, 112, 113] (by decide +kernel) (by decide +kernel)
set_option maxRecDepth 20000 in
theorem gX8_serves_X8_freeDrive : GoodIn wsX8_serves (wsV RX8 112 RX8 yX8_freeDrive wsX8_freeDrive) := goodIn_app (goodIn_of _ (by decide +kernel)) ggX8_serves_X8_freeDrive
set_option maxRecDepth 20000 in
theorem ggX8_serves_X8_findsOrder : GoodIn wsX8_serves wsX8_findsOrder := goodIn_r _ [68, 1, 2, 69, 4, 70, 71, 72, 73, 8, 74, 75, 76, 77, 78, 79, 80, 81, 82, 3, 54, 55, 56, 83, 84, 85, 86, 87, 88, 89, 90, 91, 92, 93, 94, 95, 96, 97, 98, 99, 100, 101, 102, 103, 104, 105, 106, 107, 108, 109, 110, 111, 112, 113] (by decide +kernel) (by decide +kernel)
set_option maxRecDepth 20000 in
theorem gX8_serves_X8_findsOrder : GoodIn wsX8_serves (wsV RX8 171 RX8 yX8_findsOrder wsX8_findsOrder) := goodIn_app (goodIn_of _ (by decide +kernel)) ggX8_serves_X8_findsOrder
set_option maxRecDepth 20000 in
theorem ggX8_serves_X8_brings : GoodIn wsX8_serves wsX8_brings := goodIn_r _ [45, 1, 46, 47, 48, 8, 49, 50, 51, 52, 53, 54, 55, 56, 57, 58, 59, 60, 61, 62, 63, 64, 87, 88, 89, 90, 91, 92, 93, 94, 95, 96, 97, 98, 99, 100, 101, 102, 103, 104, 105, 106, 107, 108, 109, 110, 111, 112, 113] (by decide +kernel) (by decide +kernel)
set_option maxRecDepth 20000 in
theorem gX8_serves_X8_brings : GoodIn wsX8_serves (wsV RX8 119 RX8 yX8_brings wsX8_brings) := goodIn_app (goodIn_of _ (by decide +kernel)) ggX8_serves_X8_brings
theorem dX8_serves_0 : decode cX8_serves 0 = .ok (.aload_n 0, 1) := by decide +kernel
theorem dX8_serves_1 : decode cX8_serves 1 = .ok (.invokevirtual 165, 3) := by decide +kernel
theorem dX8_serves_4 : decode cX8_serves 4 = .ok (.iconst 0, 1) := by decide +kernel
theorem dX8_serves_5 : decode cX8_serves 5 = .ok (.istore_n 1, 1) := by decide +kernel
theorem dX8_serves_6 : decode cX8_serves 6 = .ok (.iload_n 1, 1) := by decide +kernel
theorem dX8_serves_7 : decode cX8_serves 7 = .ok (.aload_n 0, 1) := by decide +kernel
theorem dX8_serves_8 : decode cX8_serves 8 = .ok (.getfield 7, 3) := by decide +kernel
theorem dX8_serves_11 : decode cX8_serves 11 = .ok (.bipush 6, 2) := by decide +kernel
theorem dX8_serves_13 : decode cX8_serves 13 = .ok (.iaload, 1) := by decide +kernel
theorem dX8_serves_14 : decode cX8_serves 14 = .ok (.if_icmp .ge 35, 3) := by decide +kernel
theorem dX8_serves_17 : decode cX8_serves 17 = .ok (.aload_n 0, 1) := by decide +kernel
theorem dX8_serves_18 : decode cX8_serves 18 = .ok (.getfield 7, 3) := by decide +kernel
theorem dX8_serves_21 : decode cX8_serves 21 = .ok (.bipush 21, 2) := by decide +kernel
theorem dX8_serves_23 : decode cX8_serves 23 = .ok (.iload_n 1, 1) := by decide +kernel
theorem dX8_serves_24 : decode cX8_serves 24 = .ok (.iadd, 1) := by decide +kernel
theorem dX8_serves_25 : decode cX8_serves 25 = .ok (.iaload, 1) := by decide +kernel
theorem dX8_serves_26 : decode cX8_serves 26 = .ok (.iconst (-1), 1) := by decide +kernel
theorem dX8_serves_27 : decode cX8_serves 27 = .ok (.if_icmp .eq 16, 3) := by decide +kernel
theorem dX8_serves_30 : decode cX8_serves 30 = .ok (.aload_n 0, 1) := by decide +kernel
theorem dX8_serves_31 : decode cX8_serves 31 = .ok (.aload_n 0, 1) := by decide +kernel
theorem dX8_serves_32 : decode cX8_serves 32 = .ok (.getfield 7, 3) := by decide +kernel
theorem dX8_serves_35 : decode cX8_serves 35 = .ok (.bipush 21, 2) := by decide +kernel
theorem dX8_serves_37 : decode cX8_serves 37 = .ok (.iload_n 1, 1) := by decide +kernel
theorem dX8_serves_38 : decode cX8_serves 38 = .ok (.iadd, 1) := by decide +kernel
theorem dX8_serves_39 : decode cX8_serves 39 = .ok (.iaload, 1) := by decide +kernel
theorem dX8_serves_40 : decode cX8_serves 40 = .ok (.invokevirtual 168, 3) := by decide +kernel
theorem dX8_serves_43 : decode cX8_serves 43 = .ok (.iinc 1 1, 3) := by decide +kernel
theorem dX8_serves_46 : decode cX8_serves 46 = .ok (.goto (-40), 3) := by decide +kernel
theorem dX8_serves_49 : decode cX8_serves 49 = .ok (.aload_n 0, 1) := by decide +kernel
theorem dX8_serves_50 : decode cX8_serves 50 = .ok (.getfield 145, 3) := by decide +kernel
theorem dX8_serves_53 : decode cX8_serves 53 = .ok (.ifCond .le 60, 3) := by decide +kernel
theorem dX8_serves_56 : decode cX8_serves 56 = .ok (.aload_n 0, 1) := by decide +kernel
theorem dX8_serves_57 : decode cX8_serves 57 = .ok (.invokevirtual 112, 3) := by decide +kernel
theorem dX8_serves_60 : decode cX8_serves 60 = .ok (.istore_n 1, 1) := by decide +kernel
theorem dX8_serves_61 : decode cX8_serves 61 = .ok (.aload_n 0, 1) := by decide +kernel
theorem dX8_serves_62 : decode cX8_serves 62 = .ok (.iload_n 1, 1) := by decide +kernel
theorem dX8_serves_63 : decode cX8_serves 63 = .ok (.invokevirtual 171, 3) := by decide +kernel
theorem dX8_serves_66 : decode cX8_serves 66 = .ok (.iconst 0, 1) := by decide +kernel
theorem dX8_serves_67 : decode cX8_serves 67 = .ok (.istore_n 2, 1) := by decide +kernel
theorem dX8_serves_68 : decode cX8_serves 68 = .ok (.iload_n 2, 1) := by decide +kernel
theorem dX8_serves_69 : decode cX8_serves 69 = .ok (.aload_n 0, 1) := by decide +kernel
theorem dX8_serves_70 : decode cX8_serves 70 = .ok (.getfield 145, 3) := by decide +kernel
theorem dX8_serves_73 : decode cX8_serves 73 = .ok (.if_icmp .ge 40, 3) := by decide +kernel
theorem dX8_serves_76 : decode cX8_serves 76 = .ok (.aload_n 0, 1) := by decide +kernel
theorem dX8_serves_77 : decode cX8_serves 77 = .ok (.aload_n 0, 1) := by decide +kernel
theorem dX8_serves_78 : decode cX8_serves 78 = .ok (.getfield 22, 3) := by decide +kernel
theorem dX8_serves_81 : decode cX8_serves 81 = .ok (.aload_n 0, 1) := by decide +kernel
theorem dX8_serves_82 : decode cX8_serves 82 = .ok (.getfield 25, 3) := by decide +kernel
theorem dX8_serves_85 : decode cX8_serves 85 = .ok (.iload_n 2, 1) := by decide +kernel
theorem dX8_serves_86 : decode cX8_serves 86 = .ok (.iaload, 1) := by decide +kernel
theorem dX8_serves_87 : decode cX8_serves 87 = .ok (.iaload, 1) := by decide +kernel
theorem dX8_serves_88 : decode cX8_serves 88 = .ok (.iload_n 1, 1) := by decide +kernel
theorem dX8_serves_89 : decode cX8_serves 89 = .ok (.invokevirtual 119, 3) := by decide +kernel
theorem dX8_serves_92 : decode cX8_serves 92 = .ok (.aload_n 0, 1) := by decide +kernel
theorem dX8_serves_93 : decode cX8_serves 93 = .ok (.aload_n 0, 1) := by decide +kernel
theorem dX8_serves_94 : decode cX8_serves 94 = .ok (.getfield 22, 3) := by decide +kernel
theorem dX8_serves_97 : decode cX8_serves 97 = .ok (.aload_n 0, 1) := by decide +kernel
theorem dX8_serves_98 : decode cX8_serves 98 = .ok (.getfield 25, 3) := by decide +kernel
theorem dX8_serves_101 : decode cX8_serves 101 = .ok (.iload_n 2, 1) := by decide +kernel
theorem dX8_serves_102 : decode cX8_serves 102 = .ok (.iaload, 1) := by decide +kernel
theorem dX8_serves_103 : decode cX8_serves 103 = .ok (.iaload, 1) := by decide +kernel
theorem dX8_serves_104 : decode cX8_serves 104 = .ok (.invokevirtual 168, 3) := by decide +kernel
theorem dX8_serves_107 : decode cX8_serves 107 = .ok (.iinc 2 1, 3) := by decide +kernel
theorem dX8_serves_110 : decode cX8_serves 110 = .ok (.goto (-42), 3) := by decide +kernel
theorem dX8_serves_113 : decode cX8_serves 113 = .ok (.aload_n 0, 1) := by decide +kernel
theorem dX8_serves_114 : decode cX8_serves 114 = .ok (.getfield 7, 3) := by decide +kernel
theorem dX8_serves_117 : decode cX8_serves 117 = .ok (.bipush 16, 2) := by decide +kernel
theorem dX8_serves_119 : decode cX8_serves 119 = .ok (.iconst 0, 1) := by decide +kernel
theorem dX8_serves_120 : decode cX8_serves 120 = .ok (.iastore, 1) := by decide +kernel
theorem dX8_serves_121 : decode cX8_serves 121 = .ok (.return_, 1) := by decide +kernel
set_option maxRecDepth 20000 in
theorem ggX8_areReadable_X8_isReadable : GoodIn wsX8_areReadable wsX8_isReadable := goodIn_r _ [6, 7, 8, 9, 5, 10, 1, 11, 12, 13, 14, 15, 16, 17, 18, 19, 20, 21, 22, 23, 24, 25, 26, 27, 28, 29, 30, 31, 32, 33, 34, 35, 36, 37, 38, 39, 40, 41, 42, 43, 44, 45] (by decide +kernel) (by decide +kernel)
set_option maxRecDepth 20000 in
theorem gX8_areReadable_X8_isReadable : GoodIn wsX8_areReadable (wsV RX8 174 RX8 yX8_isReadable wsX8_isReadable) := goodIn_app (goodIn_of _ (by decide +kernel)) ggX8_areReadable_X8_isReadable
theorem dX8_areReadable_0 : decode cX8_areReadable 0 = .ok (.iconst 1, 1) := by decide +kernel
theorem dX8_areReadable_1 : decode cX8_areReadable 1 = .ok (.istore_n 1, 1) := by decide +kernel
theorem dX8_areReadable_2 : decode cX8_areReadable 2 = .ok (.iconst 0, 1) := by decide +kernel
theorem dX8_areReadable_3 : decode cX8_areReadable 3 = .ok (.istore_n 2, 1) := by decide +kernel
theorem dX8_areReadable_4 : decode cX8_areReadable 4 = .ok (.iload_n 2, 1) := by decide +kernel
theorem dX8_areReadable_5 : decode cX8_areReadable 5 = .ok (.aload_n 0, 1) := by decide +kernel
theorem dX8_areReadable_6 : decode cX8_areReadable 6 = .ok (.getfield 7, 3) := by decide +kernel
theorem dX8_areReadable_9 : decode cX8_areReadable 9 = .ok (.bipush 16, 2) := by decide +kernel
theorem dX8_areReadable_11 : decode cX8_areReadable 11 = .ok (.iaload, 1) := by decide +kernel
theorem dX8_areReadable_12 : decode cX8_areReadable 12 = .ok (.if_icmp .ge 36, 3) := by decide +kernel
theorem dX8_areReadable_15 : decode cX8_areReadable 15 = .ok (.iload_n 1, 1) := by decide +kernel
theorem dX8_areReadable_16 : decode cX8_areReadable 16 = .ok (.ifCond .eq 24, 3) := by decide +kernel
theorem dX8_areReadable_19 : decode cX8_areReadable 19 = .ok (.aload_n 0, 1) := by decide +kernel
theorem dX8_areReadable_20 : decode cX8_areReadable 20 = .ok (.aload_n 0, 1) := by decide +kernel
theorem dX8_areReadable_21 : decode cX8_areReadable 21 = .ok (.getfield 7, 3) := by decide +kernel
theorem dX8_areReadable_24 : decode cX8_areReadable 24 = .ok (.sipush 589, 3) := by decide +kernel
theorem dX8_areReadable_27 : decode cX8_areReadable 27 = .ok (.iload_n 2, 1) := by decide +kernel
theorem dX8_areReadable_28 : decode cX8_areReadable 28 = .ok (.iadd, 1) := by decide +kernel
theorem dX8_areReadable_29 : decode cX8_areReadable 29 = .ok (.iaload, 1) := by decide +kernel
theorem dX8_areReadable_30 : decode cX8_areReadable 30 = .ok (.invokevirtual 174, 3) := by decide +kernel
theorem dX8_areReadable_33 : decode cX8_areReadable 33 = .ok (.ifCond .eq 7, 3) := by decide +kernel
theorem dX8_areReadable_36 : decode cX8_areReadable 36 = .ok (.iconst 1, 1) := by decide +kernel
theorem dX8_areReadable_37 : decode cX8_areReadable 37 = .ok (.goto 4, 3) := by decide +kernel
theorem dX8_areReadable_40 : decode cX8_areReadable 40 = .ok (.iconst 0, 1) := by decide +kernel
theorem dX8_areReadable_41 : decode cX8_areReadable 41 = .ok (.istore_n 1, 1) := by decide +kernel
theorem dX8_areReadable_42 : decode cX8_areReadable 42 = .ok (.iinc 2 1, 3) := by decide +kernel
theorem dX8_areReadable_45 : decode cX8_areReadable 45 = .ok (.goto (-41), 3) := by decide +kernel
theorem dX8_areReadable_48 : decode cX8_areReadable 48 = .ok (.iload_n 1, 1) := by decide +kernel
theorem dX8_areReadable_49 : decode cX8_areReadable 49 = .ok (.ireturn, 1) := by decide +kernel
set_option maxRecDepth 20000 in
theorem ggX8_whyNotServed_X8_areReadable : GoodIn wsX8_whyNotServed wsX8_areReadable := goodIn_r _ [9, 1, 10, 11, 12, 8, 13, 14, 15, 16, 17, 18, 19, 20, 21, 22, 23, 24, 25, 26, 27, 28, 29, 30, 31, 32, 33, 34, 35, 36, 37, 38, 39, 40, 41, 42, 43, 44, 45, 46, 47, 48, 49, 50, 51, 52] (by decide +kernel) (by decide +kernel)
set_option maxRecDepth 20000 in
theorem gX8_whyNotServed_X8_areReadable : GoodIn wsX8_whyNotServed (wsV RX8 178 RX8 yX8_areReadable wsX8_areReadable) := goodIn_app (goodIn_of _ (by decide +kernel)) ggX8_whyNotServed_X8_areReadable
theorem dX8_whyNotServed_0 : decode cX8_whyNotServed 0 = .ok (.aload_n 0, 1) := by decide +kernel
theorem dX8_whyNotServed_1 : decode cX8_whyNotServed 1 = .ok (.getfield 7, 3) := by decide +kernel
theorem dX8_whyNotServed_4 : decode cX8_whyNotServed 4 = .ok (.bipush 16, 2) := by decide +kernel
theorem dX8_whyNotServed_6 : decode cX8_whyNotServed 6 = .ok (.iaload, 1) := by decide +kernel
theorem dX8_whyNotServed_7 : decode cX8_whyNotServed 7 = .ok (.iload_n 1, 1) := by decide +kernel
theorem dX8_whyNotServed_8 : decode cX8_whyNotServed 8 = .ok (.if_icmp .ge 8, 3) := by decide +kernel
theorem dX8_whyNotServed_11 : decode cX8_whyNotServed 11 = .ok (.ldc 42, 2) := by decide +kernel
theorem dX8_whyNotServed_13 : decode cX8_whyNotServed 13 = .ok (.goto 31, 3) := by decide +kernel
theorem dX8_whyNotServed_16 : decode cX8_whyNotServed 16 = .ok (.aload_n 0, 1) := by decide +kernel
theorem dX8_whyNotServed_17 : decode cX8_whyNotServed 17 = .ok (.getfield 7, 3) := by decide +kernel
theorem dX8_whyNotServed_20 : decode cX8_whyNotServed 20 = .ok (.bipush 6, 2) := by decide +kernel
theorem dX8_whyNotServed_22 : decode cX8_whyNotServed 22 = .ok (.iaload, 1) := by decide +kernel
theorem dX8_whyNotServed_23 : decode cX8_whyNotServed 23 = .ok (.ifCond .ne 8, 3) := by decide +kernel
theorem dX8_whyNotServed_26 : decode cX8_whyNotServed 26 = .ok (.ldc 177, 2) := by decide +kernel
theorem dX8_whyNotServed_28 : decode cX8_whyNotServed 28 = .ok (.goto 16, 3) := by decide +kernel
theorem dX8_whyNotServed_31 : decode cX8_whyNotServed 31 = .ok (.aload_n 0, 1) := by decide +kernel
theorem dX8_whyNotServed_32 : decode cX8_whyNotServed 32 = .ok (.invokevirtual 178, 3) := by decide +kernel
theorem dX8_whyNotServed_35 : decode cX8_whyNotServed 35 = .ok (.ifCond .eq 7, 3) := by decide +kernel
theorem dX8_whyNotServed_38 : decode cX8_whyNotServed 38 = .ok (.iconst 0, 1) := by decide +kernel
theorem dX8_whyNotServed_39 : decode cX8_whyNotServed 39 = .ok (.goto 5, 3) := by decide +kernel
theorem dX8_whyNotServed_42 : decode cX8_whyNotServed 42 = .ok (.ldc 182, 2) := by decide +kernel
theorem dX8_whyNotServed_44 : decode cX8_whyNotServed 44 = .ok (.ireturn, 1) := by decide +kernel
set_option maxRecDepth 20000 in
theorem ggX8_servingTime_X8_tries : GoodIn wsX8_servingTime wsX8_tries := goodIn_r _ [5, 6, 7, 8, 9, 10, 4, 11, 104, 105, 106, 107, 108, 109, 110, 111, 112, 113, 114, 115, 116, 117, 118, 119, 120, 121, 122, 123, 124, 125, 126, 127, 128, 129, 130] (by decide +kernel) (by decide +kernel)
set_option maxRecDepth 20000 in
theorem gX8_servingTime_X8_tries : GoodIn wsX8_servingTime (wsV RX8 136 RX8 yX8_tries wsX8_tries) := goodIn_app (goodIn_of _ (by decide +kernel)) ggX8_servingTime_X8_tries
set_option maxRecDepth 20000 in
theorem ggX8_servingTime_X8_serves : GoodIn wsX8_servingTime wsX8_serves := goodIn_r _ [15, 6, 16, 17, 18, 19, 20, 21, 4, 22, 23, 24, 25, 26, 27, 28, 29, 30, 31, 32, 33, 34, 35, 36, 37, 38, 39, 40, 41, 42, 43, 44, 45, 46, 47, 48, 49, 50, 51, 52, 53, 54, 55, 56, 57, 58, 59, 60, 61, 62, 63, 64, 65, 66, 67, 68, 69, 70, 71, 72, 73, 74, 75, 76, 77, 78, 79, 80, 81, 82, 83, 84, 85, 86, 87, 88, 89, 90, 91, 92, 93, 94, 95, 96, 97, 98, 99, 104, 105, 106, 107, 108, 109, 110, 111, 112, 113, 114, 115, 116, 117, 118, 119, 120, 121, 122, 123, 124, 125, 126, 127, 128, 129, 130] (by decide +kernel) (by decide +kernel)
set_option maxRecDepth 20000 in
theorem gX8_servingTime_X8_serves : GoodIn wsX8_servingTime (wsV RX8 183 RX8 yX8_serves wsX8_serves) := goodIn_app (goodIn_of _ (by decide +kernel)) ggX8_servingTime_X8_serves
set_option maxRecDepth 20000 in
theorem ggX8_servingTime_X8_takesBack : GoodIn wsX8_servingTime wsX8_takesBack := goodIn_r _ [103, 6, 8, 7, 9, 10, 4, 11, 104, 105, 106, 107, 108, 109, 110, 111, 112, 113, 114, 115, 116, 117, 118, 119, 120, 121, 122, 123, 124, 125, 126, 127, 128, 129, 130] (by decide +kernel) (by decide +kernel)
set_option maxRecDepth 20000 in
theorem gX8_servingTime_X8_takesBack : GoodIn wsX8_servingTime (wsV RX8 139 RX8 yX8_takesBack wsX8_takesBack) := goodIn_app (goodIn_of _ (by decide +kernel)) ggX8_servingTime_X8_takesBack
theorem dX8_servingTime_0 : decode cX8_servingTime 0 = .ok (.aload_n 0, 1) := by decide +kernel
theorem dX8_servingTime_1 : decode cX8_servingTime 1 = .ok (.invokevirtual 136, 3) := by decide +kernel
theorem dX8_servingTime_4 : decode cX8_servingTime 4 = .ok (.aload_n 0, 1) := by decide +kernel
theorem dX8_servingTime_5 : decode cX8_servingTime 5 = .ok (.invokevirtual 183, 3) := by decide +kernel
theorem dX8_servingTime_8 : decode cX8_servingTime 8 = .ok (.aload_n 0, 1) := by decide +kernel
theorem dX8_servingTime_9 : decode cX8_servingTime 9 = .ok (.invokevirtual 139, 3) := by decide +kernel
theorem dX8_servingTime_12 : decode cX8_servingTime 12 = .ok (.ireturn, 1) := by decide +kernel
set_option maxRecDepth 20000 in
theorem ggX8_homeSlot_X8_isPlatter : GoodIn wsX8_homeSlot wsX8_isPlatter := goodIn_r _ [8, 2, 9, 10, 7, 11, 12, 13, 14, 15, 16, 17, 18, 19, 20, 21, 22, 23, 24, 25, 26, 27, 28, 29, 30, 31, 32, 33, 34, 35, 36, 37, 38] (by decide +kernel) (by decide +kernel)
set_option maxRecDepth 20000 in
theorem gX8_homeSlot_X8_isPlatter : GoodIn wsX8_homeSlot (wsV RX8 61 RX8 yX8_isPlatter wsX8_isPlatter) := goodIn_app (goodIn_of _ (by decide +kernel)) ggX8_homeSlot_X8_isPlatter
theorem dX8_homeSlot_0 : decode cX8_homeSlot 0 = .ok (.aload_n 0, 1) := by decide +kernel
theorem dX8_homeSlot_1 : decode cX8_homeSlot 1 = .ok (.iconst 0, 1) := by decide +kernel
theorem dX8_homeSlot_2 : decode cX8_homeSlot 2 = .ok (.putfield 51, 3) := by decide +kernel
theorem dX8_homeSlot_5 : decode cX8_homeSlot 5 = .ok (.aload_n 0, 1) := by decide +kernel
theorem dX8_homeSlot_6 : decode cX8_homeSlot 6 = .ok (.iload_n 1, 1) := by decide +kernel
theorem dX8_homeSlot_7 : decode cX8_homeSlot 7 = .ok (.invokevirtual 61, 3) := by decide +kernel
theorem dX8_homeSlot_10 : decode cX8_homeSlot 10 = .ok (.ifCond .eq 15, 3) := by decide +kernel
theorem dX8_homeSlot_13 : decode cX8_homeSlot 13 = .ok (.aload_n 0, 1) := by decide +kernel
theorem dX8_homeSlot_14 : decode cX8_homeSlot 14 = .ok (.getfield 7, 3) := by decide +kernel
theorem dX8_homeSlot_17 : decode cX8_homeSlot 17 = .ok (.bipush 29, 2) := by decide +kernel
theorem dX8_homeSlot_19 : decode cX8_homeSlot 19 = .ok (.iload_n 1, 1) := by decide +kernel
theorem dX8_homeSlot_20 : decode cX8_homeSlot 20 = .ok (.iadd, 1) := by decide +kernel
theorem dX8_homeSlot_21 : decode cX8_homeSlot 21 = .ok (.iaload, 1) := by decide +kernel
theorem dX8_homeSlot_22 : decode cX8_homeSlot 22 = .ok (.goto 5, 3) := by decide +kernel
theorem dX8_homeSlot_25 : decode cX8_homeSlot 25 = .ok (.ldc 186, 2) := by decide +kernel
theorem dX8_homeSlot_27 : decode cX8_homeSlot 27 = .ok (.ireturn, 1) := by decide +kernel
set_option maxRecDepth 20000 in
theorem ggX8_platterInSlot_X8_isSlot : GoodIn wsX8_platterInSlot wsX8_isSlot := goodIn_r _ [9, 3, 10, 11, 8, 12, 17, 18, 19, 20, 21, 22, 23, 24, 25, 26, 27, 28, 29, 30, 31, 32, 33, 34, 35, 36, 37, 38, 39, 40, 41, 42, 43] (by decide +kernel) (by decide +kernel)
set_option maxRecDepth 20000 in
theorem gX8_platterInSlot_X8_isSlot : GoodIn wsX8_platterInSlot (wsV RX8 187 RX8 yX8_isSlot wsX8_isSlot) := goodIn_app (goodIn_of _ (by decide +kernel)) ggX8_platterInSlot_X8_isSlot
set_option maxRecDepth 20000 in
theorem ggX8_platterInSlot_X8_inDrive : GoodIn wsX8_platterInSlot wsX8_inDrive := goodIn_r _ [16, 3, 17, 18, 19, 20, 21, 22, 23, 24, 25, 26, 27, 28, 29, 30, 31, 32, 33, 34, 35, 36, 37, 38, 39, 40, 41, 42, 43] (by decide +kernel) (by decide +kernel)
set_option maxRecDepth 20000 in
theorem gX8_platterInSlot_X8_inDrive : GoodIn wsX8_platterInSlot (wsV RX8 109 RX8 yX8_inDrive wsX8_inDrive) := goodIn_app (goodIn_of _ (by decide +kernel)) ggX8_platterInSlot_X8_inDrive
theorem dX8_platterInSlot_0 : decode cX8_platterInSlot 0 = .ok (.aload_n 0, 1) := by decide +kernel
theorem dX8_platterInSlot_1 : decode cX8_platterInSlot 1 = .ok (.iconst 0, 1) := by decide +kernel
theorem dX8_platterInSlot_2 : decode cX8_platterInSlot 2 = .ok (.putfield 51, 3) := by decide +kernel
theorem dX8_platterInSlot_5 : decode cX8_platterInSlot 5 = .ok (.aload_n 0, 1) := by decide +kernel
theorem dX8_platterInSlot_6 : decode cX8_platterInSlot 6 = .ok (.iload_n 1, 1) := by decide +kernel
theorem dX8_platterInSlot_7 : decode cX8_platterInSlot 7 = .ok (.invokevirtual 187, 3) := by decide +kernel
theorem dX8_platterInSlot_10 : decode cX8_platterInSlot 10 = .ok (.ifCond .ne 6, 3) := by decide +kernel
theorem dX8_platterInSlot_13 : decode cX8_platterInSlot 13 = .ok (.ldc 186, 2) := by decide +kernel
theorem dX8_platterInSlot_15 : decode cX8_platterInSlot 15 = .ok (.ireturn, 1) := by decide +kernel
theorem dX8_platterInSlot_16 : decode cX8_platterInSlot 16 = .ok (.iconst 0, 1) := by decide +kernel
theorem dX8_platterInSlot_17 : decode cX8_platterInSlot 17 = .ok (.istore_n 2, 1) := by decide +kernel
theorem dX8_platterInSlot_18 : decode cX8_platterInSlot 18 = .ok (.iload_n 2, 1) := by decide +kernel
theorem dX8_platterInSlot_19 : decode cX8_platterInSlot 19 = .ok (.aload_n 0, 1) := by decide +kernel
theorem dX8_platterInSlot_20 : decode cX8_platterInSlot 20 = .ok (.getfield 7, 3) := by decide +kernel
theorem dX8_platterInSlot_23 : decode cX8_platterInSlot 23 = .ok (.bipush 7, 2) := by decide +kernel
theorem dX8_platterInSlot_25 : decode cX8_platterInSlot 25 = .ok (.iaload, 1) := by decide +kernel
theorem dX8_platterInSlot_26 : decode cX8_platterInSlot 26 = .ok (.if_icmp .ge 33, 3) := by decide +kernel
theorem dX8_platterInSlot_29 : decode cX8_platterInSlot 29 = .ok (.aload_n 0, 1) := by decide +kernel
theorem dX8_platterInSlot_30 : decode cX8_platterInSlot 30 = .ok (.getfield 7, 3) := by decide +kernel
theorem dX8_platterInSlot_33 : decode cX8_platterInSlot 33 = .ok (.bipush 29, 2) := by decide +kernel
theorem dX8_platterInSlot_35 : decode cX8_platterInSlot 35 = .ok (.iload_n 2, 1) := by decide +kernel
theorem dX8_platterInSlot_36 : decode cX8_platterInSlot 36 = .ok (.iadd, 1) := by decide +kernel
theorem dX8_platterInSlot_37 : decode cX8_platterInSlot 37 = .ok (.iaload, 1) := by decide +kernel
theorem dX8_platterInSlot_38 : decode cX8_platterInSlot 38 = .ok (.iload_n 1, 1) := by decide +kernel
theorem dX8_platterInSlot_39 : decode cX8_platterInSlot 39 = .ok (.if_icmp .ne 14, 3) := by decide +kernel
theorem dX8_platterInSlot_42 : decode cX8_platterInSlot 42 = .ok (.aload_n 0, 1) := by decide +kernel
theorem dX8_platterInSlot_43 : decode cX8_platterInSlot 43 = .ok (.iload_n 2, 1) := by decide +kernel
theorem dX8_platterInSlot_44 : decode cX8_platterInSlot 44 = .ok (.invokevirtual 109, 3) := by decide +kernel
theorem dX8_platterInSlot_47 : decode cX8_platterInSlot 47 = .ok (.iconst (-1), 1) := by decide +kernel
theorem dX8_platterInSlot_48 : decode cX8_platterInSlot 48 = .ok (.if_icmp .ne 5, 3) := by decide +kernel
theorem dX8_platterInSlot_51 : decode cX8_platterInSlot 51 = .ok (.iload_n 2, 1) := by decide +kernel
theorem dX8_platterInSlot_52 : decode cX8_platterInSlot 52 = .ok (.ireturn, 1) := by decide +kernel
theorem dX8_platterInSlot_53 : decode cX8_platterInSlot 53 = .ok (.iinc 2 1, 3) := by decide +kernel
theorem dX8_platterInSlot_56 : decode cX8_platterInSlot 56 = .ok (.goto (-38), 3) := by decide +kernel
theorem dX8_platterInSlot_59 : decode cX8_platterInSlot 59 = .ok (.ldc 42, 2) := by decide +kernel
theorem dX8_platterInSlot_61 : decode cX8_platterInSlot 61 = .ok (.ireturn, 1) := by decide +kernel
theorem dX8_found_0 : decode cX8_found 0 = .ok (.iload_n 0, 1) := by decide +kernel
theorem dX8_found_1 : decode cX8_found 1 = .ok (.iconst (-1), 1) := by decide +kernel
theorem dX8_found_2 : decode cX8_found 2 = .ok (.if_icmp .ne 8, 3) := by decide +kernel
theorem dX8_found_5 : decode cX8_found 5 = .ok (.ldc 42, 2) := by decide +kernel
theorem dX8_found_7 : decode cX8_found 7 = .ok (.goto 4, 3) := by decide +kernel
theorem dX8_found_10 : decode cX8_found 10 = .ok (.iload_n 0, 1) := by decide +kernel
theorem dX8_found_11 : decode cX8_found 11 = .ok (.ireturn, 1) := by decide +kernel
set_option maxRecDepth 20000 in
theorem ggX8_driveOf_X8_isPlatter : GoodIn wsX8_driveOf wsX8_isPlatter := goodIn_r _ [7, 8, 9, 10, 6, 11, 20, 21, 22, 23, 24, 25, 26, 27, 28, 29, 30, 31, 32, 33, 34, 35, 36, 37, 38, 39, 40, 41, 42, 43, 44, 45, 46] (by decide +kernel) (by decide +kernel)
set_option maxRecDepth 20000 in
theorem gX8_driveOf_X8_isPlatter : GoodIn wsX8_driveOf (wsV RX8 61 RX8 yX8_isPlatter wsX8_isPlatter) := goodIn_app (goodIn_of _ (by decide +kernel)) ggX8_driveOf_X8_isPlatter
set_option maxRecDepth 20000 in
theorem ggX8_driveOf_X8_inDrive : GoodIn wsX8_driveOf wsX8_inDrive := goodIn_r _ [15, 8, 20, 21, 22, 23, 24, 25, 26, 27, 28, 29, 30, 31, 32, 33, 34, 35, 36, 37, 38, 39, 40, 41, 42, 43, 44, 45, 46] (by decide +kernel) (by decide +kernel)
set_option maxRecDepth 20000 in
theorem gX8_driveOf_X8_inDrive : GoodIn wsX8_driveOf (wsV RX8 109 RX8 yX8_inDrive wsX8_inDrive) := goodIn_app (goodIn_of _ (by decide +kernel)) ggX8_driveOf_X8_inDrive
set_option maxRecDepth 20000 in
theorem ggX8_driveOf_X8_found : GoodIn wsX8_driveOf wsX8_found := goodIn_r _ [18, 19] (by decide +kernel) (by decide +kernel)
set_option maxRecDepth 20000 in
theorem gX8_driveOf_X8_found : GoodIn wsX8_driveOf (va_wsS RX8 190 yX8_found wsX8_found) := goodIn_app (goodIn_of _ (by decide +kernel)) ggX8_driveOf_X8_found
theorem dX8_driveOf_0 : decode cX8_driveOf 0 = .ok (.aload_n 0, 1) := by decide +kernel
theorem dX8_driveOf_1 : decode cX8_driveOf 1 = .ok (.iconst 0, 1) := by decide +kernel
theorem dX8_driveOf_2 : decode cX8_driveOf 2 = .ok (.putfield 51, 3) := by decide +kernel
theorem dX8_driveOf_5 : decode cX8_driveOf 5 = .ok (.aload_n 0, 1) := by decide +kernel
theorem dX8_driveOf_6 : decode cX8_driveOf 6 = .ok (.iload_n 1, 1) := by decide +kernel
theorem dX8_driveOf_7 : decode cX8_driveOf 7 = .ok (.invokevirtual 61, 3) := by decide +kernel
theorem dX8_driveOf_10 : decode cX8_driveOf 10 = .ok (.ifCond .eq 14, 3) := by decide +kernel
theorem dX8_driveOf_13 : decode cX8_driveOf 13 = .ok (.aload_n 0, 1) := by decide +kernel
theorem dX8_driveOf_14 : decode cX8_driveOf 14 = .ok (.iload_n 1, 1) := by decide +kernel
theorem dX8_driveOf_15 : decode cX8_driveOf 15 = .ok (.invokevirtual 109, 3) := by decide +kernel
theorem dX8_driveOf_18 : decode cX8_driveOf 18 = .ok (.invokestatic 190, 3) := by decide +kernel
theorem dX8_driveOf_21 : decode cX8_driveOf 21 = .ok (.goto 5, 3) := by decide +kernel
theorem dX8_driveOf_24 : decode cX8_driveOf 24 = .ok (.ldc 186, 2) := by decide +kernel
theorem dX8_driveOf_26 : decode cX8_driveOf 26 = .ok (.ireturn, 1) := by decide +kernel
set_option maxRecDepth 20000 in
theorem ggX8_platterInDrive_X8_isDrive : GoodIn wsX8_platterInDrive wsX8_isDrive := goodIn_r _ [8, 2, 9, 10, 7, 11, 16, 17, 18, 19, 20, 21, 22, 23, 24, 25, 26, 27, 28, 29, 30, 31, 32, 33, 34, 35, 36, 37, 38, 39, 40, 41, 42] (by decide +kernel) (by decide +kernel)
set_option maxRecDepth 20000 in
theorem gX8_platterInDrive_X8_isDrive : GoodIn wsX8_platterInDrive (wsV RX8 193 RX8 yX8_isDrive wsX8_isDrive) := goodIn_app (goodIn_of _ (by decide +kernel)) ggX8_platterInDrive_X8_isDrive
set_option maxRecDepth 20000 in
theorem ggX8_platterInDrive_X8_found : GoodIn wsX8_platterInDrive wsX8_found := goodIn_r _ [14, 15] (by decide +kernel) (by decide +kernel)
set_option maxRecDepth 20000 in
theorem gX8_platterInDrive_X8_found : GoodIn wsX8_platterInDrive (va_wsS RX8 190 yX8_found wsX8_found) := goodIn_app (goodIn_of _ (by decide +kernel)) ggX8_platterInDrive_X8_found
theorem dX8_platterInDrive_0 : decode cX8_platterInDrive 0 = .ok (.aload_n 0, 1) := by decide +kernel
theorem dX8_platterInDrive_1 : decode cX8_platterInDrive 1 = .ok (.iconst 0, 1) := by decide +kernel
theorem dX8_platterInDrive_2 : decode cX8_platterInDrive 2 = .ok (.putfield 51, 3) := by decide +kernel
theorem dX8_platterInDrive_5 : decode cX8_platterInDrive 5 = .ok (.aload_n 0, 1) := by decide +kernel
theorem dX8_platterInDrive_6 : decode cX8_platterInDrive 6 = .ok (.iload_n 1, 1) := by decide +kernel
theorem dX8_platterInDrive_7 : decode cX8_platterInDrive 7 = .ok (.invokevirtual 193, 3) := by decide +kernel
theorem dX8_platterInDrive_10 : decode cX8_platterInDrive 10 = .ok (.ifCond .eq 18, 3) := by decide +kernel
theorem dX8_platterInDrive_13 : decode cX8_platterInDrive 13 = .ok (.aload_n 0, 1) := by decide +kernel
theorem dX8_platterInDrive_14 : decode cX8_platterInDrive 14 = .ok (.getfield 7, 3) := by decide +kernel
theorem dX8_platterInDrive_17 : decode cX8_platterInDrive 17 = .ok (.bipush 21, 2) := by decide +kernel
theorem dX8_platterInDrive_19 : decode cX8_platterInDrive 19 = .ok (.iload_n 1, 1) := by decide +kernel
theorem dX8_platterInDrive_20 : decode cX8_platterInDrive 20 = .ok (.iadd, 1) := by decide +kernel
theorem dX8_platterInDrive_21 : decode cX8_platterInDrive 21 = .ok (.iaload, 1) := by decide +kernel
theorem dX8_platterInDrive_22 : decode cX8_platterInDrive 22 = .ok (.invokestatic 190, 3) := by decide +kernel
theorem dX8_platterInDrive_25 : decode cX8_platterInDrive 25 = .ok (.goto 5, 3) := by decide +kernel
theorem dX8_platterInDrive_28 : decode cX8_platterInDrive 28 = .ok (.ldc 186, 2) := by decide +kernel
theorem dX8_platterInDrive_30 : decode cX8_platterInDrive 30 = .ok (.ireturn, 1) := by decide +kernel
theorem dX8_pickerPosition_0 : decode cX8_pickerPosition 0 = .ok (.aload_n 0, 1) := by decide +kernel
theorem dX8_pickerPosition_1 : decode cX8_pickerPosition 1 = .ok (.iconst 0, 1) := by decide +kernel
theorem dX8_pickerPosition_2 : decode cX8_pickerPosition 2 = .ok (.putfield 51, 3) := by decide +kernel
theorem dX8_pickerPosition_5 : decode cX8_pickerPosition 5 = .ok (.aload_n 0, 1) := by decide +kernel
theorem dX8_pickerPosition_6 : decode cX8_pickerPosition 6 = .ok (.getfield 7, 3) := by decide +kernel
theorem dX8_pickerPosition_9 : decode cX8_pickerPosition 9 = .ok (.bipush 11, 2) := by decide +kernel
theorem dX8_pickerPosition_11 : decode cX8_pickerPosition 11 = .ok (.iaload, 1) := by decide +kernel
theorem dX8_pickerPosition_12 : decode cX8_pickerPosition 12 = .ok (.ireturn, 1) := by decide +kernel
theorem dX8_clock_0 : decode cX8_clock 0 = .ok (.aload_n 0, 1) := by decide +kernel
theorem dX8_clock_1 : decode cX8_clock 1 = .ok (.iconst 0, 1) := by decide +kernel
theorem dX8_clock_2 : decode cX8_clock 2 = .ok (.putfield 51, 3) := by decide +kernel
theorem dX8_clock_5 : decode cX8_clock 5 = .ok (.aload_n 0, 1) := by decide +kernel
theorem dX8_clock_6 : decode cX8_clock 6 = .ok (.getfield 7, 3) := by decide +kernel
theorem dX8_clock_9 : decode cX8_clock 9 = .ok (.bipush 12, 2) := by decide +kernel
theorem dX8_clock_11 : decode cX8_clock 11 = .ok (.iaload, 1) := by decide +kernel
theorem dX8_clock_12 : decode cX8_clock 12 = .ok (.ireturn, 1) := by decide +kernel
theorem dX8_exchanges_0 : decode cX8_exchanges 0 = .ok (.aload_n 0, 1) := by decide +kernel
theorem dX8_exchanges_1 : decode cX8_exchanges 1 = .ok (.iconst 0, 1) := by decide +kernel
theorem dX8_exchanges_2 : decode cX8_exchanges 2 = .ok (.putfield 51, 3) := by decide +kernel
theorem dX8_exchanges_5 : decode cX8_exchanges 5 = .ok (.aload_n 0, 1) := by decide +kernel
theorem dX8_exchanges_6 : decode cX8_exchanges 6 = .ok (.getfield 7, 3) := by decide +kernel
theorem dX8_exchanges_9 : decode cX8_exchanges 9 = .ok (.bipush 13, 2) := by decide +kernel
theorem dX8_exchanges_11 : decode cX8_exchanges 11 = .ok (.iaload, 1) := by decide +kernel
theorem dX8_exchanges_12 : decode cX8_exchanges 12 = .ok (.ireturn, 1) := by decide +kernel
theorem dX8_travel_0 : decode cX8_travel 0 = .ok (.aload_n 0, 1) := by decide +kernel
theorem dX8_travel_1 : decode cX8_travel 1 = .ok (.iconst 0, 1) := by decide +kernel
theorem dX8_travel_2 : decode cX8_travel 2 = .ok (.putfield 51, 3) := by decide +kernel
theorem dX8_travel_5 : decode cX8_travel 5 = .ok (.aload_n 0, 1) := by decide +kernel
theorem dX8_travel_6 : decode cX8_travel 6 = .ok (.getfield 7, 3) := by decide +kernel
theorem dX8_travel_9 : decode cX8_travel 9 = .ok (.bipush 14, 2) := by decide +kernel
theorem dX8_travel_11 : decode cX8_travel 11 = .ok (.iaload, 1) := by decide +kernel
theorem dX8_travel_12 : decode cX8_travel 12 = .ok (.ireturn, 1) := by decide +kernel
set_option maxRecDepth 20000 in
theorem ggX8_chosenDrive_X8_isPlatter : GoodIn wsX8_chosenDrive wsX8_isPlatter := goodIn_r _ [9, 3, 10, 11, 8, 12, 25, 26, 27, 28, 29, 30, 31, 32, 33, 34, 35, 36, 37, 38, 39, 40, 41, 42, 43, 44, 45, 46, 47, 48, 49, 50, 51] (by decide +kernel) (by decide +kernel)
set_option maxRecDepth 20000 in
theorem gX8_chosenDrive_X8_isPlatter : GoodIn wsX8_chosenDrive (wsV RX8 61 RX8 yX8_isPlatter wsX8_isPlatter) := goodIn_app (goodIn_of _ (by decide +kernel)) ggX8_chosenDrive_X8_isPlatter
set_option maxRecDepth 20000 in
theorem ggX8_chosenDrive_X8_chosen : GoodIn wsX8_chosenDrive wsX8_chosen := goodIn_r _ [16, 17, 18, 19, 8, 20, 3, 21, 22, 23, 24, 25, 26, 27, 28, 29, 30, 31, 32, 33, 34, 35, 36, 37, 38, 39, 40, 41, 42, 43, 44, 45, 46, 47, 48, 49, 50, 51] (by decide +kernel) (by decide +kernel)
set_option maxRecDepth 20000 in
theorem gX8_chosenDrive_X8_chosen : GoodIn wsX8_chosenDrive (wsV RX8 116 RX8 yX8_chosen wsX8_chosen) := goodIn_app (goodIn_of _ (by decide +kernel)) ggX8_chosenDrive_X8_chosen
theorem dX8_chosenDrive_0 : decode cX8_chosenDrive 0 = .ok (.aload_n 0, 1) := by decide +kernel
theorem dX8_chosenDrive_1 : decode cX8_chosenDrive 1 = .ok (.iconst 0, 1) := by decide +kernel
theorem dX8_chosenDrive_2 : decode cX8_chosenDrive 2 = .ok (.putfield 51, 3) := by decide +kernel
theorem dX8_chosenDrive_5 : decode cX8_chosenDrive 5 = .ok (.aload_n 0, 1) := by decide +kernel
theorem dX8_chosenDrive_6 : decode cX8_chosenDrive 6 = .ok (.iload_n 1, 1) := by decide +kernel
theorem dX8_chosenDrive_7 : decode cX8_chosenDrive 7 = .ok (.invokevirtual 61, 3) := by decide +kernel
theorem dX8_chosenDrive_10 : decode cX8_chosenDrive 10 = .ok (.ifCond .ne 8, 3) := by decide +kernel
theorem dX8_chosenDrive_13 : decode cX8_chosenDrive 13 = .ok (.ldc 186, 2) := by decide +kernel
theorem dX8_chosenDrive_15 : decode cX8_chosenDrive 15 = .ok (.goto 23, 3) := by decide +kernel
theorem dX8_chosenDrive_18 : decode cX8_chosenDrive 18 = .ok (.aload_n 0, 1) := by decide +kernel
theorem dX8_chosenDrive_19 : decode cX8_chosenDrive 19 = .ok (.getfield 7, 3) := by decide +kernel
theorem dX8_chosenDrive_22 : decode cX8_chosenDrive 22 = .ok (.bipush 6, 2) := by decide +kernel
theorem dX8_chosenDrive_24 : decode cX8_chosenDrive 24 = .ok (.iaload, 1) := by decide +kernel
theorem dX8_chosenDrive_25 : decode cX8_chosenDrive 25 = .ok (.ifCond .ne 8, 3) := by decide +kernel
theorem dX8_chosenDrive_28 : decode cX8_chosenDrive 28 = .ok (.ldc 177, 2) := by decide +kernel
theorem dX8_chosenDrive_30 : decode cX8_chosenDrive 30 = .ok (.goto 8, 3) := by decide +kernel
theorem dX8_chosenDrive_33 : decode cX8_chosenDrive 33 = .ok (.aload_n 0, 1) := by decide +kernel
theorem dX8_chosenDrive_34 : decode cX8_chosenDrive 34 = .ok (.iload_n 1, 1) := by decide +kernel
theorem dX8_chosenDrive_35 : decode cX8_chosenDrive 35 = .ok (.invokevirtual 116, 3) := by decide +kernel
theorem dX8_chosenDrive_38 : decode cX8_chosenDrive 38 = .ok (.ireturn, 1) := by decide +kernel
set_option maxRecDepth 20000 in
theorem ggX8_mountTime_X8_isPlatter : GoodIn wsX8_mountTime wsX8_isPlatter := goodIn_r _ [9, 3, 10, 11, 8, 12, 65, 66, 67, 68, 69, 70, 71, 72, 73, 74, 75, 76, 77, 78, 79, 80, 81, 82, 83, 84, 85, 86, 87, 88, 89, 90, 91] (by decide +kernel) (by decide +kernel)
set_option maxRecDepth 20000 in
theorem gX8_mountTime_X8_isPlatter : GoodIn wsX8_mountTime (wsV RX8 61 RX8 yX8_isPlatter wsX8_isPlatter) := goodIn_app (goodIn_of _ (by decide +kernel)) ggX8_mountTime_X8_isPlatter
set_option maxRecDepth 20000 in
theorem ggX8_mountTime_X8_timeFor : GoodIn wsX8_mountTime wsX8_timeFor := goodIn_r _ [16, 17, 18, 19, 8, 20, 3, 21, 22, 23, 24, 25, 26, 27, 28, 29, 30, 31, 32, 33, 34, 35, 36, 37, 38, 39, 40, 41, 42, 43, 44, 45, 46, 47, 48, 49, 50, 51, 52, 53, 54, 55, 56, 57, 58, 59, 60, 61, 62, 63, 64, 65, 66, 67, 68, 69, 70, 71, 72, 73, 74, 75, 76, 77, 78, 79, 80, 81, 82, 83, 84, 85, 86, 87, 88, 89, 90, 91] (by decide +kernel) (by decide +kernel)
set_option maxRecDepth 20000 in
theorem gX8_mountTime_X8_timeFor : GoodIn wsX8_mountTime (wsV RX8 196 RX8 yX8_timeFor wsX8_timeFor) := goodIn_app (goodIn_of _ (by decide +kernel)) ggX8_mountTime_X8_timeFor
theorem dX8_mountTime_0 : decode cX8_mountTime 0 = .ok (.aload_n 0, 1) := by decide +kernel
theorem dX8_mountTime_1 : decode cX8_mountTime 1 = .ok (.iconst 0, 1) := by decide +kernel
theorem dX8_mountTime_2 : decode cX8_mountTime 2 = .ok (.putfield 51, 3) := by decide +kernel
theorem dX8_mountTime_5 : decode cX8_mountTime 5 = .ok (.aload_n 0, 1) := by decide +kernel
theorem dX8_mountTime_6 : decode cX8_mountTime 6 = .ok (.iload_n 1, 1) := by decide +kernel
theorem dX8_mountTime_7 : decode cX8_mountTime 7 = .ok (.invokevirtual 61, 3) := by decide +kernel
theorem dX8_mountTime_10 : decode cX8_mountTime 10 = .ok (.ifCond .ne 8, 3) := by decide +kernel
theorem dX8_mountTime_13 : decode cX8_mountTime 13 = .ok (.ldc 186, 2) := by decide +kernel
theorem dX8_mountTime_15 : decode cX8_mountTime 15 = .ok (.goto 23, 3) := by decide +kernel
theorem dX8_mountTime_18 : decode cX8_mountTime 18 = .ok (.aload_n 0, 1) := by decide +kernel
theorem dX8_mountTime_19 : decode cX8_mountTime 19 = .ok (.getfield 7, 3) := by decide +kernel
theorem dX8_mountTime_22 : decode cX8_mountTime 22 = .ok (.bipush 6, 2) := by decide +kernel
theorem dX8_mountTime_24 : decode cX8_mountTime 24 = .ok (.iaload, 1) := by decide +kernel
theorem dX8_mountTime_25 : decode cX8_mountTime 25 = .ok (.ifCond .ne 8, 3) := by decide +kernel
theorem dX8_mountTime_28 : decode cX8_mountTime 28 = .ok (.ldc 177, 2) := by decide +kernel
theorem dX8_mountTime_30 : decode cX8_mountTime 30 = .ok (.goto 8, 3) := by decide +kernel
theorem dX8_mountTime_33 : decode cX8_mountTime 33 = .ok (.aload_n 0, 1) := by decide +kernel
theorem dX8_mountTime_34 : decode cX8_mountTime 34 = .ok (.iload_n 1, 1) := by decide +kernel
theorem dX8_mountTime_35 : decode cX8_mountTime 35 = .ok (.invokevirtual 196, 3) := by decide +kernel
theorem dX8_mountTime_38 : decode cX8_mountTime 38 = .ok (.ireturn, 1) := by decide +kernel
set_option maxRecDepth 20000 in
theorem ggX8_mountTimeIn_X8_isPlatter : GoodIn wsX8_mountTimeIn wsX8_isPlatter := goodIn_r _ [8, 9, 10, 11, 7, 12, 61, 62, 63, 64, 65, 66, 67, 68, 69, 70, 71, 72, 73, 74, 75, 76, 77, 78, 79, 80, 81, 82, 83, 84, 85, 86, 87] (by decide +kernel) (by decide +kernel)
set_option maxRecDepth 20000 in
theorem gX8_mountTimeIn_X8_isPlatter : GoodIn wsX8_mountTimeIn (wsV RX8 61 RX8 yX8_isPlatter wsX8_isPlatter) := goodIn_app (goodIn_of _ (by decide +kernel)) ggX8_mountTimeIn_X8_isPlatter
set_option maxRecDepth 20000 in
theorem ggX8_mountTimeIn_X8_isDrive : GoodIn wsX8_mountTimeIn wsX8_isDrive := goodIn_r _ [16, 9, 10, 11, 7, 12, 61, 62, 63, 64, 65, 66, 67, 68, 69, 70, 71, 72, 73, 74, 75, 76, 77, 78, 79, 80, 81, 82, 83, 84, 85, 86, 87] (by decide +kernel) (by decide +kernel)
set_option maxRecDepth 20000 in
theorem gX8_mountTimeIn_X8_isDrive : GoodIn wsX8_mountTimeIn (wsV RX8 193 RX8 yX8_isDrive wsX8_isDrive) := goodIn_app (goodIn_of _ (by decide +kernel)) ggX8_mountTimeIn_X8_isDrive
set_option maxRecDepth 20000 in
theorem ggX8_mountTimeIn_X8_inDrive : GoodIn wsX8_mountTimeIn wsX8_inDrive := goodIn_r _ [20, 9, 61, 62, 63, 64, 65, 66, 67, 68, 69, 70, 71, 72, 73, 74, 75, 76, 77, 78, 79, 80, 81, 82, 83, 84, 85, 86, 87] (by decide +kernel) (by decide +kernel)
set_option maxRecDepth 20000 in
theorem gX8_mountTimeIn_X8_inDrive : GoodIn wsX8_mountTimeIn (wsV RX8 109 RX8 yX8_inDrive wsX8_inDrive) := goodIn_app (goodIn_of _ (by decide +kernel)) ggX8_mountTimeIn_X8_inDrive
set_option maxRecDepth 20000 in
theorem ggX8_mountTimeIn_X8_bringTime : GoodIn wsX8_mountTimeIn wsX8_bringTime := goodIn_r _ [24, 25, 26, 27, 7, 28, 9, 29, 30, 31, 32, 33, 34, 35, 36, 37, 38, 39, 40, 41, 42, 43, 44, 45, 46, 47, 48, 49, 50, 51, 52, 53, 54, 55, 56, 57, 58, 59, 60, 61, 62, 63, 64, 65, 66, 67, 68, 69, 70, 71, 72, 73, 74, 75, 76, 77, 78, 79, 80, 81, 82, 83, 84, 85, 86, 87] (by decide +kernel) (by decide +kernel)
set_option maxRecDepth 20000 in
theorem gX8_mountTimeIn_X8_bringTime : GoodIn wsX8_mountTimeIn (wsV RX8 142 RX8 yX8_bringTime wsX8_bringTime) := goodIn_app (goodIn_of _ (by decide +kernel)) ggX8_mountTimeIn_X8_bringTime
theorem dX8_mountTimeIn_0 : decode cX8_mountTimeIn 0 = .ok (.aload_n 0, 1) := by decide +kernel
theorem dX8_mountTimeIn_1 : decode cX8_mountTimeIn 1 = .ok (.iconst 0, 1) := by decide +kernel
theorem dX8_mountTimeIn_2 : decode cX8_mountTimeIn 2 = .ok (.putfield 51, 3) := by decide +kernel
theorem dX8_mountTimeIn_5 : decode cX8_mountTimeIn 5 = .ok (.aload_n 0, 1) := by decide +kernel
theorem dX8_mountTimeIn_6 : decode cX8_mountTimeIn 6 = .ok (.iload_n 1, 1) := by decide +kernel
theorem dX8_mountTimeIn_7 : decode cX8_mountTimeIn 7 = .ok (.invokevirtual 61, 3) := by decide +kernel
theorem dX8_mountTimeIn_10 : decode cX8_mountTimeIn 10 = .ok (.ifCond .eq 11, 3) := by decide +kernel
theorem dX8_mountTimeIn_13 : decode cX8_mountTimeIn 13 = .ok (.aload_n 0, 1) := by decide +kernel
theorem dX8_mountTimeIn_14 : decode cX8_mountTimeIn 14 = .ok (.iload_n 2, 1) := by decide +kernel
theorem dX8_mountTimeIn_15 : decode cX8_mountTimeIn 15 = .ok (.invokevirtual 193, 3) := by decide +kernel
theorem dX8_mountTimeIn_18 : decode cX8_mountTimeIn 18 = .ok (.ifCond .ne 6, 3) := by decide +kernel
theorem dX8_mountTimeIn_21 : decode cX8_mountTimeIn 21 = .ok (.ldc 186, 2) := by decide +kernel
theorem dX8_mountTimeIn_23 : decode cX8_mountTimeIn 23 = .ok (.ireturn, 1) := by decide +kernel
theorem dX8_mountTimeIn_24 : decode cX8_mountTimeIn 24 = .ok (.aload_n 0, 1) := by decide +kernel
theorem dX8_mountTimeIn_25 : decode cX8_mountTimeIn 25 = .ok (.iload_n 1, 1) := by decide +kernel
theorem dX8_mountTimeIn_26 : decode cX8_mountTimeIn 26 = .ok (.invokevirtual 109, 3) := by decide +kernel
theorem dX8_mountTimeIn_29 : decode cX8_mountTimeIn 29 = .ok (.istore_n 3, 1) := by decide +kernel
theorem dX8_mountTimeIn_30 : decode cX8_mountTimeIn 30 = .ok (.iload_n 3, 1) := by decide +kernel
theorem dX8_mountTimeIn_31 : decode cX8_mountTimeIn 31 = .ok (.iload_n 2, 1) := by decide +kernel
theorem dX8_mountTimeIn_32 : decode cX8_mountTimeIn 32 = .ok (.if_icmp .ne 7, 3) := by decide +kernel
theorem dX8_mountTimeIn_35 : decode cX8_mountTimeIn 35 = .ok (.iconst 0, 1) := by decide +kernel
theorem dX8_mountTimeIn_36 : decode cX8_mountTimeIn 36 = .ok (.goto 19, 3) := by decide +kernel
theorem dX8_mountTimeIn_39 : decode cX8_mountTimeIn 39 = .ok (.iload_n 3, 1) := by decide +kernel
theorem dX8_mountTimeIn_40 : decode cX8_mountTimeIn 40 = .ok (.iconst (-1), 1) := by decide +kernel
theorem dX8_mountTimeIn_41 : decode cX8_mountTimeIn 41 = .ok (.if_icmp .eq 8, 3) := by decide +kernel
theorem dX8_mountTimeIn_44 : decode cX8_mountTimeIn 44 = .ok (.ldc 42, 2) := by decide +kernel
theorem dX8_mountTimeIn_46 : decode cX8_mountTimeIn 46 = .ok (.goto 9, 3) := by decide +kernel
theorem dX8_mountTimeIn_49 : decode cX8_mountTimeIn 49 = .ok (.aload_n 0, 1) := by decide +kernel
theorem dX8_mountTimeIn_50 : decode cX8_mountTimeIn 50 = .ok (.iload_n 1, 1) := by decide +kernel
theorem dX8_mountTimeIn_51 : decode cX8_mountTimeIn 51 = .ok (.iload_n 2, 1) := by decide +kernel
theorem dX8_mountTimeIn_52 : decode cX8_mountTimeIn 52 = .ok (.invokevirtual 142, 3) := by decide +kernel
theorem dX8_mountTimeIn_55 : decode cX8_mountTimeIn 55 = .ok (.ireturn, 1) := by decide +kernel
theorem dX8_free_0 : decode cX8_free 0 = .ok (.aload_n 0, 1) := by decide +kernel
theorem dX8_free_1 : decode cX8_free 1 = .ok (.getfield 7, 3) := by decide +kernel
theorem dX8_free_4 : decode cX8_free 4 = .ok (.bipush 39, 2) := by decide +kernel
theorem dX8_free_6 : decode cX8_free 6 = .ok (.iload_n 1, 1) := by decide +kernel
theorem dX8_free_7 : decode cX8_free 7 = .ok (.iadd, 1) := by decide +kernel
theorem dX8_free_8 : decode cX8_free 8 = .ok (.iaload, 1) := by decide +kernel
theorem dX8_free_9 : decode cX8_free 9 = .ok (.aload_n 0, 1) := by decide +kernel
theorem dX8_free_10 : decode cX8_free 10 = .ok (.getfield 7, 3) := by decide +kernel
theorem dX8_free_13 : decode cX8_free 13 = .ok (.bipush 59, 2) := by decide +kernel
theorem dX8_free_15 : decode cX8_free 15 = .ok (.iload_n 1, 1) := by decide +kernel
theorem dX8_free_16 : decode cX8_free 16 = .ok (.iadd, 1) := by decide +kernel
theorem dX8_free_17 : decode cX8_free 17 = .ok (.iaload, 1) := by decide +kernel
theorem dX8_free_18 : decode cX8_free 18 = .ok (.isub, 1) := by decide +kernel
theorem dX8_free_19 : decode cX8_free 19 = .ok (.ireturn, 1) := by decide +kernel
set_option maxRecDepth 20000 in
theorem ggX8_freeSectors_X8_isPlatter : GoodIn wsX8_freeSectors wsX8_isPlatter := goodIn_r _ [7, 8, 9, 10, 6, 11, 16, 17, 18, 19, 20, 21, 22, 23, 24, 25, 26, 27, 28, 29, 30, 31, 32, 33, 34, 35, 36, 37, 38, 39, 40, 41, 42] (by decide +kernel) (by decide +kernel)
set_option maxRecDepth 20000 in
theorem gX8_freeSectors_X8_isPlatter : GoodIn wsX8_freeSectors (wsV RX8 61 RX8 yX8_isPlatter wsX8_isPlatter) := goodIn_app (goodIn_of _ (by decide +kernel)) ggX8_freeSectors_X8_isPlatter
set_option maxRecDepth 20000 in
theorem ggX8_freeSectors_X8_free : GoodIn wsX8_freeSectors wsX8_free := goodIn_r _ [15, 8, 16, 17, 18, 19, 20, 21, 22, 23, 24, 25, 26, 27, 28, 29, 30, 31, 32, 33, 34, 35, 36, 37, 38, 39, 40, 41, 42] (by decide +kernel) (by decide +kernel)
set_option maxRecDepth 20000 in
theorem gX8_freeSectors_X8_free : GoodIn wsX8_freeSectors (wsV RX8 199 RX8 yX8_free wsX8_free) := goodIn_app (goodIn_of _ (by decide +kernel)) ggX8_freeSectors_X8_free
theorem dX8_freeSectors_0 : decode cX8_freeSectors 0 = .ok (.aload_n 0, 1) := by decide +kernel
theorem dX8_freeSectors_1 : decode cX8_freeSectors 1 = .ok (.iconst 0, 1) := by decide +kernel
theorem dX8_freeSectors_2 : decode cX8_freeSectors 2 = .ok (.putfield 51, 3) := by decide +kernel
theorem dX8_freeSectors_5 : decode cX8_freeSectors 5 = .ok (.aload_n 0, 1) := by decide +kernel
theorem dX8_freeSectors_6 : decode cX8_freeSectors 6 = .ok (.iload_n 1, 1) := by decide +kernel
theorem dX8_freeSectors_7 : decode cX8_freeSectors 7 = .ok (.invokevirtual 61, 3) := by decide +kernel
theorem dX8_freeSectors_10 : decode cX8_freeSectors 10 = .ok (.ifCond .eq 11, 3) := by decide +kernel
theorem dX8_freeSectors_13 : decode cX8_freeSectors 13 = .ok (.aload_n 0, 1) := by decide +kernel
theorem dX8_freeSectors_14 : decode cX8_freeSectors 14 = .ok (.iload_n 1, 1) := by decide +kernel
theorem dX8_freeSectors_15 : decode cX8_freeSectors 15 = .ok (.invokevirtual 199, 3) := by decide +kernel
theorem dX8_freeSectors_18 : decode cX8_freeSectors 18 = .ok (.goto 5, 3) := by decide +kernel
theorem dX8_freeSectors_21 : decode cX8_freeSectors 21 = .ok (.ldc 186, 2) := by decide +kernel
theorem dX8_freeSectors_23 : decode cX8_freeSectors 23 = .ok (.ireturn, 1) := by decide +kernel
set_option maxRecDepth 20000 in
theorem ggX8_sessionCount_X8_isPlatter : GoodIn wsX8_sessionCount wsX8_isPlatter := goodIn_r _ [8, 2, 9, 10, 7, 11, 12, 13, 14, 15, 16, 17, 18, 19, 20, 21, 22, 23, 24, 25, 26, 27, 28, 29, 30, 31, 32, 33, 34, 35, 36, 37, 38] (by decide +kernel) (by decide +kernel)
set_option maxRecDepth 20000 in
theorem gX8_sessionCount_X8_isPlatter : GoodIn wsX8_sessionCount (wsV RX8 61 RX8 yX8_isPlatter wsX8_isPlatter) := goodIn_app (goodIn_of _ (by decide +kernel)) ggX8_sessionCount_X8_isPlatter
theorem dX8_sessionCount_0 : decode cX8_sessionCount 0 = .ok (.aload_n 0, 1) := by decide +kernel
theorem dX8_sessionCount_1 : decode cX8_sessionCount 1 = .ok (.iconst 0, 1) := by decide +kernel
theorem dX8_sessionCount_2 : decode cX8_sessionCount 2 = .ok (.putfield 51, 3) := by decide +kernel
theorem dX8_sessionCount_5 : decode cX8_sessionCount 5 = .ok (.aload_n 0, 1) := by decide +kernel
theorem dX8_sessionCount_6 : decode cX8_sessionCount 6 = .ok (.iload_n 1, 1) := by decide +kernel
theorem dX8_sessionCount_7 : decode cX8_sessionCount 7 = .ok (.invokevirtual 61, 3) := by decide +kernel
theorem dX8_sessionCount_10 : decode cX8_sessionCount 10 = .ok (.ifCond .eq 15, 3) := by decide +kernel
theorem dX8_sessionCount_13 : decode cX8_sessionCount 13 = .ok (.aload_n 0, 1) := by decide +kernel
theorem dX8_sessionCount_14 : decode cX8_sessionCount 14 = .ok (.getfield 7, 3) := by decide +kernel
theorem dX8_sessionCount_17 : decode cX8_sessionCount 17 = .ok (.bipush 69, 2) := by decide +kernel
theorem dX8_sessionCount_19 : decode cX8_sessionCount 19 = .ok (.iload_n 1, 1) := by decide +kernel
theorem dX8_sessionCount_20 : decode cX8_sessionCount 20 = .ok (.iadd, 1) := by decide +kernel
theorem dX8_sessionCount_21 : decode cX8_sessionCount 21 = .ok (.iaload, 1) := by decide +kernel
theorem dX8_sessionCount_22 : decode cX8_sessionCount 22 = .ok (.goto 5, 3) := by decide +kernel
theorem dX8_sessionCount_25 : decode cX8_sessionCount 25 = .ok (.ldc 186, 2) := by decide +kernel
theorem dX8_sessionCount_27 : decode cX8_sessionCount 27 = .ok (.ireturn, 1) := by decide +kernel
set_option maxRecDepth 20000 in
theorem ggX8_hasOpenSession_X8_isPlatter : GoodIn wsX8_hasOpenSession wsX8_isPlatter := goodIn_r _ [8, 2, 9, 10, 7, 11, 12, 13, 14, 15, 16, 17, 18, 19, 20, 21, 22, 23, 24, 25, 26, 27, 28, 29, 30, 31, 32, 33, 34, 35, 36, 37, 38] (by decide +kernel) (by decide +kernel)
set_option maxRecDepth 20000 in
theorem gX8_hasOpenSession_X8_isPlatter : GoodIn wsX8_hasOpenSession (wsV RX8 61 RX8 yX8_isPlatter wsX8_isPlatter) := goodIn_app (goodIn_of _ (by decide +kernel)) ggX8_hasOpenSession_X8_isPlatter
theorem dX8_hasOpenSession_0 : decode cX8_hasOpenSession 0 = .ok (.aload_n 0, 1) := by decide +kernel
theorem dX8_hasOpenSession_1 : decode cX8_hasOpenSession 1 = .ok (.iconst 0, 1) := by decide +kernel
theorem dX8_hasOpenSession_2 : decode cX8_hasOpenSession 2 = .ok (.putfield 51, 3) := by decide +kernel
theorem dX8_hasOpenSession_5 : decode cX8_hasOpenSession 5 = .ok (.aload_n 0, 1) := by decide +kernel
theorem dX8_hasOpenSession_6 : decode cX8_hasOpenSession 6 = .ok (.iload_n 1, 1) := by decide +kernel
theorem dX8_hasOpenSession_7 : decode cX8_hasOpenSession 7 = .ok (.invokevirtual 61, 3) := by decide +kernel
theorem dX8_hasOpenSession_10 : decode cX8_hasOpenSession 10 = .ok (.ifCond .eq 15, 3) := by decide +kernel
theorem dX8_hasOpenSession_13 : decode cX8_hasOpenSession 13 = .ok (.aload_n 0, 1) := by decide +kernel
theorem dX8_hasOpenSession_14 : decode cX8_hasOpenSession 14 = .ok (.getfield 7, 3) := by decide +kernel
theorem dX8_hasOpenSession_17 : decode cX8_hasOpenSession 17 = .ok (.bipush 79, 2) := by decide +kernel
theorem dX8_hasOpenSession_19 : decode cX8_hasOpenSession 19 = .ok (.iload_n 1, 1) := by decide +kernel
theorem dX8_hasOpenSession_20 : decode cX8_hasOpenSession 20 = .ok (.iadd, 1) := by decide +kernel
theorem dX8_hasOpenSession_21 : decode cX8_hasOpenSession 21 = .ok (.iaload, 1) := by decide +kernel
theorem dX8_hasOpenSession_22 : decode cX8_hasOpenSession 22 = .ok (.goto 5, 3) := by decide +kernel
theorem dX8_hasOpenSession_25 : decode cX8_hasOpenSession 25 = .ok (.ldc 186, 2) := by decide +kernel
theorem dX8_hasOpenSession_27 : decode cX8_hasOpenSession 27 = .ok (.ireturn, 1) := by decide +kernel
set_option maxRecDepth 20000 in
theorem ggX8_isSession_X8_isPlatter : GoodIn wsX8_isSession wsX8_isPlatter := goodIn_r _ [6, 1, 7, 8, 5, 9, 10, 11, 12, 13, 14, 15, 16, 17, 18, 19, 20, 21, 22, 23, 24, 25, 26, 27, 28, 29, 30, 31, 32, 33, 34, 35, 36] (by decide +kernel) (by decide +kernel)
set_option maxRecDepth 20000 in
theorem gX8_isSession_X8_isPlatter : GoodIn wsX8_isSession (wsV RX8 61 RX8 yX8_isPlatter wsX8_isPlatter) := goodIn_app (goodIn_of _ (by decide +kernel)) ggX8_isSession_X8_isPlatter
set_option maxRecDepth 20000 in
theorem ggX8_isSession_X8_isIn : GoodIn wsX8_isSession wsX8_isIn := goodIn_r _ [9] (by decide +kernel) (by decide +kernel)
set_option maxRecDepth 20000 in
theorem gX8_isSession_X8_isIn : GoodIn wsX8_isSession (va_wsS RX8 57 yX8_isIn wsX8_isIn) := goodIn_app (goodIn_of _ (by decide +kernel)) ggX8_isSession_X8_isIn
theorem dX8_isSession_0 : decode cX8_isSession 0 = .ok (.aload_n 0, 1) := by decide +kernel
theorem dX8_isSession_1 : decode cX8_isSession 1 = .ok (.iload_n 1, 1) := by decide +kernel
theorem dX8_isSession_2 : decode cX8_isSession 2 = .ok (.invokevirtual 61, 3) := by decide +kernel
theorem dX8_isSession_5 : decode cX8_isSession 5 = .ok (.ifCond .eq 28, 3) := by decide +kernel
theorem dX8_isSession_8 : decode cX8_isSession 8 = .ok (.iload_n 2, 1) := by decide +kernel
theorem dX8_isSession_9 : decode cX8_isSession 9 = .ok (.i2l, 1) := by decide +kernel
theorem dX8_isSession_10 : decode cX8_isSession 10 = .ok (.lconst 0, 1) := by decide +kernel
theorem dX8_isSession_11 : decode cX8_isSession 11 = .ok (.aload_n 0, 1) := by decide +kernel
theorem dX8_isSession_12 : decode cX8_isSession 12 = .ok (.getfield 7, 3) := by decide +kernel
theorem dX8_isSession_15 : decode cX8_isSession 15 = .ok (.bipush 69, 2) := by decide +kernel
theorem dX8_isSession_17 : decode cX8_isSession 17 = .ok (.iload_n 1, 1) := by decide +kernel
theorem dX8_isSession_18 : decode cX8_isSession 18 = .ok (.iadd, 1) := by decide +kernel
theorem dX8_isSession_19 : decode cX8_isSession 19 = .ok (.iaload, 1) := by decide +kernel
theorem dX8_isSession_20 : decode cX8_isSession 20 = .ok (.iconst 1, 1) := by decide +kernel
theorem dX8_isSession_21 : decode cX8_isSession 21 = .ok (.isub, 1) := by decide +kernel
theorem dX8_isSession_22 : decode cX8_isSession 22 = .ok (.i2l, 1) := by decide +kernel
theorem dX8_isSession_23 : decode cX8_isSession 23 = .ok (.invokestatic 57, 3) := by decide +kernel
theorem dX8_isSession_26 : decode cX8_isSession 26 = .ok (.ifCond .eq 7, 3) := by decide +kernel
theorem dX8_isSession_29 : decode cX8_isSession 29 = .ok (.iconst 1, 1) := by decide +kernel
theorem dX8_isSession_30 : decode cX8_isSession 30 = .ok (.goto 4, 3) := by decide +kernel
theorem dX8_isSession_33 : decode cX8_isSession 33 = .ok (.iconst 0, 1) := by decide +kernel
theorem dX8_isSession_34 : decode cX8_isSession 34 = .ok (.ireturn, 1) := by decide +kernel
set_option maxRecDepth 20000 in
theorem ggX8_sessionStart_X8_isSession : GoodIn wsX8_sessionStart wsX8_isSession := goodIn_r _ [8, 2, 9, 10, 11, 7, 12, 13, 14, 15, 16, 17, 18, 19, 20, 21, 22, 23, 24, 25, 26, 27, 28, 29, 30, 31, 32, 33, 34, 35, 36, 37, 38, 39, 40, 41, 42] (by decide +kernel) (by decide +kernel)
set_option maxRecDepth 20000 in
theorem gX8_sessionStart_X8_isSession : GoodIn wsX8_sessionStart (wsV RX8 202 RX8 yX8_isSession wsX8_isSession) := goodIn_app (goodIn_of _ (by decide +kernel)) ggX8_sessionStart_X8_isSession
theorem dX8_sessionStart_0 : decode cX8_sessionStart 0 = .ok (.aload_n 0, 1) := by decide +kernel
theorem dX8_sessionStart_1 : decode cX8_sessionStart 1 = .ok (.iconst 0, 1) := by decide +kernel
theorem dX8_sessionStart_2 : decode cX8_sessionStart 2 = .ok (.putfield 51, 3) := by decide +kernel
theorem dX8_sessionStart_5 : decode cX8_sessionStart 5 = .ok (.aload_n 0, 1) := by decide +kernel
theorem dX8_sessionStart_6 : decode cX8_sessionStart 6 = .ok (.iload_n 1, 1) := by decide +kernel
theorem dX8_sessionStart_7 : decode cX8_sessionStart 7 = .ok (.iload_n 2, 1) := by decide +kernel
theorem dX8_sessionStart_8 : decode cX8_sessionStart 8 = .ok (.invokevirtual 202, 3) := by decide +kernel
theorem dX8_sessionStart_11 : decode cX8_sessionStart 11 = .ok (.ifCond .eq 20, 3) := by decide +kernel
theorem dX8_sessionStart_14 : decode cX8_sessionStart 14 = .ok (.aload_n 0, 1) := by decide +kernel
theorem dX8_sessionStart_15 : decode cX8_sessionStart 15 = .ok (.getfield 7, 3) := by decide +kernel
theorem dX8_sessionStart_18 : decode cX8_sessionStart 18 = .ok (.bipush 89, 2) := by decide +kernel
theorem dX8_sessionStart_20 : decode cX8_sessionStart 20 = .ok (.bipush 8, 2) := by decide +kernel
theorem dX8_sessionStart_22 : decode cX8_sessionStart 22 = .ok (.iload_n 1, 1) := by decide +kernel
theorem dX8_sessionStart_23 : decode cX8_sessionStart 23 = .ok (.imul, 1) := by decide +kernel
theorem dX8_sessionStart_24 : decode cX8_sessionStart 24 = .ok (.iadd, 1) := by decide +kernel
theorem dX8_sessionStart_25 : decode cX8_sessionStart 25 = .ok (.iload_n 2, 1) := by decide +kernel
theorem dX8_sessionStart_26 : decode cX8_sessionStart 26 = .ok (.iadd, 1) := by decide +kernel
theorem dX8_sessionStart_27 : decode cX8_sessionStart 27 = .ok (.iaload, 1) := by decide +kernel
theorem dX8_sessionStart_28 : decode cX8_sessionStart 28 = .ok (.goto 5, 3) := by decide +kernel
theorem dX8_sessionStart_31 : decode cX8_sessionStart 31 = .ok (.ldc 186, 2) := by decide +kernel
theorem dX8_sessionStart_33 : decode cX8_sessionStart 33 = .ok (.ireturn, 1) := by decide +kernel
set_option maxRecDepth 20000 in
theorem ggX8_sessionSize_X8_isSession : GoodIn wsX8_sessionSize wsX8_isSession := goodIn_r _ [8, 2, 9, 10, 11, 7, 12, 13, 14, 15, 16, 17, 18, 19, 20, 21, 22, 23, 24, 25, 26, 27, 28, 29, 30, 31, 32, 33, 34, 35, 36, 37, 38, 39, 40, 41, 42] (by decide +kernel) (by decide +kernel)
set_option maxRecDepth 20000 in
theorem gX8_sessionSize_X8_isSession : GoodIn wsX8_sessionSize (wsV RX8 202 RX8 yX8_isSession wsX8_isSession) := goodIn_app (goodIn_of _ (by decide +kernel)) ggX8_sessionSize_X8_isSession
theorem dX8_sessionSize_0 : decode cX8_sessionSize 0 = .ok (.aload_n 0, 1) := by decide +kernel
theorem dX8_sessionSize_1 : decode cX8_sessionSize 1 = .ok (.iconst 0, 1) := by decide +kernel
theorem dX8_sessionSize_2 : decode cX8_sessionSize 2 = .ok (.putfield 51, 3) := by decide +kernel
theorem dX8_sessionSize_5 : decode cX8_sessionSize 5 = .ok (.aload_n 0, 1) := by decide +kernel
theorem dX8_sessionSize_6 : decode cX8_sessionSize 6 = .ok (.iload_n 1, 1) := by decide +kernel
theorem dX8_sessionSize_7 : decode cX8_sessionSize 7 = .ok (.iload_n 2, 1) := by decide +kernel
theorem dX8_sessionSize_8 : decode cX8_sessionSize 8 = .ok (.invokevirtual 202, 3) := by decide +kernel
theorem dX8_sessionSize_11 : decode cX8_sessionSize 11 = .ok (.ifCond .eq 21, 3) := by decide +kernel
theorem dX8_sessionSize_14 : decode cX8_sessionSize 14 = .ok (.aload_n 0, 1) := by decide +kernel
theorem dX8_sessionSize_15 : decode cX8_sessionSize 15 = .ok (.getfield 7, 3) := by decide +kernel
theorem dX8_sessionSize_18 : decode cX8_sessionSize 18 = .ok (.sipush 169, 3) := by decide +kernel
theorem dX8_sessionSize_21 : decode cX8_sessionSize 21 = .ok (.bipush 8, 2) := by decide +kernel
theorem dX8_sessionSize_23 : decode cX8_sessionSize 23 = .ok (.iload_n 1, 1) := by decide +kernel
theorem dX8_sessionSize_24 : decode cX8_sessionSize 24 = .ok (.imul, 1) := by decide +kernel
theorem dX8_sessionSize_25 : decode cX8_sessionSize 25 = .ok (.iadd, 1) := by decide +kernel
theorem dX8_sessionSize_26 : decode cX8_sessionSize 26 = .ok (.iload_n 2, 1) := by decide +kernel
theorem dX8_sessionSize_27 : decode cX8_sessionSize 27 = .ok (.iadd, 1) := by decide +kernel
theorem dX8_sessionSize_28 : decode cX8_sessionSize 28 = .ok (.iaload, 1) := by decide +kernel
theorem dX8_sessionSize_29 : decode cX8_sessionSize 29 = .ok (.goto 5, 3) := by decide +kernel
theorem dX8_sessionSize_32 : decode cX8_sessionSize 32 = .ok (.ldc 186, 2) := by decide +kernel
theorem dX8_sessionSize_34 : decode cX8_sessionSize 34 = .ok (.ireturn, 1) := by decide +kernel
set_option maxRecDepth 20000 in
theorem ggX8_sparesLeft_X8_isPlatter : GoodIn wsX8_sparesLeft wsX8_isPlatter := goodIn_r _ [8, 2, 9, 10, 7, 11, 12, 13, 14, 15, 16, 17, 18, 19, 20, 21, 22, 23, 24, 25, 26, 27, 28, 29, 30, 31, 32, 33, 34, 35, 36, 37, 38] (by decide +kernel) (by decide +kernel)
set_option maxRecDepth 20000 in
theorem gX8_sparesLeft_X8_isPlatter : GoodIn wsX8_sparesLeft (wsV RX8 61 RX8 yX8_isPlatter wsX8_isPlatter) := goodIn_app (goodIn_of _ (by decide +kernel)) ggX8_sparesLeft_X8_isPlatter
theorem dX8_sparesLeft_0 : decode cX8_sparesLeft 0 = .ok (.aload_n 0, 1) := by decide +kernel
theorem dX8_sparesLeft_1 : decode cX8_sparesLeft 1 = .ok (.iconst 0, 1) := by decide +kernel
theorem dX8_sparesLeft_2 : decode cX8_sparesLeft 2 = .ok (.putfield 51, 3) := by decide +kernel
theorem dX8_sparesLeft_5 : decode cX8_sparesLeft 5 = .ok (.aload_n 0, 1) := by decide +kernel
theorem dX8_sparesLeft_6 : decode cX8_sparesLeft 6 = .ok (.iload_n 1, 1) := by decide +kernel
theorem dX8_sparesLeft_7 : decode cX8_sparesLeft 7 = .ok (.invokevirtual 61, 3) := by decide +kernel
theorem dX8_sparesLeft_10 : decode cX8_sparesLeft 10 = .ok (.ifCond .eq 15, 3) := by decide +kernel
theorem dX8_sparesLeft_13 : decode cX8_sparesLeft 13 = .ok (.aload_n 0, 1) := by decide +kernel
theorem dX8_sparesLeft_14 : decode cX8_sparesLeft 14 = .ok (.getfield 7, 3) := by decide +kernel
theorem dX8_sparesLeft_17 : decode cX8_sparesLeft 17 = .ok (.bipush 49, 2) := by decide +kernel
theorem dX8_sparesLeft_19 : decode cX8_sparesLeft 19 = .ok (.iload_n 1, 1) := by decide +kernel
theorem dX8_sparesLeft_20 : decode cX8_sparesLeft 20 = .ok (.iadd, 1) := by decide +kernel
theorem dX8_sparesLeft_21 : decode cX8_sparesLeft 21 = .ok (.iaload, 1) := by decide +kernel
theorem dX8_sparesLeft_22 : decode cX8_sparesLeft 22 = .ok (.goto 5, 3) := by decide +kernel
theorem dX8_sparesLeft_25 : decode cX8_sparesLeft 25 = .ok (.ldc 186, 2) := by decide +kernel
theorem dX8_sparesLeft_27 : decode cX8_sparesLeft 27 = .ok (.ireturn, 1) := by decide +kernel
set_option maxRecDepth 20000 in
theorem ggX8_staleSectors_X8_isPlatter : GoodIn wsX8_staleSectors wsX8_isPlatter := goodIn_r _ [8, 3, 9, 10, 7, 11, 16, 17, 18, 19, 20, 21, 22, 23, 24, 25, 26, 27, 28, 29, 30, 31, 32, 33, 34, 35, 36, 37, 38, 39, 40, 41, 42] (by decide +kernel) (by decide +kernel)
set_option maxRecDepth 20000 in
theorem gX8_staleSectors_X8_isPlatter : GoodIn wsX8_staleSectors (wsV RX8 61 RX8 yX8_isPlatter wsX8_isPlatter) := goodIn_app (goodIn_of _ (by decide +kernel)) ggX8_staleSectors_X8_isPlatter
set_option maxRecDepth 20000 in
theorem ggX8_staleSectors_X8_isCurrent : GoodIn wsX8_staleSectors wsX8_isCurrent := goodIn_r _ [15, 3, 16, 17, 18, 19, 20, 21, 22, 23, 24, 25, 26, 27, 28, 29, 30, 31, 32, 33, 34, 35, 36, 37, 38, 39, 40, 41, 42] (by decide +kernel) (by decide +kernel)
set_option maxRecDepth 20000 in
theorem gX8_staleSectors_X8_isCurrent : GoodIn wsX8_staleSectors (wsV RX8 206 RX8 yX8_isCurrent wsX8_isCurrent) := goodIn_app (goodIn_of _ (by decide +kernel)) ggX8_staleSectors_X8_isCurrent
theorem dX8_staleSectors_0 : decode cX8_staleSectors 0 = .ok (.aload_n 0, 1) := by decide +kernel
theorem dX8_staleSectors_1 : decode cX8_staleSectors 1 = .ok (.iconst 0, 1) := by decide +kernel
theorem dX8_staleSectors_2 : decode cX8_staleSectors 2 = .ok (.putfield 51, 3) := by decide +kernel
theorem dX8_staleSectors_5 : decode cX8_staleSectors 5 = .ok (.aload_n 0, 1) := by decide +kernel
theorem dX8_staleSectors_6 : decode cX8_staleSectors 6 = .ok (.iload_n 1, 1) := by decide +kernel
theorem dX8_staleSectors_7 : decode cX8_staleSectors 7 = .ok (.invokevirtual 61, 3) := by decide +kernel
theorem dX8_staleSectors_10 : decode cX8_staleSectors 10 = .ok (.ifCond .ne 6, 3) := by decide +kernel
theorem dX8_staleSectors_13 : decode cX8_staleSectors 13 = .ok (.ldc 186, 2) := by decide +kernel
theorem dX8_staleSectors_15 : decode cX8_staleSectors 15 = .ok (.ireturn, 1) := by decide +kernel
theorem dX8_staleSectors_16 : decode cX8_staleSectors 16 = .ok (.iconst 0, 1) := by decide +kernel
theorem dX8_staleSectors_17 : decode cX8_staleSectors 17 = .ok (.istore_n 2, 1) := by decide +kernel
theorem dX8_staleSectors_18 : decode cX8_staleSectors 18 = .ok (.iconst 0, 1) := by decide +kernel
theorem dX8_staleSectors_19 : decode cX8_staleSectors 19 = .ok (.istore_n 3, 1) := by decide +kernel
theorem dX8_staleSectors_20 : decode cX8_staleSectors 20 = .ok (.iload_n 3, 1) := by decide +kernel
theorem dX8_staleSectors_21 : decode cX8_staleSectors 21 = .ok (.aload_n 0, 1) := by decide +kernel
theorem dX8_staleSectors_22 : decode cX8_staleSectors 22 = .ok (.getfield 7, 3) := by decide +kernel
theorem dX8_staleSectors_25 : decode cX8_staleSectors 25 = .ok (.bipush 10, 2) := by decide +kernel
theorem dX8_staleSectors_27 : decode cX8_staleSectors 27 = .ok (.iaload, 1) := by decide +kernel
theorem dX8_staleSectors_28 : decode cX8_staleSectors 28 = .ok (.if_icmp .ge 48, 3) := by decide +kernel
theorem dX8_staleSectors_31 : decode cX8_staleSectors 31 = .ok (.iload_n 2, 1) := by decide +kernel
theorem dX8_staleSectors_32 : decode cX8_staleSectors 32 = .ok (.aload_n 0, 1) := by decide +kernel
theorem dX8_staleSectors_33 : decode cX8_staleSectors 33 = .ok (.getfield 7, 3) := by decide +kernel
theorem dX8_staleSectors_36 : decode cX8_staleSectors 36 = .ok (.sipush 349, 3) := by decide +kernel
theorem dX8_staleSectors_39 : decode cX8_staleSectors 39 = .ok (.iload_n 3, 1) := by decide +kernel
theorem dX8_staleSectors_40 : decode cX8_staleSectors 40 = .ok (.iadd, 1) := by decide +kernel
theorem dX8_staleSectors_41 : decode cX8_staleSectors 41 = .ok (.iaload, 1) := by decide +kernel
theorem dX8_staleSectors_42 : decode cX8_staleSectors 42 = .ok (.iload_n 1, 1) := by decide +kernel
theorem dX8_staleSectors_43 : decode cX8_staleSectors 43 = .ok (.if_icmp .ne 24, 3) := by decide +kernel
theorem dX8_staleSectors_46 : decode cX8_staleSectors 46 = .ok (.aload_n 0, 1) := by decide +kernel
theorem dX8_staleSectors_47 : decode cX8_staleSectors 47 = .ok (.iload_n 3, 1) := by decide +kernel
theorem dX8_staleSectors_48 : decode cX8_staleSectors 48 = .ok (.invokevirtual 206, 3) := by decide +kernel
theorem dX8_staleSectors_51 : decode cX8_staleSectors 51 = .ok (.ifCond .ne 16, 3) := by decide +kernel
theorem dX8_staleSectors_54 : decode cX8_staleSectors 54 = .ok (.aload_n 0, 1) := by decide +kernel
theorem dX8_staleSectors_55 : decode cX8_staleSectors 55 = .ok (.getfield 7, 3) := by decide +kernel
theorem dX8_staleSectors_58 : decode cX8_staleSectors 58 = .ok (.sipush 429, 3) := by decide +kernel
theorem dX8_staleSectors_61 : decode cX8_staleSectors 61 = .ok (.iload_n 3, 1) := by decide +kernel
theorem dX8_staleSectors_62 : decode cX8_staleSectors 62 = .ok (.iadd, 1) := by decide +kernel
theorem dX8_staleSectors_63 : decode cX8_staleSectors 63 = .ok (.iaload, 1) := by decide +kernel
theorem dX8_staleSectors_64 : decode cX8_staleSectors 64 = .ok (.goto 4, 3) := by decide +kernel
theorem dX8_staleSectors_67 : decode cX8_staleSectors 67 = .ok (.iconst 0, 1) := by decide +kernel
theorem dX8_staleSectors_68 : decode cX8_staleSectors 68 = .ok (.iadd, 1) := by decide +kernel
theorem dX8_staleSectors_69 : decode cX8_staleSectors 69 = .ok (.istore_n 2, 1) := by decide +kernel
theorem dX8_staleSectors_70 : decode cX8_staleSectors 70 = .ok (.iinc 3 1, 3) := by decide +kernel
theorem dX8_staleSectors_73 : decode cX8_staleSectors 73 = .ok (.goto (-53), 3) := by decide +kernel
theorem dX8_staleSectors_76 : decode cX8_staleSectors 76 = .ok (.iload_n 2, 1) := by decide +kernel
theorem dX8_staleSectors_77 : decode cX8_staleSectors 77 = .ok (.ireturn, 1) := by decide +kernel
set_option maxRecDepth 20000 in
theorem ggX8_sectorKind_X8_isSector : GoodIn wsX8_sectorKind wsX8_isSector := goodIn_r _ [8, 3, 9, 10, 11, 7, 12, 13, 14, 15, 26, 27, 28, 29, 30, 31, 32, 33, 34, 35, 36, 37, 38, 39, 40, 41, 42, 43, 44, 45, 46, 47, 48, 49, 50, 51, 52] (by decide +kernel) (by decide +kernel)
set_option maxRecDepth 20000 in
theorem gX8_sectorKind_X8_isSector : GoodIn wsX8_sectorKind (wsV RX8 209 RX8 yX8_isSector wsX8_isSector) := goodIn_app (goodIn_of _ (by decide +kernel)) ggX8_sectorKind_X8_isSector
set_option maxRecDepth 20000 in
theorem ggX8_sectorKind_X8_versionAt : GoodIn wsX8_sectorKind wsX8_versionAt := goodIn_r _ [18, 13, 14, 7, 15] (by decide +kernel) (by decide +kernel)
set_option maxRecDepth 20000 in
theorem gX8_sectorKind_X8_versionAt : GoodIn wsX8_sectorKind (va_wsS RX8 79 yX8_versionAt wsX8_versionAt) := goodIn_app (goodIn_of _ (by decide +kernel)) ggX8_sectorKind_X8_versionAt
set_option maxRecDepth 20000 in
theorem ggX8_sectorKind_X8_isCurrent : GoodIn wsX8_sectorKind wsX8_isCurrent := goodIn_r _ [22, 3, 26, 27, 28, 29, 30, 31, 32, 33, 34, 35, 36, 37, 38, 39, 40, 41, 42, 43, 44, 45, 46, 47, 48, 49, 50, 51, 52] (by decide +kernel) (by decide +kernel)
set_option maxRecDepth 20000 in
theorem gX8_sectorKind_X8_isCurrent : GoodIn wsX8_sectorKind (wsV RX8 206 RX8 yX8_isCurrent wsX8_isCurrent) := goodIn_app (goodIn_of _ (by decide +kernel)) ggX8_sectorKind_X8_isCurrent
set_option maxRecDepth 20000 in
theorem ggX8_sectorKind_X8_isBad : GoodIn wsX8_sectorKind wsX8_isBad := goodIn_r _ [25] (by decide +kernel) (by decide +kernel)
set_option maxRecDepth 20000 in
theorem gX8_sectorKind_X8_isBad : GoodIn wsX8_sectorKind (va_wsS RX8 212 yX8_isBad wsX8_isBad) := goodIn_app (goodIn_of _ (by decide +kernel)) ggX8_sectorKind_X8_isBad
theorem dX8_sectorKind_0 : decode cX8_sectorKind 0 = .ok (.aload_n 0, 1) := by decide +kernel
theorem dX8_sectorKind_1 : decode cX8_sectorKind 1 = .ok (.iconst 0, 1) := by decide +kernel
theorem dX8_sectorKind_2 : decode cX8_sectorKind 2 = .ok (.putfield 51, 3) := by decide +kernel
theorem dX8_sectorKind_5 : decode cX8_sectorKind 5 = .ok (.aload_n 0, 1) := by decide +kernel
theorem dX8_sectorKind_6 : decode cX8_sectorKind 6 = .ok (.iload_n 1, 1) := by decide +kernel
theorem dX8_sectorKind_7 : decode cX8_sectorKind 7 = .ok (.iload_n 2, 1) := by decide +kernel
theorem dX8_sectorKind_8 : decode cX8_sectorKind 8 = .ok (.invokevirtual 209, 3) := by decide +kernel
theorem dX8_sectorKind_11 : decode cX8_sectorKind 11 = .ok (.ifCond .ne 6, 3) := by decide +kernel
theorem dX8_sectorKind_14 : decode cX8_sectorKind 14 = .ok (.ldc 186, 2) := by decide +kernel
theorem dX8_sectorKind_16 : decode cX8_sectorKind 16 = .ok (.ireturn, 1) := by decide +kernel
theorem dX8_sectorKind_17 : decode cX8_sectorKind 17 = .ok (.aload_n 0, 1) := by decide +kernel
theorem dX8_sectorKind_18 : decode cX8_sectorKind 18 = .ok (.getfield 7, 3) := by decide +kernel
theorem dX8_sectorKind_21 : decode cX8_sectorKind 21 = .ok (.iload_n 1, 1) := by decide +kernel
theorem dX8_sectorKind_22 : decode cX8_sectorKind 22 = .ok (.iload_n 2, 1) := by decide +kernel
theorem dX8_sectorKind_23 : decode cX8_sectorKind 23 = .ok (.invokestatic 79, 3) := by decide +kernel
theorem dX8_sectorKind_26 : decode cX8_sectorKind 26 = .ok (.istore_n 3, 1) := by decide +kernel
theorem dX8_sectorKind_27 : decode cX8_sectorKind 27 = .ok (.iload_n 2, 1) := by decide +kernel
theorem dX8_sectorKind_28 : decode cX8_sectorKind 28 = .ok (.aload_n 0, 1) := by decide +kernel
theorem dX8_sectorKind_29 : decode cX8_sectorKind 29 = .ok (.getfield 7, 3) := by decide +kernel
theorem dX8_sectorKind_32 : decode cX8_sectorKind 32 = .ok (.bipush 59, 2) := by decide +kernel
theorem dX8_sectorKind_34 : decode cX8_sectorKind 34 = .ok (.iload_n 1, 1) := by decide +kernel
theorem dX8_sectorKind_35 : decode cX8_sectorKind 35 = .ok (.iadd, 1) := by decide +kernel
theorem dX8_sectorKind_36 : decode cX8_sectorKind 36 = .ok (.iaload, 1) := by decide +kernel
theorem dX8_sectorKind_37 : decode cX8_sectorKind 37 = .ok (.if_icmp .lt 7, 3) := by decide +kernel
theorem dX8_sectorKind_40 : decode cX8_sectorKind 40 = .ok (.iconst 0, 1) := by decide +kernel
theorem dX8_sectorKind_41 : decode cX8_sectorKind 41 = .ok (.goto 25, 3) := by decide +kernel
theorem dX8_sectorKind_44 : decode cX8_sectorKind 44 = .ok (.iload_n 3, 1) := by decide +kernel
theorem dX8_sectorKind_45 : decode cX8_sectorKind 45 = .ok (.iconst (-1), 1) := by decide +kernel
theorem dX8_sectorKind_46 : decode cX8_sectorKind 46 = .ok (.if_icmp .ne 7, 3) := by decide +kernel
theorem dX8_sectorKind_49 : decode cX8_sectorKind 49 = .ok (.iconst 3, 1) := by decide +kernel
theorem dX8_sectorKind_50 : decode cX8_sectorKind 50 = .ok (.goto 16, 3) := by decide +kernel
theorem dX8_sectorKind_53 : decode cX8_sectorKind 53 = .ok (.aload_n 0, 1) := by decide +kernel
theorem dX8_sectorKind_54 : decode cX8_sectorKind 54 = .ok (.iload_n 3, 1) := by decide +kernel
theorem dX8_sectorKind_55 : decode cX8_sectorKind 55 = .ok (.invokevirtual 206, 3) := by decide +kernel
theorem dX8_sectorKind_58 : decode cX8_sectorKind 58 = .ok (.ifCond .eq 7, 3) := by decide +kernel
theorem dX8_sectorKind_61 : decode cX8_sectorKind 61 = .ok (.iconst 1, 1) := by decide +kernel
theorem dX8_sectorKind_62 : decode cX8_sectorKind 62 = .ok (.goto 4, 3) := by decide +kernel
theorem dX8_sectorKind_65 : decode cX8_sectorKind 65 = .ok (.iconst 2, 1) := by decide +kernel
theorem dX8_sectorKind_66 : decode cX8_sectorKind 66 = .ok (.istore 4, 2) := by decide +kernel
theorem dX8_sectorKind_68 : decode cX8_sectorKind 68 = .ok (.iload 4, 2) := by decide +kernel
theorem dX8_sectorKind_70 : decode cX8_sectorKind 70 = .ok (.aload_n 0, 1) := by decide +kernel
theorem dX8_sectorKind_71 : decode cX8_sectorKind 71 = .ok (.getfield 7, 3) := by decide +kernel
theorem dX8_sectorKind_74 : decode cX8_sectorKind 74 = .ok (.iload_n 1, 1) := by decide +kernel
theorem dX8_sectorKind_75 : decode cX8_sectorKind 75 = .ok (.iload_n 2, 1) := by decide +kernel
theorem dX8_sectorKind_76 : decode cX8_sectorKind 76 = .ok (.invokestatic 212, 3) := by decide +kernel
theorem dX8_sectorKind_79 : decode cX8_sectorKind 79 = .ok (.ifCond .eq 8, 3) := by decide +kernel
theorem dX8_sectorKind_82 : decode cX8_sectorKind 82 = .ok (.bipush 10, 2) := by decide +kernel
theorem dX8_sectorKind_84 : decode cX8_sectorKind 84 = .ok (.goto 4, 3) := by decide +kernel
theorem dX8_sectorKind_87 : decode cX8_sectorKind 87 = .ok (.iconst 0, 1) := by decide +kernel
theorem dX8_sectorKind_88 : decode cX8_sectorKind 88 = .ok (.iadd, 1) := by decide +kernel
theorem dX8_sectorKind_89 : decode cX8_sectorKind 89 = .ok (.ireturn, 1) := by decide +kernel
abbrev rm_X8_takesBack : Room := { frames := 1, cells := 0, slots := 0, locals := 22 }
set_option maxRecDepth 100000 in
set_option maxHeartbeats 4000000 in
theorem ct_X8_takesBack (l : Launch) (g : GT) (hfl : 2 ≤ gf g) (w : WT) (md : SD) (mn : Nat → Int64) (mw : Int64) {q : (Int32 × SD)} (hf : f_X8_takesBack md  = some q) : Met l yX8_takesBack wsX8_takesBack rm_X8_takesBack (cPre g (wM w md mn mw) [.ref (adr (g.1 + 189) 8 0)]) (cQi g q.1 (wM w q.2 mn mw)) 0 0 (gA g) := by
  have i_8 : ∀ w ∈ u_ws RX8 TX8 27, w ∈ wsX8_takesBack := by decide +kernel
  refine x_met (by decide) rfl (Nat.le_of_ble_eq_true rfl) ?_
  intro p e s m below meth c hx hb hr hml hts hown hlocks hK hW hS ls hl
  have hown : s.vm.findClass RX8 = some m.cls := hown
  have hl : lv_has ls 2 [(0, .ref (adr (g.1 + 189) 8 0))] := hl
  rw [f_X8_takesBack] at hf
  refine lv_aload_n hx hb dX8_takesBack_0 rfl (lv_at hl 0 rfl) ?_
  refine x_get (i := (g.1 + 189)) (k := 8) (j := 0) (t := 1) hx hb hts i_8 hown hK hW ⟨⟨hfl, rfl⟩, by decide⟩ rfl ⟨by decide, by decide, rfl⟩ (hts (.fieldLink RX8 7 "OpticalJukeboxModel" "now" "[I") (by decide +kernel)) (v := .ref (adr (g.1 + 189) 30 0)) rfl dX8_takesBack_1 ?_
  refine lv_bipush (v := 12) hx hb dX8_takesBack_4 (by decide) ?_
  refine x_iald (i := (g.1 + 189)) (k := 30) (j := 0) (f := md 30 0) hx hb hK hW ⟨⟨hfl, rfl⟩, by decide⟩ (by decide) (rfl) rfl (by unfold vp_in; decide) dX8_takesBack_6 ?_
  refine W.eq (g2 := F0 m 7 ls [.int (md 30 0 12)]) rfl ?_
  refine lv_aload_n hx hb dX8_takesBack_7 rfl (lv_at hl 0 rfl) ?_
  refine x_get (i := (g.1 + 189)) (k := 8) (j := 0) (t := 6) hx hb hts i_8 hown hK hW ⟨⟨hfl, rfl⟩, by decide⟩ rfl ⟨by decide, by decide, rfl⟩ (hts (.fieldLink RX8 133 "OpticalJukeboxModel" "begun" "I") (by decide +kernel)) (rfl) dX8_takesBack_8 ?_
  refine lv_isub hx hb dX8_takesBack_11 ?_
  obtain ⟨x1, e_x1, hf⟩ := x_letE hf
  refine x_topi e_x1 ?_
  refine lv_istore_n (lv' := [(1, .int x1), (0, .ref (adr (g.1 + 189) 8 0))]) hx hb dX8_takesBack_12 rfl hl (by decide) rfl (fun ls hl => ?_)
  refine lv_aload_n hx hb dX8_takesBack_13 rfl (lv_at hl 1 rfl) ?_
  refine x_get (i := (g.1 + 189)) (k := 8) (j := 0) (t := 3) hx hb hts i_8 hown hK hW ⟨⟨hfl, rfl⟩, by decide⟩ rfl ⟨by decide, by decide, rfl⟩ (hts (.fieldLink RX8 16 "OpticalJukeboxModel" "kept" "[I") (by decide +kernel)) (v := .ref (adr (g.1 + 189) 32 0)) rfl dX8_takesBack_14 ?_
  refine lv_aload_n hx hb dX8_takesBack_17 rfl (lv_at hl 1 rfl) ?_
  refine x_get (i := (g.1 + 189)) (k := 8) (j := 0) (t := 1) hx hb hts i_8 hown hK hW ⟨⟨hfl, rfl⟩, by decide⟩ rfl ⟨by decide, by decide, rfl⟩ (hts (.fieldLink RX8 7 "OpticalJukeboxModel" "now" "[I") (by decide +kernel)) (v := .ref (adr (g.1 + 189) 30 0)) rfl dX8_takesBack_18 ?_
  obtain ⟨q2, h_q2, hf⟩ := x_bindE hf
  refine x_cv0 (x_rS ⟨hx, hb, hml, hown, hts⟩ (ct_X8_copies l g hfl w md mn mw 32 isRow_32 30 isRow_30 h_q2) (va_cwS 2 hts gX8_takesBack_X8_copies rfl rfl rfl (by decide +kernel) ⟨Nat.le_of_ble_eq_true rfl, Nat.le_of_ble_eq_true rfl⟩) hK hW hS rfl hl.1 (rest := []) rfl (Nat.le_of_ble_eq_true rfl) dX8_takesBack_21 ⟨Nat.le_of_ble_eq_true rfl, Nat.le_of_ble_eq_true rfl⟩) hS (fun H locs hW hS => ?_)
  have hW : World g (wM w q2 mn mw) H := hW
  refine lv_iload_n hx hb dX8_takesBack_24 rfl (lv_at hl 0 rfl) ?_
  cases hf
  exact x_iret hx hb hr hlocks hK hW hS rfl dX8_takesBack_25
abbrev rm_X8_bringTime : Room := { frames := 4, cells := 0, slots := 0, locals := 86 }
set_option maxRecDepth 100000 in
set_option maxHeartbeats 4000000 in
theorem ct_X8_bringTime (l : Launch) (g : GT) (hfl : 2 ≤ gf g) (w : WT) (md : SD) (mn : Nat → Int64) (mw : Int64) (a1 : Int32) (a2 : Int32) {q : (Int32 × SD)} (hf : f_X8_bringTime md a1 a2 = some q) : Met l yX8_bringTime wsX8_bringTime rm_X8_bringTime (cPre g (wM w md mn mw) [.ref (adr (g.1 + 189) 8 0), .int a1, .int a2]) (cQi g q.1 (wM w q.2 mn mw)) 0 0 (gA g) := by
  refine x_met (by decide) rfl (Nat.le_of_ble_eq_true rfl) ?_
  intro p e s m below meth c hx hb hr hml hts hown hlocks hK hW hS ls hl
  have hown : s.vm.findClass RX8 = some m.cls := hown
  have hl : lv_has ls 3 [(0, .ref (adr (g.1 + 189) 8 0)), (1, .int a1), (2, .int a2)] := hl
  rw [f_X8_bringTime] at hf
  refine lv_aload_n hx hb dX8_bringTime_0 rfl (lv_at hl 0 rfl) ?_
  obtain ⟨q1, h_q1, hf⟩ := x_bindE hf
  refine x_cv0 (x_rV ⟨hx, hb, hml, hown, hts⟩ (ct_X8_tries l g hfl w md mn mw  h_q1) (cwV 0 hts gX8_bringTime_X8_tries rfl rfl rfl (by decide +kernel) ⟨Nat.le_of_ble_eq_true rfl, Nat.le_of_ble_eq_true rfl⟩) hK hW hS (x_recv (i := (g.1 + 189)) (k := 8) (j := 0) hK hW ⟨⟨hfl, rfl⟩, by decide⟩ rfl (by decide)) rfl hl.1 (rest := []) rfl (Nat.le_of_ble_eq_true rfl) dX8_bringTime_1 ⟨Nat.le_of_ble_eq_true rfl, Nat.le_of_ble_eq_true rfl⟩) hS (fun H locs hW hS => ?_)
  have hW : World g (wM w q1 mn mw) H := hW
  refine lv_aload_n hx hb dX8_bringTime_4 rfl (lv_at hl 0 rfl) ?_
  refine lv_iload_n hx hb dX8_bringTime_5 rfl (lv_at hl 1 rfl) ?_
  refine lv_iload_n hx hb dX8_bringTime_6 rfl (lv_at hl 2 rfl) ?_
  obtain ⟨q2, h_q2, hf⟩ := x_bindE hf
  refine x_cv0 (x_rV ⟨hx, hb, hml, hown, hts⟩ (ct_X8_brings l g hfl w q1 mn mw (a1) (a2) h_q2) (cwV 2 hts gX8_bringTime_X8_brings rfl rfl rfl (by decide +kernel) ⟨Nat.le_of_ble_eq_true rfl, Nat.le_of_ble_eq_true rfl⟩) hK hW hS (x_recv (i := (g.1 + 189)) (k := 8) (j := 0) hK hW ⟨⟨hfl, rfl⟩, by decide⟩ rfl (by decide)) rfl hl.1 (rest := []) rfl (Nat.le_of_ble_eq_true rfl) dX8_bringTime_7 ⟨Nat.le_of_ble_eq_true rfl, Nat.le_of_ble_eq_true rfl⟩) hS (fun H locs hW hS => ?_)
  have hW : World g (wM w q2 mn mw) H := hW
  refine lv_aload_n hx hb dX8_bringTime_10 rfl (lv_at hl 0 rfl) ?_
  obtain ⟨q3, h_q3, hf⟩ := x_bindE hf
  refine x_ci0 (x_rV ⟨hx, hb, hml, hown, hts⟩ (ct_X8_takesBack l g hfl w q2 mn mw  h_q3) (cwV 0 hts gX8_bringTime_X8_takesBack rfl rfl rfl (by decide +kernel) ⟨Nat.le_of_ble_eq_true rfl, Nat.le_of_ble_eq_true rfl⟩) hK hW hS (x_recv (i := (g.1 + 189)) (k := 8) (j := 0) hK hW ⟨⟨hfl, rfl⟩, by decide⟩ rfl (by decide)) rfl hl.1 (rest := []) rfl (Nat.le_of_ble_eq_true rfl) dX8_bringTime_11 ⟨Nat.le_of_ble_eq_true rfl, Nat.le_of_ble_eq_true rfl⟩) hS (fun H locs hW hS => ?_)
  have hW : World g (wM w q3.2 mn mw) H := hW
  refine W.eq (g2 := F0 m 14 ls [.int q3.1]) rfl ?_
  cases hf
  exact x_iret hx hb hr hlocks hK hW hS rfl dX8_bringTime_14
abbrev rm_X8_timeFor : Room := { frames := 5, cells := 0, slots := 0, locals := 108 }
set_option maxRecDepth 100000 in
set_option maxHeartbeats 4000000 in
theorem ct_X8_timeFor (l : Launch) (g : GT) (hfl : 2 ≤ gf g) (w : WT) (md : SD) (mn : Nat → Int64) (mw : Int64) (a1 : Int32) {q : (Int32 × SD)} (hf : f_X8_timeFor md a1 = some q) : Met l yX8_timeFor wsX8_timeFor rm_X8_timeFor (cPre g (wM w md mn mw) [.ref (adr (g.1 + 189) 8 0), .int a1]) (cQi g q.1 (wM w q.2 mn mw)) 0 0 (gA g) := by
  refine x_met (by decide) rfl (Nat.le_of_ble_eq_true rfl) ?_
  intro p e s m below meth c hx hb hr hml hts hown hlocks hK hW hS ls hl
  have hown : s.vm.findClass RX8 = some m.cls := hown
  have hl : lv_has ls 2 [(0, .ref (adr (g.1 + 189) 8 0)), (1, .int a1)] := hl
  rw [f_X8_timeFor] at hf
  refine lv_aload_n hx hb dX8_timeFor_0 rfl (lv_at hl 0 rfl) ?_
  refine lv_iload_n hx hb dX8_timeFor_1 rfl (lv_at hl 1 rfl) ?_
  obtain ⟨q1, h_q1, hf⟩ := x_bindE hf
  refine x_ci0 (x_rV ⟨hx, hb, hml, hown, hts⟩ (ct_X8_inDrive l g hfl w md mn mw (a1) h_q1) (cwV 1 hts gX8_timeFor_X8_inDrive rfl rfl rfl (by decide +kernel) ⟨Nat.le_of_ble_eq_true rfl, Nat.le_of_ble_eq_true rfl⟩) hK hW hS (x_recv (i := (g.1 + 189)) (k := 8) (j := 0) hK hW ⟨⟨hfl, rfl⟩, by decide⟩ rfl (by decide)) rfl hl.1 (rest := []) rfl (Nat.le_of_ble_eq_true rfl) dX8_timeFor_2 ⟨Nat.le_of_ble_eq_true rfl, Nat.le_of_ble_eq_true rfl⟩) hS (fun H locs hW hS => ?_)
  have hW : World g (wM w md mn mw) H := hW
  refine W.eq (g2 := F0 m 5 ls [.int q1]) rfl ?_
  refine lv_iconst (v := -1) hx hb dX8_timeFor_5 (by decide) ?_
  refine lv_icmp_eq (tgt := 13) hx hb dX8_timeFor_6 (by decide) (fun hc => ?_) (fun hc => ?_)
  · have hf := x_iteT hf hc
    refine lv_aload_n hx hb dX8_timeFor_13 rfl (lv_at hl 0 rfl) ?_
    refine lv_iload_n hx hb dX8_timeFor_14 rfl (lv_at hl 1 rfl) ?_
    refine lv_aload_n hx hb dX8_timeFor_15 rfl (lv_at hl 0 rfl) ?_
    obtain ⟨q2, h_q2, hf⟩ := x_bindE hf
    refine x_ci0 (x_rV ⟨hx, hb, hml, hown, hts⟩ (ct_X8_freeDrive l g hfl w md mn mw  h_q2) (cwV 0 hts gX8_timeFor_X8_freeDrive rfl rfl rfl (by decide +kernel) ⟨Nat.le_of_ble_eq_true rfl, Nat.le_of_ble_eq_true rfl⟩) hK hW hS (x_recv (i := (g.1 + 189)) (k := 8) (j := 0) hK hW ⟨⟨hfl, rfl⟩, by decide⟩ rfl (by decide)) rfl hl.1 (rest := [.int a1, .ref (adr (g.1 + 189) 8 0)]) rfl (Nat.le_of_ble_eq_true rfl) dX8_timeFor_16 ⟨Nat.le_of_ble_eq_true rfl, Nat.le_of_ble_eq_true rfl⟩) hS (fun H locs hW hS => ?_)
    have hW : World g (wM w md mn mw) H := hW
    refine W.eq (g2 := F0 m 19 ls [.int q2, .int a1, .ref (adr (g.1 + 189) 8 0)]) rfl ?_
    obtain ⟨q3, h_q3, hf⟩ := x_bindE hf
    refine x_ci0 (x_rV ⟨hx, hb, hml, hown, hts⟩ (ct_X8_bringTime l g hfl w md mn mw (a1) (q2) h_q3) (cwV 2 hts gX8_timeFor_X8_bringTime rfl rfl rfl (by decide +kernel) ⟨Nat.le_of_ble_eq_true rfl, Nat.le_of_ble_eq_true rfl⟩) hK hW hS (x_recv (i := (g.1 + 189)) (k := 8) (j := 0) hK hW ⟨⟨hfl, rfl⟩, by decide⟩ rfl (by decide)) rfl hl.1 (rest := []) rfl (Nat.le_of_ble_eq_true rfl) dX8_timeFor_19 ⟨Nat.le_of_ble_eq_true rfl, Nat.le_of_ble_eq_true rfl⟩) hS (fun H locs hW hS => ?_)
    have hW : World g (wM w q3.2 mn mw) H := hW
    refine W.eq (g2 := F0 m 22 ls [.int q3.1]) rfl ?_
    cases hf
    exact x_iret hx hb hr hlocks hK hW hS rfl dX8_timeFor_22
  · have hf := x_iteF hf hc
    refine lv_iconst (v := 0) hx hb dX8_timeFor_9 (by decide) ?_
    refine lv_goto (tgt := 22) hx hb dX8_timeFor_10 (by decide) ?_
    cases hf
    exact x_iret hx hb hr hlocks hK hW hS rfl dX8_timeFor_22
abbrev rm_X8_findsWanted : Room := { frames := 2, cells := 0, slots := 0, locals := 42 }
set_option maxRecDepth 100000 in
set_option maxHeartbeats 4000000 in
theorem ct_X8_findsWanted (l : Launch) (g : GT) (hfl : 2 ≤ gf g) (w : WT) (md : SD) (mn : Nat → Int64) (mw : Int64) {q : SD} (hf : f_X8_findsWanted md  = some q) : Met l yX8_findsWanted wsX8_findsWanted rm_X8_findsWanted (cPre g (wM w md mn mw) [.ref (adr (g.1 + 189) 8 0)]) (cQv g (wM w q mn mw)) 0 0 (gA g) := by
  have i_8 : ∀ w ∈ u_ws RX8 TX8 27, w ∈ wsX8_findsWanted := by decide +kernel
  refine x_met (by decide) rfl (Nat.le_of_ble_eq_true rfl) ?_
  intro p e s m below meth c hx hb hr hml hts hown hlocks hK hW hS ls hl
  have hown : s.vm.findClass RX8 = some m.cls := hown
  have hl : lv_has ls 4 [(0, .ref (adr (g.1 + 189) 8 0))] := hl
  rw [f_X8_findsWanted] at hf
  refine lv_aload_n hx hb dX8_findsWanted_0 rfl (lv_at hl 0 rfl) ?_
  refine lv_iconst (v := 0) hx hb dX8_findsWanted_1 (by decide) ?_
  obtain ⟨md1, e_md1, hf⟩ := x_letE hf
  refine x_put (i := (g.1 + 189)) (k := 8) (j := 0) (t := 10) (w' := wM w md1 mn mw) hx hb hts i_8 tyX8 tyX8_ok nmX8 hown hK hW ⟨⟨hfl, rfl⟩, by decide⟩ hS rfl ⟨by decide, by decide, rfl⟩ (hts (.fieldLink RX8 145 "OpticalJukeboxModel" "wants" "I") (by decide +kernel)) rfl (ty := .int) (by decide +kernel) rfl rfl ⟨rfl, rfl⟩ dX8_findsWanted_2 (fp_M e_md1 rfl) (fun H locs hW hS => ?_)
  refine lv_iconst (v := 0) hx hb dX8_findsWanted_5 (by decide) ?_
  refine lv_istore_n (lv' := [(1, .int (0 : Int32)), (0, .ref (adr (g.1 + 189) 8 0))]) hx hb dX8_findsWanted_6 rfl hl (by decide) rfl (fun ls hl => ?_)
  have L7 : ∀ (n : Nat) (v1_7 : Int32) (md_7 : SD) (ls : Array Slot) (H : Heap) (locs : List Loc), lv_has ls 4 [(0, .ref (adr (g.1 + 189) 8 0)), (1, .int v1_7)] → World g (wM w md_7 mn mw) H → va_S (gA g) s.heap H locs → f_X8_findsWanted_L7  n v1_7 md_7 = some q → W p l e rm_X8_findsWanted s m [.ref (adr (g.1 + 189) 8 0)].toArray below meth c H locs 0 0 (MQ below (cQv g (wM w q mn mw)) [.ref (adr (g.1 + 189) 8 0)].toArray s 0 0 (gA g)) (F0 m 7 ls []) := by
    clear hW hS hl
    intro n
    induction n with
    | zero => intro v1_7 md_7 ls H locs hl hW hS hf; cases hf
    | succ n_7 ih =>
      intro v1_7 md_7 ls H locs hl hW hS hf
      rw [f_X8_findsWanted_L7] at hf
      refine lv_iload_n hx hb dX8_findsWanted_7 rfl (lv_at hl 1 rfl) ?_
      refine lv_aload_n hx hb dX8_findsWanted_8 rfl (lv_at hl 0 rfl) ?_
      refine x_get (i := (g.1 + 189)) (k := 8) (j := 0) (t := 1) hx hb hts i_8 hown hK hW ⟨⟨hfl, rfl⟩, by decide⟩ rfl ⟨by decide, by decide, rfl⟩ (hts (.fieldLink RX8 7 "OpticalJukeboxModel" "now" "[I") (by decide +kernel)) (v := .ref (adr (g.1 + 189) 30 0)) rfl dX8_findsWanted_9 ?_
      refine lv_bipush (v := 7) hx hb dX8_findsWanted_12 (by decide) ?_
      refine x_iald (i := (g.1 + 189)) (k := 30) (j := 0) (f := md_7 30 0) hx hb hK hW ⟨⟨hfl, rfl⟩, by decide⟩ (by decide) (rfl) rfl (by unfold vp_in; decide) dX8_findsWanted_14 ?_
      refine W.eq (g2 := F0 m 15 ls [.int (md_7 30 0 7), .int v1_7]) rfl ?_
      refine lv_icmp_ge (tgt := 109) hx hb dX8_findsWanted_15 (by decide) (fun hc => ?_) (fun hc => ?_)
      · have hf := x_iteT hf hc
        cases hf
        exact x_vret hx hb hr hlocks hK hW hS dX8_findsWanted_109
      · have hf := x_iteF hf hc
        refine lv_iconst (v := 0) hx hb dX8_findsWanted_18 (by decide) ?_
        refine lv_istore_n (lv' := [(2, .int (0 : Int32)), (0, .ref (adr (g.1 + 189) 8 0)), (1, .int v1_7)]) hx hb dX8_findsWanted_19 rfl hl (by decide) rfl (fun ls hl => ?_)
        refine lv_iconst (v := 0) hx hb dX8_findsWanted_20 (by decide) ?_
        refine lv_istore_n (lv' := [(3, .int (0 : Int32)), (2, .int (0 : Int32)), (0, .ref (adr (g.1 + 189) 8 0)), (1, .int v1_7)]) hx hb dX8_findsWanted_21 rfl hl (by decide) rfl (fun ls hl => ?_)
        obtain ⟨q2, h_q2, hf⟩ := x_bindE hf
        have L22 : ∀ (QQ : State → Prop) (n : Nat) (v2_22 : Int32) (v3_22 : Int32) (ls : Array Slot) (H : Heap) (locs : List Loc), lv_has ls 4 [(0, .ref (adr (g.1 + 189) 8 0)), (1, .int v1_7), (2, .int v2_22), (3, .int v3_22)] → World g (wM w md_7 mn mw) H → va_S (gA g) s.heap H locs → f_X8_findsWanted_L22 md_7 v1_7 n v2_22 v3_22 = some q2 → (∀ (ls : Array Slot) (H : Heap) (locs : List Loc), lv_has ls 4 [(0, .ref (adr (g.1 + 189) 8 0)), (1, .int v1_7), (2, .int q2.1), (3, .int q2.2)] → World g (wM w md_7 mn mw) H → va_S (gA g) s.heap H locs → W p l e rm_X8_findsWanted s m [.ref (adr (g.1 + 189) 8 0)].toArray below meth c H locs 0 0 QQ (F0 m 67 ls [])) → W p l e rm_X8_findsWanted s m [.ref (adr (g.1 + 189) 8 0)].toArray below meth c H locs 0 0 QQ (F0 m 22 ls []) := by
          clear hW hS hl hf
          intro QQ n
          induction n with
          | zero => intro v2_22 v3_22 ls H locs hl hW hS hf kk; cases hf
          | succ n_22 ih =>
            intro v2_22 v3_22 ls H locs hl hW hS hf kk
            rw [f_X8_findsWanted_L22] at hf
            refine lv_iload_n hx hb dX8_findsWanted_22 rfl (lv_at hl 3 rfl) ?_
            refine lv_aload_n hx hb dX8_findsWanted_23 rfl (lv_at hl 0 rfl) ?_
            refine x_get (i := (g.1 + 189)) (k := 8) (j := 0) (t := 1) hx hb hts i_8 hown hK hW ⟨⟨hfl, rfl⟩, by decide⟩ rfl ⟨by decide, by decide, rfl⟩ (hts (.fieldLink RX8 7 "OpticalJukeboxModel" "now" "[I") (by decide +kernel)) (v := .ref (adr (g.1 + 189) 30 0)) rfl dX8_findsWanted_24 ?_
            refine lv_bipush (v := 16) hx hb dX8_findsWanted_27 (by decide) ?_
            refine x_iald (i := (g.1 + 189)) (k := 30) (j := 0) (f := md_7 30 0) hx hb hK hW ⟨⟨hfl, rfl⟩, by decide⟩ (by decide) (rfl) rfl (by unfold vp_in; decide) dX8_findsWanted_29 ?_
            refine W.eq (g2 := F0 m 30 ls [.int (md_7 30 0 16), .int v3_22]) rfl ?_
            refine lv_icmp_ge (tgt := 67) hx hb dX8_findsWanted_30 (by decide) (fun hc => ?_) (fun hc => ?_)
            · have hf := x_iteT hf hc
              cases hf
              exact kk ls _ _ hl hW hS
            · have hf := x_iteF hf hc
              refine lv_iload_n hx hb dX8_findsWanted_33 rfl (lv_at hl 2 rfl) ?_
              obtain ⟨K3, eK3, hf⟩ := x_letE hf
              have KK3 : ∀ (y4 : Int32) (ls : Array Slot) (H : Heap) (locs : List Loc), lv_has ls 4 [(0, .ref (adr (g.1 + 189) 8 0)), (1, .int v1_7), (2, .int v2_22), (3, .int v3_22)] → World g (wM w md_7 mn mw) H → va_S (gA g) s.heap H locs → K3 y4 = some q2 → W p l e rm_X8_findsWanted s m [.ref (adr (g.1 + 189) 8 0)].toArray below meth c H locs 0 0 QQ (F0 m 60 ls [.int y4]) := by
                intro y4 ls H locs hl hW hS hf
                subst eK3
                refine lv_istore_n (lv' := [(2, .int y4), (0, .ref (adr (g.1 + 189) 8 0)), (1, .int v1_7), (3, .int v3_22)]) hx hb dX8_findsWanted_60 rfl hl (by decide) rfl (fun ls hl => ?_)
                obtain ⟨x5, e_x5, hf⟩ := x_letE hf
                refine lv_iinc (v := x5) (lv' := [(3, .int x5), (2, .int y4), (0, .ref (adr (g.1 + 189) 8 0)), (1, .int v1_7)]) hx hb dX8_findsWanted_61 hl (k := 3) rfl (by rw [e_x5]; rfl) (by decide) rfl (fun ls hl => ?_)
                refine lv_goto (tgt := 22) hx hb dX8_findsWanted_64 (by decide) ?_
                exact ih (y4) (x5) ls _ _ (lv_sub hl [2, 3, 1, 0] rfl) hW hS hf kk
              clear eK3
              obtain ⟨K6, eK6, hf⟩ := x_letE hf
              have KK6 : ∀ (_u : Unit) (ls : Array Slot) (H : Heap) (locs : List Loc), lv_has ls 4 [(0, .ref (adr (g.1 + 189) 8 0)), (1, .int v1_7), (2, .int v2_22), (3, .int v3_22)] → World g (wM w md_7 mn mw) H → va_S (gA g) s.heap H locs → K6 _u = some q2 → W p l e rm_X8_findsWanted s m [.ref (adr (g.1 + 189) 8 0)].toArray below meth c H locs 0 0 QQ (F0 m 55 ls []) := by
                intro _u ls H locs hl hW hS hf
                subst eK6
                refine lv_iconst (v := 1) hx hb dX8_findsWanted_55 (by decide) ?_
                refine lv_goto (tgt := 60) hx hb dX8_findsWanted_56 (by decide) ?_
                exact KK3 ((1 : Int32)) ls _ _ hl hW hS hf
              clear eK6
              refine lv_if_ne (tgt := 55) hx hb dX8_findsWanted_34 (by decide) (fun hc => ?_) (fun hc => ?_)
              · have hf := x_iteF hf hc
                exact KK6 (()) ls _ _ hl hW hS hf
              · have hf := x_iteT hf hc
                refine lv_aload_n hx hb dX8_findsWanted_37 rfl (lv_at hl 0 rfl) ?_
                refine lv_aload_n hx hb dX8_findsWanted_38 rfl (lv_at hl 0 rfl) ?_
                refine x_get (i := (g.1 + 189)) (k := 8) (j := 0) (t := 1) hx hb hts i_8 hown hK hW ⟨⟨hfl, rfl⟩, by decide⟩ rfl ⟨by decide, by decide, rfl⟩ (hts (.fieldLink RX8 7 "OpticalJukeboxModel" "now" "[I") (by decide +kernel)) (v := .ref (adr (g.1 + 189) 30 0)) rfl dX8_findsWanted_39 ?_
                refine lv_sipush (v := 589) hx hb dX8_findsWanted_42 (by decide) ?_
                refine lv_iload_n hx hb dX8_findsWanted_45 rfl (lv_at hl 3 rfl) ?_
                refine lv_iadd hx hb dX8_findsWanted_46 ?_
                obtain ⟨hg7, hf⟩ := x_guardE hf
                refine x_iald (i := (g.1 + 189)) (k := 30) (j := 0) (f := md_7 30 0) hx hb hK hW ⟨⟨hfl, rfl⟩, by decide⟩ (by decide) (rfl) rfl hg7 dX8_findsWanted_47 ?_
                obtain ⟨q8, h_q8, hf⟩ := x_bindE hf
                refine x_ci0 (x_rV ⟨hx, hb, hml, hown, hts⟩ (ct_X8_platterOf l g hfl w md_7 mn mw ((md_7 30 0 (((589 : Int32) + v3_22)).toNatClampNeg)) h_q8) (cwV 1 hts gX8_findsWanted_X8_platterOf rfl rfl rfl (by decide +kernel) ⟨Nat.le_of_ble_eq_true rfl, Nat.le_of_ble_eq_true rfl⟩) hK hW hS (x_recv (i := (g.1 + 189)) (k := 8) (j := 0) hK hW ⟨⟨hfl, rfl⟩, by decide⟩ rfl (by decide)) rfl hl.1 (rest := []) rfl (Nat.le_of_ble_eq_true rfl) dX8_findsWanted_48 ⟨Nat.le_of_ble_eq_true rfl, Nat.le_of_ble_eq_true rfl⟩) hS (fun H locs hW hS => ?_)
                have hW : World g (wM w md_7 mn mw) H := hW
                refine W.eq (g2 := F0 m 51 ls [.int q8]) rfl ?_
                refine lv_iload_n hx hb dX8_findsWanted_51 rfl (lv_at hl 1 rfl) ?_
                refine lv_icmp_ne (tgt := 59) hx hb dX8_findsWanted_52 (by decide) (fun hc => ?_) (fun hc => ?_)
                · have hf := x_iteF hf hc
                  refine lv_iconst (v := 0) hx hb dX8_findsWanted_59 (by decide) ?_
                  exact KK3 ((0 : Int32)) ls _ _ hl hW hS hf
                · have hf := x_iteT hf hc
                  exact KK6 (()) ls _ _ hl hW hS hf
        refine L22 _ fuel ((0 : Int32)) ((0 : Int32)) ls _ _ (lv_sub hl [2, 3, 1, 0] rfl) hW hS h_q2 (fun ls H locs hl hW hS => ?_)
        refine lv_iload_n hx hb dX8_findsWanted_67 rfl (lv_at hl 2 rfl) ?_
        refine lv_if_eq (tgt := 103) hx hb dX8_findsWanted_68 (by decide) (fun hc => ?_) (fun hc => ?_)
        · have hf := x_iteT hf hc
          obtain ⟨x9, e_x9, hf⟩ := x_letE hf
          refine lv_iinc (v := x9) (lv' := [(1, .int x9), (0, .ref (adr (g.1 + 189) 8 0)), (2, .int q2.1), (3, .int q2.2)]) hx hb dX8_findsWanted_103 hl (k := 1) rfl (by rw [e_x9]; rfl) (by decide) rfl (fun ls hl => ?_)
          refine lv_goto (tgt := 7) hx hb dX8_findsWanted_106 (by decide) ?_
          exact ih (x9) (md_7) ls _ _ (lv_sub hl [1, 0] rfl) hW hS hf
        · have hf := x_iteF hf hc
          refine lv_aload_n hx hb dX8_findsWanted_71 rfl (lv_at hl 0 rfl) ?_
          refine lv_iload_n hx hb dX8_findsWanted_72 rfl (lv_at hl 1 rfl) ?_
          obtain ⟨q10, h_q10, hf⟩ := x_bindE hf
          refine x_ci0 (x_rV ⟨hx, hb, hml, hown, hts⟩ (ct_X8_inDrive l g hfl w md_7 mn mw (v1_7) h_q10) (cwV 1 hts gX8_findsWanted_X8_inDrive rfl rfl rfl (by decide +kernel) ⟨Nat.le_of_ble_eq_true rfl, Nat.le_of_ble_eq_true rfl⟩) hK hW hS (x_recv (i := (g.1 + 189)) (k := 8) (j := 0) hK hW ⟨⟨hfl, rfl⟩, by decide⟩ rfl (by decide)) rfl hl.1 (rest := []) rfl (Nat.le_of_ble_eq_true rfl) dX8_findsWanted_73 ⟨Nat.le_of_ble_eq_true rfl, Nat.le_of_ble_eq_true rfl⟩) hS (fun H locs hW hS => ?_)
          have hW : World g (wM w md_7 mn mw) H := hW
          refine W.eq (g2 := F0 m 76 ls [.int q10]) rfl ?_
          refine lv_iconst (v := -1) hx hb dX8_findsWanted_76 (by decide) ?_
          refine lv_icmp_eq (tgt := 83) hx hb dX8_findsWanted_77 (by decide) (fun hc => ?_) (fun hc => ?_)
          · have hf := x_iteT hf hc
            refine lv_aload_n hx hb dX8_findsWanted_83 rfl (lv_at hl 0 rfl) ?_
            refine x_get (i := (g.1 + 189)) (k := 8) (j := 0) (t := 7) hx hb hts i_8 hown hK hW ⟨⟨hfl, rfl⟩, by decide⟩ rfl ⟨by decide, by decide, rfl⟩ (hts (.fieldLink RX8 22 "OpticalJukeboxModel" "wanted" "[I") (by decide +kernel)) (v := .ref (adr (g.1 + 189) 34 0)) rfl dX8_findsWanted_84 ?_
            refine lv_aload_n hx hb dX8_findsWanted_87 rfl (lv_at hl 0 rfl) ?_
            refine x_get (i := (g.1 + 189)) (k := 8) (j := 0) (t := 10) hx hb hts i_8 hown hK hW ⟨⟨hfl, rfl⟩, by decide⟩ rfl ⟨by decide, by decide, rfl⟩ (hts (.fieldLink RX8 145 "OpticalJukeboxModel" "wants" "I") (by decide +kernel)) (rfl) dX8_findsWanted_88 ?_
            refine lv_iload_n hx hb dX8_findsWanted_91 rfl (lv_at hl 1 rfl) ?_
            obtain ⟨hg11, hf⟩ := x_guardE hf
            obtain ⟨md12, e_md12, hf⟩ := x_letE hf
            refine x_iast (i := (g.1 + 189)) (k := 34) (j := 0) (w' := wM w md12 mn mw) hx hb hK hW ⟨⟨hfl, rfl⟩, by decide⟩ hS (by decide) rfl rfl rfl hg11 dX8_findsWanted_92 (fp_M e_md12 rfl) (fun H locs hW hS => ?_)
            refine lv_aload_n hx hb dX8_findsWanted_93 rfl (lv_at hl 0 rfl) ?_
            refine lv_dup hx hb dX8_findsWanted_94 rfl ?_
            refine x_get (i := (g.1 + 189)) (k := 8) (j := 0) (t := 10) hx hb hts i_8 hown hK hW ⟨⟨hfl, rfl⟩, by decide⟩ rfl ⟨by decide, by decide, rfl⟩ (hts (.fieldLink RX8 145 "OpticalJukeboxModel" "wants" "I") (by decide +kernel)) (rfl) dX8_findsWanted_95 ?_
            refine lv_iconst (v := 1) hx hb dX8_findsWanted_98 (by decide) ?_
            refine lv_iadd hx hb dX8_findsWanted_99 ?_
            obtain ⟨md13, e_md13, hf⟩ := x_letE hf
            refine x_put (i := (g.1 + 189)) (k := 8) (j := 0) (t := 10) (w' := wM w md13 mn mw) hx hb hts i_8 tyX8 tyX8_ok nmX8 hown hK hW ⟨⟨hfl, rfl⟩, by decide⟩ hS rfl ⟨by decide, by decide, rfl⟩ (hts (.fieldLink RX8 145 "OpticalJukeboxModel" "wants" "I") (by decide +kernel)) rfl (ty := .int) (by decide +kernel) rfl rfl ⟨rfl, rfl⟩ dX8_findsWanted_100 (fp_M e_md13 rfl) (fun H locs hW hS => ?_)
            obtain ⟨x14, e_x14, hf⟩ := x_letE hf
            refine lv_iinc (v := x14) (lv' := [(1, .int x14), (0, .ref (adr (g.1 + 189) 8 0)), (2, .int q2.1), (3, .int q2.2)]) hx hb dX8_findsWanted_103 hl (k := 1) rfl (by rw [e_x14]; rfl) (by decide) rfl (fun ls hl => ?_)
            refine lv_goto (tgt := 7) hx hb dX8_findsWanted_106 (by decide) ?_
            exact ih (x14) (md13) ls _ _ (lv_sub hl [1, 0] rfl) hW hS hf
          · have hf := x_iteF hf hc
            refine lv_goto (tgt := 103) hx hb dX8_findsWanted_80 (by decide) ?_
            obtain ⟨x15, e_x15, hf⟩ := x_letE hf
            refine lv_iinc (v := x15) (lv' := [(1, .int x15), (0, .ref (adr (g.1 + 189) 8 0)), (2, .int q2.1), (3, .int q2.2)]) hx hb dX8_findsWanted_103 hl (k := 1) rfl (by rw [e_x15]; rfl) (by decide) rfl (fun ls hl => ?_)
            refine lv_goto (tgt := 7) hx hb dX8_findsWanted_106 (by decide) ?_
            exact ih (x15) (md_7) ls _ _ (lv_sub hl [1, 0] rfl) hW hS hf
  exact L7 fuel ((0 : Int32)) (md1) ls _ _ (lv_sub hl [1, 0] rfl) hW hS hf
abbrev rm_X8_homeOf : Room := { frames := 0, cells := 0, slots := 0, locals := 0 }
set_option maxRecDepth 100000 in
set_option maxHeartbeats 4000000 in
theorem ct_X8_homeOf (l : Launch) (g : GT) (hfl : 2 ≤ gf g) (w : WT) (md : SD) (mn : Nat → Int64) (mw : Int64) (a1 : Int32) {q : Int32} (hf : f_X8_homeOf md a1 = some q) : Met l yX8_homeOf wsX8_homeOf rm_X8_homeOf (cPre g (wM w md mn mw) [.ref (adr (g.1 + 189) 8 0), .int a1]) (cQi g q (wM w md mn mw)) 0 0 (gA g) := by
  have i_8 : ∀ w ∈ u_ws RX8 TX8 27, w ∈ wsX8_homeOf := by decide +kernel
  refine x_met (by decide) rfl (Nat.le_of_ble_eq_true rfl) ?_
  intro p e s m below meth c hx hb hr hml hts hown hlocks hK hW hS ls hl
  have hown : s.vm.findClass RX8 = some m.cls := hown
  have hl : lv_has ls 2 [(0, .ref (adr (g.1 + 189) 8 0)), (1, .int a1)] := hl
  rw [f_X8_homeOf] at hf
  refine lv_aload_n hx hb dX8_homeOf_0 rfl (lv_at hl 0 rfl) ?_
  refine x_get (i := (g.1 + 189)) (k := 8) (j := 0) (t := 1) hx hb hts i_8 hown hK hW ⟨⟨hfl, rfl⟩, by decide⟩ rfl ⟨by decide, by decide, rfl⟩ (hts (.fieldLink RX8 7 "OpticalJukeboxModel" "now" "[I") (by decide +kernel)) (v := .ref (adr (g.1 + 189) 30 0)) rfl dX8_homeOf_1 ?_
  refine lv_bipush (v := 29) hx hb dX8_homeOf_4 (by decide) ?_
  refine lv_aload_n hx hb dX8_homeOf_6 rfl (lv_at hl 0 rfl) ?_
  refine x_get (i := (g.1 + 189)) (k := 8) (j := 0) (t := 7) hx hb hts i_8 hown hK hW ⟨⟨hfl, rfl⟩, by decide⟩ rfl ⟨by decide, by decide, rfl⟩ (hts (.fieldLink RX8 22 "OpticalJukeboxModel" "wanted" "[I") (by decide +kernel)) (v := .ref (adr (g.1 + 189) 34 0)) rfl dX8_homeOf_7 ?_
  refine lv_iload_n hx hb dX8_homeOf_10 rfl (lv_at hl 1 rfl) ?_
  obtain ⟨hg1, hf⟩ := x_guardE hf
  refine x_iald (i := (g.1 + 189)) (k := 34) (j := 0) (f := md 34 0) hx hb hK hW ⟨⟨hfl, rfl⟩, by decide⟩ (by decide) (rfl) rfl hg1 dX8_homeOf_11 ?_
  refine lv_iadd hx hb dX8_homeOf_12 ?_
  obtain ⟨hg2, hf⟩ := x_guardE hf
  refine x_iald (i := (g.1 + 189)) (k := 30) (j := 0) (f := md 30 0) hx hb hK hW ⟨⟨hfl, rfl⟩, by decide⟩ (by decide) (rfl) rfl hg2 dX8_homeOf_13 ?_
  cases hf
  exact x_iret hx hb hr hlocks hK hW hS rfl dX8_homeOf_14
abbrev rm_X8_between : Room := { frames := 1, cells := 0, slots := 0, locals := 21 }
set_option maxRecDepth 100000 in
set_option maxHeartbeats 4000000 in
theorem ct_X8_between (l : Launch) (g : GT) (hfl : 2 ≤ gf g) (w : WT) (md : SD) (mn : Nat → Int64) (mw : Int64) (a1 : Int32) (a2 : Int32) (a3 : Int32) {q : Int32} (hf : f_X8_between md a1 a2 a3 = some q) : Met l yX8_between wsX8_between rm_X8_between (cPre g (wM w md mn mw) [.ref (adr (g.1 + 189) 8 0), .int a1, .int a2, .int a3]) (cQi g q (wM w md mn mw)) 0 0 (gA g) := by
  refine x_met (by decide) rfl (Nat.le_of_ble_eq_true rfl) ?_
  intro p e s m below meth c hx hb hr hml hts hown hlocks hK hW hS ls hl
  have hown : s.vm.findClass RX8 = some m.cls := hown
  have hl : lv_has ls 4 [(0, .ref (adr (g.1 + 189) 8 0)), (1, .int a1), (2, .int a2), (3, .int a3)] := hl
  rw [f_X8_between] at hf
  refine lv_iload_n hx hb dX8_between_0 rfl (lv_at hl 3 rfl) ?_
  refine lv_aload_n hx hb dX8_between_1 rfl (lv_at hl 0 rfl) ?_
  refine lv_iload_n hx hb dX8_between_2 rfl (lv_at hl 1 rfl) ?_
  obtain ⟨q1, h_q1, hf⟩ := x_bindE hf
  refine x_ci0 (x_rV ⟨hx, hb, hml, hown, hts⟩ (ct_X8_homeOf l g hfl w md mn mw (a1) h_q1) (cwV 1 hts gX8_between_X8_homeOf rfl rfl rfl (by decide +kernel) ⟨Nat.le_of_ble_eq_true rfl, Nat.le_of_ble_eq_true rfl⟩) hK hW hS (x_recv (i := (g.1 + 189)) (k := 8) (j := 0) hK hW ⟨⟨hfl, rfl⟩, by decide⟩ rfl (by decide)) rfl hl.1 (rest := [.int a3]) rfl (Nat.le_of_ble_eq_true rfl) dX8_between_3 ⟨Nat.le_of_ble_eq_true rfl, Nat.le_of_ble_eq_true rfl⟩) hS (fun H locs hW hS => ?_)
  have hW : World g (wM w md mn mw) H := hW
  refine W.eq (g2 := F0 m 6 ls [.int q1, .int a3]) rfl ?_
  obtain ⟨q2, h_q2, hf⟩ := x_bindE hf
  refine x_ci0 (x_rS ⟨hx, hb, hml, hown, hts⟩ (ct_X8_far l g (wM w md mn mw) (a3) (q1) h_q2) (va_cwS 2 hts gX8_between_X8_far rfl rfl rfl (by decide +kernel) ⟨Nat.le_of_ble_eq_true rfl, Nat.le_of_ble_eq_true rfl⟩) hK hW hS rfl hl.1 (rest := []) rfl (Nat.le_of_ble_eq_true rfl) dX8_between_6 ⟨Nat.le_of_ble_eq_true rfl, Nat.le_of_ble_eq_true rfl⟩) hS (fun H locs hW hS => ?_)
  have hW : World g (wM w md mn mw) H := hW
  refine W.eq (g2 := F0 m 9 ls [.int q2]) rfl ?_
  refine lv_aload_n hx hb dX8_between_9 rfl (lv_at hl 0 rfl) ?_
  refine lv_iload_n hx hb dX8_between_10 rfl (lv_at hl 1 rfl) ?_
  obtain ⟨q3, h_q3, hf⟩ := x_bindE hf
  refine x_ci0 (x_rV ⟨hx, hb, hml, hown, hts⟩ (ct_X8_homeOf l g hfl w md mn mw (a1) h_q3) (cwV 1 hts gX8_between_X8_homeOf rfl rfl rfl (by decide +kernel) ⟨Nat.le_of_ble_eq_true rfl, Nat.le_of_ble_eq_true rfl⟩) hK hW hS (x_recv (i := (g.1 + 189)) (k := 8) (j := 0) hK hW ⟨⟨hfl, rfl⟩, by decide⟩ rfl (by decide)) rfl hl.1 (rest := [.int q2]) rfl (Nat.le_of_ble_eq_true rfl) dX8_between_11 ⟨Nat.le_of_ble_eq_true rfl, Nat.le_of_ble_eq_true rfl⟩) hS (fun H locs hW hS => ?_)
  have hW : World g (wM w md mn mw) H := hW
  refine W.eq (g2 := F0 m 14 ls [.int q3, .int q2]) rfl ?_
  refine lv_aload_n hx hb dX8_between_14 rfl (lv_at hl 0 rfl) ?_
  refine lv_iload_n hx hb dX8_between_15 rfl (lv_at hl 2 rfl) ?_
  obtain ⟨q4, h_q4, hf⟩ := x_bindE hf
  refine x_ci0 (x_rV ⟨hx, hb, hml, hown, hts⟩ (ct_X8_homeOf l g hfl w md mn mw (a2) h_q4) (cwV 1 hts gX8_between_X8_homeOf rfl rfl rfl (by decide +kernel) ⟨Nat.le_of_ble_eq_true rfl, Nat.le_of_ble_eq_true rfl⟩) hK hW hS (x_recv (i := (g.1 + 189)) (k := 8) (j := 0) hK hW ⟨⟨hfl, rfl⟩, by decide⟩ rfl (by decide)) rfl hl.1 (rest := [.int q3, .int q2]) rfl (Nat.le_of_ble_eq_true rfl) dX8_between_16 ⟨Nat.le_of_ble_eq_true rfl, Nat.le_of_ble_eq_true rfl⟩) hS (fun H locs hW hS => ?_)
  have hW : World g (wM w md mn mw) H := hW
  refine W.eq (g2 := F0 m 19 ls [.int q4, .int q3, .int q2]) rfl ?_
  obtain ⟨q5, h_q5, hf⟩ := x_bindE hf
  refine x_ci0 (x_rS ⟨hx, hb, hml, hown, hts⟩ (ct_X8_far l g (wM w md mn mw) (q3) (q4) h_q5) (va_cwS 2 hts gX8_between_X8_far rfl rfl rfl (by decide +kernel) ⟨Nat.le_of_ble_eq_true rfl, Nat.le_of_ble_eq_true rfl⟩) hK hW hS rfl hl.1 (rest := [.int q2]) rfl (Nat.le_of_ble_eq_true rfl) dX8_between_19 ⟨Nat.le_of_ble_eq_true rfl, Nat.le_of_ble_eq_true rfl⟩) hS (fun H locs hW hS => ?_)
  have hW : World g (wM w md mn mw) H := hW
  refine W.eq (g2 := F0 m 22 ls [.int q5, .int q2]) rfl ?_
  refine lv_iadd hx hb dX8_between_22 ?_
  refine lv_aload_n hx hb dX8_between_23 rfl (lv_at hl 0 rfl) ?_
  refine lv_iload_n hx hb dX8_between_24 rfl (lv_at hl 2 rfl) ?_
  obtain ⟨q6, h_q6, hf⟩ := x_bindE hf
  refine x_ci0 (x_rV ⟨hx, hb, hml, hown, hts⟩ (ct_X8_homeOf l g hfl w md mn mw (a2) h_q6) (cwV 1 hts gX8_between_X8_homeOf rfl rfl rfl (by decide +kernel) ⟨Nat.le_of_ble_eq_true rfl, Nat.le_of_ble_eq_true rfl⟩) hK hW hS (x_recv (i := (g.1 + 189)) (k := 8) (j := 0) hK hW ⟨⟨hfl, rfl⟩, by decide⟩ rfl (by decide)) rfl hl.1 (rest := [.int (q2 + q5)]) rfl (Nat.le_of_ble_eq_true rfl) dX8_between_25 ⟨Nat.le_of_ble_eq_true rfl, Nat.le_of_ble_eq_true rfl⟩) hS (fun H locs hW hS => ?_)
  have hW : World g (wM w md mn mw) H := hW
  refine W.eq (g2 := F0 m 28 ls [.int q6, .int (q2 + q5)]) rfl ?_
  refine lv_iload_n hx hb dX8_between_28 rfl (lv_at hl 3 rfl) ?_
  obtain ⟨q7, h_q7, hf⟩ := x_bindE hf
  refine x_ci0 (x_rS ⟨hx, hb, hml, hown, hts⟩ (ct_X8_far l g (wM w md mn mw) (q6) (a3) h_q7) (va_cwS 2 hts gX8_between_X8_far rfl rfl rfl (by decide +kernel) ⟨Nat.le_of_ble_eq_true rfl, Nat.le_of_ble_eq_true rfl⟩) hK hW hS rfl hl.1 (rest := [.int (q2 + q5)]) rfl (Nat.le_of_ble_eq_true rfl) dX8_between_29 ⟨Nat.le_of_ble_eq_true rfl, Nat.le_of_ble_eq_true rfl⟩) hS (fun H locs hW hS => ?_)
  have hW : World g (wM w md mn mw) H := hW
  refine W.eq (g2 := F0 m 32 ls [.int q7, .int (q2 + q5)]) rfl ?_
  refine lv_iadd hx hb dX8_between_32 ?_
  cases hf
  exact x_iret hx hb hr hlocks hK hW hS rfl dX8_between_33
abbrev rm_X8_findsRest : Room := { frames := 2, cells := 0, slots := 0, locals := 44 }
set_option maxRecDepth 100000 in
set_option maxHeartbeats 4000000 in
theorem ct_X8_findsRest (l : Launch) (g : GT) (hfl : 2 ≤ gf g) (w : WT) (md : SD) (mn : Nat → Int64) (mw : Int64) (a1 : Int32) {q : SD} (hf : f_X8_findsRest md a1 = some q) : Met l yX8_findsRest wsX8_findsRest rm_X8_findsRest (cPre g (wM w md mn mw) [.ref (adr (g.1 + 189) 8 0), .int a1]) (cQv g (wM w q mn mw)) 0 0 (gA g) := by
  have i_8 : ∀ w ∈ u_ws RX8 TX8 27, w ∈ wsX8_findsRest := by decide +kernel
  refine x_met (by decide) rfl (Nat.le_of_ble_eq_true rfl) ?_
  intro p e s m below meth c hx hb hr hml hts hown hlocks hK hW hS ls hl
  have hown : s.vm.findClass RX8 = some m.cls := hown
  have hl : lv_has ls 7 [(0, .ref (adr (g.1 + 189) 8 0)), (1, .int a1)] := hl
  rw [f_X8_findsRest] at hf
  refine lv_iconst (v := 0) hx hb dX8_findsRest_0 (by decide) ?_
  refine lv_istore_n (lv' := [(2, .int (0 : Int32)), (0, .ref (adr (g.1 + 189) 8 0)), (1, .int a1)]) hx hb dX8_findsRest_1 rfl hl (by decide) rfl (fun ls hl => ?_)
  have L2 : ∀ (n : Nat) (v2_2 : Int32) (md_2 : SD) (ls : Array Slot) (H : Heap) (locs : List Loc), lv_has ls 7 [(0, .ref (adr (g.1 + 189) 8 0)), (1, .int a1), (2, .int v2_2)] → World g (wM w md_2 mn mw) H → va_S (gA g) s.heap H locs → f_X8_findsRest_L2 a1 n v2_2 md_2 = some q → W p l e rm_X8_findsRest s m [.ref (adr (g.1 + 189) 8 0), .int a1].toArray below meth c H locs 0 0 (MQ below (cQv g (wM w q mn mw)) [.ref (adr (g.1 + 189) 8 0), .int a1].toArray s 0 0 (gA g)) (F0 m 2 ls []) := by
    clear hW hS hl
    intro n
    induction n with
    | zero => intro v2_2 md_2 ls H locs hl hW hS hf; cases hf
    | succ n_2 ih =>
      intro v2_2 md_2 ls H locs hl hW hS hf
      rw [f_X8_findsRest_L2] at hf
      refine lv_iload_n hx hb dX8_findsRest_2 rfl (lv_at hl 2 rfl) ?_
      refine lv_iconst (v := 1) hx hb dX8_findsRest_3 (by decide) ?_
      refine lv_aload_n hx hb dX8_findsRest_4 rfl (lv_at hl 0 rfl) ?_
      refine x_get (i := (g.1 + 189)) (k := 8) (j := 0) (t := 10) hx hb hts i_8 hown hK hW ⟨⟨hfl, rfl⟩, by decide⟩ rfl ⟨by decide, by decide, rfl⟩ (hts (.fieldLink RX8 145 "OpticalJukeboxModel" "wants" "I") (by decide +kernel)) (rfl) dX8_findsRest_5 ?_
      refine lv_ishl hx hb dX8_findsRest_8 ?_
      refine lv_icmp_ge (tgt := 133) hx hb dX8_findsRest_9 (by decide) (fun hc => ?_) (fun hc => ?_)
      · have hf := x_iteT hf hc
        cases hf
        exact x_vret hx hb hr hlocks hK hW hS dX8_findsRest_133
      · have hf := x_iteF hf hc
        refine lv_iconst (v := 0) hx hb dX8_findsRest_12 (by decide) ?_
        refine lv_istore_n (lv' := [(3, .int (0 : Int32)), (0, .ref (adr (g.1 + 189) 8 0)), (1, .int a1), (2, .int v2_2)]) hx hb dX8_findsRest_13 rfl hl (by decide) rfl (fun ls hl => ?_)
        obtain ⟨q1, h_q1, hf⟩ := x_bindE hf
        have L14 : ∀ (QQ : State → Prop) (n : Nat) (v3_14 : Int32) (md_14 : SD) (ls : Array Slot) (H : Heap) (locs : List Loc), lv_has ls 7 [(0, .ref (adr (g.1 + 189) 8 0)), (1, .int a1), (2, .int v2_2), (3, .int v3_14)] → World g (wM w md_14 mn mw) H → va_S (gA g) s.heap H locs → f_X8_findsRest_L14 v2_2 a1 n v3_14 md_14 = some q1 → (∀ (ls : Array Slot) (H : Heap) (locs : List Loc), lv_has ls 7 [(0, .ref (adr (g.1 + 189) 8 0)), (1, .int a1), (2, .int v2_2), (3, .int q1.1)] → World g (wM w q1.2 mn mw) H → va_S (gA g) s.heap H locs → W p l e rm_X8_findsRest s m [.ref (adr (g.1 + 189) 8 0), .int a1].toArray below meth c H locs 0 0 QQ (F0 m 127 ls [])) → W p l e rm_X8_findsRest s m [.ref (adr (g.1 + 189) 8 0), .int a1].toArray below meth c H locs 0 0 QQ (F0 m 14 ls []) := by
          clear hW hS hl hf
          intro QQ n
          induction n with
          | zero => intro v3_14 md_14 ls H locs hl hW hS hf kk; cases hf
          | succ n_14 ih =>
            intro v3_14 md_14 ls H locs hl hW hS hf kk
            rw [f_X8_findsRest_L14] at hf
            refine lv_iload_n hx hb dX8_findsRest_14 rfl (lv_at hl 3 rfl) ?_
            refine lv_aload_n hx hb dX8_findsRest_15 rfl (lv_at hl 0 rfl) ?_
            refine x_get (i := (g.1 + 189)) (k := 8) (j := 0) (t := 10) hx hb hts i_8 hown hK hW ⟨⟨hfl, rfl⟩, by decide⟩ rfl ⟨by decide, by decide, rfl⟩ (hts (.fieldLink RX8 145 "OpticalJukeboxModel" "wants" "I") (by decide +kernel)) (rfl) dX8_findsRest_16 ?_
            refine lv_icmp_ge (tgt := 127) hx hb dX8_findsRest_19 (by decide) (fun hc => ?_) (fun hc => ?_)
            · have hf := x_iteT hf hc
              cases hf
              exact kk ls _ _ hl hW hS
            · have hf := x_iteF hf hc
              refine lv_iload_n hx hb dX8_findsRest_22 rfl (lv_at hl 2 rfl) ?_
              obtain ⟨K2, eK2, hf⟩ := x_letE hf
              have KK2 : ∀ (y3 : Int32) (ls : Array Slot) (H : Heap) (locs : List Loc), lv_has ls 7 [(0, .ref (adr (g.1 + 189) 8 0)), (1, .int a1), (2, .int v2_2), (3, .int v3_14)] → World g (wM w md_14 mn mw) H → va_S (gA g) s.heap H locs → K2 y3 = some q1 → W p l e rm_X8_findsRest s m [.ref (adr (g.1 + 189) 8 0), .int a1].toArray below meth c H locs 0 0 QQ (F0 m 32 ls [.int y3]) := by
                intro y3 ls H locs hl hW hS hf
                subst eK2
                refine lv_istore (lv' := [(4, .int y3), (0, .ref (adr (g.1 + 189) 8 0)), (1, .int a1), (2, .int v2_2), (3, .int v3_14)]) hx hb dX8_findsRest_32 hl (by decide) rfl (fun ls hl => ?_)
                refine lv_iconst (v := 0) hx hb dX8_findsRest_34 (by decide) ?_
                refine lv_istore (lv' := [(5, .int (0 : Int32)), (4, .int y3), (0, .ref (adr (g.1 + 189) 8 0)), (1, .int a1), (2, .int v2_2), (3, .int v3_14)]) hx hb dX8_findsRest_35 hl (by decide) rfl (fun ls hl => ?_)
                obtain ⟨q4, h_q4, hf⟩ := x_bindE hf
                have L37 : ∀ (QQ : State → Prop) (n : Nat) (v4_37 : Int32) (v5_37 : Int32) (ls : Array Slot) (H : Heap) (locs : List Loc), lv_has ls 7 [(0, .ref (adr (g.1 + 189) 8 0)), (1, .int a1), (2, .int v2_2), (3, .int v3_14), (4, .int v4_37), (5, .int v5_37)] → World g (wM w md_14 mn mw) H → va_S (gA g) s.heap H locs → f_X8_findsRest_L37 md_14 v2_2 v3_14 a1 n v4_37 v5_37 = some q4 → (∀ (ls : Array Slot) (H : Heap) (locs : List Loc), lv_has ls 7 [(0, .ref (adr (g.1 + 189) 8 0)), (1, .int a1), (2, .int v2_2), (3, .int v3_14), (4, .int q4.1), (5, .int q4.2)] → World g (wM w md_14 mn mw) H → va_S (gA g) s.heap H locs → W p l e rm_X8_findsRest s m [.ref (adr (g.1 + 189) 8 0), .int a1].toArray below meth c H locs 0 0 QQ (F0 m 108 ls [])) → W p l e rm_X8_findsRest s m [.ref (adr (g.1 + 189) 8 0), .int a1].toArray below meth c H locs 0 0 QQ (F0 m 37 ls []) := by
                  clear hW hS hl hf
                  intro QQ n
                  induction n with
                  | zero => intro v4_37 v5_37 ls H locs hl hW hS hf kk; cases hf
                  | succ n_37 ih =>
                    intro v4_37 v5_37 ls H locs hl hW hS hf kk
                    rw [f_X8_findsRest_L37] at hf
                    refine lv_iload hx hb dX8_findsRest_37 (lv_at hl 5 rfl) ?_
                    refine lv_aload_n hx hb dX8_findsRest_39 rfl (lv_at hl 0 rfl) ?_
                    refine x_get (i := (g.1 + 189)) (k := 8) (j := 0) (t := 10) hx hb hts i_8 hown hK hW ⟨⟨hfl, rfl⟩, by decide⟩ rfl ⟨by decide, by decide, rfl⟩ (hts (.fieldLink RX8 145 "OpticalJukeboxModel" "wants" "I") (by decide +kernel)) (rfl) dX8_findsRest_40 ?_
                    refine lv_icmp_ge (tgt := 108) hx hb dX8_findsRest_43 (by decide) (fun hc => ?_) (fun hc => ?_)
                    · have hf := x_iteT hf hc
                      cases hf
                      exact kk ls _ _ hl hW hS
                    · have hf := x_iteF hf hc
                      refine lv_iload_n hx hb dX8_findsRest_46 rfl (lv_at hl 2 rfl) ?_
                      refine lv_iload hx hb dX8_findsRest_47 (lv_at hl 5 rfl) ?_
                      refine lv_ishr hx hb dX8_findsRest_49 ?_
                      refine lv_iconst (v := 1) hx hb dX8_findsRest_50 (by decide) ?_
                      refine lv_iand hx hb dX8_findsRest_51 ?_
                      refine lv_if_ne (tgt := 58) hx hb dX8_findsRest_52 (by decide) (fun hc => ?_) (fun hc => ?_)
                      · have hf := x_iteF hf hc
                        refine lv_aload_n hx hb dX8_findsRest_58 rfl (lv_at hl 0 rfl) ?_
                        refine lv_iload_n hx hb dX8_findsRest_59 rfl (lv_at hl 3 rfl) ?_
                        refine lv_iload hx hb dX8_findsRest_60 (lv_at hl 5 rfl) ?_
                        refine lv_iload_n hx hb dX8_findsRest_62 rfl (lv_at hl 1 rfl) ?_
                        obtain ⟨q5, h_q5, hf⟩ := x_bindE hf
                        refine x_ci0 (x_rV ⟨hx, hb, hml, hown, hts⟩ (ct_X8_between l g hfl w md_14 mn mw (v3_14) (v5_37) (a1) h_q5) (cwV 3 hts gX8_findsRest_X8_between rfl rfl rfl (by decide +kernel) ⟨Nat.le_of_ble_eq_true rfl, Nat.le_of_ble_eq_true rfl⟩) hK hW hS (x_recv (i := (g.1 + 189)) (k := 8) (j := 0) hK hW ⟨⟨hfl, rfl⟩, by decide⟩ rfl (by decide)) rfl hl.1 (rest := []) rfl (Nat.le_of_ble_eq_true rfl) dX8_findsRest_63 ⟨Nat.le_of_ble_eq_true rfl, Nat.le_of_ble_eq_true rfl⟩) hS (fun H locs hW hS => ?_)
                        have hW : World g (wM w md_14 mn mw) H := hW
                        refine W.eq (g2 := F0 m 66 ls [.int q5]) rfl ?_
                        refine lv_aload_n hx hb dX8_findsRest_66 rfl (lv_at hl 0 rfl) ?_
                        refine x_get (i := (g.1 + 189)) (k := 8) (j := 0) (t := 9) hx hb hts i_8 hown hK hW ⟨⟨hfl, rfl⟩, by decide⟩ rfl ⟨by decide, by decide, rfl⟩ (hts (.fieldLink RX8 28 "OpticalJukeboxModel" "rest" "[I") (by decide +kernel)) (v := .ref (adr (g.1 + 189) 36 0)) rfl dX8_findsRest_67 ?_
                        refine lv_bipush (v := 10) hx hb dX8_findsRest_70 (by decide) ?_
                        refine lv_iload_n hx hb dX8_findsRest_72 rfl (lv_at hl 2 rfl) ?_
                        refine lv_iconst (v := 1) hx hb dX8_findsRest_73 (by decide) ?_
                        refine lv_iload hx hb dX8_findsRest_74 (lv_at hl 5 rfl) ?_
                        refine lv_ishl hx hb dX8_findsRest_76 ?_
                        refine lv_isub hx hb dX8_findsRest_77 ?_
                        refine lv_imul hx hb dX8_findsRest_78 ?_
                        refine lv_iload hx hb dX8_findsRest_79 (lv_at hl 5 rfl) ?_
                        refine lv_iadd hx hb dX8_findsRest_81 ?_
                        obtain ⟨hg6, hf⟩ := x_guardE hf
                        refine x_iald (i := (g.1 + 189)) (k := 36) (j := 0) (f := md_14 36 0) hx hb hK hW ⟨⟨hfl, rfl⟩, by decide⟩ (by decide) (rfl) rfl hg6 dX8_findsRest_82 ?_
                        refine lv_iadd hx hb dX8_findsRest_83 ?_
                        obtain ⟨x7, e_x7, hf⟩ := x_letE hf
                        refine x_topi e_x7 ?_
                        refine lv_istore (lv' := [(6, .int x7), (0, .ref (adr (g.1 + 189) 8 0)), (1, .int a1), (2, .int v2_2), (3, .int v3_14), (4, .int v4_37), (5, .int v5_37)]) hx hb dX8_findsRest_84 hl (by decide) rfl (fun ls hl => ?_)
                        refine lv_iload hx hb dX8_findsRest_86 (lv_at hl 0 rfl) ?_
                        refine lv_iload hx hb dX8_findsRest_88 (lv_at hl 5 rfl) ?_
                        obtain ⟨K8, eK8, hf⟩ := x_letE hf
                        have KK8 : ∀ (y9 : Int32) (ls : Array Slot) (H : Heap) (locs : List Loc), lv_has ls 7 [(0, .ref (adr (g.1 + 189) 8 0)), (1, .int a1), (2, .int v2_2), (3, .int v3_14), (4, .int v4_37), (5, .int v5_37), (6, .int x7)] → World g (wM w md_14 mn mw) H → va_S (gA g) s.heap H locs → K8 y9 = some q4 → W p l e rm_X8_findsRest s m [.ref (adr (g.1 + 189) 8 0), .int a1].toArray below meth c H locs 0 0 QQ (F0 m 100 ls [.int y9]) := by
                          intro y9 ls H locs hl hW hS hf
                          subst eK8
                          refine lv_istore (lv' := [(4, .int y9), (0, .ref (adr (g.1 + 189) 8 0)), (1, .int a1), (2, .int v2_2), (3, .int v3_14), (5, .int v5_37), (6, .int x7)]) hx hb dX8_findsRest_100 hl (by decide) rfl (fun ls hl => ?_)
                          obtain ⟨x10, e_x10, hf⟩ := x_letE hf
                          refine lv_iinc (v := x10) (lv' := [(5, .int x10), (4, .int y9), (0, .ref (adr (g.1 + 189) 8 0)), (1, .int a1), (2, .int v2_2), (3, .int v3_14), (6, .int x7)]) hx hb dX8_findsRest_102 hl (k := 5) rfl (by rw [e_x10]; rfl) (by decide) rfl (fun ls hl => ?_)
                          refine lv_goto (tgt := 37) hx hb dX8_findsRest_105 (by decide) ?_
                          exact ih (y9) (x10) ls _ _ (lv_sub hl [2, 3, 4, 5, 1, 0] rfl) hW hS hf kk
                        clear eK8
                        refine lv_icmp_ge (tgt := 98) hx hb dX8_findsRest_90 (by decide) (fun hc => ?_) (fun hc => ?_)
                        · have hf := x_iteT hf hc
                          refine lv_iload hx hb dX8_findsRest_98 (lv_at hl 5 rfl) ?_
                          exact KK8 (v4_37) ls _ _ (lv_sub hl [1, 2, 3, 4, 5, 6, 0] rfl) hW hS hf
                        · have hf := x_iteF hf hc
                          refine lv_iload hx hb dX8_findsRest_93 (lv_at hl 0 rfl) ?_
                          refine lv_goto (tgt := 100) hx hb dX8_findsRest_95 (by decide) ?_
                          exact KK8 (x7) ls _ _ (lv_sub hl [1, 2, 3, 4, 5, 6, 0] rfl) hW hS hf
                      · have hf := x_iteT hf hc
                        refine lv_goto (tgt := 102) hx hb dX8_findsRest_55 (by decide) ?_
                        obtain ⟨x11, e_x11, hf⟩ := x_letE hf
                        refine lv_iinc (v := x11) (lv' := [(5, .int x11), (0, .ref (adr (g.1 + 189) 8 0)), (1, .int a1), (2, .int v2_2), (3, .int v3_14), (4, .int v4_37)]) hx hb dX8_findsRest_102 hl (k := 5) rfl (by rw [e_x11]; rfl) (by decide) rfl (fun ls hl => ?_)
                        refine lv_goto (tgt := 37) hx hb dX8_findsRest_105 (by decide) ?_
                        exact ih (v4_37) (x11) ls _ _ (lv_sub hl [1, 2, 3, 4, 5, 0] rfl) hW hS hf kk
                refine L37 _ fuel (y3) ((0 : Int32)) ls _ _ (lv_sub hl [2, 3, 4, 5, 1, 0] rfl) hW hS h_q4 (fun ls H locs hl hW hS => ?_)
                refine lv_aload_n hx hb dX8_findsRest_108 rfl (lv_at hl 0 rfl) ?_
                refine x_get (i := (g.1 + 189)) (k := 8) (j := 0) (t := 9) hx hb hts i_8 hown hK hW ⟨⟨hfl, rfl⟩, by decide⟩ rfl ⟨by decide, by decide, rfl⟩ (hts (.fieldLink RX8 28 "OpticalJukeboxModel" "rest" "[I") (by decide +kernel)) (v := .ref (adr (g.1 + 189) 36 0)) rfl dX8_findsRest_109 ?_
                refine lv_bipush (v := 10) hx hb dX8_findsRest_112 (by decide) ?_
                refine lv_iload_n hx hb dX8_findsRest_114 rfl (lv_at hl 2 rfl) ?_
                refine lv_imul hx hb dX8_findsRest_115 ?_
                refine lv_iload_n hx hb dX8_findsRest_116 rfl (lv_at hl 3 rfl) ?_
                refine lv_iadd hx hb dX8_findsRest_117 ?_
                refine lv_iload hx hb dX8_findsRest_118 (lv_at hl 4 rfl) ?_
                obtain ⟨hg12, hf⟩ := x_guardE hf
                obtain ⟨md13, e_md13, hf⟩ := x_letE hf
                refine x_iast (i := (g.1 + 189)) (k := 36) (j := 0) (w' := wM w md13 mn mw) hx hb hK hW ⟨⟨hfl, rfl⟩, by decide⟩ hS (by decide) rfl rfl rfl hg12 dX8_findsRest_120 (fp_M e_md13 rfl) (fun H locs hW hS => ?_)
                obtain ⟨x14, e_x14, hf⟩ := x_letE hf
                refine lv_iinc (v := x14) (lv' := [(3, .int x14), (0, .ref (adr (g.1 + 189) 8 0)), (1, .int a1), (2, .int v2_2), (4, .int q4.1), (5, .int q4.2)]) hx hb dX8_findsRest_121 hl (k := 3) rfl (by rw [e_x14]; rfl) (by decide) rfl (fun ls hl => ?_)
                refine lv_goto (tgt := 14) hx hb dX8_findsRest_124 (by decide) ?_
                exact ih (x14) (md13) ls _ _ (lv_sub hl [1, 2, 3, 0] rfl) hW hS hf kk
              clear eK2
              refine lv_if_ne (tgt := 30) hx hb dX8_findsRest_23 (by decide) (fun hc => ?_) (fun hc => ?_)
              · have hf := x_iteF hf hc
                refine lv_ldc (v := 1000000000) hx hb hown (hts (.constant RX8 151 (1000000000)) (by decide +kernel)) dX8_findsRest_30 ?_
                exact KK2 ((1000000000 : Int32)) ls _ _ hl hW hS hf
              · have hf := x_iteT hf hc
                refine lv_iconst (v := 0) hx hb dX8_findsRest_26 (by decide) ?_
                refine lv_goto (tgt := 32) hx hb dX8_findsRest_27 (by decide) ?_
                exact KK2 ((0 : Int32)) ls _ _ hl hW hS hf
        refine L14 _ fuel ((0 : Int32)) (md_2) ls _ _ (lv_sub hl [1, 2, 3, 0] rfl) hW hS h_q1 (fun ls H locs hl hW hS => ?_)
        obtain ⟨x15, e_x15, hf⟩ := x_letE hf
        refine lv_iinc (v := x15) (lv' := [(2, .int x15), (0, .ref (adr (g.1 + 189) 8 0)), (1, .int a1), (3, .int q1.1)]) hx hb dX8_findsRest_127 hl (k := 2) rfl (by rw [e_x15]; rfl) (by decide) rfl (fun ls hl => ?_)
        refine lv_goto (tgt := 2) hx hb dX8_findsRest_130 (by decide) ?_
        exact ih (x15) (q1.2) ls _ _ (lv_sub hl [1, 2, 0] rfl) hW hS hf
  exact L2 fuel ((0 : Int32)) (md) ls _ _ (lv_sub hl [1, 2, 0] rfl) hW hS hf
abbrev rm_X8_firstWay : Room := { frames := 1, cells := 0, slots := 0, locals := 21 }
set_option maxRecDepth 100000 in
set_option maxHeartbeats 4000000 in
theorem ct_X8_firstWay (l : Launch) (g : GT) (hfl : 2 ≤ gf g) (w : WT) (md : SD) (mn : Nat → Int64) (mw : Int64) (a1 : Int32) (a2 : Int32) {q : Int32} (hf : f_X8_firstWay md a1 a2 = some q) : Met l yX8_firstWay wsX8_firstWay rm_X8_firstWay (cPre g (wM w md mn mw) [.ref (adr (g.1 + 189) 8 0), .int a1, .int a2]) (cQi g q (wM w md mn mw)) 0 0 (gA g) := by
  have i_8 : ∀ w ∈ u_ws RX8 TX8 27, w ∈ wsX8_firstWay := by decide +kernel
  refine x_met (by decide) rfl (Nat.le_of_ble_eq_true rfl) ?_
  intro p e s m below meth c hx hb hr hml hts hown hlocks hK hW hS ls hl
  have hown : s.vm.findClass RX8 = some m.cls := hown
  have hl : lv_has ls 7 [(0, .ref (adr (g.1 + 189) 8 0)), (1, .int a1), (2, .int a2)] := hl
  rw [f_X8_firstWay] at hf
  refine lv_aload_n hx hb dX8_firstWay_0 rfl (lv_at hl 0 rfl) ?_
  refine x_get (i := (g.1 + 189)) (k := 8) (j := 0) (t := 1) hx hb hts i_8 hown hK hW ⟨⟨hfl, rfl⟩, by decide⟩ rfl ⟨by decide, by decide, rfl⟩ (hts (.fieldLink RX8 7 "OpticalJukeboxModel" "now" "[I") (by decide +kernel)) (v := .ref (adr (g.1 + 189) 30 0)) rfl dX8_firstWay_1 ?_
  refine lv_bipush (v := 17) hx hb dX8_firstWay_4 (by decide) ?_
  refine lv_iload_n hx hb dX8_firstWay_6 rfl (lv_at hl 2 rfl) ?_
  refine lv_iadd hx hb dX8_firstWay_7 ?_
  obtain ⟨hg1, hf⟩ := x_guardE hf
  refine x_iald (i := (g.1 + 189)) (k := 30) (j := 0) (f := md 30 0) hx hb hK hW ⟨⟨hfl, rfl⟩, by decide⟩ (by decide) (rfl) rfl hg1 dX8_firstWay_8 ?_
  obtain ⟨x2, e_x2, hf⟩ := x_letE hf
  refine x_topi e_x2 ?_
  refine lv_istore_n (lv' := [(3, .int x2), (0, .ref (adr (g.1 + 189) 8 0)), (1, .int a1), (2, .int a2)]) hx hb dX8_firstWay_9 rfl hl (by decide) rfl (fun ls hl => ?_)
  refine lv_aload_n hx hb dX8_firstWay_10 rfl (lv_at hl 1 rfl) ?_
  refine x_get (i := (g.1 + 189)) (k := 8) (j := 0) (t := 1) hx hb hts i_8 hown hK hW ⟨⟨hfl, rfl⟩, by decide⟩ rfl ⟨by decide, by decide, rfl⟩ (hts (.fieldLink RX8 7 "OpticalJukeboxModel" "now" "[I") (by decide +kernel)) (v := .ref (adr (g.1 + 189) 30 0)) rfl dX8_firstWay_11 ?_
  refine lv_bipush (v := 11) hx hb dX8_firstWay_14 (by decide) ?_
  refine x_iald (i := (g.1 + 189)) (k := 30) (j := 0) (f := md 30 0) hx hb hK hW ⟨⟨hfl, rfl⟩, by decide⟩ (by decide) (rfl) rfl (by unfold vp_in; decide) dX8_firstWay_16 ?_
  refine W.eq (g2 := F0 m 17 ls [.int (md 30 0 11)]) rfl ?_
  obtain ⟨x3, e_x3, hf⟩ := x_letE hf
  refine x_topi e_x3 ?_
  refine lv_istore (lv' := [(4, .int x3), (3, .int x2), (0, .ref (adr (g.1 + 189) 8 0)), (1, .int a1), (2, .int a2)]) hx hb dX8_firstWay_17 hl (by decide) rfl (fun ls hl => ?_)
  refine lv_iconst (v := 0) hx hb dX8_firstWay_19 (by decide) ?_
  refine lv_istore (lv' := [(5, .int (0 : Int32)), (4, .int x3), (3, .int x2), (0, .ref (adr (g.1 + 189) 8 0)), (1, .int a1), (2, .int a2)]) hx hb dX8_firstWay_20 hl (by decide) rfl (fun ls hl => ?_)
  refine lv_aload_n hx hb dX8_firstWay_22 rfl (lv_at hl 3 rfl) ?_
  refine x_get (i := (g.1 + 189)) (k := 8) (j := 0) (t := 1) hx hb hts i_8 hown hK hW ⟨⟨hfl, rfl⟩, by decide⟩ rfl ⟨by decide, by decide, rfl⟩ (hts (.fieldLink RX8 7 "OpticalJukeboxModel" "now" "[I") (by decide +kernel)) (v := .ref (adr (g.1 + 189) 30 0)) rfl dX8_firstWay_23 ?_
  refine lv_bipush (v := 21) hx hb dX8_firstWay_26 (by decide) ?_
  refine lv_iload_n hx hb dX8_firstWay_28 rfl (lv_at hl 5 rfl) ?_
  refine lv_iadd hx hb dX8_firstWay_29 ?_
  obtain ⟨hg4, hf⟩ := x_guardE hf
  refine x_iald (i := (g.1 + 189)) (k := 30) (j := 0) (f := md 30 0) hx hb hK hW ⟨⟨hfl, rfl⟩, by decide⟩ (by decide) (rfl) rfl hg4 dX8_firstWay_30 ?_
  refine lv_iconst (v := -1) hx hb dX8_firstWay_31 (by decide) ?_
  obtain ⟨K5, eK5, hf⟩ := x_letE hf
  have KK5 : ∀ (y6 : Int32) (y7 : Int32) (ls : Array Slot) (H : Heap) (locs : List Loc), lv_has ls 7 [(0, .ref (adr (g.1 + 189) 8 0)), (1, .int a1), (2, .int a2), (3, .int x2), (4, .int y7), (5, .int y6)] → World g (wM w md mn mw) H → va_S (gA g) s.heap H locs → K5 y6 y7 = some q → W p l e rm_X8_firstWay s m [.ref (adr (g.1 + 189) 8 0), .int a1, .int a2].toArray below meth c H locs 0 0 (MQ below (cQi g q (wM w md mn mw)) [.ref (adr (g.1 + 189) 8 0), .int a1, .int a2].toArray s 0 0 (gA g)) (F0 m 73 ls []) := by
    intro y6 y7 ls H locs hl hW hS hf
    subst eK5
    refine lv_iload hx hb dX8_firstWay_73 (lv_at hl 5 rfl) ?_
    refine lv_iload hx hb dX8_firstWay_75 (lv_at hl 4 rfl) ?_
    refine lv_aload_n hx hb dX8_firstWay_77 rfl (lv_at hl 0 rfl) ?_
    refine lv_iload_n hx hb dX8_firstWay_78 rfl (lv_at hl 1 rfl) ?_
    obtain ⟨q8, h_q8, hf⟩ := x_bindE hf
    refine x_ci0 (x_rV ⟨hx, hb, hml, hown, hts⟩ (ct_X8_homeOf l g hfl w md mn mw (a1) h_q8) (cwV 1 hts gX8_firstWay_X8_homeOf rfl rfl rfl (by decide +kernel) ⟨Nat.le_of_ble_eq_true rfl, Nat.le_of_ble_eq_true rfl⟩) hK hW hS (x_recv (i := (g.1 + 189)) (k := 8) (j := 0) hK hW ⟨⟨hfl, rfl⟩, by decide⟩ rfl (by decide)) rfl hl.1 (rest := [.int y7, .int y6]) rfl (Nat.le_of_ble_eq_true rfl) dX8_firstWay_79 ⟨Nat.le_of_ble_eq_true rfl, Nat.le_of_ble_eq_true rfl⟩) hS (fun H locs hW hS => ?_)
    have hW : World g (wM w md mn mw) H := hW
    refine W.eq (g2 := F0 m 82 ls [.int q8, .int y7, .int y6]) rfl ?_
    obtain ⟨q9, h_q9, hf⟩ := x_bindE hf
    refine x_ci0 (x_rS ⟨hx, hb, hml, hown, hts⟩ (ct_X8_far l g (wM w md mn mw) (y7) (q8) h_q9) (va_cwS 2 hts gX8_firstWay_X8_far rfl rfl rfl (by decide +kernel) ⟨Nat.le_of_ble_eq_true rfl, Nat.le_of_ble_eq_true rfl⟩) hK hW hS rfl hl.1 (rest := [.int y6]) rfl (Nat.le_of_ble_eq_true rfl) dX8_firstWay_82 ⟨Nat.le_of_ble_eq_true rfl, Nat.le_of_ble_eq_true rfl⟩) hS (fun H locs hW hS => ?_)
    have hW : World g (wM w md mn mw) H := hW
    refine W.eq (g2 := F0 m 85 ls [.int q9, .int y6]) rfl ?_
    refine lv_iadd hx hb dX8_firstWay_85 ?_
    refine lv_aload_n hx hb dX8_firstWay_86 rfl (lv_at hl 0 rfl) ?_
    refine lv_iload_n hx hb dX8_firstWay_87 rfl (lv_at hl 1 rfl) ?_
    obtain ⟨q10, h_q10, hf⟩ := x_bindE hf
    refine x_ci0 (x_rV ⟨hx, hb, hml, hown, hts⟩ (ct_X8_homeOf l g hfl w md mn mw (a1) h_q10) (cwV 1 hts gX8_firstWay_X8_homeOf rfl rfl rfl (by decide +kernel) ⟨Nat.le_of_ble_eq_true rfl, Nat.le_of_ble_eq_true rfl⟩) hK hW hS (x_recv (i := (g.1 + 189)) (k := 8) (j := 0) hK hW ⟨⟨hfl, rfl⟩, by decide⟩ rfl (by decide)) rfl hl.1 (rest := [.int (y6 + q9)]) rfl (Nat.le_of_ble_eq_true rfl) dX8_firstWay_88 ⟨Nat.le_of_ble_eq_true rfl, Nat.le_of_ble_eq_true rfl⟩) hS (fun H locs hW hS => ?_)
    have hW : World g (wM w md mn mw) H := hW
    refine W.eq (g2 := F0 m 91 ls [.int q10, .int (y6 + q9)]) rfl ?_
    refine lv_iload_n hx hb dX8_firstWay_91 rfl (lv_at hl 3 rfl) ?_
    obtain ⟨q11, h_q11, hf⟩ := x_bindE hf
    refine x_ci0 (x_rS ⟨hx, hb, hml, hown, hts⟩ (ct_X8_far l g (wM w md mn mw) (q10) (x2) h_q11) (va_cwS 2 hts gX8_firstWay_X8_far rfl rfl rfl (by decide +kernel) ⟨Nat.le_of_ble_eq_true rfl, Nat.le_of_ble_eq_true rfl⟩) hK hW hS rfl hl.1 (rest := [.int (y6 + q9)]) rfl (Nat.le_of_ble_eq_true rfl) dX8_firstWay_92 ⟨Nat.le_of_ble_eq_true rfl, Nat.le_of_ble_eq_true rfl⟩) hS (fun H locs hW hS => ?_)
    have hW : World g (wM w md mn mw) H := hW
    refine W.eq (g2 := F0 m 95 ls [.int q11, .int (y6 + q9)]) rfl ?_
    refine lv_iadd hx hb dX8_firstWay_95 ?_
    cases hf
    exact x_iret hx hb hr hlocks hK hW hS rfl dX8_firstWay_96
  clear eK5
  refine lv_icmp_eq (tgt := 73) hx hb dX8_firstWay_32 (by decide) (fun hc => ?_) (fun hc => ?_)
  · have hf := x_iteT hf hc
    exact KK5 ((0 : Int32)) (x3) ls _ _ (lv_sub hl [3, 4, 5, 2, 1, 0] rfl) hW hS hf
  · have hf := x_iteF hf hc
    refine lv_aload_n hx hb dX8_firstWay_35 rfl (lv_at hl 3 rfl) ?_
    refine x_get (i := (g.1 + 189)) (k := 8) (j := 0) (t := 1) hx hb hts i_8 hown hK hW ⟨⟨hfl, rfl⟩, by decide⟩ rfl ⟨by decide, by decide, rfl⟩ (hts (.fieldLink RX8 7 "OpticalJukeboxModel" "now" "[I") (by decide +kernel)) (v := .ref (adr (g.1 + 189) 30 0)) rfl dX8_firstWay_36 ?_
    refine lv_bipush (v := 29) hx hb dX8_firstWay_39 (by decide) ?_
    refine lv_aload_n hx hb dX8_firstWay_41 rfl (lv_at hl 3 rfl) ?_
    refine x_get (i := (g.1 + 189)) (k := 8) (j := 0) (t := 1) hx hb hts i_8 hown hK hW ⟨⟨hfl, rfl⟩, by decide⟩ rfl ⟨by decide, by decide, rfl⟩ (hts (.fieldLink RX8 7 "OpticalJukeboxModel" "now" "[I") (by decide +kernel)) (v := .ref (adr (g.1 + 189) 30 0)) rfl dX8_firstWay_42 ?_
    refine lv_bipush (v := 21) hx hb dX8_firstWay_45 (by decide) ?_
    refine lv_iload_n hx hb dX8_firstWay_47 rfl (lv_at hl 5 rfl) ?_
    refine lv_iadd hx hb dX8_firstWay_48 ?_
    obtain ⟨hg12, hf⟩ := x_guardE hf
    refine x_iald (i := (g.1 + 189)) (k := 30) (j := 0) (f := md 30 0) hx hb hK hW ⟨⟨hfl, rfl⟩, by decide⟩ (by decide) (rfl) rfl hg12 dX8_firstWay_49 ?_
    refine lv_iadd hx hb dX8_firstWay_50 ?_
    obtain ⟨hg13, hf⟩ := x_guardE hf
    refine x_iald (i := (g.1 + 189)) (k := 30) (j := 0) (f := md 30 0) hx hb hK hW ⟨⟨hfl, rfl⟩, by decide⟩ (by decide) (rfl) rfl hg13 dX8_firstWay_51 ?_
    obtain ⟨x14, e_x14, hf⟩ := x_letE hf
    refine x_topi e_x14 ?_
    refine lv_istore (lv' := [(6, .int x14), (5, .int (0 : Int32)), (4, .int x3), (3, .int x2), (0, .ref (adr (g.1 + 189) 8 0)), (1, .int a1), (2, .int a2)]) hx hb dX8_firstWay_52 hl (by decide) rfl (fun ls hl => ?_)
    refine lv_iload hx hb dX8_firstWay_54 (lv_at hl 2 rfl) ?_
    refine lv_iload_n hx hb dX8_firstWay_56 rfl (lv_at hl 3 rfl) ?_
    obtain ⟨q15, h_q15, hf⟩ := x_bindE hf
    refine x_ci0 (x_rS ⟨hx, hb, hml, hown, hts⟩ (ct_X8_far l g (wM w md mn mw) (x3) (x2) h_q15) (va_cwS 2 hts gX8_firstWay_X8_far rfl rfl rfl (by decide +kernel) ⟨Nat.le_of_ble_eq_true rfl, Nat.le_of_ble_eq_true rfl⟩) hK hW hS rfl hl.1 (rest := []) rfl (Nat.le_of_ble_eq_true rfl) dX8_firstWay_57 ⟨Nat.le_of_ble_eq_true rfl, Nat.le_of_ble_eq_true rfl⟩) hS (fun H locs hW hS => ?_)
    have hW : World g (wM w md mn mw) H := hW
    refine W.eq (g2 := F0 m 60 ls [.int q15]) rfl ?_
    refine lv_iload_n hx hb dX8_firstWay_60 rfl (lv_at hl 3 rfl) ?_
    refine lv_iload hx hb dX8_firstWay_61 (lv_at hl 0 rfl) ?_
    obtain ⟨q16, h_q16, hf⟩ := x_bindE hf
    refine x_ci0 (x_rS ⟨hx, hb, hml, hown, hts⟩ (ct_X8_far l g (wM w md mn mw) (x2) (x14) h_q16) (va_cwS 2 hts gX8_firstWay_X8_far rfl rfl rfl (by decide +kernel) ⟨Nat.le_of_ble_eq_true rfl, Nat.le_of_ble_eq_true rfl⟩) hK hW hS rfl hl.1 (rest := [.int q15]) rfl (Nat.le_of_ble_eq_true rfl) dX8_firstWay_63 ⟨Nat.le_of_ble_eq_true rfl, Nat.le_of_ble_eq_true rfl⟩) hS (fun H locs hW hS => ?_)
    have hW : World g (wM w md mn mw) H := hW
    refine W.eq (g2 := F0 m 66 ls [.int q16, .int q15]) rfl ?_
    refine lv_iadd hx hb dX8_firstWay_66 ?_
    obtain ⟨x17, e_x17, hf⟩ := x_letE hf
    refine x_topi e_x17 ?_
    refine lv_istore (lv' := [(5, .int x17), (6, .int x14), (4, .int x3), (3, .int x2), (0, .ref (adr (g.1 + 189) 8 0)), (1, .int a1), (2, .int a2)]) hx hb dX8_firstWay_67 hl (by decide) rfl (fun ls hl => ?_)
    refine lv_iload hx hb dX8_firstWay_69 (lv_at hl 1 rfl) ?_
    refine lv_istore (lv' := [(4, .int x14), (5, .int x17), (6, .int x14), (3, .int x2), (0, .ref (adr (g.1 + 189) 8 0)), (1, .int a1), (2, .int a2)]) hx hb dX8_firstWay_71 hl (by decide) rfl (fun ls hl => ?_)
    exact KK5 (x17) (x14) ls _ _ (lv_sub hl [4, 5, 6, 3, 0, 1] rfl) hW hS hf
abbrev rm_X8_findsOrder : Room := { frames := 3, cells := 0, slots := 0, locals := 70 }
set_option maxRecDepth 100000 in
set_option maxHeartbeats 4000000 in
theorem ct_X8_findsOrder (l : Launch) (g : GT) (hfl : 2 ≤ gf g) (w : WT) (md : SD) (mn : Nat → Int64) (mw : Int64) (a1 : Int32) {q : SD} (hf : f_X8_findsOrder md a1 = some q) : Met l yX8_findsOrder wsX8_findsOrder rm_X8_findsOrder (cPre g (wM w md mn mw) [.ref (adr (g.1 + 189) 8 0), .int a1]) (cQv g (wM w q mn mw)) 0 0 (gA g) := by
  have i_8 : ∀ w ∈ u_ws RX8 TX8 27, w ∈ wsX8_findsOrder := by decide +kernel
  refine x_met (by decide) rfl (Nat.le_of_ble_eq_true rfl) ?_
  intro p e s m below meth c hx hb hr hml hts hown hlocks hK hW hS ls hl
  have hown : s.vm.findClass RX8 = some m.cls := hown
  have hl : lv_has ls 9 [(0, .ref (adr (g.1 + 189) 8 0)), (1, .int a1)] := hl
  rw [f_X8_findsOrder] at hf
  refine lv_aload_n hx hb dX8_findsOrder_0 rfl (lv_at hl 0 rfl) ?_
  refine x_get (i := (g.1 + 189)) (k := 8) (j := 0) (t := 1) hx hb hts i_8 hown hK hW ⟨⟨hfl, rfl⟩, by decide⟩ rfl ⟨by decide, by decide, rfl⟩ (hts (.fieldLink RX8 7 "OpticalJukeboxModel" "now" "[I") (by decide +kernel)) (v := .ref (adr (g.1 + 189) 30 0)) rfl dX8_findsOrder_1 ?_
  refine lv_bipush (v := 17) hx hb dX8_findsOrder_4 (by decide) ?_
  refine lv_iload_n hx hb dX8_findsOrder_6 rfl (lv_at hl 1 rfl) ?_
  refine lv_iadd hx hb dX8_findsOrder_7 ?_
  obtain ⟨hg1, hf⟩ := x_guardE hf
  refine x_iald (i := (g.1 + 189)) (k := 30) (j := 0) (f := md 30 0) hx hb hK hW ⟨⟨hfl, rfl⟩, by decide⟩ (by decide) (rfl) rfl hg1 dX8_findsOrder_8 ?_
  obtain ⟨x2, e_x2, hf⟩ := x_letE hf
  refine x_topi e_x2 ?_
  refine lv_istore_n (lv' := [(2, .int x2), (0, .ref (adr (g.1 + 189) 8 0)), (1, .int a1)]) hx hb dX8_findsOrder_9 rfl hl (by decide) rfl (fun ls hl => ?_)
  refine lv_aload_n hx hb dX8_findsOrder_10 rfl (lv_at hl 1 rfl) ?_
  refine lv_iload_n hx hb dX8_findsOrder_11 rfl (lv_at hl 0 rfl) ?_
  obtain ⟨q3, h_q3, hf⟩ := x_bindE hf
  refine x_cv0 (x_rV ⟨hx, hb, hml, hown, hts⟩ (ct_X8_findsRest l g hfl w md mn mw (x2) h_q3) (cwV 1 hts gX8_findsOrder_X8_findsRest rfl rfl rfl (by decide +kernel) ⟨Nat.le_of_ble_eq_true rfl, Nat.le_of_ble_eq_true rfl⟩) hK hW hS (x_recv (i := (g.1 + 189)) (k := 8) (j := 0) hK hW ⟨⟨hfl, rfl⟩, by decide⟩ rfl (by decide)) rfl hl.1 (rest := []) rfl (Nat.le_of_ble_eq_true rfl) dX8_findsOrder_12 ⟨Nat.le_of_ble_eq_true rfl, Nat.le_of_ble_eq_true rfl⟩) hS (fun H locs hW hS => ?_)
  have hW : World g (wM w q3 mn mw) H := hW
  refine lv_iconst (v := 1) hx hb dX8_findsOrder_15 (by decide) ?_
  refine lv_aload_n hx hb dX8_findsOrder_16 rfl (lv_at hl 1 rfl) ?_
  refine x_get (i := (g.1 + 189)) (k := 8) (j := 0) (t := 10) hx hb hts i_8 hown hK hW ⟨⟨hfl, rfl⟩, by decide⟩ rfl ⟨by decide, by decide, rfl⟩ (hts (.fieldLink RX8 145 "OpticalJukeboxModel" "wants" "I") (by decide +kernel)) (rfl) dX8_findsOrder_17 ?_
  refine lv_ishl hx hb dX8_findsOrder_20 ?_
  refine lv_iconst (v := 1) hx hb dX8_findsOrder_21 (by decide) ?_
  refine lv_isub hx hb dX8_findsOrder_22 ?_
  obtain ⟨x4, e_x4, hf⟩ := x_letE hf
  refine x_topi e_x4 ?_
  refine lv_istore_n (lv' := [(3, .int x4), (2, .int x2), (0, .ref (adr (g.1 + 189) 8 0)), (1, .int a1)]) hx hb dX8_findsOrder_23 rfl hl (by decide) rfl (fun ls hl => ?_)
  refine lv_iconst (v := 0) hx hb dX8_findsOrder_24 (by decide) ?_
  refine lv_istore (lv' := [(4, .int (0 : Int32)), (3, .int x4), (2, .int x2), (0, .ref (adr (g.1 + 189) 8 0)), (1, .int a1)]) hx hb dX8_findsOrder_25 hl (by decide) rfl (fun ls hl => ?_)
  have L27 : ∀ (n : Nat) (v3_27 : Int32) (v4_27 : Int32) (md_27 : SD) (ls : Array Slot) (H : Heap) (locs : List Loc), lv_has ls 9 [(0, .ref (adr (g.1 + 189) 8 0)), (1, .int a1), (2, .int x2), (3, .int v3_27), (4, .int v4_27)] → World g (wM w md_27 mn mw) H → va_S (gA g) s.heap H locs → f_X8_findsOrder_L27 a1 x2 n v3_27 v4_27 md_27 = some q → W p l e rm_X8_findsOrder s m [.ref (adr (g.1 + 189) 8 0), .int a1].toArray below meth c H locs 0 0 (MQ below (cQv g (wM w q mn mw)) [.ref (adr (g.1 + 189) 8 0), .int a1].toArray s 0 0 (gA g)) (F0 m 27 ls []) := by
    clear hW hS hl
    intro n
    induction n with
    | zero => intro v3_27 v4_27 md_27 ls H locs hl hW hS hf; cases hf
    | succ n_27 ih =>
      intro v3_27 v4_27 md_27 ls H locs hl hW hS hf
      rw [f_X8_findsOrder_L27] at hf
      refine lv_iload hx hb dX8_findsOrder_27 (lv_at hl 4 rfl) ?_
      refine lv_aload_n hx hb dX8_findsOrder_29 rfl (lv_at hl 0 rfl) ?_
      refine x_get (i := (g.1 + 189)) (k := 8) (j := 0) (t := 10) hx hb hts i_8 hown hK hW ⟨⟨hfl, rfl⟩, by decide⟩ rfl ⟨by decide, by decide, rfl⟩ (hts (.fieldLink RX8 145 "OpticalJukeboxModel" "wants" "I") (by decide +kernel)) (rfl) dX8_findsOrder_30 ?_
      refine lv_icmp_ge (tgt := 181) hx hb dX8_findsOrder_33 (by decide) (fun hc => ?_) (fun hc => ?_)
      · have hf := x_iteT hf hc
        cases hf
        exact x_vret hx hb hr hlocks hK hW hS dX8_findsOrder_181
      · have hf := x_iteF hf hc
        refine lv_iconst (v := -1) hx hb dX8_findsOrder_36 (by decide) ?_
        refine lv_istore (lv' := [(5, .int (-1 : Int32)), (0, .ref (adr (g.1 + 189) 8 0)), (1, .int a1), (2, .int x2), (3, .int v3_27), (4, .int v4_27)]) hx hb dX8_findsOrder_37 hl (by decide) rfl (fun ls hl => ?_)
        refine lv_ldc (v := 1000000000) hx hb hown (hts (.constant RX8 151 (1000000000)) (by decide +kernel)) dX8_findsOrder_39 ?_
        refine lv_istore (lv' := [(6, .int (1000000000 : Int32)), (5, .int (-1 : Int32)), (0, .ref (adr (g.1 + 189) 8 0)), (1, .int a1), (2, .int x2), (3, .int v3_27), (4, .int v4_27)]) hx hb dX8_findsOrder_41 hl (by decide) rfl (fun ls hl => ?_)
        refine lv_iconst (v := 0) hx hb dX8_findsOrder_43 (by decide) ?_
        refine lv_istore (lv' := [(7, .int (0 : Int32)), (6, .int (1000000000 : Int32)), (5, .int (-1 : Int32)), (0, .ref (adr (g.1 + 189) 8 0)), (1, .int a1), (2, .int x2), (3, .int v3_27), (4, .int v4_27)]) hx hb dX8_findsOrder_44 hl (by decide) rfl (fun ls hl => ?_)
        obtain ⟨q5, h_q5, hf⟩ := x_bindE hf
        have L46 : ∀ (QQ : State → Prop) (n : Nat) (v5_46 : Int32) (v6_46 : Int32) (v7_46 : Int32) (ls : Array Slot) (H : Heap) (locs : List Loc), lv_has ls 9 [(0, .ref (adr (g.1 + 189) 8 0)), (1, .int a1), (2, .int x2), (3, .int v3_27), (4, .int v4_27), (5, .int v5_46), (6, .int v6_46), (7, .int v7_46)] → World g (wM w md_27 mn mw) H → va_S (gA g) s.heap H locs → f_X8_findsOrder_L46 md_27 v3_27 v4_27 a1 x2 n v5_46 v6_46 v7_46 = some q5 → (∀ (ls : Array Slot) (H : Heap) (locs : List Loc), lv_has ls 9 [(0, .ref (adr (g.1 + 189) 8 0)), (1, .int a1), (2, .int x2), (3, .int v3_27), (4, .int v4_27), (5, .int q5.1), (6, .int q5.2.1), (7, .int q5.2.2)] → World g (wM w md_27 mn mw) H → va_S (gA g) s.heap H locs → W p l e rm_X8_findsOrder s m [.ref (adr (g.1 + 189) 8 0), .int a1].toArray below meth c H locs 0 0 QQ (F0 m 159 ls [])) → W p l e rm_X8_findsOrder s m [.ref (adr (g.1 + 189) 8 0), .int a1].toArray below meth c H locs 0 0 QQ (F0 m 46 ls []) := by
          clear hW hS hl hf
          intro QQ n
          induction n with
          | zero => intro v5_46 v6_46 v7_46 ls H locs hl hW hS hf kk; cases hf
          | succ n_46 ih =>
            intro v5_46 v6_46 v7_46 ls H locs hl hW hS hf kk
            rw [f_X8_findsOrder_L46] at hf
            refine lv_iload hx hb dX8_findsOrder_46 (lv_at hl 7 rfl) ?_
            refine lv_aload_n hx hb dX8_findsOrder_48 rfl (lv_at hl 0 rfl) ?_
            refine x_get (i := (g.1 + 189)) (k := 8) (j := 0) (t := 10) hx hb hts i_8 hown hK hW ⟨⟨hfl, rfl⟩, by decide⟩ rfl ⟨by decide, by decide, rfl⟩ (hts (.fieldLink RX8 145 "OpticalJukeboxModel" "wants" "I") (by decide +kernel)) (rfl) dX8_findsOrder_49 ?_
            refine lv_icmp_ge (tgt := 159) hx hb dX8_findsOrder_52 (by decide) (fun hc => ?_) (fun hc => ?_)
            · have hf := x_iteT hf hc
              cases hf
              exact kk ls _ _ hl hW hS
            · have hf := x_iteF hf hc
              refine lv_iload_n hx hb dX8_findsOrder_55 rfl (lv_at hl 3 rfl) ?_
              refine lv_iload hx hb dX8_findsOrder_56 (lv_at hl 7 rfl) ?_
              refine lv_ishr hx hb dX8_findsOrder_58 ?_
              refine lv_iconst (v := 1) hx hb dX8_findsOrder_59 (by decide) ?_
              refine lv_iand hx hb dX8_findsOrder_60 ?_
              refine lv_if_ne (tgt := 67) hx hb dX8_findsOrder_61 (by decide) (fun hc => ?_) (fun hc => ?_)
              · have hf := x_iteF hf hc
                refine lv_iload hx hb dX8_findsOrder_67 (lv_at hl 4 rfl) ?_
                obtain ⟨K6, eK6, hf⟩ := x_letE hf
                have KK6 : ∀ (y7 : Int32) (ls : Array Slot) (H : Heap) (locs : List Loc), lv_has ls 9 [(0, .ref (adr (g.1 + 189) 8 0)), (1, .int a1), (2, .int x2), (3, .int v3_27), (4, .int v4_27), (5, .int v5_46), (6, .int v6_46), (7, .int v7_46)] → World g (wM w md_27 mn mw) H → va_S (gA g) s.heap H locs → K6 y7 = some q5 → W p l e rm_X8_findsOrder s m [.ref (adr (g.1 + 189) 8 0), .int a1].toArray below meth c H locs 0 0 QQ (F0 m 98 ls [.int y7]) := by
                  intro y7 ls H locs hl hW hS hf
                  subst eK6
                  refine lv_istore (lv' := [(8, .int y7), (0, .ref (adr (g.1 + 189) 8 0)), (1, .int a1), (2, .int x2), (3, .int v3_27), (4, .int v4_27), (5, .int v5_46), (6, .int v6_46), (7, .int v7_46)]) hx hb dX8_findsOrder_98 hl (by decide) rfl (fun ls hl => ?_)
                  refine lv_aload_n hx hb dX8_findsOrder_100 rfl (lv_at hl 1 rfl) ?_
                  refine x_get (i := (g.1 + 189)) (k := 8) (j := 0) (t := 1) hx hb hts i_8 hown hK hW ⟨⟨hfl, rfl⟩, by decide⟩ rfl ⟨by decide, by decide, rfl⟩ (hts (.fieldLink RX8 7 "OpticalJukeboxModel" "now" "[I") (by decide +kernel)) (v := .ref (adr (g.1 + 189) 30 0)) rfl dX8_findsOrder_101 ?_
                  refine lv_iconst (v := 1) hx hb dX8_findsOrder_104 (by decide) ?_
                  refine x_iald (i := (g.1 + 189)) (k := 30) (j := 0) (f := md_27 30 0) hx hb hK hW ⟨⟨hfl, rfl⟩, by decide⟩ (by decide) (rfl) rfl (by unfold vp_in; decide) dX8_findsOrder_105 ?_
                  refine W.eq (g2 := F0 m 106 ls [.int (md_27 30 0 1)]) rfl ?_
                  refine lv_iload hx hb dX8_findsOrder_106 (lv_at hl 0 rfl) ?_
                  refine lv_aload_n hx hb dX8_findsOrder_108 rfl (lv_at hl 1 rfl) ?_
                  refine x_get (i := (g.1 + 189)) (k := 8) (j := 0) (t := 9) hx hb hts i_8 hown hK hW ⟨⟨hfl, rfl⟩, by decide⟩ rfl ⟨by decide, by decide, rfl⟩ (hts (.fieldLink RX8 28 "OpticalJukeboxModel" "rest" "[I") (by decide +kernel)) (v := .ref (adr (g.1 + 189) 36 0)) rfl dX8_findsOrder_109 ?_
                  refine lv_bipush (v := 10) hx hb dX8_findsOrder_112 (by decide) ?_
                  refine lv_iload_n hx hb dX8_findsOrder_114 rfl (lv_at hl 4 rfl) ?_
                  refine lv_iconst (v := 1) hx hb dX8_findsOrder_115 (by decide) ?_
                  refine lv_iload hx hb dX8_findsOrder_116 (lv_at hl 8 rfl) ?_
                  refine lv_ishl hx hb dX8_findsOrder_118 ?_
                  refine lv_isub hx hb dX8_findsOrder_119 ?_
                  refine lv_imul hx hb dX8_findsOrder_120 ?_
                  refine lv_iload hx hb dX8_findsOrder_121 (lv_at hl 8 rfl) ?_
                  refine lv_iadd hx hb dX8_findsOrder_123 ?_
                  obtain ⟨hg8, hf⟩ := x_guardE hf
                  refine x_iald (i := (g.1 + 189)) (k := 36) (j := 0) (f := md_27 36 0) hx hb hK hW ⟨⟨hfl, rfl⟩, by decide⟩ (by decide) (rfl) rfl hg8 dX8_findsOrder_124 ?_
                  refine lv_iadd hx hb dX8_findsOrder_125 ?_
                  refine lv_imul hx hb dX8_findsOrder_126 ?_
                  obtain ⟨x9, e_x9, hf⟩ := x_letE hf
                  refine x_topi e_x9 ?_
                  refine lv_istore (lv' := [(8, .int x9), (0, .ref (adr (g.1 + 189) 8 0)), (1, .int a1), (2, .int x2), (3, .int v3_27), (4, .int v4_27), (5, .int v5_46), (6, .int v6_46), (7, .int v7_46)]) hx hb dX8_findsOrder_127 hl (by decide) rfl (fun ls hl => ?_)
                  refine lv_iload hx hb dX8_findsOrder_129 (lv_at hl 6 rfl) ?_
                  refine lv_iconst (v := -1) hx hb dX8_findsOrder_131 (by decide) ?_
                  obtain ⟨K10, eK10, hf⟩ := x_letE hf
                  have KK10 : ∀ (_u : Unit) (ls : Array Slot) (H : Heap) (locs : List Loc), lv_has ls 9 [(0, .ref (adr (g.1 + 189) 8 0)), (1, .int a1), (2, .int x2), (3, .int v3_27), (4, .int v4_27), (5, .int v5_46), (6, .int v6_46), (7, .int v7_46), (8, .int x9)] → World g (wM w md_27 mn mw) H → va_S (gA g) s.heap H locs → K10 _u = some q5 → W p l e rm_X8_findsOrder s m [.ref (adr (g.1 + 189) 8 0), .int a1].toArray below meth c H locs 0 0 QQ (F0 m 145 ls []) := by
                    intro _u ls H locs hl hW hS hf
                    subst eK10
                    refine lv_iload hx hb dX8_findsOrder_145 (lv_at hl 7 rfl) ?_
                    refine lv_istore (lv' := [(5, .int v7_46), (0, .ref (adr (g.1 + 189) 8 0)), (1, .int a1), (2, .int x2), (3, .int v3_27), (4, .int v4_27), (6, .int v6_46), (7, .int v7_46), (8, .int x9)]) hx hb dX8_findsOrder_147 hl (by decide) rfl (fun ls hl => ?_)
                    refine lv_iload hx hb dX8_findsOrder_149 (lv_at hl 8 rfl) ?_
                    refine lv_istore (lv' := [(6, .int x9), (5, .int v7_46), (0, .ref (adr (g.1 + 189) 8 0)), (1, .int a1), (2, .int x2), (3, .int v3_27), (4, .int v4_27), (7, .int v7_46), (8, .int x9)]) hx hb dX8_findsOrder_151 hl (by decide) rfl (fun ls hl => ?_)
                    obtain ⟨x11, e_x11, hf⟩ := x_letE hf
                    refine lv_iinc (v := x11) (lv' := [(7, .int x11), (6, .int x9), (5, .int v7_46), (0, .ref (adr (g.1 + 189) 8 0)), (1, .int a1), (2, .int x2), (3, .int v3_27), (4, .int v4_27), (8, .int x9)]) hx hb dX8_findsOrder_153 hl (k := 7) rfl (by rw [e_x11]; rfl) (by decide) rfl (fun ls hl => ?_)
                    refine lv_goto (tgt := 46) hx hb dX8_findsOrder_156 (by decide) ?_
                    exact ih (v7_46) (x9) (x11) ls _ _ (lv_sub hl [3, 4, 5, 6, 7, 2, 1, 0] rfl) hW hS hf kk
                  clear eK10
                  refine lv_icmp_eq (tgt := 145) hx hb dX8_findsOrder_132 (by decide) (fun hc => ?_) (fun hc => ?_)
                  · have hf := x_iteT hf hc
                    exact KK10 (()) ls _ _ (lv_sub hl [1, 2, 3, 4, 5, 6, 7, 8, 0] rfl) hW hS hf
                  · have hf := x_iteF hf hc
                    refine lv_iload hx hb dX8_findsOrder_135 (lv_at hl 0 rfl) ?_
                    refine lv_iload hx hb dX8_findsOrder_137 (lv_at hl 7 rfl) ?_
                    refine lv_icmp_lt (tgt := 145) hx hb dX8_findsOrder_139 (by decide) (fun hc => ?_) (fun hc => ?_)
                    · have hf := x_iteT hf hc
                      exact KK10 (()) ls _ _ (lv_sub hl [1, 2, 3, 4, 5, 6, 7, 8, 0] rfl) hW hS hf
                    · have hf := x_iteF hf hc
                      refine lv_goto (tgt := 153) hx hb dX8_findsOrder_142 (by decide) ?_
                      obtain ⟨x12, e_x12, hf⟩ := x_letE hf
                      refine lv_iinc (v := x12) (lv' := [(7, .int x12), (8, .int x9), (0, .ref (adr (g.1 + 189) 8 0)), (1, .int a1), (2, .int x2), (3, .int v3_27), (4, .int v4_27), (5, .int v5_46), (6, .int v6_46)]) hx hb dX8_findsOrder_153 hl (k := 8) rfl (by rw [e_x12]; rfl) (by decide) rfl (fun ls hl => ?_)
                      refine lv_goto (tgt := 46) hx hb dX8_findsOrder_156 (by decide) ?_
                      exact ih (v5_46) (v6_46) (x12) ls _ _ (lv_sub hl [2, 3, 4, 5, 6, 7, 8, 0] rfl) hW hS hf kk
                clear eK6
                refine lv_if_ne (tgt := 82) hx hb dX8_findsOrder_69 (by decide) (fun hc => ?_) (fun hc => ?_)
                · have hf := x_iteF hf hc
                  refine lv_aload_n hx hb dX8_findsOrder_82 rfl (lv_at hl 0 rfl) ?_
                  refine lv_aload_n hx hb dX8_findsOrder_83 rfl (lv_at hl 0 rfl) ?_
                  refine x_get (i := (g.1 + 189)) (k := 8) (j := 0) (t := 8) hx hb hts i_8 hown hK hW ⟨⟨hfl, rfl⟩, by decide⟩ rfl ⟨by decide, by decide, rfl⟩ (hts (.fieldLink RX8 25 "OpticalJukeboxModel" "order" "[I") (by decide +kernel)) (v := .ref (adr (g.1 + 189) 35 0)) rfl dX8_findsOrder_84 ?_
                  refine lv_iload hx hb dX8_findsOrder_87 (lv_at hl 4 rfl) ?_
                  refine lv_iconst (v := 1) hx hb dX8_findsOrder_89 (by decide) ?_
                  refine lv_isub hx hb dX8_findsOrder_90 ?_
                  obtain ⟨hg13, hf⟩ := x_guardE hf
                  refine x_iald (i := (g.1 + 189)) (k := 35) (j := 0) (f := md_27 35 0) hx hb hK hW ⟨⟨hfl, rfl⟩, by decide⟩ (by decide) (rfl) rfl hg13 dX8_findsOrder_91 ?_
                  refine lv_iload hx hb dX8_findsOrder_92 (lv_at hl 7 rfl) ?_
                  refine lv_iload_n hx hb dX8_findsOrder_94 rfl (lv_at hl 2 rfl) ?_
                  obtain ⟨q14, h_q14, hf⟩ := x_bindE hf
                  refine x_ci0 (x_rV ⟨hx, hb, hml, hown, hts⟩ (ct_X8_between l g hfl w md_27 mn mw ((md_27 35 0 ((v4_27 - (1 : Int32))).toNatClampNeg)) (v7_46) (x2) h_q14) (cwV 3 hts gX8_findsOrder_X8_between rfl rfl rfl (by decide +kernel) ⟨Nat.le_of_ble_eq_true rfl, Nat.le_of_ble_eq_true rfl⟩) hK hW hS (x_recv (i := (g.1 + 189)) (k := 8) (j := 0) hK hW ⟨⟨hfl, rfl⟩, by decide⟩ rfl (by decide)) rfl hl.1 (rest := []) rfl (Nat.le_of_ble_eq_true rfl) dX8_findsOrder_95 ⟨Nat.le_of_ble_eq_true rfl, Nat.le_of_ble_eq_true rfl⟩) hS (fun H locs hW hS => ?_)
                  have hW : World g (wM w md_27 mn mw) H := hW
                  refine W.eq (g2 := F0 m 98 ls [.int q14]) rfl ?_
                  exact KK6 (q14) ls _ _ hl hW hS hf
                · have hf := x_iteT hf hc
                  refine lv_aload_n hx hb dX8_findsOrder_72 rfl (lv_at hl 0 rfl) ?_
                  refine lv_iload hx hb dX8_findsOrder_73 (lv_at hl 7 rfl) ?_
                  refine lv_iload_n hx hb dX8_findsOrder_75 rfl (lv_at hl 1 rfl) ?_
                  obtain ⟨q15, h_q15, hf⟩ := x_bindE hf
                  refine x_ci0 (x_rV ⟨hx, hb, hml, hown, hts⟩ (ct_X8_firstWay l g hfl w md_27 mn mw (v7_46) (a1) h_q15) (cwV 2 hts gX8_findsOrder_X8_firstWay rfl rfl rfl (by decide +kernel) ⟨Nat.le_of_ble_eq_true rfl, Nat.le_of_ble_eq_true rfl⟩) hK hW hS (x_recv (i := (g.1 + 189)) (k := 8) (j := 0) hK hW ⟨⟨hfl, rfl⟩, by decide⟩ rfl (by decide)) rfl hl.1 (rest := []) rfl (Nat.le_of_ble_eq_true rfl) dX8_findsOrder_76 ⟨Nat.le_of_ble_eq_true rfl, Nat.le_of_ble_eq_true rfl⟩) hS (fun H locs hW hS => ?_)
                  have hW : World g (wM w md_27 mn mw) H := hW
                  refine W.eq (g2 := F0 m 79 ls [.int q15]) rfl ?_
                  refine lv_goto (tgt := 98) hx hb dX8_findsOrder_79 (by decide) ?_
                  exact KK6 (q15) ls _ _ hl hW hS hf
              · have hf := x_iteT hf hc
                refine lv_goto (tgt := 153) hx hb dX8_findsOrder_64 (by decide) ?_
                obtain ⟨x16, e_x16, hf⟩ := x_letE hf
                refine lv_iinc (v := x16) (lv' := [(7, .int x16), (0, .ref (adr (g.1 + 189) 8 0)), (1, .int a1), (2, .int x2), (3, .int v3_27), (4, .int v4_27), (5, .int v5_46), (6, .int v6_46)]) hx hb dX8_findsOrder_153 hl (k := 7) rfl (by rw [e_x16]; rfl) (by decide) rfl (fun ls hl => ?_)
                refine lv_goto (tgt := 46) hx hb dX8_findsOrder_156 (by decide) ?_
                exact ih (v5_46) (v6_46) (x16) ls _ _ (lv_sub hl [1, 2, 3, 4, 5, 6, 7, 0] rfl) hW hS hf kk
        refine L46 _ fuel ((-1 : Int32)) ((1000000000 : Int32)) ((0 : Int32)) ls _ _ (lv_sub hl [3, 4, 5, 6, 7, 2, 1, 0] rfl) hW hS h_q5 (fun ls H locs hl hW hS => ?_)
        refine lv_aload_n hx hb dX8_findsOrder_159 rfl (lv_at hl 0 rfl) ?_
        refine x_get (i := (g.1 + 189)) (k := 8) (j := 0) (t := 8) hx hb hts i_8 hown hK hW ⟨⟨hfl, rfl⟩, by decide⟩ rfl ⟨by decide, by decide, rfl⟩ (hts (.fieldLink RX8 25 "OpticalJukeboxModel" "order" "[I") (by decide +kernel)) (v := .ref (adr (g.1 + 189) 35 0)) rfl dX8_findsOrder_160 ?_
        refine lv_iload hx hb dX8_findsOrder_163 (lv_at hl 4 rfl) ?_
        refine lv_iload hx hb dX8_findsOrder_165 (lv_at hl 5 rfl) ?_
        obtain ⟨hg17, hf⟩ := x_guardE hf
        obtain ⟨md18, e_md18, hf⟩ := x_letE hf
        refine x_iast (i := (g.1 + 189)) (k := 35) (j := 0) (w' := wM w md18 mn mw) hx hb hK hW ⟨⟨hfl, rfl⟩, by decide⟩ hS (by decide) rfl rfl rfl hg17 dX8_findsOrder_167 (fp_M e_md18 rfl) (fun H locs hW hS => ?_)
        refine lv_iload_n hx hb dX8_findsOrder_168 rfl (lv_at hl 3 rfl) ?_
        refine lv_iconst (v := 1) hx hb dX8_findsOrder_169 (by decide) ?_
        refine lv_iload hx hb dX8_findsOrder_170 (lv_at hl 5 rfl) ?_
        refine lv_ishl hx hb dX8_findsOrder_172 ?_
        refine lv_isub hx hb dX8_findsOrder_173 ?_
        obtain ⟨x19, e_x19, hf⟩ := x_letE hf
        refine x_topi e_x19 ?_
        refine lv_istore_n (lv' := [(3, .int x19), (0, .ref (adr (g.1 + 189) 8 0)), (1, .int a1), (2, .int x2), (4, .int v4_27), (5, .int q5.1), (6, .int q5.2.1), (7, .int q5.2.2)]) hx hb dX8_findsOrder_174 rfl hl (by decide) rfl (fun ls hl => ?_)
        obtain ⟨x20, e_x20, hf⟩ := x_letE hf
        refine lv_iinc (v := x20) (lv' := [(4, .int x20), (3, .int x19), (0, .ref (adr (g.1 + 189) 8 0)), (1, .int a1), (2, .int x2), (5, .int q5.1), (6, .int q5.2.1), (7, .int q5.2.2)]) hx hb dX8_findsOrder_175 hl (k := 4) rfl (by rw [e_x20]; rfl) (by decide) rfl (fun ls hl => ?_)
        refine lv_goto (tgt := 27) hx hb dX8_findsOrder_178 (by decide) ?_
        exact ih (x19) (x20) (md18) ls _ _ (lv_sub hl [2, 3, 4, 1, 0] rfl) hW hS hf
  exact L27 fuel (x4) ((0 : Int32)) (q3) ls _ _ (lv_sub hl [3, 4, 2, 1, 0] rfl) hW hS hf
abbrev rm_X8_readsFrom : Room := { frames := 6, cells := 0, slots := 0, locals := 130 }
set_option maxRecDepth 100000 in
set_option maxHeartbeats 4000000 in
theorem ct_X8_readsFrom (l : Launch) (g : GT) (hfl : 2 ≤ gf g) (w : WT) (md : SD) (mn : Nat → Int64) (mw : Int64) (a1 : Int32) {q : SD} (hf : f_X8_readsFrom md a1 = some q) : Met l yX8_readsFrom wsX8_readsFrom rm_X8_readsFrom (cPre g (wM w md mn mw) [.ref (adr (g.1 + 189) 8 0), .int a1]) (cQv g (wM w q mn mw)) 0 0 (gA g) := by
  have i_8 : ∀ w ∈ u_ws RX8 TX8 27, w ∈ wsX8_readsFrom := by decide +kernel
  refine x_met (by decide) rfl (Nat.le_of_ble_eq_true rfl) ?_
  intro p e s m below meth c hx hb hr hml hts hown hlocks hK hW hS ls hl
  have hown : s.vm.findClass RX8 = some m.cls := hown
  have hl : lv_has ls 3 [(0, .ref (adr (g.1 + 189) 8 0)), (1, .int a1)] := hl
  rw [f_X8_readsFrom] at hf
  refine lv_iconst (v := 0) hx hb dX8_readsFrom_0 (by decide) ?_
  refine lv_istore_n (lv' := [(2, .int (0 : Int32)), (0, .ref (adr (g.1 + 189) 8 0)), (1, .int a1)]) hx hb dX8_readsFrom_1 rfl hl (by decide) rfl (fun ls hl => ?_)
  have L2 : ∀ (n : Nat) (v2_2 : Int32) (md_2 : SD) (ls : Array Slot) (H : Heap) (locs : List Loc), lv_has ls 3 [(0, .ref (adr (g.1 + 189) 8 0)), (1, .int a1), (2, .int v2_2)] → World g (wM w md_2 mn mw) H → va_S (gA g) s.heap H locs → f_X8_readsFrom_L2 a1 n v2_2 md_2 = some q → W p l e rm_X8_readsFrom s m [.ref (adr (g.1 + 189) 8 0), .int a1].toArray below meth c H locs 0 0 (MQ below (cQv g (wM w q mn mw)) [.ref (adr (g.1 + 189) 8 0), .int a1].toArray s 0 0 (gA g)) (F0 m 2 ls []) := by
    clear hW hS hl
    intro n
    induction n with
    | zero => intro v2_2 md_2 ls H locs hl hW hS hf; cases hf
    | succ n_2 ih =>
      intro v2_2 md_2 ls H locs hl hW hS hf
      rw [f_X8_readsFrom_L2] at hf
      refine lv_iload_n hx hb dX8_readsFrom_2 rfl (lv_at hl 2 rfl) ?_
      refine lv_aload_n hx hb dX8_readsFrom_3 rfl (lv_at hl 0 rfl) ?_
      refine x_get (i := (g.1 + 189)) (k := 8) (j := 0) (t := 1) hx hb hts i_8 hown hK hW ⟨⟨hfl, rfl⟩, by decide⟩ rfl ⟨by decide, by decide, rfl⟩ (hts (.fieldLink RX8 7 "OpticalJukeboxModel" "now" "[I") (by decide +kernel)) (v := .ref (adr (g.1 + 189) 30 0)) rfl dX8_readsFrom_4 ?_
      refine lv_bipush (v := 16) hx hb dX8_readsFrom_7 (by decide) ?_
      refine x_iald (i := (g.1 + 189)) (k := 30) (j := 0) (f := md_2 30 0) hx hb hK hW ⟨⟨hfl, rfl⟩, by decide⟩ (by decide) (rfl) rfl (by unfold vp_in; decide) dX8_readsFrom_9 ?_
      refine W.eq (g2 := F0 m 10 ls [.int (md_2 30 0 16), .int v2_2]) rfl ?_
      refine lv_icmp_ge (tgt := 51) hx hb dX8_readsFrom_10 (by decide) (fun hc => ?_) (fun hc => ?_)
      · have hf := x_iteT hf hc
        cases hf
        exact x_vret hx hb hr hlocks hK hW hS dX8_readsFrom_51
      · have hf := x_iteF hf hc
        refine lv_aload_n hx hb dX8_readsFrom_13 rfl (lv_at hl 0 rfl) ?_
        refine lv_aload_n hx hb dX8_readsFrom_14 rfl (lv_at hl 0 rfl) ?_
        refine x_get (i := (g.1 + 189)) (k := 8) (j := 0) (t := 1) hx hb hts i_8 hown hK hW ⟨⟨hfl, rfl⟩, by decide⟩ rfl ⟨by decide, by decide, rfl⟩ (hts (.fieldLink RX8 7 "OpticalJukeboxModel" "now" "[I") (by decide +kernel)) (v := .ref (adr (g.1 + 189) 30 0)) rfl dX8_readsFrom_15 ?_
        refine lv_sipush (v := 589) hx hb dX8_readsFrom_18 (by decide) ?_
        refine lv_iload_n hx hb dX8_readsFrom_21 rfl (lv_at hl 2 rfl) ?_
        refine lv_iadd hx hb dX8_readsFrom_22 ?_
        obtain ⟨hg1, hf⟩ := x_guardE hf
        refine x_iald (i := (g.1 + 189)) (k := 30) (j := 0) (f := md_2 30 0) hx hb hK hW ⟨⟨hfl, rfl⟩, by decide⟩ (by decide) (rfl) rfl hg1 dX8_readsFrom_23 ?_
        obtain ⟨q2, h_q2, hf⟩ := x_bindE hf
        refine x_ci0 (x_rV ⟨hx, hb, hml, hown, hts⟩ (ct_X8_platterOf l g hfl w md_2 mn mw ((md_2 30 0 (((589 : Int32) + v2_2)).toNatClampNeg)) h_q2) (cwV 1 hts gX8_readsFrom_X8_platterOf rfl rfl rfl (by decide +kernel) ⟨Nat.le_of_ble_eq_true rfl, Nat.le_of_ble_eq_true rfl⟩) hK hW hS (x_recv (i := (g.1 + 189)) (k := 8) (j := 0) hK hW ⟨⟨hfl, rfl⟩, by decide⟩ rfl (by decide)) rfl hl.1 (rest := []) rfl (Nat.le_of_ble_eq_true rfl) dX8_readsFrom_24 ⟨Nat.le_of_ble_eq_true rfl, Nat.le_of_ble_eq_true rfl⟩) hS (fun H locs hW hS => ?_)
        have hW : World g (wM w md_2 mn mw) H := hW
        refine W.eq (g2 := F0 m 27 ls [.int q2]) rfl ?_
        refine lv_iload_n hx hb dX8_readsFrom_27 rfl (lv_at hl 1 rfl) ?_
        refine lv_icmp_ne (tgt := 45) hx hb dX8_readsFrom_28 (by decide) (fun hc => ?_) (fun hc => ?_)
        · have hf := x_iteF hf hc
          obtain ⟨x3, e_x3, hf⟩ := x_letE hf
          refine lv_iinc (v := x3) (lv' := [(2, .int x3), (0, .ref (adr (g.1 + 189) 8 0)), (1, .int a1)]) hx hb dX8_readsFrom_45 hl (k := 2) rfl (by rw [e_x3]; rfl) (by decide) rfl (fun ls hl => ?_)
          refine lv_goto (tgt := 2) hx hb dX8_readsFrom_48 (by decide) ?_
          exact ih (x3) (md_2) ls _ _ (lv_sub hl [1, 2, 0] rfl) hW hS hf
        · have hf := x_iteT hf hc
          refine lv_aload_n hx hb dX8_readsFrom_31 rfl (lv_at hl 0 rfl) ?_
          refine lv_aload_n hx hb dX8_readsFrom_32 rfl (lv_at hl 0 rfl) ?_
          refine x_get (i := (g.1 + 189)) (k := 8) (j := 0) (t := 1) hx hb hts i_8 hown hK hW ⟨⟨hfl, rfl⟩, by decide⟩ rfl ⟨by decide, by decide, rfl⟩ (hts (.fieldLink RX8 7 "OpticalJukeboxModel" "now" "[I") (by decide +kernel)) (v := .ref (adr (g.1 + 189) 30 0)) rfl dX8_readsFrom_33 ?_
          refine lv_sipush (v := 589) hx hb dX8_readsFrom_36 (by decide) ?_
          refine lv_iload_n hx hb dX8_readsFrom_39 rfl (lv_at hl 2 rfl) ?_
          refine lv_iadd hx hb dX8_readsFrom_40 ?_
          obtain ⟨hg4, hf⟩ := x_guardE hf
          refine x_iald (i := (g.1 + 189)) (k := 30) (j := 0) (f := md_2 30 0) hx hb hK hW ⟨⟨hfl, rfl⟩, by decide⟩ (by decide) (rfl) rfl hg4 dX8_readsFrom_41 ?_
          obtain ⟨q5, h_q5, hf⟩ := x_bindE hf
          refine x_cv0 (x_rV ⟨hx, hb, hml, hown, hts⟩ (ct_X8_reads l g hfl w md_2 mn mw ((md_2 30 0 (((589 : Int32) + v2_2)).toNatClampNeg)) h_q5) (cwV 1 hts gX8_readsFrom_X8_reads rfl rfl rfl (by decide +kernel) ⟨Nat.le_of_ble_eq_true rfl, Nat.le_of_ble_eq_true rfl⟩) hK hW hS (x_recv (i := (g.1 + 189)) (k := 8) (j := 0) hK hW ⟨⟨hfl, rfl⟩, by decide⟩ rfl (by decide)) rfl hl.1 (rest := []) rfl (Nat.le_of_ble_eq_true rfl) dX8_readsFrom_42 ⟨Nat.le_of_ble_eq_true rfl, Nat.le_of_ble_eq_true rfl⟩) hS (fun H locs hW hS => ?_)
          have hW : World g (wM w q5 mn mw) H := hW
          obtain ⟨x6, e_x6, hf⟩ := x_letE hf
          refine lv_iinc (v := x6) (lv' := [(2, .int x6), (0, .ref (adr (g.1 + 189) 8 0)), (1, .int a1)]) hx hb dX8_readsFrom_45 hl (k := 2) rfl (by rw [e_x6]; rfl) (by decide) rfl (fun ls hl => ?_)
          refine lv_goto (tgt := 2) hx hb dX8_readsFrom_48 (by decide) ?_
          exact ih (x6) (q5) ls _ _ (lv_sub hl [1, 2, 0] rfl) hW hS hf
  exact L2 fuel ((0 : Int32)) (md) ls _ _ (lv_sub hl [1, 2, 0] rfl) hW hS hf
abbrev rm_X8_serves : Room := { frames := 7, cells := 0, slots := 0, locals := 152 }
set_option maxRecDepth 100000 in
set_option maxHeartbeats 4000000 in
theorem ct_X8_serves (l : Launch) (g : GT) (hfl : 2 ≤ gf g) (w : WT) (md : SD) (mn : Nat → Int64) (mw : Int64) {q : SD} (hf : f_X8_serves md  = some q) : Met l yX8_serves wsX8_serves rm_X8_serves (cPre g (wM w md mn mw) [.ref (adr (g.1 + 189) 8 0)]) (cQv g (wM w q mn mw)) 0 0 (gA g) := by
  have i_8 : ∀ w ∈ u_ws RX8 TX8 27, w ∈ wsX8_serves := by decide +kernel
  refine x_met (by decide) rfl (Nat.le_of_ble_eq_true rfl) ?_
  intro p e s m below meth c hx hb hr hml hts hown hlocks hK hW hS ls hl
  have hown : s.vm.findClass RX8 = some m.cls := hown
  have hl : lv_has ls 3 [(0, .ref (adr (g.1 + 189) 8 0))] := hl
  rw [f_X8_serves] at hf
  refine lv_aload_n hx hb dX8_serves_0 rfl (lv_at hl 0 rfl) ?_
  obtain ⟨q1, h_q1, hf⟩ := x_bindE hf
  refine x_cv0 (x_rV ⟨hx, hb, hml, hown, hts⟩ (ct_X8_findsWanted l g hfl w md mn mw  h_q1) (cwV 0 hts gX8_serves_X8_findsWanted rfl rfl rfl (by decide +kernel) ⟨Nat.le_of_ble_eq_true rfl, Nat.le_of_ble_eq_true rfl⟩) hK hW hS (x_recv (i := (g.1 + 189)) (k := 8) (j := 0) hK hW ⟨⟨hfl, rfl⟩, by decide⟩ rfl (by decide)) rfl hl.1 (rest := []) rfl (Nat.le_of_ble_eq_true rfl) dX8_serves_1 ⟨Nat.le_of_ble_eq_true rfl, Nat.le_of_ble_eq_true rfl⟩) hS (fun H locs hW hS => ?_)
  have hW : World g (wM w q1 mn mw) H := hW
  refine lv_iconst (v := 0) hx hb dX8_serves_4 (by decide) ?_
  refine lv_istore_n (lv' := [(1, .int (0 : Int32)), (0, .ref (adr (g.1 + 189) 8 0))]) hx hb dX8_serves_5 rfl hl (by decide) rfl (fun ls hl => ?_)
  have L6 : ∀ (n : Nat) (v1_6 : Int32) (md_6 : SD) (ls : Array Slot) (H : Heap) (locs : List Loc), lv_has ls 3 [(0, .ref (adr (g.1 + 189) 8 0)), (1, .int v1_6)] → World g (wM w md_6 mn mw) H → va_S (gA g) s.heap H locs → f_X8_serves_L6  n v1_6 md_6 = some q → W p l e rm_X8_serves s m [.ref (adr (g.1 + 189) 8 0)].toArray below meth c H locs 0 0 (MQ below (cQv g (wM w q mn mw)) [.ref (adr (g.1 + 189) 8 0)].toArray s 0 0 (gA g)) (F0 m 6 ls []) := by
    clear hW hS hl
    intro n
    induction n with
    | zero => intro v1_6 md_6 ls H locs hl hW hS hf; cases hf
    | succ n_6 ih =>
      intro v1_6 md_6 ls H locs hl hW hS hf
      rw [f_X8_serves_L6] at hf
      refine lv_iload_n hx hb dX8_serves_6 rfl (lv_at hl 1 rfl) ?_
      refine lv_aload_n hx hb dX8_serves_7 rfl (lv_at hl 0 rfl) ?_
      refine x_get (i := (g.1 + 189)) (k := 8) (j := 0) (t := 1) hx hb hts i_8 hown hK hW ⟨⟨hfl, rfl⟩, by decide⟩ rfl ⟨by decide, by decide, rfl⟩ (hts (.fieldLink RX8 7 "OpticalJukeboxModel" "now" "[I") (by decide +kernel)) (v := .ref (adr (g.1 + 189) 30 0)) rfl dX8_serves_8 ?_
      refine lv_bipush (v := 6) hx hb dX8_serves_11 (by decide) ?_
      refine x_iald (i := (g.1 + 189)) (k := 30) (j := 0) (f := md_6 30 0) hx hb hK hW ⟨⟨hfl, rfl⟩, by decide⟩ (by decide) (rfl) rfl (by unfold vp_in; decide) dX8_serves_13 ?_
      refine W.eq (g2 := F0 m 14 ls [.int (md_6 30 0 6), .int v1_6]) rfl ?_
      refine lv_icmp_ge (tgt := 49) hx hb dX8_serves_14 (by decide) (fun hc => ?_) (fun hc => ?_)
      · have hf := x_iteT hf hc
        refine lv_aload_n hx hb dX8_serves_49 rfl (lv_at hl 0 rfl) ?_
        refine x_get (i := (g.1 + 189)) (k := 8) (j := 0) (t := 10) hx hb hts i_8 hown hK hW ⟨⟨hfl, rfl⟩, by decide⟩ rfl ⟨by decide, by decide, rfl⟩ (hts (.fieldLink RX8 145 "OpticalJukeboxModel" "wants" "I") (by decide +kernel)) (rfl) dX8_serves_50 ?_
        obtain ⟨K2, eK2, hf⟩ := x_letE hf
        have KK2 : ∀ (y3 : Int32) (md4 : SD) (ls : Array Slot) (H : Heap) (locs : List Loc), lv_has ls 3 [(0, .ref (adr (g.1 + 189) 8 0)), (1, .int y3)] → World g (wM w md4 mn mw) H → va_S (gA g) s.heap H locs → K2 y3 md4 = some q → W p l e rm_X8_serves s m [.ref (adr (g.1 + 189) 8 0)].toArray below meth c H locs 0 0 (MQ below (cQv g (wM w q mn mw)) [.ref (adr (g.1 + 189) 8 0)].toArray s 0 0 (gA g)) (F0 m 113 ls []) := by
          intro y3 md4 ls H locs hl hW hS hf
          subst eK2
          refine lv_aload_n hx hb dX8_serves_113 rfl (lv_at hl 0 rfl) ?_
          refine x_get (i := (g.1 + 189)) (k := 8) (j := 0) (t := 1) hx hb hts i_8 hown hK hW ⟨⟨hfl, rfl⟩, by decide⟩ rfl ⟨by decide, by decide, rfl⟩ (hts (.fieldLink RX8 7 "OpticalJukeboxModel" "now" "[I") (by decide +kernel)) (v := .ref (adr (g.1 + 189) 30 0)) rfl dX8_serves_114 ?_
          refine lv_bipush (v := 16) hx hb dX8_serves_117 (by decide) ?_
          refine lv_iconst (v := 0) hx hb dX8_serves_119 (by decide) ?_
          obtain ⟨md5, e_md5, hf⟩ := x_letE hf
          refine x_iast (i := (g.1 + 189)) (k := 30) (j := 0) (w' := wM w md5 mn mw) hx hb hK hW ⟨⟨hfl, rfl⟩, by decide⟩ hS (by decide) rfl rfl rfl (by unfold vp_in; decide) dX8_serves_120 (fp_M e_md5 rfl) (fun H locs hW hS => ?_)
          cases hf
          exact x_vret hx hb hr hlocks hK hW hS dX8_serves_121
        clear eK2
        refine lv_if_le (tgt := 113) hx hb dX8_serves_53 (by decide) (fun hc => ?_) (fun hc => ?_)
        · have hf := x_iteT hf hc
          exact KK2 (v1_6) (md_6) ls _ _ hl hW hS hf
        · have hf := x_iteF hf hc
          refine lv_aload_n hx hb dX8_serves_56 rfl (lv_at hl 0 rfl) ?_
          obtain ⟨q6, h_q6, hf⟩ := x_bindE hf
          refine x_ci0 (x_rV ⟨hx, hb, hml, hown, hts⟩ (ct_X8_freeDrive l g hfl w md_6 mn mw  h_q6) (cwV 0 hts gX8_serves_X8_freeDrive rfl rfl rfl (by decide +kernel) ⟨Nat.le_of_ble_eq_true rfl, Nat.le_of_ble_eq_true rfl⟩) hK hW hS (x_recv (i := (g.1 + 189)) (k := 8) (j := 0) hK hW ⟨⟨hfl, rfl⟩, by decide⟩ rfl (by decide)) rfl hl.1 (rest := []) rfl (Nat.le_of_ble_eq_true rfl) dX8_serves_57 ⟨Nat.le_of_ble_eq_true rfl, Nat.le_of_ble_eq_true rfl⟩) hS (fun H locs hW hS => ?_)
          have hW : World g (wM w md_6 mn mw) H := hW
          refine W.eq (g2 := F0 m 60 ls [.int q6]) rfl ?_
          refine lv_istore_n (lv' := [(1, .int q6), (0, .ref (adr (g.1 + 189) 8 0))]) hx hb dX8_serves_60 rfl hl (by decide) rfl (fun ls hl => ?_)
          refine lv_aload_n hx hb dX8_serves_61 rfl (lv_at hl 1 rfl) ?_
          refine lv_iload_n hx hb dX8_serves_62 rfl (lv_at hl 0 rfl) ?_
          obtain ⟨q7, h_q7, hf⟩ := x_bindE hf
          refine x_cv0 (x_rV ⟨hx, hb, hml, hown, hts⟩ (ct_X8_findsOrder l g hfl w md_6 mn mw (q6) h_q7) (cwV 1 hts gX8_serves_X8_findsOrder rfl rfl rfl (by decide +kernel) ⟨Nat.le_of_ble_eq_true rfl, Nat.le_of_ble_eq_true rfl⟩) hK hW hS (x_recv (i := (g.1 + 189)) (k := 8) (j := 0) hK hW ⟨⟨hfl, rfl⟩, by decide⟩ rfl (by decide)) rfl hl.1 (rest := []) rfl (Nat.le_of_ble_eq_true rfl) dX8_serves_63 ⟨Nat.le_of_ble_eq_true rfl, Nat.le_of_ble_eq_true rfl⟩) hS (fun H locs hW hS => ?_)
          have hW : World g (wM w q7 mn mw) H := hW
          refine lv_iconst (v := 0) hx hb dX8_serves_66 (by decide) ?_
          refine lv_istore_n (lv' := [(2, .int (0 : Int32)), (1, .int q6), (0, .ref (adr (g.1 + 189) 8 0))]) hx hb dX8_serves_67 rfl hl (by decide) rfl (fun ls hl => ?_)
          obtain ⟨q8, h_q8, hf⟩ := x_bindE hf
          have L68 : ∀ (QQ : State → Prop) (n : Nat) (v2_68 : Int32) (md_68 : SD) (ls : Array Slot) (H : Heap) (locs : List Loc), lv_has ls 3 [(0, .ref (adr (g.1 + 189) 8 0)), (1, .int q6), (2, .int v2_68)] → World g (wM w md_68 mn mw) H → va_S (gA g) s.heap H locs → f_X8_serves_L68 q6 n v2_68 md_68 = some q8 → (∀ (ls : Array Slot) (H : Heap) (locs : List Loc), lv_has ls 3 [(0, .ref (adr (g.1 + 189) 8 0)), (1, .int q6), (2, .int q8.1)] → World g (wM w q8.2 mn mw) H → va_S (gA g) s.heap H locs → W p l e rm_X8_serves s m [.ref (adr (g.1 + 189) 8 0)].toArray below meth c H locs 0 0 QQ (F0 m 113 ls [])) → W p l e rm_X8_serves s m [.ref (adr (g.1 + 189) 8 0)].toArray below meth c H locs 0 0 QQ (F0 m 68 ls []) := by
            clear hW hS hl hf
            intro QQ n
            induction n with
            | zero => intro v2_68 md_68 ls H locs hl hW hS hf kk; cases hf
            | succ n_68 ih =>
              intro v2_68 md_68 ls H locs hl hW hS hf kk
              rw [f_X8_serves_L68] at hf
              refine lv_iload_n hx hb dX8_serves_68 rfl (lv_at hl 2 rfl) ?_
              refine lv_aload_n hx hb dX8_serves_69 rfl (lv_at hl 0 rfl) ?_
              refine x_get (i := (g.1 + 189)) (k := 8) (j := 0) (t := 10) hx hb hts i_8 hown hK hW ⟨⟨hfl, rfl⟩, by decide⟩ rfl ⟨by decide, by decide, rfl⟩ (hts (.fieldLink RX8 145 "OpticalJukeboxModel" "wants" "I") (by decide +kernel)) (rfl) dX8_serves_70 ?_
              refine lv_icmp_ge (tgt := 113) hx hb dX8_serves_73 (by decide) (fun hc => ?_) (fun hc => ?_)
              · have hf := x_iteT hf hc
                cases hf
                exact kk ls _ _ hl hW hS
              · have hf := x_iteF hf hc
                refine lv_aload_n hx hb dX8_serves_76 rfl (lv_at hl 0 rfl) ?_
                refine lv_aload_n hx hb dX8_serves_77 rfl (lv_at hl 0 rfl) ?_
                refine x_get (i := (g.1 + 189)) (k := 8) (j := 0) (t := 7) hx hb hts i_8 hown hK hW ⟨⟨hfl, rfl⟩, by decide⟩ rfl ⟨by decide, by decide, rfl⟩ (hts (.fieldLink RX8 22 "OpticalJukeboxModel" "wanted" "[I") (by decide +kernel)) (v := .ref (adr (g.1 + 189) 34 0)) rfl dX8_serves_78 ?_
                refine lv_aload_n hx hb dX8_serves_81 rfl (lv_at hl 0 rfl) ?_
                refine x_get (i := (g.1 + 189)) (k := 8) (j := 0) (t := 8) hx hb hts i_8 hown hK hW ⟨⟨hfl, rfl⟩, by decide⟩ rfl ⟨by decide, by decide, rfl⟩ (hts (.fieldLink RX8 25 "OpticalJukeboxModel" "order" "[I") (by decide +kernel)) (v := .ref (adr (g.1 + 189) 35 0)) rfl dX8_serves_82 ?_
                refine lv_iload_n hx hb dX8_serves_85 rfl (lv_at hl 2 rfl) ?_
                obtain ⟨hg9, hf⟩ := x_guardE hf
                refine x_iald (i := (g.1 + 189)) (k := 35) (j := 0) (f := md_68 35 0) hx hb hK hW ⟨⟨hfl, rfl⟩, by decide⟩ (by decide) (rfl) rfl hg9 dX8_serves_86 ?_
                obtain ⟨hg10, hf⟩ := x_guardE hf
                refine x_iald (i := (g.1 + 189)) (k := 34) (j := 0) (f := md_68 34 0) hx hb hK hW ⟨⟨hfl, rfl⟩, by decide⟩ (by decide) (rfl) rfl hg10 dX8_serves_87 ?_
                refine lv_iload_n hx hb dX8_serves_88 rfl (lv_at hl 1 rfl) ?_
                obtain ⟨q11, h_q11, hf⟩ := x_bindE hf
                refine x_cv0 (x_rV ⟨hx, hb, hml, hown, hts⟩ (ct_X8_brings l g hfl w md_68 mn mw ((md_68 34 0 ((md_68 35 0 (v2_68).toNatClampNeg)).toNatClampNeg)) (q6) h_q11) (cwV 2 hts gX8_serves_X8_brings rfl rfl rfl (by decide +kernel) ⟨Nat.le_of_ble_eq_true rfl, Nat.le_of_ble_eq_true rfl⟩) hK hW hS (x_recv (i := (g.1 + 189)) (k := 8) (j := 0) hK hW ⟨⟨hfl, rfl⟩, by decide⟩ rfl (by decide)) rfl hl.1 (rest := []) rfl (Nat.le_of_ble_eq_true rfl) dX8_serves_89 ⟨Nat.le_of_ble_eq_true rfl, Nat.le_of_ble_eq_true rfl⟩) hS (fun H locs hW hS => ?_)
                have hW : World g (wM w q11 mn mw) H := hW
                refine lv_aload_n hx hb dX8_serves_92 rfl (lv_at hl 0 rfl) ?_
                refine lv_aload_n hx hb dX8_serves_93 rfl (lv_at hl 0 rfl) ?_
                refine x_get (i := (g.1 + 189)) (k := 8) (j := 0) (t := 7) hx hb hts i_8 hown hK hW ⟨⟨hfl, rfl⟩, by decide⟩ rfl ⟨by decide, by decide, rfl⟩ (hts (.fieldLink RX8 22 "OpticalJukeboxModel" "wanted" "[I") (by decide +kernel)) (v := .ref (adr (g.1 + 189) 34 0)) rfl dX8_serves_94 ?_
                refine lv_aload_n hx hb dX8_serves_97 rfl (lv_at hl 0 rfl) ?_
                refine x_get (i := (g.1 + 189)) (k := 8) (j := 0) (t := 8) hx hb hts i_8 hown hK hW ⟨⟨hfl, rfl⟩, by decide⟩ rfl ⟨by decide, by decide, rfl⟩ (hts (.fieldLink RX8 25 "OpticalJukeboxModel" "order" "[I") (by decide +kernel)) (v := .ref (adr (g.1 + 189) 35 0)) rfl dX8_serves_98 ?_
                refine lv_iload_n hx hb dX8_serves_101 rfl (lv_at hl 2 rfl) ?_
                obtain ⟨hg12, hf⟩ := x_guardE hf
                refine x_iald (i := (g.1 + 189)) (k := 35) (j := 0) (f := q11 35 0) hx hb hK hW ⟨⟨hfl, rfl⟩, by decide⟩ (by decide) (rfl) rfl hg12 dX8_serves_102 ?_
                obtain ⟨hg13, hf⟩ := x_guardE hf
                refine x_iald (i := (g.1 + 189)) (k := 34) (j := 0) (f := q11 34 0) hx hb hK hW ⟨⟨hfl, rfl⟩, by decide⟩ (by decide) (rfl) rfl hg13 dX8_serves_103 ?_
                obtain ⟨q14, h_q14, hf⟩ := x_bindE hf
                refine x_cv0 (x_rV ⟨hx, hb, hml, hown, hts⟩ (ct_X8_readsFrom l g hfl w q11 mn mw ((q11 34 0 ((q11 35 0 (v2_68).toNatClampNeg)).toNatClampNeg)) h_q14) (cwV 1 hts gX8_serves_X8_readsFrom rfl rfl rfl (by decide +kernel) ⟨Nat.le_of_ble_eq_true rfl, Nat.le_of_ble_eq_true rfl⟩) hK hW hS (x_recv (i := (g.1 + 189)) (k := 8) (j := 0) hK hW ⟨⟨hfl, rfl⟩, by decide⟩ rfl (by decide)) rfl hl.1 (rest := []) rfl (Nat.le_of_ble_eq_true rfl) dX8_serves_104 ⟨Nat.le_of_ble_eq_true rfl, Nat.le_of_ble_eq_true rfl⟩) hS (fun H locs hW hS => ?_)
                have hW : World g (wM w q14 mn mw) H := hW
                obtain ⟨x15, e_x15, hf⟩ := x_letE hf
                refine lv_iinc (v := x15) (lv' := [(2, .int x15), (0, .ref (adr (g.1 + 189) 8 0)), (1, .int q6)]) hx hb dX8_serves_107 hl (k := 2) rfl (by rw [e_x15]; rfl) (by decide) rfl (fun ls hl => ?_)
                refine lv_goto (tgt := 68) hx hb dX8_serves_110 (by decide) ?_
                exact ih (x15) (q14) ls _ _ (lv_sub hl [1, 2, 0] rfl) hW hS hf kk
          refine L68 _ fuel ((0 : Int32)) (q7) ls _ _ (lv_sub hl [2, 1, 0] rfl) hW hS h_q8 (fun ls H locs hl hW hS => ?_)
          exact KK2 (q6) (q8.2) ls _ _ (lv_sub hl [0, 1] rfl) hW hS hf
      · have hf := x_iteF hf hc
        refine lv_aload_n hx hb dX8_serves_17 rfl (lv_at hl 0 rfl) ?_
        refine x_get (i := (g.1 + 189)) (k := 8) (j := 0) (t := 1) hx hb hts i_8 hown hK hW ⟨⟨hfl, rfl⟩, by decide⟩ rfl ⟨by decide, by decide, rfl⟩ (hts (.fieldLink RX8 7 "OpticalJukeboxModel" "now" "[I") (by decide +kernel)) (v := .ref (adr (g.1 + 189) 30 0)) rfl dX8_serves_18 ?_
        refine lv_bipush (v := 21) hx hb dX8_serves_21 (by decide) ?_
        refine lv_iload_n hx hb dX8_serves_23 rfl (lv_at hl 1 rfl) ?_
        refine lv_iadd hx hb dX8_serves_24 ?_
        obtain ⟨hg16, hf⟩ := x_guardE hf
        refine x_iald (i := (g.1 + 189)) (k := 30) (j := 0) (f := md_6 30 0) hx hb hK hW ⟨⟨hfl, rfl⟩, by decide⟩ (by decide) (rfl) rfl hg16 dX8_serves_25 ?_
        refine lv_iconst (v := -1) hx hb dX8_serves_26 (by decide) ?_
        refine lv_icmp_eq (tgt := 43) hx hb dX8_serves_27 (by decide) (fun hc => ?_) (fun hc => ?_)
        · have hf := x_iteT hf hc
          obtain ⟨x17, e_x17, hf⟩ := x_letE hf
          refine lv_iinc (v := x17) (lv' := [(1, .int x17), (0, .ref (adr (g.1 + 189) 8 0))]) hx hb dX8_serves_43 hl (k := 1) rfl (by rw [e_x17]; rfl) (by decide) rfl (fun ls hl => ?_)
          refine lv_goto (tgt := 6) hx hb dX8_serves_46 (by decide) ?_
          exact ih (x17) (md_6) ls _ _ (lv_sub hl [1, 0] rfl) hW hS hf
        · have hf := x_iteF hf hc
          refine lv_aload_n hx hb dX8_serves_30 rfl (lv_at hl 0 rfl) ?_
          refine lv_aload_n hx hb dX8_serves_31 rfl (lv_at hl 0 rfl) ?_
          refine x_get (i := (g.1 + 189)) (k := 8) (j := 0) (t := 1) hx hb hts i_8 hown hK hW ⟨⟨hfl, rfl⟩, by decide⟩ rfl ⟨by decide, by decide, rfl⟩ (hts (.fieldLink RX8 7 "OpticalJukeboxModel" "now" "[I") (by decide +kernel)) (v := .ref (adr (g.1 + 189) 30 0)) rfl dX8_serves_32 ?_
          refine lv_bipush (v := 21) hx hb dX8_serves_35 (by decide) ?_
          refine lv_iload_n hx hb dX8_serves_37 rfl (lv_at hl 1 rfl) ?_
          refine lv_iadd hx hb dX8_serves_38 ?_
          obtain ⟨hg18, hf⟩ := x_guardE hf
          refine x_iald (i := (g.1 + 189)) (k := 30) (j := 0) (f := md_6 30 0) hx hb hK hW ⟨⟨hfl, rfl⟩, by decide⟩ (by decide) (rfl) rfl hg18 dX8_serves_39 ?_
          obtain ⟨q19, h_q19, hf⟩ := x_bindE hf
          refine x_cv0 (x_rV ⟨hx, hb, hml, hown, hts⟩ (ct_X8_readsFrom l g hfl w md_6 mn mw ((md_6 30 0 (((21 : Int32) + v1_6)).toNatClampNeg)) h_q19) (cwV 1 hts gX8_serves_X8_readsFrom rfl rfl rfl (by decide +kernel) ⟨Nat.le_of_ble_eq_true rfl, Nat.le_of_ble_eq_true rfl⟩) hK hW hS (x_recv (i := (g.1 + 189)) (k := 8) (j := 0) hK hW ⟨⟨hfl, rfl⟩, by decide⟩ rfl (by decide)) rfl hl.1 (rest := []) rfl (Nat.le_of_ble_eq_true rfl) dX8_serves_40 ⟨Nat.le_of_ble_eq_true rfl, Nat.le_of_ble_eq_true rfl⟩) hS (fun H locs hW hS => ?_)
          have hW : World g (wM w q19 mn mw) H := hW
          obtain ⟨x20, e_x20, hf⟩ := x_letE hf
          refine lv_iinc (v := x20) (lv' := [(1, .int x20), (0, .ref (adr (g.1 + 189) 8 0))]) hx hb dX8_serves_43 hl (k := 1) rfl (by rw [e_x20]; rfl) (by decide) rfl (fun ls hl => ?_)
          refine lv_goto (tgt := 6) hx hb dX8_serves_46 (by decide) ?_
          exact ih (x20) (q19) ls _ _ (lv_sub hl [1, 0] rfl) hW hS hf
  exact L6 fuel ((0 : Int32)) (q1) ls _ _ (lv_sub hl [1, 0] rfl) hW hS hf
abbrev rm_X8_areReadable : Room := { frames := 3, cells := 0, slots := 0, locals := 64 }
set_option maxRecDepth 100000 in
set_option maxHeartbeats 4000000 in
theorem ct_X8_areReadable (l : Launch) (g : GT) (hfl : 2 ≤ gf g) (w : WT) (md : SD) (mn : Nat → Int64) (mw : Int64) {q : Int32} (hf : f_X8_areReadable md  = some q) : Met l yX8_areReadable wsX8_areReadable rm_X8_areReadable (cPre g (wM w md mn mw) [.ref (adr (g.1 + 189) 8 0)]) (cQi g q (wM w md mn mw)) 0 0 (gA g) := by
  have i_8 : ∀ w ∈ u_ws RX8 TX8 27, w ∈ wsX8_areReadable := by decide +kernel
  refine x_met (by decide) rfl (Nat.le_of_ble_eq_true rfl) ?_
  intro p e s m below meth c hx hb hr hml hts hown hlocks hK hW hS ls hl
  have hown : s.vm.findClass RX8 = some m.cls := hown
  have hl : lv_has ls 3 [(0, .ref (adr (g.1 + 189) 8 0))] := hl
  rw [f_X8_areReadable] at hf
  refine lv_iconst (v := 1) hx hb dX8_areReadable_0 (by decide) ?_
  refine lv_istore_n (lv' := [(1, .int (1 : Int32)), (0, .ref (adr (g.1 + 189) 8 0))]) hx hb dX8_areReadable_1 rfl hl (by decide) rfl (fun ls hl => ?_)
  refine lv_iconst (v := 0) hx hb dX8_areReadable_2 (by decide) ?_
  refine lv_istore_n (lv' := [(2, .int (0 : Int32)), (1, .int (1 : Int32)), (0, .ref (adr (g.1 + 189) 8 0))]) hx hb dX8_areReadable_3 rfl hl (by decide) rfl (fun ls hl => ?_)
  have L4 : ∀ (n : Nat) (v1_4 : Int32) (v2_4 : Int32) (ls : Array Slot) (H : Heap) (locs : List Loc), lv_has ls 3 [(0, .ref (adr (g.1 + 189) 8 0)), (1, .int v1_4), (2, .int v2_4)] → World g (wM w md mn mw) H → va_S (gA g) s.heap H locs → f_X8_areReadable_L4 md n v1_4 v2_4 = some q → W p l e rm_X8_areReadable s m [.ref (adr (g.1 + 189) 8 0)].toArray below meth c H locs 0 0 (MQ below (cQi g q (wM w md mn mw)) [.ref (adr (g.1 + 189) 8 0)].toArray s 0 0 (gA g)) (F0 m 4 ls []) := by
    clear hW hS hl
    intro n
    induction n with
    | zero => intro v1_4 v2_4 ls H locs hl hW hS hf; cases hf
    | succ n_4 ih =>
      intro v1_4 v2_4 ls H locs hl hW hS hf
      rw [f_X8_areReadable_L4] at hf
      refine lv_iload_n hx hb dX8_areReadable_4 rfl (lv_at hl 2 rfl) ?_
      refine lv_aload_n hx hb dX8_areReadable_5 rfl (lv_at hl 0 rfl) ?_
      refine x_get (i := (g.1 + 189)) (k := 8) (j := 0) (t := 1) hx hb hts i_8 hown hK hW ⟨⟨hfl, rfl⟩, by decide⟩ rfl ⟨by decide, by decide, rfl⟩ (hts (.fieldLink RX8 7 "OpticalJukeboxModel" "now" "[I") (by decide +kernel)) (v := .ref (adr (g.1 + 189) 30 0)) rfl dX8_areReadable_6 ?_
      refine lv_bipush (v := 16) hx hb dX8_areReadable_9 (by decide) ?_
      refine x_iald (i := (g.1 + 189)) (k := 30) (j := 0) (f := md 30 0) hx hb hK hW ⟨⟨hfl, rfl⟩, by decide⟩ (by decide) (rfl) rfl (by unfold vp_in; decide) dX8_areReadable_11 ?_
      refine W.eq (g2 := F0 m 12 ls [.int (md 30 0 16), .int v2_4]) rfl ?_
      refine lv_icmp_ge (tgt := 48) hx hb dX8_areReadable_12 (by decide) (fun hc => ?_) (fun hc => ?_)
      · have hf := x_iteT hf hc
        refine lv_iload_n hx hb dX8_areReadable_48 rfl (lv_at hl 1 rfl) ?_
        obtain ⟨hg1, hf⟩ := x_guardE hf
        cases hf
        exact x_zret hx hb hr hlocks hK hW hS hg1 rfl dX8_areReadable_49
      · have hf := x_iteF hf hc
        refine lv_iload_n hx hb dX8_areReadable_15 rfl (lv_at hl 1 rfl) ?_
        obtain ⟨K2, eK2, hf⟩ := x_letE hf
        have KK2 : ∀ (y3 : Int32) (ls : Array Slot) (H : Heap) (locs : List Loc), lv_has ls 3 [(0, .ref (adr (g.1 + 189) 8 0)), (1, .int v1_4), (2, .int v2_4)] → World g (wM w md mn mw) H → va_S (gA g) s.heap H locs → K2 y3 = some q → W p l e rm_X8_areReadable s m [.ref (adr (g.1 + 189) 8 0)].toArray below meth c H locs 0 0 (MQ below (cQi g q (wM w md mn mw)) [.ref (adr (g.1 + 189) 8 0)].toArray s 0 0 (gA g)) (F0 m 41 ls [.int y3]) := by
          intro y3 ls H locs hl hW hS hf
          subst eK2
          refine lv_istore_n (lv' := [(1, .int y3), (0, .ref (adr (g.1 + 189) 8 0)), (2, .int v2_4)]) hx hb dX8_areReadable_41 rfl hl (by decide) rfl (fun ls hl => ?_)
          obtain ⟨x4, e_x4, hf⟩ := x_letE hf
          refine lv_iinc (v := x4) (lv' := [(2, .int x4), (1, .int y3), (0, .ref (adr (g.1 + 189) 8 0))]) hx hb dX8_areReadable_42 hl (k := 2) rfl (by rw [e_x4]; rfl) (by decide) rfl (fun ls hl => ?_)
          refine lv_goto (tgt := 4) hx hb dX8_areReadable_45 (by decide) ?_
          exact ih (y3) (x4) ls _ _ (lv_sub hl [2, 1, 0] rfl) hW hS hf
        clear eK2
        obtain ⟨K5, eK5, hf⟩ := x_letE hf
        have KK5 : ∀ (_u : Unit) (ls : Array Slot) (H : Heap) (locs : List Loc), lv_has ls 3 [(0, .ref (adr (g.1 + 189) 8 0)), (1, .int v1_4), (2, .int v2_4)] → World g (wM w md mn mw) H → va_S (gA g) s.heap H locs → K5 _u = some q → W p l e rm_X8_areReadable s m [.ref (adr (g.1 + 189) 8 0)].toArray below meth c H locs 0 0 (MQ below (cQi g q (wM w md mn mw)) [.ref (adr (g.1 + 189) 8 0)].toArray s 0 0 (gA g)) (F0 m 40 ls []) := by
          intro _u ls H locs hl hW hS hf
          subst eK5
          refine lv_iconst (v := 0) hx hb dX8_areReadable_40 (by decide) ?_
          exact KK2 ((0 : Int32)) ls _ _ hl hW hS hf
        clear eK5
        refine lv_if_eq (tgt := 40) hx hb dX8_areReadable_16 (by decide) (fun hc => ?_) (fun hc => ?_)
        · have hf := x_iteT hf hc
          exact KK5 (()) ls _ _ hl hW hS hf
        · have hf := x_iteF hf hc
          refine lv_aload_n hx hb dX8_areReadable_19 rfl (lv_at hl 0 rfl) ?_
          refine lv_aload_n hx hb dX8_areReadable_20 rfl (lv_at hl 0 rfl) ?_
          refine x_get (i := (g.1 + 189)) (k := 8) (j := 0) (t := 1) hx hb hts i_8 hown hK hW ⟨⟨hfl, rfl⟩, by decide⟩ rfl ⟨by decide, by decide, rfl⟩ (hts (.fieldLink RX8 7 "OpticalJukeboxModel" "now" "[I") (by decide +kernel)) (v := .ref (adr (g.1 + 189) 30 0)) rfl dX8_areReadable_21 ?_
          refine lv_sipush (v := 589) hx hb dX8_areReadable_24 (by decide) ?_
          refine lv_iload_n hx hb dX8_areReadable_27 rfl (lv_at hl 2 rfl) ?_
          refine lv_iadd hx hb dX8_areReadable_28 ?_
          obtain ⟨hg6, hf⟩ := x_guardE hf
          refine x_iald (i := (g.1 + 189)) (k := 30) (j := 0) (f := md 30 0) hx hb hK hW ⟨⟨hfl, rfl⟩, by decide⟩ (by decide) (rfl) rfl hg6 dX8_areReadable_29 ?_
          obtain ⟨q7, h_q7, hf⟩ := x_bindE hf
          refine x_ci0 (x_rV ⟨hx, hb, hml, hown, hts⟩ (ct_X8_isReadable l g hfl w md mn mw ((md 30 0 (((589 : Int32) + v2_4)).toNatClampNeg)) h_q7) (cwV 1 hts gX8_areReadable_X8_isReadable rfl rfl rfl (by decide +kernel) ⟨Nat.le_of_ble_eq_true rfl, Nat.le_of_ble_eq_true rfl⟩) hK hW hS (x_recv (i := (g.1 + 189)) (k := 8) (j := 0) hK hW ⟨⟨hfl, rfl⟩, by decide⟩ rfl (by decide)) rfl hl.1 (rest := []) rfl (Nat.le_of_ble_eq_true rfl) dX8_areReadable_30 ⟨Nat.le_of_ble_eq_true rfl, Nat.le_of_ble_eq_true rfl⟩) hS (fun H locs hW hS => ?_)
          have hW : World g (wM w md mn mw) H := hW
          refine W.eq (g2 := F0 m 33 ls [.int q7]) rfl ?_
          refine lv_if_eq (tgt := 40) hx hb dX8_areReadable_33 (by decide) (fun hc => ?_) (fun hc => ?_)
          · have hf := x_iteT hf hc
            exact KK5 (()) ls _ _ hl hW hS hf
          · have hf := x_iteF hf hc
            refine lv_iconst (v := 1) hx hb dX8_areReadable_36 (by decide) ?_
            refine lv_goto (tgt := 41) hx hb dX8_areReadable_37 (by decide) ?_
            exact KK2 ((1 : Int32)) ls _ _ hl hW hS hf
  exact L4 fuel ((1 : Int32)) ((0 : Int32)) ls _ _ (lv_sub hl [2, 1, 0] rfl) hW hS hf
abbrev rm_X8_whyNotServed : Room := { frames := 4, cells := 0, slots := 0, locals := 86 }
set_option maxRecDepth 100000 in
set_option maxHeartbeats 4000000 in
theorem ct_X8_whyNotServed (l : Launch) (g : GT) (hfl : 2 ≤ gf g) (w : WT) (md : SD) (mn : Nat → Int64) (mw : Int64) (a1 : Int32) {q : Int32} (hf : f_X8_whyNotServed md a1 = some q) : Met l yX8_whyNotServed wsX8_whyNotServed rm_X8_whyNotServed (cPre g (wM w md mn mw) [.ref (adr (g.1 + 189) 8 0), .int a1]) (cQi g q (wM w md mn mw)) 0 0 (gA g) := by
  have i_8 : ∀ w ∈ u_ws RX8 TX8 27, w ∈ wsX8_whyNotServed := by decide +kernel
  refine x_met (by decide) rfl (Nat.le_of_ble_eq_true rfl) ?_
  intro p e s m below meth c hx hb hr hml hts hown hlocks hK hW hS ls hl
  have hown : s.vm.findClass RX8 = some m.cls := hown
  have hl : lv_has ls 2 [(0, .ref (adr (g.1 + 189) 8 0)), (1, .int a1)] := hl
  rw [f_X8_whyNotServed] at hf
  refine lv_aload_n hx hb dX8_whyNotServed_0 rfl (lv_at hl 0 rfl) ?_
  refine x_get (i := (g.1 + 189)) (k := 8) (j := 0) (t := 1) hx hb hts i_8 hown hK hW ⟨⟨hfl, rfl⟩, by decide⟩ rfl ⟨by decide, by decide, rfl⟩ (hts (.fieldLink RX8 7 "OpticalJukeboxModel" "now" "[I") (by decide +kernel)) (v := .ref (adr (g.1 + 189) 30 0)) rfl dX8_whyNotServed_1 ?_
  refine lv_bipush (v := 16) hx hb dX8_whyNotServed_4 (by decide) ?_
  refine x_iald (i := (g.1 + 189)) (k := 30) (j := 0) (f := md 30 0) hx hb hK hW ⟨⟨hfl, rfl⟩, by decide⟩ (by decide) (rfl) rfl (by unfold vp_in; decide) dX8_whyNotServed_6 ?_
  refine W.eq (g2 := F0 m 7 ls [.int (md 30 0 16)]) rfl ?_
  refine lv_iload_n hx hb dX8_whyNotServed_7 rfl (lv_at hl 1 rfl) ?_
  refine lv_icmp_ge (tgt := 16) hx hb dX8_whyNotServed_8 (by decide) (fun hc => ?_) (fun hc => ?_)
  · have hf := x_iteT hf hc
    refine lv_aload_n hx hb dX8_whyNotServed_16 rfl (lv_at hl 0 rfl) ?_
    refine x_get (i := (g.1 + 189)) (k := 8) (j := 0) (t := 1) hx hb hts i_8 hown hK hW ⟨⟨hfl, rfl⟩, by decide⟩ rfl ⟨by decide, by decide, rfl⟩ (hts (.fieldLink RX8 7 "OpticalJukeboxModel" "now" "[I") (by decide +kernel)) (v := .ref (adr (g.1 + 189) 30 0)) rfl dX8_whyNotServed_17 ?_
    refine lv_bipush (v := 6) hx hb dX8_whyNotServed_20 (by decide) ?_
    refine x_iald (i := (g.1 + 189)) (k := 30) (j := 0) (f := md 30 0) hx hb hK hW ⟨⟨hfl, rfl⟩, by decide⟩ (by decide) (rfl) rfl (by unfold vp_in; decide) dX8_whyNotServed_22 ?_
    refine W.eq (g2 := F0 m 23 ls [.int (md 30 0 6)]) rfl ?_
    refine lv_if_ne (tgt := 31) hx hb dX8_whyNotServed_23 (by decide) (fun hc => ?_) (fun hc => ?_)
    · have hf := x_iteF hf hc
      refine lv_aload_n hx hb dX8_whyNotServed_31 rfl (lv_at hl 0 rfl) ?_
      obtain ⟨q1, h_q1, hf⟩ := x_bindE hf
      refine x_ci0 (x_rV ⟨hx, hb, hml, hown, hts⟩ (ct_X8_areReadable l g hfl w md mn mw  h_q1) (cwV 0 hts gX8_whyNotServed_X8_areReadable rfl rfl rfl (by decide +kernel) ⟨Nat.le_of_ble_eq_true rfl, Nat.le_of_ble_eq_true rfl⟩) hK hW hS (x_recv (i := (g.1 + 189)) (k := 8) (j := 0) hK hW ⟨⟨hfl, rfl⟩, by decide⟩ rfl (by decide)) rfl hl.1 (rest := []) rfl (Nat.le_of_ble_eq_true rfl) dX8_whyNotServed_32 ⟨Nat.le_of_ble_eq_true rfl, Nat.le_of_ble_eq_true rfl⟩) hS (fun H locs hW hS => ?_)
      have hW : World g (wM w md mn mw) H := hW
      refine W.eq (g2 := F0 m 35 ls [.int q1]) rfl ?_
      refine lv_if_eq (tgt := 42) hx hb dX8_whyNotServed_35 (by decide) (fun hc => ?_) (fun hc => ?_)
      · have hf := x_iteT hf hc
        refine lv_ldc (v := -1000008) hx hb hown (hts (.constant RX8 182 (-1000008)) (by decide +kernel)) dX8_whyNotServed_42 ?_
        cases hf
        exact x_iret hx hb hr hlocks hK hW hS rfl dX8_whyNotServed_44
      · have hf := x_iteF hf hc
        refine lv_iconst (v := 0) hx hb dX8_whyNotServed_38 (by decide) ?_
        refine lv_goto (tgt := 44) hx hb dX8_whyNotServed_39 (by decide) ?_
        cases hf
        exact x_iret hx hb hr hlocks hK hW hS rfl dX8_whyNotServed_44
    · have hf := x_iteT hf hc
      refine lv_ldc (v := -1000007) hx hb hown (hts (.constant RX8 177 (-1000007)) (by decide +kernel)) dX8_whyNotServed_26 ?_
      refine lv_goto (tgt := 44) hx hb dX8_whyNotServed_28 (by decide) ?_
      cases hf
      exact x_iret hx hb hr hlocks hK hW hS rfl dX8_whyNotServed_44
  · have hf := x_iteF hf hc
    refine lv_ldc (v := -1000005) hx hb hown (hts (.constant RX8 42 (-1000005)) (by decide +kernel)) dX8_whyNotServed_11 ?_
    refine lv_goto (tgt := 44) hx hb dX8_whyNotServed_13 (by decide) ?_
    cases hf
    exact x_iret hx hb hr hlocks hK hW hS rfl dX8_whyNotServed_44
abbrev rm_X8_servingTime : Room := { frames := 8, cells := 0, slots := 0, locals := 174 }
set_option maxRecDepth 100000 in
set_option maxHeartbeats 4000000 in
theorem ct_X8_servingTime (l : Launch) (g : GT) (hfl : 2 ≤ gf g) (w : WT) (md : SD) (mn : Nat → Int64) (mw : Int64) {q : (Int32 × SD)} (hf : f_X8_servingTime md  = some q) : Met l yX8_servingTime wsX8_servingTime rm_X8_servingTime (cPre g (wM w md mn mw) [.ref (adr (g.1 + 189) 8 0)]) (cQi g q.1 (wM w q.2 mn mw)) 0 0 (gA g) := by
  refine x_met (by decide) rfl (Nat.le_of_ble_eq_true rfl) ?_
  intro p e s m below meth c hx hb hr hml hts hown hlocks hK hW hS ls hl
  have hown : s.vm.findClass RX8 = some m.cls := hown
  have hl : lv_has ls 1 [(0, .ref (adr (g.1 + 189) 8 0))] := hl
  rw [f_X8_servingTime] at hf
  refine lv_aload_n hx hb dX8_servingTime_0 rfl (lv_at hl 0 rfl) ?_
  obtain ⟨q1, h_q1, hf⟩ := x_bindE hf
  refine x_cv0 (x_rV ⟨hx, hb, hml, hown, hts⟩ (ct_X8_tries l g hfl w md mn mw  h_q1) (cwV 0 hts gX8_servingTime_X8_tries rfl rfl rfl (by decide +kernel) ⟨Nat.le_of_ble_eq_true rfl, Nat.le_of_ble_eq_true rfl⟩) hK hW hS (x_recv (i := (g.1 + 189)) (k := 8) (j := 0) hK hW ⟨⟨hfl, rfl⟩, by decide⟩ rfl (by decide)) rfl hl.1 (rest := []) rfl (Nat.le_of_ble_eq_true rfl) dX8_servingTime_1 ⟨Nat.le_of_ble_eq_true rfl, Nat.le_of_ble_eq_true rfl⟩) hS (fun H locs hW hS => ?_)
  have hW : World g (wM w q1 mn mw) H := hW
  refine lv_aload_n hx hb dX8_servingTime_4 rfl (lv_at hl 0 rfl) ?_
  obtain ⟨q2, h_q2, hf⟩ := x_bindE hf
  refine x_cv0 (x_rV ⟨hx, hb, hml, hown, hts⟩ (ct_X8_serves l g hfl w q1 mn mw  h_q2) (cwV 0 hts gX8_servingTime_X8_serves rfl rfl rfl (by decide +kernel) ⟨Nat.le_of_ble_eq_true rfl, Nat.le_of_ble_eq_true rfl⟩) hK hW hS (x_recv (i := (g.1 + 189)) (k := 8) (j := 0) hK hW ⟨⟨hfl, rfl⟩, by decide⟩ rfl (by decide)) rfl hl.1 (rest := []) rfl (Nat.le_of_ble_eq_true rfl) dX8_servingTime_5 ⟨Nat.le_of_ble_eq_true rfl, Nat.le_of_ble_eq_true rfl⟩) hS (fun H locs hW hS => ?_)
  have hW : World g (wM w q2 mn mw) H := hW
  refine lv_aload_n hx hb dX8_servingTime_8 rfl (lv_at hl 0 rfl) ?_
  obtain ⟨q3, h_q3, hf⟩ := x_bindE hf
  refine x_ci0 (x_rV ⟨hx, hb, hml, hown, hts⟩ (ct_X8_takesBack l g hfl w q2 mn mw  h_q3) (cwV 0 hts gX8_servingTime_X8_takesBack rfl rfl rfl (by decide +kernel) ⟨Nat.le_of_ble_eq_true rfl, Nat.le_of_ble_eq_true rfl⟩) hK hW hS (x_recv (i := (g.1 + 189)) (k := 8) (j := 0) hK hW ⟨⟨hfl, rfl⟩, by decide⟩ rfl (by decide)) rfl hl.1 (rest := []) rfl (Nat.le_of_ble_eq_true rfl) dX8_servingTime_9 ⟨Nat.le_of_ble_eq_true rfl, Nat.le_of_ble_eq_true rfl⟩) hS (fun H locs hW hS => ?_)
  have hW : World g (wM w q3.2 mn mw) H := hW
  refine W.eq (g2 := F0 m 12 ls [.int q3.1]) rfl ?_
  cases hf
  exact x_iret hx hb hr hlocks hK hW hS rfl dX8_servingTime_12
abbrev rm_X8_homeSlot : Room := { frames := 2, cells := 0, slots := 0, locals := 46 }
set_option maxRecDepth 100000 in
set_option maxHeartbeats 4000000 in
theorem ct_X8_homeSlot (l : Launch) (g : GT) (hfl : 2 ≤ gf g) (w : WT) (md : SD) (mn : Nat → Int64) (mw : Int64) (a1 : Int32) {q : (Int32 × SD)} (hf : f_X8_homeSlot md a1 = some q) : Met l yX8_homeSlot wsX8_homeSlot rm_X8_homeSlot (cPre g (wM w md mn mw) [.ref (adr (g.1 + 189) 8 0), .int a1]) (cQi g q.1 (wM w q.2 mn mw)) 0 0 (gA g) := by
  have i_8 : ∀ w ∈ u_ws RX8 TX8 27, w ∈ wsX8_homeSlot := by decide +kernel
  refine x_met (by decide) rfl (Nat.le_of_ble_eq_true rfl) ?_
  intro p e s m below meth c hx hb hr hml hts hown hlocks hK hW hS ls hl
  have hown : s.vm.findClass RX8 = some m.cls := hown
  have hl : lv_has ls 2 [(0, .ref (adr (g.1 + 189) 8 0)), (1, .int a1)] := hl
  rw [f_X8_homeSlot] at hf
  refine lv_aload_n hx hb dX8_homeSlot_0 rfl (lv_at hl 0 rfl) ?_
  refine lv_iconst (v := 0) hx hb dX8_homeSlot_1 (by decide) ?_
  obtain ⟨md1, e_md1, hf⟩ := x_letE hf
  refine x_put (i := (g.1 + 189)) (k := 8) (j := 0) (t := 0) (w' := wM w md1 mn mw) hx hb hts i_8 tyX8 tyX8_ok nmX8 hown hK hW ⟨⟨hfl, rfl⟩, by decide⟩ hS rfl ⟨by decide, by decide, rfl⟩ (hts (.fieldLink RX8 51 "OpticalJukeboxModel" "thrown" "I") (by decide +kernel)) rfl (ty := .int) (by decide +kernel) rfl rfl ⟨rfl, rfl⟩ dX8_homeSlot_2 (fp_M e_md1 rfl) (fun H locs hW hS => ?_)
  refine lv_aload_n hx hb dX8_homeSlot_5 rfl (lv_at hl 0 rfl) ?_
  refine lv_iload_n hx hb dX8_homeSlot_6 rfl (lv_at hl 1 rfl) ?_
  obtain ⟨q2, h_q2, hf⟩ := x_bindE hf
  refine x_ci0 (x_rV ⟨hx, hb, hml, hown, hts⟩ (ct_X8_isPlatter l g hfl w md1 mn mw (a1) h_q2) (cwV 1 hts gX8_homeSlot_X8_isPlatter rfl rfl rfl (by decide +kernel) ⟨Nat.le_of_ble_eq_true rfl, Nat.le_of_ble_eq_true rfl⟩) hK hW hS (x_recv (i := (g.1 + 189)) (k := 8) (j := 0) hK hW ⟨⟨hfl, rfl⟩, by decide⟩ rfl (by decide)) rfl hl.1 (rest := []) rfl (Nat.le_of_ble_eq_true rfl) dX8_homeSlot_7 ⟨Nat.le_of_ble_eq_true rfl, Nat.le_of_ble_eq_true rfl⟩) hS (fun H locs hW hS => ?_)
  have hW : World g (wM w md1 mn mw) H := hW
  refine W.eq (g2 := F0 m 10 ls [.int q2]) rfl ?_
  refine lv_if_eq (tgt := 25) hx hb dX8_homeSlot_10 (by decide) (fun hc => ?_) (fun hc => ?_)
  · have hf := x_iteT hf hc
    refine lv_ldc (v := -1000001) hx hb hown (hts (.constant RX8 186 (-1000001)) (by decide +kernel)) dX8_homeSlot_25 ?_
    cases hf
    exact x_iret hx hb hr hlocks hK hW hS rfl dX8_homeSlot_27
  · have hf := x_iteF hf hc
    refine lv_aload_n hx hb dX8_homeSlot_13 rfl (lv_at hl 0 rfl) ?_
    refine x_get (i := (g.1 + 189)) (k := 8) (j := 0) (t := 1) hx hb hts i_8 hown hK hW ⟨⟨hfl, rfl⟩, by decide⟩ rfl ⟨by decide, by decide, rfl⟩ (hts (.fieldLink RX8 7 "OpticalJukeboxModel" "now" "[I") (by decide +kernel)) (v := .ref (adr (g.1 + 189) 30 0)) rfl dX8_homeSlot_14 ?_
    refine lv_bipush (v := 29) hx hb dX8_homeSlot_17 (by decide) ?_
    refine lv_iload_n hx hb dX8_homeSlot_19 rfl (lv_at hl 1 rfl) ?_
    refine lv_iadd hx hb dX8_homeSlot_20 ?_
    obtain ⟨hg3, hf⟩ := x_guardE hf
    refine x_iald (i := (g.1 + 189)) (k := 30) (j := 0) (f := md1 30 0) hx hb hK hW ⟨⟨hfl, rfl⟩, by decide⟩ (by decide) (rfl) rfl hg3 dX8_homeSlot_21 ?_
    refine lv_goto (tgt := 27) hx hb dX8_homeSlot_22 (by decide) ?_
    cases hf
    exact x_iret hx hb hr hlocks hK hW hS rfl dX8_homeSlot_27
abbrev rm_X8_platterInSlot : Room := { frames := 2, cells := 0, slots := 0, locals := 46 }
set_option maxRecDepth 100000 in
set_option maxHeartbeats 4000000 in
theorem ct_X8_platterInSlot (l : Launch) (g : GT) (hfl : 2 ≤ gf g) (w : WT) (md : SD) (mn : Nat → Int64) (mw : Int64) (a1 : Int32) {q : (Int32 × SD)} (hf : f_X8_platterInSlot md a1 = some q) : Met l yX8_platterInSlot wsX8_platterInSlot rm_X8_platterInSlot (cPre g (wM w md mn mw) [.ref (adr (g.1 + 189) 8 0), .int a1]) (cQi g q.1 (wM w q.2 mn mw)) 0 0 (gA g) := by
  have i_8 : ∀ w ∈ u_ws RX8 TX8 27, w ∈ wsX8_platterInSlot := by decide +kernel
  refine x_met (by decide) rfl (Nat.le_of_ble_eq_true rfl) ?_
  intro p e s m below meth c hx hb hr hml hts hown hlocks hK hW hS ls hl
  have hown : s.vm.findClass RX8 = some m.cls := hown
  have hl : lv_has ls 3 [(0, .ref (adr (g.1 + 189) 8 0)), (1, .int a1)] := hl
  rw [f_X8_platterInSlot] at hf
  refine lv_aload_n hx hb dX8_platterInSlot_0 rfl (lv_at hl 0 rfl) ?_
  refine lv_iconst (v := 0) hx hb dX8_platterInSlot_1 (by decide) ?_
  obtain ⟨md1, e_md1, hf⟩ := x_letE hf
  refine x_put (i := (g.1 + 189)) (k := 8) (j := 0) (t := 0) (w' := wM w md1 mn mw) hx hb hts i_8 tyX8 tyX8_ok nmX8 hown hK hW ⟨⟨hfl, rfl⟩, by decide⟩ hS rfl ⟨by decide, by decide, rfl⟩ (hts (.fieldLink RX8 51 "OpticalJukeboxModel" "thrown" "I") (by decide +kernel)) rfl (ty := .int) (by decide +kernel) rfl rfl ⟨rfl, rfl⟩ dX8_platterInSlot_2 (fp_M e_md1 rfl) (fun H locs hW hS => ?_)
  refine lv_aload_n hx hb dX8_platterInSlot_5 rfl (lv_at hl 0 rfl) ?_
  refine lv_iload_n hx hb dX8_platterInSlot_6 rfl (lv_at hl 1 rfl) ?_
  obtain ⟨q2, h_q2, hf⟩ := x_bindE hf
  refine x_ci0 (x_rV ⟨hx, hb, hml, hown, hts⟩ (ct_X8_isSlot l g hfl w md1 mn mw (a1) h_q2) (cwV 1 hts gX8_platterInSlot_X8_isSlot rfl rfl rfl (by decide +kernel) ⟨Nat.le_of_ble_eq_true rfl, Nat.le_of_ble_eq_true rfl⟩) hK hW hS (x_recv (i := (g.1 + 189)) (k := 8) (j := 0) hK hW ⟨⟨hfl, rfl⟩, by decide⟩ rfl (by decide)) rfl hl.1 (rest := []) rfl (Nat.le_of_ble_eq_true rfl) dX8_platterInSlot_7 ⟨Nat.le_of_ble_eq_true rfl, Nat.le_of_ble_eq_true rfl⟩) hS (fun H locs hW hS => ?_)
  have hW : World g (wM w md1 mn mw) H := hW
  refine W.eq (g2 := F0 m 10 ls [.int q2]) rfl ?_
  refine lv_if_ne (tgt := 16) hx hb dX8_platterInSlot_10 (by decide) (fun hc => ?_) (fun hc => ?_)
  · have hf := x_iteF hf hc
    refine lv_iconst (v := 0) hx hb dX8_platterInSlot_16 (by decide) ?_
    refine lv_istore_n (lv' := [(2, .int (0 : Int32)), (0, .ref (adr (g.1 + 189) 8 0)), (1, .int a1)]) hx hb dX8_platterInSlot_17 rfl hl (by decide) rfl (fun ls hl => ?_)
    have L18 : ∀ (n : Nat) (v2_18 : Int32) (ls : Array Slot) (H : Heap) (locs : List Loc), lv_has ls 3 [(0, .ref (adr (g.1 + 189) 8 0)), (1, .int a1), (2, .int v2_18)] → World g (wM w md1 mn mw) H → va_S (gA g) s.heap H locs → f_X8_platterInSlot_L18 md1 a1 n v2_18 = some q → W p l e rm_X8_platterInSlot s m [.ref (adr (g.1 + 189) 8 0), .int a1].toArray below meth c H locs 0 0 (MQ below (cQi g q.1 (wM w q.2 mn mw)) [.ref (adr (g.1 + 189) 8 0), .int a1].toArray s 0 0 (gA g)) (F0 m 18 ls []) := by
      clear hW hS hl
      intro n
      induction n with
      | zero => intro v2_18 ls H locs hl hW hS hf; cases hf
      | succ n_18 ih =>
        intro v2_18 ls H locs hl hW hS hf
        rw [f_X8_platterInSlot_L18] at hf
        refine lv_iload_n hx hb dX8_platterInSlot_18 rfl (lv_at hl 2 rfl) ?_
        refine lv_aload_n hx hb dX8_platterInSlot_19 rfl (lv_at hl 0 rfl) ?_
        refine x_get (i := (g.1 + 189)) (k := 8) (j := 0) (t := 1) hx hb hts i_8 hown hK hW ⟨⟨hfl, rfl⟩, by decide⟩ rfl ⟨by decide, by decide, rfl⟩ (hts (.fieldLink RX8 7 "OpticalJukeboxModel" "now" "[I") (by decide +kernel)) (v := .ref (adr (g.1 + 189) 30 0)) rfl dX8_platterInSlot_20 ?_
        refine lv_bipush (v := 7) hx hb dX8_platterInSlot_23 (by decide) ?_
        refine x_iald (i := (g.1 + 189)) (k := 30) (j := 0) (f := md1 30 0) hx hb hK hW ⟨⟨hfl, rfl⟩, by decide⟩ (by decide) (rfl) rfl (by unfold vp_in; decide) dX8_platterInSlot_25 ?_
        refine W.eq (g2 := F0 m 26 ls [.int (md1 30 0 7), .int v2_18]) rfl ?_
        refine lv_icmp_ge (tgt := 59) hx hb dX8_platterInSlot_26 (by decide) (fun hc => ?_) (fun hc => ?_)
        · have hf := x_iteT hf hc
          refine lv_ldc (v := -1000005) hx hb hown (hts (.constant RX8 42 (-1000005)) (by decide +kernel)) dX8_platterInSlot_59 ?_
          cases hf
          exact x_iret hx hb hr hlocks hK hW hS rfl dX8_platterInSlot_61
        · have hf := x_iteF hf hc
          refine lv_aload_n hx hb dX8_platterInSlot_29 rfl (lv_at hl 0 rfl) ?_
          refine x_get (i := (g.1 + 189)) (k := 8) (j := 0) (t := 1) hx hb hts i_8 hown hK hW ⟨⟨hfl, rfl⟩, by decide⟩ rfl ⟨by decide, by decide, rfl⟩ (hts (.fieldLink RX8 7 "OpticalJukeboxModel" "now" "[I") (by decide +kernel)) (v := .ref (adr (g.1 + 189) 30 0)) rfl dX8_platterInSlot_30 ?_
          refine lv_bipush (v := 29) hx hb dX8_platterInSlot_33 (by decide) ?_
          refine lv_iload_n hx hb dX8_platterInSlot_35 rfl (lv_at hl 2 rfl) ?_
          refine lv_iadd hx hb dX8_platterInSlot_36 ?_
          obtain ⟨hg3, hf⟩ := x_guardE hf
          refine x_iald (i := (g.1 + 189)) (k := 30) (j := 0) (f := md1 30 0) hx hb hK hW ⟨⟨hfl, rfl⟩, by decide⟩ (by decide) (rfl) rfl hg3 dX8_platterInSlot_37 ?_
          refine lv_iload_n hx hb dX8_platterInSlot_38 rfl (lv_at hl 1 rfl) ?_
          refine lv_icmp_ne (tgt := 53) hx hb dX8_platterInSlot_39 (by decide) (fun hc => ?_) (fun hc => ?_)
          · have hf := x_iteF hf hc
            obtain ⟨x4, e_x4, hf⟩ := x_letE hf
            refine lv_iinc (v := x4) (lv' := [(2, .int x4), (0, .ref (adr (g.1 + 189) 8 0)), (1, .int a1)]) hx hb dX8_platterInSlot_53 hl (k := 2) rfl (by rw [e_x4]; rfl) (by decide) rfl (fun ls hl => ?_)
            refine lv_goto (tgt := 18) hx hb dX8_platterInSlot_56 (by decide) ?_
            exact ih (x4) ls _ _ (lv_sub hl [1, 2, 0] rfl) hW hS hf
          · have hf := x_iteT hf hc
            refine lv_aload_n hx hb dX8_platterInSlot_42 rfl (lv_at hl 0 rfl) ?_
            refine lv_iload_n hx hb dX8_platterInSlot_43 rfl (lv_at hl 2 rfl) ?_
            obtain ⟨q5, h_q5, hf⟩ := x_bindE hf
            refine x_ci0 (x_rV ⟨hx, hb, hml, hown, hts⟩ (ct_X8_inDrive l g hfl w md1 mn mw (v2_18) h_q5) (cwV 1 hts gX8_platterInSlot_X8_inDrive rfl rfl rfl (by decide +kernel) ⟨Nat.le_of_ble_eq_true rfl, Nat.le_of_ble_eq_true rfl⟩) hK hW hS (x_recv (i := (g.1 + 189)) (k := 8) (j := 0) hK hW ⟨⟨hfl, rfl⟩, by decide⟩ rfl (by decide)) rfl hl.1 (rest := []) rfl (Nat.le_of_ble_eq_true rfl) dX8_platterInSlot_44 ⟨Nat.le_of_ble_eq_true rfl, Nat.le_of_ble_eq_true rfl⟩) hS (fun H locs hW hS => ?_)
            have hW : World g (wM w md1 mn mw) H := hW
            refine W.eq (g2 := F0 m 47 ls [.int q5]) rfl ?_
            refine lv_iconst (v := -1) hx hb dX8_platterInSlot_47 (by decide) ?_
            refine lv_icmp_ne (tgt := 53) hx hb dX8_platterInSlot_48 (by decide) (fun hc => ?_) (fun hc => ?_)
            · have hf := x_iteF hf hc
              obtain ⟨x6, e_x6, hf⟩ := x_letE hf
              refine lv_iinc (v := x6) (lv' := [(2, .int x6), (0, .ref (adr (g.1 + 189) 8 0)), (1, .int a1)]) hx hb dX8_platterInSlot_53 hl (k := 2) rfl (by rw [e_x6]; rfl) (by decide) rfl (fun ls hl => ?_)
              refine lv_goto (tgt := 18) hx hb dX8_platterInSlot_56 (by decide) ?_
              exact ih (x6) ls _ _ (lv_sub hl [1, 2, 0] rfl) hW hS hf
            · have hf := x_iteT hf hc
              refine lv_iload_n hx hb dX8_platterInSlot_51 rfl (lv_at hl 2 rfl) ?_
              cases hf
              exact x_iret hx hb hr hlocks hK hW hS rfl dX8_platterInSlot_52
    exact L18 fuel ((0 : Int32)) ls _ _ (lv_sub hl [1, 2, 0] rfl) hW hS hf
  · have hf := x_iteT hf hc
    refine lv_ldc (v := -1000001) hx hb hown (hts (.constant RX8 186 (-1000001)) (by decide +kernel)) dX8_platterInSlot_13 ?_
    cases hf
    exact x_iret hx hb hr hlocks hK hW hS rfl dX8_platterInSlot_15
abbrev rm_X8_found : Room := { frames := 0, cells := 0, slots := 0, locals := 0 }
set_option maxRecDepth 100000 in
set_option maxHeartbeats 4000000 in
theorem ct_X8_found (l : Launch) (g : GT) (w : WT) (a0 : Int32) {q : Int32} (hf : f_X8_found  a0 = some q) : Met l yX8_found wsX8_found rm_X8_found (cPre g (w) [.int a0]) (cQi g q (w)) 0 0 (gA g) := by
  refine x_met (by decide) rfl (Nat.le_of_ble_eq_true rfl) ?_
  intro p e s m below meth c hx hb hr hml hts hown hlocks hK hW hS ls hl
  have hown : s.vm.findClass RX8 = some m.cls := hown
  have hl : lv_has ls 1 [(0, .int a0)] := hl
  rw [f_X8_found] at hf
  refine lv_iload_n hx hb dX8_found_0 rfl (lv_at hl 0 rfl) ?_
  refine lv_iconst (v := -1) hx hb dX8_found_1 (by decide) ?_
  refine lv_icmp_ne (tgt := 10) hx hb dX8_found_2 (by decide) (fun hc => ?_) (fun hc => ?_)
  · have hf := x_iteF hf hc
    refine lv_iload_n hx hb dX8_found_10 rfl (lv_at hl 0 rfl) ?_
    cases hf
    exact x_iret hx hb hr hlocks hK hW hS rfl dX8_found_11
  · have hf := x_iteT hf hc
    refine lv_ldc (v := -1000005) hx hb hown (hts (.constant RX8 42 (-1000005)) (by decide +kernel)) dX8_found_5 ?_
    refine lv_goto (tgt := 11) hx hb dX8_found_7 (by decide) ?_
    cases hf
    exact x_iret hx hb hr hlocks hK hW hS rfl dX8_found_11
abbrev rm_X8_driveOf : Room := { frames := 2, cells := 0, slots := 0, locals := 46 }
set_option maxRecDepth 100000 in
set_option maxHeartbeats 4000000 in
theorem ct_X8_driveOf (l : Launch) (g : GT) (hfl : 2 ≤ gf g) (w : WT) (md : SD) (mn : Nat → Int64) (mw : Int64) (a1 : Int32) {q : (Int32 × SD)} (hf : f_X8_driveOf md a1 = some q) : Met l yX8_driveOf wsX8_driveOf rm_X8_driveOf (cPre g (wM w md mn mw) [.ref (adr (g.1 + 189) 8 0), .int a1]) (cQi g q.1 (wM w q.2 mn mw)) 0 0 (gA g) := by
  have i_8 : ∀ w ∈ u_ws RX8 TX8 27, w ∈ wsX8_driveOf := by decide +kernel
  refine x_met (by decide) rfl (Nat.le_of_ble_eq_true rfl) ?_
  intro p e s m below meth c hx hb hr hml hts hown hlocks hK hW hS ls hl
  have hown : s.vm.findClass RX8 = some m.cls := hown
  have hl : lv_has ls 2 [(0, .ref (adr (g.1 + 189) 8 0)), (1, .int a1)] := hl
  rw [f_X8_driveOf] at hf
  refine lv_aload_n hx hb dX8_driveOf_0 rfl (lv_at hl 0 rfl) ?_
  refine lv_iconst (v := 0) hx hb dX8_driveOf_1 (by decide) ?_
  obtain ⟨md1, e_md1, hf⟩ := x_letE hf
  refine x_put (i := (g.1 + 189)) (k := 8) (j := 0) (t := 0) (w' := wM w md1 mn mw) hx hb hts i_8 tyX8 tyX8_ok nmX8 hown hK hW ⟨⟨hfl, rfl⟩, by decide⟩ hS rfl ⟨by decide, by decide, rfl⟩ (hts (.fieldLink RX8 51 "OpticalJukeboxModel" "thrown" "I") (by decide +kernel)) rfl (ty := .int) (by decide +kernel) rfl rfl ⟨rfl, rfl⟩ dX8_driveOf_2 (fp_M e_md1 rfl) (fun H locs hW hS => ?_)
  refine lv_aload_n hx hb dX8_driveOf_5 rfl (lv_at hl 0 rfl) ?_
  refine lv_iload_n hx hb dX8_driveOf_6 rfl (lv_at hl 1 rfl) ?_
  obtain ⟨q2, h_q2, hf⟩ := x_bindE hf
  refine x_ci0 (x_rV ⟨hx, hb, hml, hown, hts⟩ (ct_X8_isPlatter l g hfl w md1 mn mw (a1) h_q2) (cwV 1 hts gX8_driveOf_X8_isPlatter rfl rfl rfl (by decide +kernel) ⟨Nat.le_of_ble_eq_true rfl, Nat.le_of_ble_eq_true rfl⟩) hK hW hS (x_recv (i := (g.1 + 189)) (k := 8) (j := 0) hK hW ⟨⟨hfl, rfl⟩, by decide⟩ rfl (by decide)) rfl hl.1 (rest := []) rfl (Nat.le_of_ble_eq_true rfl) dX8_driveOf_7 ⟨Nat.le_of_ble_eq_true rfl, Nat.le_of_ble_eq_true rfl⟩) hS (fun H locs hW hS => ?_)
  have hW : World g (wM w md1 mn mw) H := hW
  refine W.eq (g2 := F0 m 10 ls [.int q2]) rfl ?_
  refine lv_if_eq (tgt := 24) hx hb dX8_driveOf_10 (by decide) (fun hc => ?_) (fun hc => ?_)
  · have hf := x_iteT hf hc
    refine lv_ldc (v := -1000001) hx hb hown (hts (.constant RX8 186 (-1000001)) (by decide +kernel)) dX8_driveOf_24 ?_
    cases hf
    exact x_iret hx hb hr hlocks hK hW hS rfl dX8_driveOf_26
  · have hf := x_iteF hf hc
    refine lv_aload_n hx hb dX8_driveOf_13 rfl (lv_at hl 0 rfl) ?_
    refine lv_iload_n hx hb dX8_driveOf_14 rfl (lv_at hl 1 rfl) ?_
    obtain ⟨q3, h_q3, hf⟩ := x_bindE hf
    refine x_ci0 (x_rV ⟨hx, hb, hml, hown, hts⟩ (ct_X8_inDrive l g hfl w md1 mn mw (a1) h_q3) (cwV 1 hts gX8_driveOf_X8_inDrive rfl rfl rfl (by decide +kernel) ⟨Nat.le_of_ble_eq_true rfl, Nat.le_of_ble_eq_true rfl⟩) hK hW hS (x_recv (i := (g.1 + 189)) (k := 8) (j := 0) hK hW ⟨⟨hfl, rfl⟩, by decide⟩ rfl (by decide)) rfl hl.1 (rest := []) rfl (Nat.le_of_ble_eq_true rfl) dX8_driveOf_15 ⟨Nat.le_of_ble_eq_true rfl, Nat.le_of_ble_eq_true rfl⟩) hS (fun H locs hW hS => ?_)
    have hW : World g (wM w md1 mn mw) H := hW
    refine W.eq (g2 := F0 m 18 ls [.int q3]) rfl ?_
    obtain ⟨q4, h_q4, hf⟩ := x_bindE hf
    refine x_ci0 (x_rS ⟨hx, hb, hml, hown, hts⟩ (ct_X8_found l g (wM w md1 mn mw) (q3) h_q4) (va_cwS 1 hts gX8_driveOf_X8_found rfl rfl rfl (by decide +kernel) ⟨Nat.le_of_ble_eq_true rfl, Nat.le_of_ble_eq_true rfl⟩) hK hW hS rfl hl.1 (rest := []) rfl (Nat.le_of_ble_eq_true rfl) dX8_driveOf_18 ⟨Nat.le_of_ble_eq_true rfl, Nat.le_of_ble_eq_true rfl⟩) hS (fun H locs hW hS => ?_)
    have hW : World g (wM w md1 mn mw) H := hW
    refine W.eq (g2 := F0 m 21 ls [.int q4]) rfl ?_
    refine lv_goto (tgt := 26) hx hb dX8_driveOf_21 (by decide) ?_
    cases hf
    exact x_iret hx hb hr hlocks hK hW hS rfl dX8_driveOf_26
abbrev rm_X8_platterInDrive : Room := { frames := 2, cells := 0, slots := 0, locals := 46 }
set_option maxRecDepth 100000 in
set_option maxHeartbeats 4000000 in
theorem ct_X8_platterInDrive (l : Launch) (g : GT) (hfl : 2 ≤ gf g) (w : WT) (md : SD) (mn : Nat → Int64) (mw : Int64) (a1 : Int32) {q : (Int32 × SD)} (hf : f_X8_platterInDrive md a1 = some q) : Met l yX8_platterInDrive wsX8_platterInDrive rm_X8_platterInDrive (cPre g (wM w md mn mw) [.ref (adr (g.1 + 189) 8 0), .int a1]) (cQi g q.1 (wM w q.2 mn mw)) 0 0 (gA g) := by
  have i_8 : ∀ w ∈ u_ws RX8 TX8 27, w ∈ wsX8_platterInDrive := by decide +kernel
  refine x_met (by decide) rfl (Nat.le_of_ble_eq_true rfl) ?_
  intro p e s m below meth c hx hb hr hml hts hown hlocks hK hW hS ls hl
  have hown : s.vm.findClass RX8 = some m.cls := hown
  have hl : lv_has ls 2 [(0, .ref (adr (g.1 + 189) 8 0)), (1, .int a1)] := hl
  rw [f_X8_platterInDrive] at hf
  refine lv_aload_n hx hb dX8_platterInDrive_0 rfl (lv_at hl 0 rfl) ?_
  refine lv_iconst (v := 0) hx hb dX8_platterInDrive_1 (by decide) ?_
  obtain ⟨md1, e_md1, hf⟩ := x_letE hf
  refine x_put (i := (g.1 + 189)) (k := 8) (j := 0) (t := 0) (w' := wM w md1 mn mw) hx hb hts i_8 tyX8 tyX8_ok nmX8 hown hK hW ⟨⟨hfl, rfl⟩, by decide⟩ hS rfl ⟨by decide, by decide, rfl⟩ (hts (.fieldLink RX8 51 "OpticalJukeboxModel" "thrown" "I") (by decide +kernel)) rfl (ty := .int) (by decide +kernel) rfl rfl ⟨rfl, rfl⟩ dX8_platterInDrive_2 (fp_M e_md1 rfl) (fun H locs hW hS => ?_)
  refine lv_aload_n hx hb dX8_platterInDrive_5 rfl (lv_at hl 0 rfl) ?_
  refine lv_iload_n hx hb dX8_platterInDrive_6 rfl (lv_at hl 1 rfl) ?_
  obtain ⟨q2, h_q2, hf⟩ := x_bindE hf
  refine x_ci0 (x_rV ⟨hx, hb, hml, hown, hts⟩ (ct_X8_isDrive l g hfl w md1 mn mw (a1) h_q2) (cwV 1 hts gX8_platterInDrive_X8_isDrive rfl rfl rfl (by decide +kernel) ⟨Nat.le_of_ble_eq_true rfl, Nat.le_of_ble_eq_true rfl⟩) hK hW hS (x_recv (i := (g.1 + 189)) (k := 8) (j := 0) hK hW ⟨⟨hfl, rfl⟩, by decide⟩ rfl (by decide)) rfl hl.1 (rest := []) rfl (Nat.le_of_ble_eq_true rfl) dX8_platterInDrive_7 ⟨Nat.le_of_ble_eq_true rfl, Nat.le_of_ble_eq_true rfl⟩) hS (fun H locs hW hS => ?_)
  have hW : World g (wM w md1 mn mw) H := hW
  refine W.eq (g2 := F0 m 10 ls [.int q2]) rfl ?_
  refine lv_if_eq (tgt := 28) hx hb dX8_platterInDrive_10 (by decide) (fun hc => ?_) (fun hc => ?_)
  · have hf := x_iteT hf hc
    refine lv_ldc (v := -1000001) hx hb hown (hts (.constant RX8 186 (-1000001)) (by decide +kernel)) dX8_platterInDrive_28 ?_
    cases hf
    exact x_iret hx hb hr hlocks hK hW hS rfl dX8_platterInDrive_30
  · have hf := x_iteF hf hc
    refine lv_aload_n hx hb dX8_platterInDrive_13 rfl (lv_at hl 0 rfl) ?_
    refine x_get (i := (g.1 + 189)) (k := 8) (j := 0) (t := 1) hx hb hts i_8 hown hK hW ⟨⟨hfl, rfl⟩, by decide⟩ rfl ⟨by decide, by decide, rfl⟩ (hts (.fieldLink RX8 7 "OpticalJukeboxModel" "now" "[I") (by decide +kernel)) (v := .ref (adr (g.1 + 189) 30 0)) rfl dX8_platterInDrive_14 ?_
    refine lv_bipush (v := 21) hx hb dX8_platterInDrive_17 (by decide) ?_
    refine lv_iload_n hx hb dX8_platterInDrive_19 rfl (lv_at hl 1 rfl) ?_
    refine lv_iadd hx hb dX8_platterInDrive_20 ?_
    obtain ⟨hg3, hf⟩ := x_guardE hf
    refine x_iald (i := (g.1 + 189)) (k := 30) (j := 0) (f := md1 30 0) hx hb hK hW ⟨⟨hfl, rfl⟩, by decide⟩ (by decide) (rfl) rfl hg3 dX8_platterInDrive_21 ?_
    obtain ⟨q4, h_q4, hf⟩ := x_bindE hf
    refine x_ci0 (x_rS ⟨hx, hb, hml, hown, hts⟩ (ct_X8_found l g (wM w md1 mn mw) ((md1 30 0 (((21 : Int32) + a1)).toNatClampNeg)) h_q4) (va_cwS 1 hts gX8_platterInDrive_X8_found rfl rfl rfl (by decide +kernel) ⟨Nat.le_of_ble_eq_true rfl, Nat.le_of_ble_eq_true rfl⟩) hK hW hS rfl hl.1 (rest := []) rfl (Nat.le_of_ble_eq_true rfl) dX8_platterInDrive_22 ⟨Nat.le_of_ble_eq_true rfl, Nat.le_of_ble_eq_true rfl⟩) hS (fun H locs hW hS => ?_)
    have hW : World g (wM w md1 mn mw) H := hW
    refine W.eq (g2 := F0 m 25 ls [.int q4]) rfl ?_
    refine lv_goto (tgt := 30) hx hb dX8_platterInDrive_25 (by decide) ?_
    cases hf
    exact x_iret hx hb hr hlocks hK hW hS rfl dX8_platterInDrive_30
abbrev rm_X8_pickerPosition : Room := { frames := 0, cells := 0, slots := 0, locals := 0 }
set_option maxRecDepth 100000 in
set_option maxHeartbeats 4000000 in
theorem ct_X8_pickerPosition (l : Launch) (g : GT) (hfl : 2 ≤ gf g) (w : WT) (md : SD) (mn : Nat → Int64) (mw : Int64) {q : (Int32 × SD)} (hf : f_X8_pickerPosition md  = some q) : Met l yX8_pickerPosition wsX8_pickerPosition rm_X8_pickerPosition (cPre g (wM w md mn mw) [.ref (adr (g.1 + 189) 8 0)]) (cQi g q.1 (wM w q.2 mn mw)) 0 0 (gA g) := by
  have i_8 : ∀ w ∈ u_ws RX8 TX8 27, w ∈ wsX8_pickerPosition := by decide +kernel
  refine x_met (by decide) rfl (Nat.le_of_ble_eq_true rfl) ?_
  intro p e s m below meth c hx hb hr hml hts hown hlocks hK hW hS ls hl
  have hown : s.vm.findClass RX8 = some m.cls := hown
  have hl : lv_has ls 1 [(0, .ref (adr (g.1 + 189) 8 0))] := hl
  rw [f_X8_pickerPosition] at hf
  refine lv_aload_n hx hb dX8_pickerPosition_0 rfl (lv_at hl 0 rfl) ?_
  refine lv_iconst (v := 0) hx hb dX8_pickerPosition_1 (by decide) ?_
  obtain ⟨md1, e_md1, hf⟩ := x_letE hf
  refine x_put (i := (g.1 + 189)) (k := 8) (j := 0) (t := 0) (w' := wM w md1 mn mw) hx hb hts i_8 tyX8 tyX8_ok nmX8 hown hK hW ⟨⟨hfl, rfl⟩, by decide⟩ hS rfl ⟨by decide, by decide, rfl⟩ (hts (.fieldLink RX8 51 "OpticalJukeboxModel" "thrown" "I") (by decide +kernel)) rfl (ty := .int) (by decide +kernel) rfl rfl ⟨rfl, rfl⟩ dX8_pickerPosition_2 (fp_M e_md1 rfl) (fun H locs hW hS => ?_)
  refine lv_aload_n hx hb dX8_pickerPosition_5 rfl (lv_at hl 0 rfl) ?_
  refine x_get (i := (g.1 + 189)) (k := 8) (j := 0) (t := 1) hx hb hts i_8 hown hK hW ⟨⟨hfl, rfl⟩, by decide⟩ rfl ⟨by decide, by decide, rfl⟩ (hts (.fieldLink RX8 7 "OpticalJukeboxModel" "now" "[I") (by decide +kernel)) (v := .ref (adr (g.1 + 189) 30 0)) rfl dX8_pickerPosition_6 ?_
  refine lv_bipush (v := 11) hx hb dX8_pickerPosition_9 (by decide) ?_
  refine x_iald (i := (g.1 + 189)) (k := 30) (j := 0) (f := md1 30 0) hx hb hK hW ⟨⟨hfl, rfl⟩, by decide⟩ (by decide) (rfl) rfl (by unfold vp_in; decide) dX8_pickerPosition_11 ?_
  refine W.eq (g2 := F0 m 12 ls [.int (md1 30 0 11)]) rfl ?_
  cases hf
  exact x_iret hx hb hr hlocks hK hW hS rfl dX8_pickerPosition_12
abbrev rm_X8_clock : Room := { frames := 0, cells := 0, slots := 0, locals := 0 }
set_option maxRecDepth 100000 in
set_option maxHeartbeats 4000000 in
theorem ct_X8_clock (l : Launch) (g : GT) (hfl : 2 ≤ gf g) (w : WT) (md : SD) (mn : Nat → Int64) (mw : Int64) {q : (Int32 × SD)} (hf : f_X8_clock md  = some q) : Met l yX8_clock wsX8_clock rm_X8_clock (cPre g (wM w md mn mw) [.ref (adr (g.1 + 189) 8 0)]) (cQi g q.1 (wM w q.2 mn mw)) 0 0 (gA g) := by
  have i_8 : ∀ w ∈ u_ws RX8 TX8 27, w ∈ wsX8_clock := by decide +kernel
  refine x_met (by decide) rfl (Nat.le_of_ble_eq_true rfl) ?_
  intro p e s m below meth c hx hb hr hml hts hown hlocks hK hW hS ls hl
  have hown : s.vm.findClass RX8 = some m.cls := hown
  have hl : lv_has ls 1 [(0, .ref (adr (g.1 + 189) 8 0))] := hl
  rw [f_X8_clock] at hf
  refine lv_aload_n hx hb dX8_clock_0 rfl (lv_at hl 0 rfl) ?_
  refine lv_iconst (v := 0) hx hb dX8_clock_1 (by decide) ?_
  obtain ⟨md1, e_md1, hf⟩ := x_letE hf
  refine x_put (i := (g.1 + 189)) (k := 8) (j := 0) (t := 0) (w' := wM w md1 mn mw) hx hb hts i_8 tyX8 tyX8_ok nmX8 hown hK hW ⟨⟨hfl, rfl⟩, by decide⟩ hS rfl ⟨by decide, by decide, rfl⟩ (hts (.fieldLink RX8 51 "OpticalJukeboxModel" "thrown" "I") (by decide +kernel)) rfl (ty := .int) (by decide +kernel) rfl rfl ⟨rfl, rfl⟩ dX8_clock_2 (fp_M e_md1 rfl) (fun H locs hW hS => ?_)
  refine lv_aload_n hx hb dX8_clock_5 rfl (lv_at hl 0 rfl) ?_
  refine x_get (i := (g.1 + 189)) (k := 8) (j := 0) (t := 1) hx hb hts i_8 hown hK hW ⟨⟨hfl, rfl⟩, by decide⟩ rfl ⟨by decide, by decide, rfl⟩ (hts (.fieldLink RX8 7 "OpticalJukeboxModel" "now" "[I") (by decide +kernel)) (v := .ref (adr (g.1 + 189) 30 0)) rfl dX8_clock_6 ?_
  refine lv_bipush (v := 12) hx hb dX8_clock_9 (by decide) ?_
  refine x_iald (i := (g.1 + 189)) (k := 30) (j := 0) (f := md1 30 0) hx hb hK hW ⟨⟨hfl, rfl⟩, by decide⟩ (by decide) (rfl) rfl (by unfold vp_in; decide) dX8_clock_11 ?_
  refine W.eq (g2 := F0 m 12 ls [.int (md1 30 0 12)]) rfl ?_
  cases hf
  exact x_iret hx hb hr hlocks hK hW hS rfl dX8_clock_12
abbrev rm_X8_exchanges : Room := { frames := 0, cells := 0, slots := 0, locals := 0 }
set_option maxRecDepth 100000 in
set_option maxHeartbeats 4000000 in
theorem ct_X8_exchanges (l : Launch) (g : GT) (hfl : 2 ≤ gf g) (w : WT) (md : SD) (mn : Nat → Int64) (mw : Int64) {q : (Int32 × SD)} (hf : f_X8_exchanges md  = some q) : Met l yX8_exchanges wsX8_exchanges rm_X8_exchanges (cPre g (wM w md mn mw) [.ref (adr (g.1 + 189) 8 0)]) (cQi g q.1 (wM w q.2 mn mw)) 0 0 (gA g) := by
  have i_8 : ∀ w ∈ u_ws RX8 TX8 27, w ∈ wsX8_exchanges := by decide +kernel
  refine x_met (by decide) rfl (Nat.le_of_ble_eq_true rfl) ?_
  intro p e s m below meth c hx hb hr hml hts hown hlocks hK hW hS ls hl
  have hown : s.vm.findClass RX8 = some m.cls := hown
  have hl : lv_has ls 1 [(0, .ref (adr (g.1 + 189) 8 0))] := hl
  rw [f_X8_exchanges] at hf
  refine lv_aload_n hx hb dX8_exchanges_0 rfl (lv_at hl 0 rfl) ?_
  refine lv_iconst (v := 0) hx hb dX8_exchanges_1 (by decide) ?_
  obtain ⟨md1, e_md1, hf⟩ := x_letE hf
  refine x_put (i := (g.1 + 189)) (k := 8) (j := 0) (t := 0) (w' := wM w md1 mn mw) hx hb hts i_8 tyX8 tyX8_ok nmX8 hown hK hW ⟨⟨hfl, rfl⟩, by decide⟩ hS rfl ⟨by decide, by decide, rfl⟩ (hts (.fieldLink RX8 51 "OpticalJukeboxModel" "thrown" "I") (by decide +kernel)) rfl (ty := .int) (by decide +kernel) rfl rfl ⟨rfl, rfl⟩ dX8_exchanges_2 (fp_M e_md1 rfl) (fun H locs hW hS => ?_)
  refine lv_aload_n hx hb dX8_exchanges_5 rfl (lv_at hl 0 rfl) ?_
  refine x_get (i := (g.1 + 189)) (k := 8) (j := 0) (t := 1) hx hb hts i_8 hown hK hW ⟨⟨hfl, rfl⟩, by decide⟩ rfl ⟨by decide, by decide, rfl⟩ (hts (.fieldLink RX8 7 "OpticalJukeboxModel" "now" "[I") (by decide +kernel)) (v := .ref (adr (g.1 + 189) 30 0)) rfl dX8_exchanges_6 ?_
  refine lv_bipush (v := 13) hx hb dX8_exchanges_9 (by decide) ?_
  refine x_iald (i := (g.1 + 189)) (k := 30) (j := 0) (f := md1 30 0) hx hb hK hW ⟨⟨hfl, rfl⟩, by decide⟩ (by decide) (rfl) rfl (by unfold vp_in; decide) dX8_exchanges_11 ?_
  refine W.eq (g2 := F0 m 12 ls [.int (md1 30 0 13)]) rfl ?_
  cases hf
  exact x_iret hx hb hr hlocks hK hW hS rfl dX8_exchanges_12
abbrev rm_X8_travel : Room := { frames := 0, cells := 0, slots := 0, locals := 0 }
set_option maxRecDepth 100000 in
set_option maxHeartbeats 4000000 in
theorem ct_X8_travel (l : Launch) (g : GT) (hfl : 2 ≤ gf g) (w : WT) (md : SD) (mn : Nat → Int64) (mw : Int64) {q : (Int32 × SD)} (hf : f_X8_travel md  = some q) : Met l yX8_travel wsX8_travel rm_X8_travel (cPre g (wM w md mn mw) [.ref (adr (g.1 + 189) 8 0)]) (cQi g q.1 (wM w q.2 mn mw)) 0 0 (gA g) := by
  have i_8 : ∀ w ∈ u_ws RX8 TX8 27, w ∈ wsX8_travel := by decide +kernel
  refine x_met (by decide) rfl (Nat.le_of_ble_eq_true rfl) ?_
  intro p e s m below meth c hx hb hr hml hts hown hlocks hK hW hS ls hl
  have hown : s.vm.findClass RX8 = some m.cls := hown
  have hl : lv_has ls 1 [(0, .ref (adr (g.1 + 189) 8 0))] := hl
  rw [f_X8_travel] at hf
  refine lv_aload_n hx hb dX8_travel_0 rfl (lv_at hl 0 rfl) ?_
  refine lv_iconst (v := 0) hx hb dX8_travel_1 (by decide) ?_
  obtain ⟨md1, e_md1, hf⟩ := x_letE hf
  refine x_put (i := (g.1 + 189)) (k := 8) (j := 0) (t := 0) (w' := wM w md1 mn mw) hx hb hts i_8 tyX8 tyX8_ok nmX8 hown hK hW ⟨⟨hfl, rfl⟩, by decide⟩ hS rfl ⟨by decide, by decide, rfl⟩ (hts (.fieldLink RX8 51 "OpticalJukeboxModel" "thrown" "I") (by decide +kernel)) rfl (ty := .int) (by decide +kernel) rfl rfl ⟨rfl, rfl⟩ dX8_travel_2 (fp_M e_md1 rfl) (fun H locs hW hS => ?_)
  refine lv_aload_n hx hb dX8_travel_5 rfl (lv_at hl 0 rfl) ?_
  refine x_get (i := (g.1 + 189)) (k := 8) (j := 0) (t := 1) hx hb hts i_8 hown hK hW ⟨⟨hfl, rfl⟩, by decide⟩ rfl ⟨by decide, by decide, rfl⟩ (hts (.fieldLink RX8 7 "OpticalJukeboxModel" "now" "[I") (by decide +kernel)) (v := .ref (adr (g.1 + 189) 30 0)) rfl dX8_travel_6 ?_
  refine lv_bipush (v := 14) hx hb dX8_travel_9 (by decide) ?_
  refine x_iald (i := (g.1 + 189)) (k := 30) (j := 0) (f := md1 30 0) hx hb hK hW ⟨⟨hfl, rfl⟩, by decide⟩ (by decide) (rfl) rfl (by unfold vp_in; decide) dX8_travel_11 ?_
  refine W.eq (g2 := F0 m 12 ls [.int (md1 30 0 14)]) rfl ?_
  cases hf
  exact x_iret hx hb hr hlocks hK hW hS rfl dX8_travel_12
abbrev rm_X8_chosenDrive : Room := { frames := 2, cells := 0, slots := 0, locals := 46 }
set_option maxRecDepth 100000 in
set_option maxHeartbeats 4000000 in
theorem ct_X8_chosenDrive (l : Launch) (g : GT) (hfl : 2 ≤ gf g) (w : WT) (md : SD) (mn : Nat → Int64) (mw : Int64) (a1 : Int32) {q : (Int32 × SD)} (hf : f_X8_chosenDrive md a1 = some q) : Met l yX8_chosenDrive wsX8_chosenDrive rm_X8_chosenDrive (cPre g (wM w md mn mw) [.ref (adr (g.1 + 189) 8 0), .int a1]) (cQi g q.1 (wM w q.2 mn mw)) 0 0 (gA g) := by
  have i_8 : ∀ w ∈ u_ws RX8 TX8 27, w ∈ wsX8_chosenDrive := by decide +kernel
  refine x_met (by decide) rfl (Nat.le_of_ble_eq_true rfl) ?_
  intro p e s m below meth c hx hb hr hml hts hown hlocks hK hW hS ls hl
  have hown : s.vm.findClass RX8 = some m.cls := hown
  have hl : lv_has ls 2 [(0, .ref (adr (g.1 + 189) 8 0)), (1, .int a1)] := hl
  rw [f_X8_chosenDrive] at hf
  refine lv_aload_n hx hb dX8_chosenDrive_0 rfl (lv_at hl 0 rfl) ?_
  refine lv_iconst (v := 0) hx hb dX8_chosenDrive_1 (by decide) ?_
  obtain ⟨md1, e_md1, hf⟩ := x_letE hf
  refine x_put (i := (g.1 + 189)) (k := 8) (j := 0) (t := 0) (w' := wM w md1 mn mw) hx hb hts i_8 tyX8 tyX8_ok nmX8 hown hK hW ⟨⟨hfl, rfl⟩, by decide⟩ hS rfl ⟨by decide, by decide, rfl⟩ (hts (.fieldLink RX8 51 "OpticalJukeboxModel" "thrown" "I") (by decide +kernel)) rfl (ty := .int) (by decide +kernel) rfl rfl ⟨rfl, rfl⟩ dX8_chosenDrive_2 (fp_M e_md1 rfl) (fun H locs hW hS => ?_)
  refine lv_aload_n hx hb dX8_chosenDrive_5 rfl (lv_at hl 0 rfl) ?_
  refine lv_iload_n hx hb dX8_chosenDrive_6 rfl (lv_at hl 1 rfl) ?_
  obtain ⟨q2, h_q2, hf⟩ := x_bindE hf
  refine x_ci0 (x_rV ⟨hx, hb, hml, hown, hts⟩ (ct_X8_isPlatter l g hfl w md1 mn mw (a1) h_q2) (cwV 1 hts gX8_chosenDrive_X8_isPlatter rfl rfl rfl (by decide +kernel) ⟨Nat.le_of_ble_eq_true rfl, Nat.le_of_ble_eq_true rfl⟩) hK hW hS (x_recv (i := (g.1 + 189)) (k := 8) (j := 0) hK hW ⟨⟨hfl, rfl⟩, by decide⟩ rfl (by decide)) rfl hl.1 (rest := []) rfl (Nat.le_of_ble_eq_true rfl) dX8_chosenDrive_7 ⟨Nat.le_of_ble_eq_true rfl, Nat.le_of_ble_eq_true rfl⟩) hS (fun H locs hW hS => ?_)
  have hW : World g (wM w md1 mn mw) H := hW
  refine W.eq (g2 := F0 m 10 ls [.int q2]) rfl ?_
  refine lv_if_ne (tgt := 18) hx hb dX8_chosenDrive_10 (by decide) (fun hc => ?_) (fun hc => ?_)
  · have hf := x_iteF hf hc
    refine lv_aload_n hx hb dX8_chosenDrive_18 rfl (lv_at hl 0 rfl) ?_
    refine x_get (i := (g.1 + 189)) (k := 8) (j := 0) (t := 1) hx hb hts i_8 hown hK hW ⟨⟨hfl, rfl⟩, by decide⟩ rfl ⟨by decide, by decide, rfl⟩ (hts (.fieldLink RX8 7 "OpticalJukeboxModel" "now" "[I") (by decide +kernel)) (v := .ref (adr (g.1 + 189) 30 0)) rfl dX8_chosenDrive_19 ?_
    refine lv_bipush (v := 6) hx hb dX8_chosenDrive_22 (by decide) ?_
    refine x_iald (i := (g.1 + 189)) (k := 30) (j := 0) (f := md1 30 0) hx hb hK hW ⟨⟨hfl, rfl⟩, by decide⟩ (by decide) (rfl) rfl (by unfold vp_in; decide) dX8_chosenDrive_24 ?_
    refine W.eq (g2 := F0 m 25 ls [.int (md1 30 0 6)]) rfl ?_
    refine lv_if_ne (tgt := 33) hx hb dX8_chosenDrive_25 (by decide) (fun hc => ?_) (fun hc => ?_)
    · have hf := x_iteF hf hc
      refine lv_aload_n hx hb dX8_chosenDrive_33 rfl (lv_at hl 0 rfl) ?_
      refine lv_iload_n hx hb dX8_chosenDrive_34 rfl (lv_at hl 1 rfl) ?_
      obtain ⟨q3, h_q3, hf⟩ := x_bindE hf
      refine x_ci0 (x_rV ⟨hx, hb, hml, hown, hts⟩ (ct_X8_chosen l g hfl w md1 mn mw (a1) h_q3) (cwV 1 hts gX8_chosenDrive_X8_chosen rfl rfl rfl (by decide +kernel) ⟨Nat.le_of_ble_eq_true rfl, Nat.le_of_ble_eq_true rfl⟩) hK hW hS (x_recv (i := (g.1 + 189)) (k := 8) (j := 0) hK hW ⟨⟨hfl, rfl⟩, by decide⟩ rfl (by decide)) rfl hl.1 (rest := []) rfl (Nat.le_of_ble_eq_true rfl) dX8_chosenDrive_35 ⟨Nat.le_of_ble_eq_true rfl, Nat.le_of_ble_eq_true rfl⟩) hS (fun H locs hW hS => ?_)
      have hW : World g (wM w md1 mn mw) H := hW
      refine W.eq (g2 := F0 m 38 ls [.int q3]) rfl ?_
      cases hf
      exact x_iret hx hb hr hlocks hK hW hS rfl dX8_chosenDrive_38
    · have hf := x_iteT hf hc
      refine lv_ldc (v := -1000007) hx hb hown (hts (.constant RX8 177 (-1000007)) (by decide +kernel)) dX8_chosenDrive_28 ?_
      refine lv_goto (tgt := 38) hx hb dX8_chosenDrive_30 (by decide) ?_
      cases hf
      exact x_iret hx hb hr hlocks hK hW hS rfl dX8_chosenDrive_38
  · have hf := x_iteT hf hc
    refine lv_ldc (v := -1000001) hx hb hown (hts (.constant RX8 186 (-1000001)) (by decide +kernel)) dX8_chosenDrive_13 ?_
    refine lv_goto (tgt := 38) hx hb dX8_chosenDrive_15 (by decide) ?_
    cases hf
    exact x_iret hx hb hr hlocks hK hW hS rfl dX8_chosenDrive_38
abbrev rm_X8_mountTime : Room := { frames := 6, cells := 0, slots := 0, locals := 129 }
set_option maxRecDepth 100000 in
set_option maxHeartbeats 4000000 in
theorem ct_X8_mountTime (l : Launch) (g : GT) (hfl : 2 ≤ gf g) (w : WT) (md : SD) (mn : Nat → Int64) (mw : Int64) (a1 : Int32) {q : (Int32 × SD)} (hf : f_X8_mountTime md a1 = some q) : Met l yX8_mountTime wsX8_mountTime rm_X8_mountTime (cPre g (wM w md mn mw) [.ref (adr (g.1 + 189) 8 0), .int a1]) (cQi g q.1 (wM w q.2 mn mw)) 0 0 (gA g) := by
  have i_8 : ∀ w ∈ u_ws RX8 TX8 27, w ∈ wsX8_mountTime := by decide +kernel
  refine x_met (by decide) rfl (Nat.le_of_ble_eq_true rfl) ?_
  intro p e s m below meth c hx hb hr hml hts hown hlocks hK hW hS ls hl
  have hown : s.vm.findClass RX8 = some m.cls := hown
  have hl : lv_has ls 2 [(0, .ref (adr (g.1 + 189) 8 0)), (1, .int a1)] := hl
  rw [f_X8_mountTime] at hf
  refine lv_aload_n hx hb dX8_mountTime_0 rfl (lv_at hl 0 rfl) ?_
  refine lv_iconst (v := 0) hx hb dX8_mountTime_1 (by decide) ?_
  obtain ⟨md1, e_md1, hf⟩ := x_letE hf
  refine x_put (i := (g.1 + 189)) (k := 8) (j := 0) (t := 0) (w' := wM w md1 mn mw) hx hb hts i_8 tyX8 tyX8_ok nmX8 hown hK hW ⟨⟨hfl, rfl⟩, by decide⟩ hS rfl ⟨by decide, by decide, rfl⟩ (hts (.fieldLink RX8 51 "OpticalJukeboxModel" "thrown" "I") (by decide +kernel)) rfl (ty := .int) (by decide +kernel) rfl rfl ⟨rfl, rfl⟩ dX8_mountTime_2 (fp_M e_md1 rfl) (fun H locs hW hS => ?_)
  refine lv_aload_n hx hb dX8_mountTime_5 rfl (lv_at hl 0 rfl) ?_
  refine lv_iload_n hx hb dX8_mountTime_6 rfl (lv_at hl 1 rfl) ?_
  obtain ⟨q2, h_q2, hf⟩ := x_bindE hf
  refine x_ci0 (x_rV ⟨hx, hb, hml, hown, hts⟩ (ct_X8_isPlatter l g hfl w md1 mn mw (a1) h_q2) (cwV 1 hts gX8_mountTime_X8_isPlatter rfl rfl rfl (by decide +kernel) ⟨Nat.le_of_ble_eq_true rfl, Nat.le_of_ble_eq_true rfl⟩) hK hW hS (x_recv (i := (g.1 + 189)) (k := 8) (j := 0) hK hW ⟨⟨hfl, rfl⟩, by decide⟩ rfl (by decide)) rfl hl.1 (rest := []) rfl (Nat.le_of_ble_eq_true rfl) dX8_mountTime_7 ⟨Nat.le_of_ble_eq_true rfl, Nat.le_of_ble_eq_true rfl⟩) hS (fun H locs hW hS => ?_)
  have hW : World g (wM w md1 mn mw) H := hW
  refine W.eq (g2 := F0 m 10 ls [.int q2]) rfl ?_
  refine lv_if_ne (tgt := 18) hx hb dX8_mountTime_10 (by decide) (fun hc => ?_) (fun hc => ?_)
  · have hf := x_iteF hf hc
    refine lv_aload_n hx hb dX8_mountTime_18 rfl (lv_at hl 0 rfl) ?_
    refine x_get (i := (g.1 + 189)) (k := 8) (j := 0) (t := 1) hx hb hts i_8 hown hK hW ⟨⟨hfl, rfl⟩, by decide⟩ rfl ⟨by decide, by decide, rfl⟩ (hts (.fieldLink RX8 7 "OpticalJukeboxModel" "now" "[I") (by decide +kernel)) (v := .ref (adr (g.1 + 189) 30 0)) rfl dX8_mountTime_19 ?_
    refine lv_bipush (v := 6) hx hb dX8_mountTime_22 (by decide) ?_
    refine x_iald (i := (g.1 + 189)) (k := 30) (j := 0) (f := md1 30 0) hx hb hK hW ⟨⟨hfl, rfl⟩, by decide⟩ (by decide) (rfl) rfl (by unfold vp_in; decide) dX8_mountTime_24 ?_
    refine W.eq (g2 := F0 m 25 ls [.int (md1 30 0 6)]) rfl ?_
    refine lv_if_ne (tgt := 33) hx hb dX8_mountTime_25 (by decide) (fun hc => ?_) (fun hc => ?_)
    · have hf := x_iteF hf hc
      refine lv_aload_n hx hb dX8_mountTime_33 rfl (lv_at hl 0 rfl) ?_
      refine lv_iload_n hx hb dX8_mountTime_34 rfl (lv_at hl 1 rfl) ?_
      obtain ⟨q3, h_q3, hf⟩ := x_bindE hf
      refine x_ci0 (x_rV ⟨hx, hb, hml, hown, hts⟩ (ct_X8_timeFor l g hfl w md1 mn mw (a1) h_q3) (cwV 1 hts gX8_mountTime_X8_timeFor rfl rfl rfl (by decide +kernel) ⟨Nat.le_of_ble_eq_true rfl, Nat.le_of_ble_eq_true rfl⟩) hK hW hS (x_recv (i := (g.1 + 189)) (k := 8) (j := 0) hK hW ⟨⟨hfl, rfl⟩, by decide⟩ rfl (by decide)) rfl hl.1 (rest := []) rfl (Nat.le_of_ble_eq_true rfl) dX8_mountTime_35 ⟨Nat.le_of_ble_eq_true rfl, Nat.le_of_ble_eq_true rfl⟩) hS (fun H locs hW hS => ?_)
      have hW : World g (wM w q3.2 mn mw) H := hW
      refine W.eq (g2 := F0 m 38 ls [.int q3.1]) rfl ?_
      cases hf
      exact x_iret hx hb hr hlocks hK hW hS rfl dX8_mountTime_38
    · have hf := x_iteT hf hc
      refine lv_ldc (v := -1000007) hx hb hown (hts (.constant RX8 177 (-1000007)) (by decide +kernel)) dX8_mountTime_28 ?_
      refine lv_goto (tgt := 38) hx hb dX8_mountTime_30 (by decide) ?_
      cases hf
      exact x_iret hx hb hr hlocks hK hW hS rfl dX8_mountTime_38
  · have hf := x_iteT hf hc
    refine lv_ldc (v := -1000001) hx hb hown (hts (.constant RX8 186 (-1000001)) (by decide +kernel)) dX8_mountTime_13 ?_
    refine lv_goto (tgt := 38) hx hb dX8_mountTime_15 (by decide) ?_
    cases hf
    exact x_iret hx hb hr hlocks hK hW hS rfl dX8_mountTime_38
abbrev rm_X8_mountTimeIn : Room := { frames := 5, cells := 0, slots := 0, locals := 108 }
set_option maxRecDepth 100000 in
set_option maxHeartbeats 4000000 in
theorem ct_X8_mountTimeIn (l : Launch) (g : GT) (hfl : 2 ≤ gf g) (w : WT) (md : SD) (mn : Nat → Int64) (mw : Int64) (a1 : Int32) (a2 : Int32) {q : (Int32 × SD)} (hf : f_X8_mountTimeIn md a1 a2 = some q) : Met l yX8_mountTimeIn wsX8_mountTimeIn rm_X8_mountTimeIn (cPre g (wM w md mn mw) [.ref (adr (g.1 + 189) 8 0), .int a1, .int a2]) (cQi g q.1 (wM w q.2 mn mw)) 0 0 (gA g) := by
  have i_8 : ∀ w ∈ u_ws RX8 TX8 27, w ∈ wsX8_mountTimeIn := by decide +kernel
  refine x_met (by decide) rfl (Nat.le_of_ble_eq_true rfl) ?_
  intro p e s m below meth c hx hb hr hml hts hown hlocks hK hW hS ls hl
  have hown : s.vm.findClass RX8 = some m.cls := hown
  have hl : lv_has ls 4 [(0, .ref (adr (g.1 + 189) 8 0)), (1, .int a1), (2, .int a2)] := hl
  rw [f_X8_mountTimeIn] at hf
  refine lv_aload_n hx hb dX8_mountTimeIn_0 rfl (lv_at hl 0 rfl) ?_
  refine lv_iconst (v := 0) hx hb dX8_mountTimeIn_1 (by decide) ?_
  obtain ⟨md1, e_md1, hf⟩ := x_letE hf
  refine x_put (i := (g.1 + 189)) (k := 8) (j := 0) (t := 0) (w' := wM w md1 mn mw) hx hb hts i_8 tyX8 tyX8_ok nmX8 hown hK hW ⟨⟨hfl, rfl⟩, by decide⟩ hS rfl ⟨by decide, by decide, rfl⟩ (hts (.fieldLink RX8 51 "OpticalJukeboxModel" "thrown" "I") (by decide +kernel)) rfl (ty := .int) (by decide +kernel) rfl rfl ⟨rfl, rfl⟩ dX8_mountTimeIn_2 (fp_M e_md1 rfl) (fun H locs hW hS => ?_)
  refine lv_aload_n hx hb dX8_mountTimeIn_5 rfl (lv_at hl 0 rfl) ?_
  refine lv_iload_n hx hb dX8_mountTimeIn_6 rfl (lv_at hl 1 rfl) ?_
  obtain ⟨q2, h_q2, hf⟩ := x_bindE hf
  refine x_ci0 (x_rV ⟨hx, hb, hml, hown, hts⟩ (ct_X8_isPlatter l g hfl w md1 mn mw (a1) h_q2) (cwV 1 hts gX8_mountTimeIn_X8_isPlatter rfl rfl rfl (by decide +kernel) ⟨Nat.le_of_ble_eq_true rfl, Nat.le_of_ble_eq_true rfl⟩) hK hW hS (x_recv (i := (g.1 + 189)) (k := 8) (j := 0) hK hW ⟨⟨hfl, rfl⟩, by decide⟩ rfl (by decide)) rfl hl.1 (rest := []) rfl (Nat.le_of_ble_eq_true rfl) dX8_mountTimeIn_7 ⟨Nat.le_of_ble_eq_true rfl, Nat.le_of_ble_eq_true rfl⟩) hS (fun H locs hW hS => ?_)
  have hW : World g (wM w md1 mn mw) H := hW
  refine W.eq (g2 := F0 m 10 ls [.int q2]) rfl ?_
  refine lv_if_eq (tgt := 21) hx hb dX8_mountTimeIn_10 (by decide) (fun hc => ?_) (fun hc => ?_)
  · have hf := x_iteT hf hc
    refine lv_ldc (v := -1000001) hx hb hown (hts (.constant RX8 186 (-1000001)) (by decide +kernel)) dX8_mountTimeIn_21 ?_
    cases hf
    exact x_iret hx hb hr hlocks hK hW hS rfl dX8_mountTimeIn_23
  · have hf := x_iteF hf hc
    refine lv_aload_n hx hb dX8_mountTimeIn_13 rfl (lv_at hl 0 rfl) ?_
    refine lv_iload_n hx hb dX8_mountTimeIn_14 rfl (lv_at hl 2 rfl) ?_
    obtain ⟨q3, h_q3, hf⟩ := x_bindE hf
    refine x_ci0 (x_rV ⟨hx, hb, hml, hown, hts⟩ (ct_X8_isDrive l g hfl w md1 mn mw (a2) h_q3) (cwV 1 hts gX8_mountTimeIn_X8_isDrive rfl rfl rfl (by decide +kernel) ⟨Nat.le_of_ble_eq_true rfl, Nat.le_of_ble_eq_true rfl⟩) hK hW hS (x_recv (i := (g.1 + 189)) (k := 8) (j := 0) hK hW ⟨⟨hfl, rfl⟩, by decide⟩ rfl (by decide)) rfl hl.1 (rest := []) rfl (Nat.le_of_ble_eq_true rfl) dX8_mountTimeIn_15 ⟨Nat.le_of_ble_eq_true rfl, Nat.le_of_ble_eq_true rfl⟩) hS (fun H locs hW hS => ?_)
    have hW : World g (wM w md1 mn mw) H := hW
    refine W.eq (g2 := F0 m 18 ls [.int q3]) rfl ?_
    refine lv_if_ne (tgt := 24) hx hb dX8_mountTimeIn_18 (by decide) (fun hc => ?_) (fun hc => ?_)
    · have hf := x_iteF hf hc
      refine lv_aload_n hx hb dX8_mountTimeIn_24 rfl (lv_at hl 0 rfl) ?_
      refine lv_iload_n hx hb dX8_mountTimeIn_25 rfl (lv_at hl 1 rfl) ?_
      obtain ⟨q4, h_q4, hf⟩ := x_bindE hf
      refine x_ci0 (x_rV ⟨hx, hb, hml, hown, hts⟩ (ct_X8_inDrive l g hfl w md1 mn mw (a1) h_q4) (cwV 1 hts gX8_mountTimeIn_X8_inDrive rfl rfl rfl (by decide +kernel) ⟨Nat.le_of_ble_eq_true rfl, Nat.le_of_ble_eq_true rfl⟩) hK hW hS (x_recv (i := (g.1 + 189)) (k := 8) (j := 0) hK hW ⟨⟨hfl, rfl⟩, by decide⟩ rfl (by decide)) rfl hl.1 (rest := []) rfl (Nat.le_of_ble_eq_true rfl) dX8_mountTimeIn_26 ⟨Nat.le_of_ble_eq_true rfl, Nat.le_of_ble_eq_true rfl⟩) hS (fun H locs hW hS => ?_)
      have hW : World g (wM w md1 mn mw) H := hW
      refine W.eq (g2 := F0 m 29 ls [.int q4]) rfl ?_
      refine lv_istore_n (lv' := [(3, .int q4), (0, .ref (adr (g.1 + 189) 8 0)), (1, .int a1), (2, .int a2)]) hx hb dX8_mountTimeIn_29 rfl hl (by decide) rfl (fun ls hl => ?_)
      refine lv_iload_n hx hb dX8_mountTimeIn_30 rfl (lv_at hl 0 rfl) ?_
      refine lv_iload_n hx hb dX8_mountTimeIn_31 rfl (lv_at hl 3 rfl) ?_
      refine lv_icmp_ne (tgt := 39) hx hb dX8_mountTimeIn_32 (by decide) (fun hc => ?_) (fun hc => ?_)
      · have hf := x_iteF hf hc
        refine lv_iload_n hx hb dX8_mountTimeIn_39 rfl (lv_at hl 0 rfl) ?_
        refine lv_iconst (v := -1) hx hb dX8_mountTimeIn_40 (by decide) ?_
        refine lv_icmp_eq (tgt := 49) hx hb dX8_mountTimeIn_41 (by decide) (fun hc => ?_) (fun hc => ?_)
        · have hf := x_iteT hf hc
          refine lv_aload_n hx hb dX8_mountTimeIn_49 rfl (lv_at hl 1 rfl) ?_
          refine lv_iload_n hx hb dX8_mountTimeIn_50 rfl (lv_at hl 2 rfl) ?_
          refine lv_iload_n hx hb dX8_mountTimeIn_51 rfl (lv_at hl 3 rfl) ?_
          obtain ⟨q5, h_q5, hf⟩ := x_bindE hf
          refine x_ci0 (x_rV ⟨hx, hb, hml, hown, hts⟩ (ct_X8_bringTime l g hfl w md1 mn mw (a1) (a2) h_q5) (cwV 2 hts gX8_mountTimeIn_X8_bringTime rfl rfl rfl (by decide +kernel) ⟨Nat.le_of_ble_eq_true rfl, Nat.le_of_ble_eq_true rfl⟩) hK hW hS (x_recv (i := (g.1 + 189)) (k := 8) (j := 0) hK hW ⟨⟨hfl, rfl⟩, by decide⟩ rfl (by decide)) rfl hl.1 (rest := []) rfl (Nat.le_of_ble_eq_true rfl) dX8_mountTimeIn_52 ⟨Nat.le_of_ble_eq_true rfl, Nat.le_of_ble_eq_true rfl⟩) hS (fun H locs hW hS => ?_)
          have hW : World g (wM w q5.2 mn mw) H := hW
          refine W.eq (g2 := F0 m 55 ls [.int q5.1]) rfl ?_
          cases hf
          exact x_iret hx hb hr hlocks hK hW hS rfl dX8_mountTimeIn_55
        · have hf := x_iteF hf hc
          refine lv_ldc (v := -1000005) hx hb hown (hts (.constant RX8 42 (-1000005)) (by decide +kernel)) dX8_mountTimeIn_44 ?_
          refine lv_goto (tgt := 55) hx hb dX8_mountTimeIn_46 (by decide) ?_
          cases hf
          exact x_iret hx hb hr hlocks hK hW hS rfl dX8_mountTimeIn_55
      · have hf := x_iteT hf hc
        refine lv_iconst (v := 0) hx hb dX8_mountTimeIn_35 (by decide) ?_
        refine lv_goto (tgt := 55) hx hb dX8_mountTimeIn_36 (by decide) ?_
        cases hf
        exact x_iret hx hb hr hlocks hK hW hS rfl dX8_mountTimeIn_55
    · have hf := x_iteT hf hc
      refine lv_ldc (v := -1000001) hx hb hown (hts (.constant RX8 186 (-1000001)) (by decide +kernel)) dX8_mountTimeIn_21 ?_
      cases hf
      exact x_iret hx hb hr hlocks hK hW hS rfl dX8_mountTimeIn_23
abbrev rm_X8_free : Room := { frames := 0, cells := 0, slots := 0, locals := 0 }
set_option maxRecDepth 100000 in
set_option maxHeartbeats 4000000 in
theorem ct_X8_free (l : Launch) (g : GT) (hfl : 2 ≤ gf g) (w : WT) (md : SD) (mn : Nat → Int64) (mw : Int64) (a1 : Int32) {q : Int32} (hf : f_X8_free md a1 = some q) : Met l yX8_free wsX8_free rm_X8_free (cPre g (wM w md mn mw) [.ref (adr (g.1 + 189) 8 0), .int a1]) (cQi g q (wM w md mn mw)) 0 0 (gA g) := by
  have i_8 : ∀ w ∈ u_ws RX8 TX8 27, w ∈ wsX8_free := by decide +kernel
  refine x_met (by decide) rfl (Nat.le_of_ble_eq_true rfl) ?_
  intro p e s m below meth c hx hb hr hml hts hown hlocks hK hW hS ls hl
  have hown : s.vm.findClass RX8 = some m.cls := hown
  have hl : lv_has ls 2 [(0, .ref (adr (g.1 + 189) 8 0)), (1, .int a1)] := hl
  rw [f_X8_free] at hf
  refine lv_aload_n hx hb dX8_free_0 rfl (lv_at hl 0 rfl) ?_
  refine x_get (i := (g.1 + 189)) (k := 8) (j := 0) (t := 1) hx hb hts i_8 hown hK hW ⟨⟨hfl, rfl⟩, by decide⟩ rfl ⟨by decide, by decide, rfl⟩ (hts (.fieldLink RX8 7 "OpticalJukeboxModel" "now" "[I") (by decide +kernel)) (v := .ref (adr (g.1 + 189) 30 0)) rfl dX8_free_1 ?_
  refine lv_bipush (v := 39) hx hb dX8_free_4 (by decide) ?_
  refine lv_iload_n hx hb dX8_free_6 rfl (lv_at hl 1 rfl) ?_
  refine lv_iadd hx hb dX8_free_7 ?_
  obtain ⟨hg1, hf⟩ := x_guardE hf
  refine x_iald (i := (g.1 + 189)) (k := 30) (j := 0) (f := md 30 0) hx hb hK hW ⟨⟨hfl, rfl⟩, by decide⟩ (by decide) (rfl) rfl hg1 dX8_free_8 ?_
  refine lv_aload_n hx hb dX8_free_9 rfl (lv_at hl 0 rfl) ?_
  refine x_get (i := (g.1 + 189)) (k := 8) (j := 0) (t := 1) hx hb hts i_8 hown hK hW ⟨⟨hfl, rfl⟩, by decide⟩ rfl ⟨by decide, by decide, rfl⟩ (hts (.fieldLink RX8 7 "OpticalJukeboxModel" "now" "[I") (by decide +kernel)) (v := .ref (adr (g.1 + 189) 30 0)) rfl dX8_free_10 ?_
  refine lv_bipush (v := 59) hx hb dX8_free_13 (by decide) ?_
  refine lv_iload_n hx hb dX8_free_15 rfl (lv_at hl 1 rfl) ?_
  refine lv_iadd hx hb dX8_free_16 ?_
  obtain ⟨hg2, hf⟩ := x_guardE hf
  refine x_iald (i := (g.1 + 189)) (k := 30) (j := 0) (f := md 30 0) hx hb hK hW ⟨⟨hfl, rfl⟩, by decide⟩ (by decide) (rfl) rfl hg2 dX8_free_17 ?_
  refine lv_isub hx hb dX8_free_18 ?_
  cases hf
  exact x_iret hx hb hr hlocks hK hW hS rfl dX8_free_19
abbrev rm_X8_freeSectors : Room := { frames := 2, cells := 0, slots := 0, locals := 46 }
set_option maxRecDepth 100000 in
set_option maxHeartbeats 4000000 in
theorem ct_X8_freeSectors (l : Launch) (g : GT) (hfl : 2 ≤ gf g) (w : WT) (md : SD) (mn : Nat → Int64) (mw : Int64) (a1 : Int32) {q : (Int32 × SD)} (hf : f_X8_freeSectors md a1 = some q) : Met l yX8_freeSectors wsX8_freeSectors rm_X8_freeSectors (cPre g (wM w md mn mw) [.ref (adr (g.1 + 189) 8 0), .int a1]) (cQi g q.1 (wM w q.2 mn mw)) 0 0 (gA g) := by
  have i_8 : ∀ w ∈ u_ws RX8 TX8 27, w ∈ wsX8_freeSectors := by decide +kernel
  refine x_met (by decide) rfl (Nat.le_of_ble_eq_true rfl) ?_
  intro p e s m below meth c hx hb hr hml hts hown hlocks hK hW hS ls hl
  have hown : s.vm.findClass RX8 = some m.cls := hown
  have hl : lv_has ls 2 [(0, .ref (adr (g.1 + 189) 8 0)), (1, .int a1)] := hl
  rw [f_X8_freeSectors] at hf
  refine lv_aload_n hx hb dX8_freeSectors_0 rfl (lv_at hl 0 rfl) ?_
  refine lv_iconst (v := 0) hx hb dX8_freeSectors_1 (by decide) ?_
  obtain ⟨md1, e_md1, hf⟩ := x_letE hf
  refine x_put (i := (g.1 + 189)) (k := 8) (j := 0) (t := 0) (w' := wM w md1 mn mw) hx hb hts i_8 tyX8 tyX8_ok nmX8 hown hK hW ⟨⟨hfl, rfl⟩, by decide⟩ hS rfl ⟨by decide, by decide, rfl⟩ (hts (.fieldLink RX8 51 "OpticalJukeboxModel" "thrown" "I") (by decide +kernel)) rfl (ty := .int) (by decide +kernel) rfl rfl ⟨rfl, rfl⟩ dX8_freeSectors_2 (fp_M e_md1 rfl) (fun H locs hW hS => ?_)
  refine lv_aload_n hx hb dX8_freeSectors_5 rfl (lv_at hl 0 rfl) ?_
  refine lv_iload_n hx hb dX8_freeSectors_6 rfl (lv_at hl 1 rfl) ?_
  obtain ⟨q2, h_q2, hf⟩ := x_bindE hf
  refine x_ci0 (x_rV ⟨hx, hb, hml, hown, hts⟩ (ct_X8_isPlatter l g hfl w md1 mn mw (a1) h_q2) (cwV 1 hts gX8_freeSectors_X8_isPlatter rfl rfl rfl (by decide +kernel) ⟨Nat.le_of_ble_eq_true rfl, Nat.le_of_ble_eq_true rfl⟩) hK hW hS (x_recv (i := (g.1 + 189)) (k := 8) (j := 0) hK hW ⟨⟨hfl, rfl⟩, by decide⟩ rfl (by decide)) rfl hl.1 (rest := []) rfl (Nat.le_of_ble_eq_true rfl) dX8_freeSectors_7 ⟨Nat.le_of_ble_eq_true rfl, Nat.le_of_ble_eq_true rfl⟩) hS (fun H locs hW hS => ?_)
  have hW : World g (wM w md1 mn mw) H := hW
  refine W.eq (g2 := F0 m 10 ls [.int q2]) rfl ?_
  refine lv_if_eq (tgt := 21) hx hb dX8_freeSectors_10 (by decide) (fun hc => ?_) (fun hc => ?_)
  · have hf := x_iteT hf hc
    refine lv_ldc (v := -1000001) hx hb hown (hts (.constant RX8 186 (-1000001)) (by decide +kernel)) dX8_freeSectors_21 ?_
    cases hf
    exact x_iret hx hb hr hlocks hK hW hS rfl dX8_freeSectors_23
  · have hf := x_iteF hf hc
    refine lv_aload_n hx hb dX8_freeSectors_13 rfl (lv_at hl 0 rfl) ?_
    refine lv_iload_n hx hb dX8_freeSectors_14 rfl (lv_at hl 1 rfl) ?_
    obtain ⟨q3, h_q3, hf⟩ := x_bindE hf
    refine x_ci0 (x_rV ⟨hx, hb, hml, hown, hts⟩ (ct_X8_free l g hfl w md1 mn mw (a1) h_q3) (cwV 1 hts gX8_freeSectors_X8_free rfl rfl rfl (by decide +kernel) ⟨Nat.le_of_ble_eq_true rfl, Nat.le_of_ble_eq_true rfl⟩) hK hW hS (x_recv (i := (g.1 + 189)) (k := 8) (j := 0) hK hW ⟨⟨hfl, rfl⟩, by decide⟩ rfl (by decide)) rfl hl.1 (rest := []) rfl (Nat.le_of_ble_eq_true rfl) dX8_freeSectors_15 ⟨Nat.le_of_ble_eq_true rfl, Nat.le_of_ble_eq_true rfl⟩) hS (fun H locs hW hS => ?_)
    have hW : World g (wM w md1 mn mw) H := hW
    refine W.eq (g2 := F0 m 18 ls [.int q3]) rfl ?_
    refine lv_goto (tgt := 23) hx hb dX8_freeSectors_18 (by decide) ?_
    cases hf
    exact x_iret hx hb hr hlocks hK hW hS rfl dX8_freeSectors_23
abbrev rm_X8_sessionCount : Room := { frames := 2, cells := 0, slots := 0, locals := 46 }
set_option maxRecDepth 100000 in
set_option maxHeartbeats 4000000 in
theorem ct_X8_sessionCount (l : Launch) (g : GT) (hfl : 2 ≤ gf g) (w : WT) (md : SD) (mn : Nat → Int64) (mw : Int64) (a1 : Int32) {q : (Int32 × SD)} (hf : f_X8_sessionCount md a1 = some q) : Met l yX8_sessionCount wsX8_sessionCount rm_X8_sessionCount (cPre g (wM w md mn mw) [.ref (adr (g.1 + 189) 8 0), .int a1]) (cQi g q.1 (wM w q.2 mn mw)) 0 0 (gA g) := by
  have i_8 : ∀ w ∈ u_ws RX8 TX8 27, w ∈ wsX8_sessionCount := by decide +kernel
  refine x_met (by decide) rfl (Nat.le_of_ble_eq_true rfl) ?_
  intro p e s m below meth c hx hb hr hml hts hown hlocks hK hW hS ls hl
  have hown : s.vm.findClass RX8 = some m.cls := hown
  have hl : lv_has ls 2 [(0, .ref (adr (g.1 + 189) 8 0)), (1, .int a1)] := hl
  rw [f_X8_sessionCount] at hf
  refine lv_aload_n hx hb dX8_sessionCount_0 rfl (lv_at hl 0 rfl) ?_
  refine lv_iconst (v := 0) hx hb dX8_sessionCount_1 (by decide) ?_
  obtain ⟨md1, e_md1, hf⟩ := x_letE hf
  refine x_put (i := (g.1 + 189)) (k := 8) (j := 0) (t := 0) (w' := wM w md1 mn mw) hx hb hts i_8 tyX8 tyX8_ok nmX8 hown hK hW ⟨⟨hfl, rfl⟩, by decide⟩ hS rfl ⟨by decide, by decide, rfl⟩ (hts (.fieldLink RX8 51 "OpticalJukeboxModel" "thrown" "I") (by decide +kernel)) rfl (ty := .int) (by decide +kernel) rfl rfl ⟨rfl, rfl⟩ dX8_sessionCount_2 (fp_M e_md1 rfl) (fun H locs hW hS => ?_)
  refine lv_aload_n hx hb dX8_sessionCount_5 rfl (lv_at hl 0 rfl) ?_
  refine lv_iload_n hx hb dX8_sessionCount_6 rfl (lv_at hl 1 rfl) ?_
  obtain ⟨q2, h_q2, hf⟩ := x_bindE hf
  refine x_ci0 (x_rV ⟨hx, hb, hml, hown, hts⟩ (ct_X8_isPlatter l g hfl w md1 mn mw (a1) h_q2) (cwV 1 hts gX8_sessionCount_X8_isPlatter rfl rfl rfl (by decide +kernel) ⟨Nat.le_of_ble_eq_true rfl, Nat.le_of_ble_eq_true rfl⟩) hK hW hS (x_recv (i := (g.1 + 189)) (k := 8) (j := 0) hK hW ⟨⟨hfl, rfl⟩, by decide⟩ rfl (by decide)) rfl hl.1 (rest := []) rfl (Nat.le_of_ble_eq_true rfl) dX8_sessionCount_7 ⟨Nat.le_of_ble_eq_true rfl, Nat.le_of_ble_eq_true rfl⟩) hS (fun H locs hW hS => ?_)
  have hW : World g (wM w md1 mn mw) H := hW
  refine W.eq (g2 := F0 m 10 ls [.int q2]) rfl ?_
  refine lv_if_eq (tgt := 25) hx hb dX8_sessionCount_10 (by decide) (fun hc => ?_) (fun hc => ?_)
  · have hf := x_iteT hf hc
    refine lv_ldc (v := -1000001) hx hb hown (hts (.constant RX8 186 (-1000001)) (by decide +kernel)) dX8_sessionCount_25 ?_
    cases hf
    exact x_iret hx hb hr hlocks hK hW hS rfl dX8_sessionCount_27
  · have hf := x_iteF hf hc
    refine lv_aload_n hx hb dX8_sessionCount_13 rfl (lv_at hl 0 rfl) ?_
    refine x_get (i := (g.1 + 189)) (k := 8) (j := 0) (t := 1) hx hb hts i_8 hown hK hW ⟨⟨hfl, rfl⟩, by decide⟩ rfl ⟨by decide, by decide, rfl⟩ (hts (.fieldLink RX8 7 "OpticalJukeboxModel" "now" "[I") (by decide +kernel)) (v := .ref (adr (g.1 + 189) 30 0)) rfl dX8_sessionCount_14 ?_
    refine lv_bipush (v := 69) hx hb dX8_sessionCount_17 (by decide) ?_
    refine lv_iload_n hx hb dX8_sessionCount_19 rfl (lv_at hl 1 rfl) ?_
    refine lv_iadd hx hb dX8_sessionCount_20 ?_
    obtain ⟨hg3, hf⟩ := x_guardE hf
    refine x_iald (i := (g.1 + 189)) (k := 30) (j := 0) (f := md1 30 0) hx hb hK hW ⟨⟨hfl, rfl⟩, by decide⟩ (by decide) (rfl) rfl hg3 dX8_sessionCount_21 ?_
    refine lv_goto (tgt := 27) hx hb dX8_sessionCount_22 (by decide) ?_
    cases hf
    exact x_iret hx hb hr hlocks hK hW hS rfl dX8_sessionCount_27
abbrev rm_X8_hasOpenSession : Room := { frames := 2, cells := 0, slots := 0, locals := 46 }
set_option maxRecDepth 100000 in
set_option maxHeartbeats 4000000 in
theorem ct_X8_hasOpenSession (l : Launch) (g : GT) (hfl : 2 ≤ gf g) (w : WT) (md : SD) (mn : Nat → Int64) (mw : Int64) (a1 : Int32) {q : (Int32 × SD)} (hf : f_X8_hasOpenSession md a1 = some q) : Met l yX8_hasOpenSession wsX8_hasOpenSession rm_X8_hasOpenSession (cPre g (wM w md mn mw) [.ref (adr (g.1 + 189) 8 0), .int a1]) (cQi g q.1 (wM w q.2 mn mw)) 0 0 (gA g) := by
  have i_8 : ∀ w ∈ u_ws RX8 TX8 27, w ∈ wsX8_hasOpenSession := by decide +kernel
  refine x_met (by decide) rfl (Nat.le_of_ble_eq_true rfl) ?_
  intro p e s m below meth c hx hb hr hml hts hown hlocks hK hW hS ls hl
  have hown : s.vm.findClass RX8 = some m.cls := hown
  have hl : lv_has ls 2 [(0, .ref (adr (g.1 + 189) 8 0)), (1, .int a1)] := hl
  rw [f_X8_hasOpenSession] at hf
  refine lv_aload_n hx hb dX8_hasOpenSession_0 rfl (lv_at hl 0 rfl) ?_
  refine lv_iconst (v := 0) hx hb dX8_hasOpenSession_1 (by decide) ?_
  obtain ⟨md1, e_md1, hf⟩ := x_letE hf
  refine x_put (i := (g.1 + 189)) (k := 8) (j := 0) (t := 0) (w' := wM w md1 mn mw) hx hb hts i_8 tyX8 tyX8_ok nmX8 hown hK hW ⟨⟨hfl, rfl⟩, by decide⟩ hS rfl ⟨by decide, by decide, rfl⟩ (hts (.fieldLink RX8 51 "OpticalJukeboxModel" "thrown" "I") (by decide +kernel)) rfl (ty := .int) (by decide +kernel) rfl rfl ⟨rfl, rfl⟩ dX8_hasOpenSession_2 (fp_M e_md1 rfl) (fun H locs hW hS => ?_)
  refine lv_aload_n hx hb dX8_hasOpenSession_5 rfl (lv_at hl 0 rfl) ?_
  refine lv_iload_n hx hb dX8_hasOpenSession_6 rfl (lv_at hl 1 rfl) ?_
  obtain ⟨q2, h_q2, hf⟩ := x_bindE hf
  refine x_ci0 (x_rV ⟨hx, hb, hml, hown, hts⟩ (ct_X8_isPlatter l g hfl w md1 mn mw (a1) h_q2) (cwV 1 hts gX8_hasOpenSession_X8_isPlatter rfl rfl rfl (by decide +kernel) ⟨Nat.le_of_ble_eq_true rfl, Nat.le_of_ble_eq_true rfl⟩) hK hW hS (x_recv (i := (g.1 + 189)) (k := 8) (j := 0) hK hW ⟨⟨hfl, rfl⟩, by decide⟩ rfl (by decide)) rfl hl.1 (rest := []) rfl (Nat.le_of_ble_eq_true rfl) dX8_hasOpenSession_7 ⟨Nat.le_of_ble_eq_true rfl, Nat.le_of_ble_eq_true rfl⟩) hS (fun H locs hW hS => ?_)
  have hW : World g (wM w md1 mn mw) H := hW
  refine W.eq (g2 := F0 m 10 ls [.int q2]) rfl ?_
  refine lv_if_eq (tgt := 25) hx hb dX8_hasOpenSession_10 (by decide) (fun hc => ?_) (fun hc => ?_)
  · have hf := x_iteT hf hc
    refine lv_ldc (v := -1000001) hx hb hown (hts (.constant RX8 186 (-1000001)) (by decide +kernel)) dX8_hasOpenSession_25 ?_
    cases hf
    exact x_iret hx hb hr hlocks hK hW hS rfl dX8_hasOpenSession_27
  · have hf := x_iteF hf hc
    refine lv_aload_n hx hb dX8_hasOpenSession_13 rfl (lv_at hl 0 rfl) ?_
    refine x_get (i := (g.1 + 189)) (k := 8) (j := 0) (t := 1) hx hb hts i_8 hown hK hW ⟨⟨hfl, rfl⟩, by decide⟩ rfl ⟨by decide, by decide, rfl⟩ (hts (.fieldLink RX8 7 "OpticalJukeboxModel" "now" "[I") (by decide +kernel)) (v := .ref (adr (g.1 + 189) 30 0)) rfl dX8_hasOpenSession_14 ?_
    refine lv_bipush (v := 79) hx hb dX8_hasOpenSession_17 (by decide) ?_
    refine lv_iload_n hx hb dX8_hasOpenSession_19 rfl (lv_at hl 1 rfl) ?_
    refine lv_iadd hx hb dX8_hasOpenSession_20 ?_
    obtain ⟨hg3, hf⟩ := x_guardE hf
    refine x_iald (i := (g.1 + 189)) (k := 30) (j := 0) (f := md1 30 0) hx hb hK hW ⟨⟨hfl, rfl⟩, by decide⟩ (by decide) (rfl) rfl hg3 dX8_hasOpenSession_21 ?_
    refine lv_goto (tgt := 27) hx hb dX8_hasOpenSession_22 (by decide) ?_
    cases hf
    exact x_iret hx hb hr hlocks hK hW hS rfl dX8_hasOpenSession_27
abbrev rm_X8_isSession : Room := { frames := 2, cells := 0, slots := 0, locals := 46 }
set_option maxRecDepth 100000 in
set_option maxHeartbeats 4000000 in
theorem ct_X8_isSession (l : Launch) (g : GT) (hfl : 2 ≤ gf g) (w : WT) (md : SD) (mn : Nat → Int64) (mw : Int64) (a1 : Int32) (a2 : Int32) {q : Int32} (hf : f_X8_isSession md a1 a2 = some q) : Met l yX8_isSession wsX8_isSession rm_X8_isSession (cPre g (wM w md mn mw) [.ref (adr (g.1 + 189) 8 0), .int a1, .int a2]) (cQi g q (wM w md mn mw)) 0 0 (gA g) := by
  have i_8 : ∀ w ∈ u_ws RX8 TX8 27, w ∈ wsX8_isSession := by decide +kernel
  refine x_met (by decide) rfl (Nat.le_of_ble_eq_true rfl) ?_
  intro p e s m below meth c hx hb hr hml hts hown hlocks hK hW hS ls hl
  have hown : s.vm.findClass RX8 = some m.cls := hown
  have hl : lv_has ls 3 [(0, .ref (adr (g.1 + 189) 8 0)), (1, .int a1), (2, .int a2)] := hl
  rw [f_X8_isSession] at hf
  refine lv_aload_n hx hb dX8_isSession_0 rfl (lv_at hl 0 rfl) ?_
  refine lv_iload_n hx hb dX8_isSession_1 rfl (lv_at hl 1 rfl) ?_
  obtain ⟨q1, h_q1, hf⟩ := x_bindE hf
  refine x_ci0 (x_rV ⟨hx, hb, hml, hown, hts⟩ (ct_X8_isPlatter l g hfl w md mn mw (a1) h_q1) (cwV 1 hts gX8_isSession_X8_isPlatter rfl rfl rfl (by decide +kernel) ⟨Nat.le_of_ble_eq_true rfl, Nat.le_of_ble_eq_true rfl⟩) hK hW hS (x_recv (i := (g.1 + 189)) (k := 8) (j := 0) hK hW ⟨⟨hfl, rfl⟩, by decide⟩ rfl (by decide)) rfl hl.1 (rest := []) rfl (Nat.le_of_ble_eq_true rfl) dX8_isSession_2 ⟨Nat.le_of_ble_eq_true rfl, Nat.le_of_ble_eq_true rfl⟩) hS (fun H locs hW hS => ?_)
  have hW : World g (wM w md mn mw) H := hW
  refine W.eq (g2 := F0 m 5 ls [.int q1]) rfl ?_
  refine lv_if_eq (tgt := 33) hx hb dX8_isSession_5 (by decide) (fun hc => ?_) (fun hc => ?_)
  · have hf := x_iteT hf hc
    refine lv_iconst (v := 0) hx hb dX8_isSession_33 (by decide) ?_
    cases hf
    exact x_zret hx hb hr hlocks hK hW hS (Or.inl rfl) rfl dX8_isSession_34
  · have hf := x_iteF hf hc
    refine lv_iload_n hx hb dX8_isSession_8 rfl (lv_at hl 2 rfl) ?_
    refine lv_i2l hx hb dX8_isSession_9 rfl ?_
    refine lv_lconst (v := 0) hx hb dX8_isSession_10 (by decide) ?_
    refine lv_aload_n hx hb dX8_isSession_11 rfl (lv_at hl 0 rfl) ?_
    refine x_get (i := (g.1 + 189)) (k := 8) (j := 0) (t := 1) hx hb hts i_8 hown hK hW ⟨⟨hfl, rfl⟩, by decide⟩ rfl ⟨by decide, by decide, rfl⟩ (hts (.fieldLink RX8 7 "OpticalJukeboxModel" "now" "[I") (by decide +kernel)) (v := .ref (adr (g.1 + 189) 30 0)) rfl dX8_isSession_12 ?_
    refine lv_bipush (v := 69) hx hb dX8_isSession_15 (by decide) ?_
    refine lv_iload_n hx hb dX8_isSession_17 rfl (lv_at hl 1 rfl) ?_
    refine lv_iadd hx hb dX8_isSession_18 ?_
    obtain ⟨hg2, hf⟩ := x_guardE hf
    refine x_iald (i := (g.1 + 189)) (k := 30) (j := 0) (f := md 30 0) hx hb hK hW ⟨⟨hfl, rfl⟩, by decide⟩ (by decide) (rfl) rfl hg2 dX8_isSession_19 ?_
    refine lv_iconst (v := 1) hx hb dX8_isSession_20 (by decide) ?_
    refine lv_isub hx hb dX8_isSession_21 ?_
    refine lv_i2l hx hb dX8_isSession_22 rfl ?_
    obtain ⟨q3, h_q3, hf⟩ := x_bindE hf
    refine x_ci0 (x_rS ⟨hx, hb, hml, hown, hts⟩ (ct_X8_isIn l g (wM w md mn mw) ((a2).toInt64) ((0 : Int64)) ((((md 30 0 (((69 : Int32) + a1)).toNatClampNeg) - (1 : Int32))).toInt64) h_q3) (va_cwS 3 hts gX8_isSession_X8_isIn rfl rfl rfl (by decide +kernel) ⟨Nat.le_of_ble_eq_true rfl, Nat.le_of_ble_eq_true rfl⟩) hK hW hS rfl hl.1 (rest := []) rfl (Nat.le_of_ble_eq_true rfl) dX8_isSession_23 ⟨Nat.le_of_ble_eq_true rfl, Nat.le_of_ble_eq_true rfl⟩) hS (fun H locs hW hS => ?_)
    have hW : World g (wM w md mn mw) H := hW
    refine W.eq (g2 := F0 m 26 ls [.int q3]) rfl ?_
    refine lv_if_eq (tgt := 33) hx hb dX8_isSession_26 (by decide) (fun hc => ?_) (fun hc => ?_)
    · have hf := x_iteT hf hc
      refine lv_iconst (v := 0) hx hb dX8_isSession_33 (by decide) ?_
      cases hf
      exact x_zret hx hb hr hlocks hK hW hS (Or.inl rfl) rfl dX8_isSession_34
    · have hf := x_iteF hf hc
      refine lv_iconst (v := 1) hx hb dX8_isSession_29 (by decide) ?_
      refine lv_goto (tgt := 34) hx hb dX8_isSession_30 (by decide) ?_
      cases hf
      exact x_zret hx hb hr hlocks hK hW hS (Or.inr rfl) rfl dX8_isSession_34
abbrev rm_X8_sessionStart : Room := { frames := 3, cells := 0, slots := 0, locals := 68 }
set_option maxRecDepth 100000 in
set_option maxHeartbeats 4000000 in
theorem ct_X8_sessionStart (l : Launch) (g : GT) (hfl : 2 ≤ gf g) (w : WT) (md : SD) (mn : Nat → Int64) (mw : Int64) (a1 : Int32) (a2 : Int32) {q : (Int32 × SD)} (hf : f_X8_sessionStart md a1 a2 = some q) : Met l yX8_sessionStart wsX8_sessionStart rm_X8_sessionStart (cPre g (wM w md mn mw) [.ref (adr (g.1 + 189) 8 0), .int a1, .int a2]) (cQi g q.1 (wM w q.2 mn mw)) 0 0 (gA g) := by
  have i_8 : ∀ w ∈ u_ws RX8 TX8 27, w ∈ wsX8_sessionStart := by decide +kernel
  refine x_met (by decide) rfl (Nat.le_of_ble_eq_true rfl) ?_
  intro p e s m below meth c hx hb hr hml hts hown hlocks hK hW hS ls hl
  have hown : s.vm.findClass RX8 = some m.cls := hown
  have hl : lv_has ls 3 [(0, .ref (adr (g.1 + 189) 8 0)), (1, .int a1), (2, .int a2)] := hl
  rw [f_X8_sessionStart] at hf
  refine lv_aload_n hx hb dX8_sessionStart_0 rfl (lv_at hl 0 rfl) ?_
  refine lv_iconst (v := 0) hx hb dX8_sessionStart_1 (by decide) ?_
  obtain ⟨md1, e_md1, hf⟩ := x_letE hf
  refine x_put (i := (g.1 + 189)) (k := 8) (j := 0) (t := 0) (w' := wM w md1 mn mw) hx hb hts i_8 tyX8 tyX8_ok nmX8 hown hK hW ⟨⟨hfl, rfl⟩, by decide⟩ hS rfl ⟨by decide, by decide, rfl⟩ (hts (.fieldLink RX8 51 "OpticalJukeboxModel" "thrown" "I") (by decide +kernel)) rfl (ty := .int) (by decide +kernel) rfl rfl ⟨rfl, rfl⟩ dX8_sessionStart_2 (fp_M e_md1 rfl) (fun H locs hW hS => ?_)
  refine lv_aload_n hx hb dX8_sessionStart_5 rfl (lv_at hl 0 rfl) ?_
  refine lv_iload_n hx hb dX8_sessionStart_6 rfl (lv_at hl 1 rfl) ?_
  refine lv_iload_n hx hb dX8_sessionStart_7 rfl (lv_at hl 2 rfl) ?_
  obtain ⟨q2, h_q2, hf⟩ := x_bindE hf
  refine x_ci0 (x_rV ⟨hx, hb, hml, hown, hts⟩ (ct_X8_isSession l g hfl w md1 mn mw (a1) (a2) h_q2) (cwV 2 hts gX8_sessionStart_X8_isSession rfl rfl rfl (by decide +kernel) ⟨Nat.le_of_ble_eq_true rfl, Nat.le_of_ble_eq_true rfl⟩) hK hW hS (x_recv (i := (g.1 + 189)) (k := 8) (j := 0) hK hW ⟨⟨hfl, rfl⟩, by decide⟩ rfl (by decide)) rfl hl.1 (rest := []) rfl (Nat.le_of_ble_eq_true rfl) dX8_sessionStart_8 ⟨Nat.le_of_ble_eq_true rfl, Nat.le_of_ble_eq_true rfl⟩) hS (fun H locs hW hS => ?_)
  have hW : World g (wM w md1 mn mw) H := hW
  refine W.eq (g2 := F0 m 11 ls [.int q2]) rfl ?_
  refine lv_if_eq (tgt := 31) hx hb dX8_sessionStart_11 (by decide) (fun hc => ?_) (fun hc => ?_)
  · have hf := x_iteT hf hc
    refine lv_ldc (v := -1000001) hx hb hown (hts (.constant RX8 186 (-1000001)) (by decide +kernel)) dX8_sessionStart_31 ?_
    cases hf
    exact x_iret hx hb hr hlocks hK hW hS rfl dX8_sessionStart_33
  · have hf := x_iteF hf hc
    refine lv_aload_n hx hb dX8_sessionStart_14 rfl (lv_at hl 0 rfl) ?_
    refine x_get (i := (g.1 + 189)) (k := 8) (j := 0) (t := 1) hx hb hts i_8 hown hK hW ⟨⟨hfl, rfl⟩, by decide⟩ rfl ⟨by decide, by decide, rfl⟩ (hts (.fieldLink RX8 7 "OpticalJukeboxModel" "now" "[I") (by decide +kernel)) (v := .ref (adr (g.1 + 189) 30 0)) rfl dX8_sessionStart_15 ?_
    refine lv_bipush (v := 89) hx hb dX8_sessionStart_18 (by decide) ?_
    refine lv_bipush (v := 8) hx hb dX8_sessionStart_20 (by decide) ?_
    refine lv_iload_n hx hb dX8_sessionStart_22 rfl (lv_at hl 1 rfl) ?_
    refine lv_imul hx hb dX8_sessionStart_23 ?_
    refine lv_iadd hx hb dX8_sessionStart_24 ?_
    refine lv_iload_n hx hb dX8_sessionStart_25 rfl (lv_at hl 2 rfl) ?_
    refine lv_iadd hx hb dX8_sessionStart_26 ?_
    obtain ⟨hg3, hf⟩ := x_guardE hf
    refine x_iald (i := (g.1 + 189)) (k := 30) (j := 0) (f := md1 30 0) hx hb hK hW ⟨⟨hfl, rfl⟩, by decide⟩ (by decide) (rfl) rfl hg3 dX8_sessionStart_27 ?_
    refine lv_goto (tgt := 33) hx hb dX8_sessionStart_28 (by decide) ?_
    cases hf
    exact x_iret hx hb hr hlocks hK hW hS rfl dX8_sessionStart_33
abbrev rm_X8_sessionSize : Room := { frames := 3, cells := 0, slots := 0, locals := 68 }
set_option maxRecDepth 100000 in
set_option maxHeartbeats 4000000 in
theorem ct_X8_sessionSize (l : Launch) (g : GT) (hfl : 2 ≤ gf g) (w : WT) (md : SD) (mn : Nat → Int64) (mw : Int64) (a1 : Int32) (a2 : Int32) {q : (Int32 × SD)} (hf : f_X8_sessionSize md a1 a2 = some q) : Met l yX8_sessionSize wsX8_sessionSize rm_X8_sessionSize (cPre g (wM w md mn mw) [.ref (adr (g.1 + 189) 8 0), .int a1, .int a2]) (cQi g q.1 (wM w q.2 mn mw)) 0 0 (gA g) := by
  have i_8 : ∀ w ∈ u_ws RX8 TX8 27, w ∈ wsX8_sessionSize := by decide +kernel
  refine x_met (by decide) rfl (Nat.le_of_ble_eq_true rfl) ?_
  intro p e s m below meth c hx hb hr hml hts hown hlocks hK hW hS ls hl
  have hown : s.vm.findClass RX8 = some m.cls := hown
  have hl : lv_has ls 3 [(0, .ref (adr (g.1 + 189) 8 0)), (1, .int a1), (2, .int a2)] := hl
  rw [f_X8_sessionSize] at hf
  refine lv_aload_n hx hb dX8_sessionSize_0 rfl (lv_at hl 0 rfl) ?_
  refine lv_iconst (v := 0) hx hb dX8_sessionSize_1 (by decide) ?_
  obtain ⟨md1, e_md1, hf⟩ := x_letE hf
  refine x_put (i := (g.1 + 189)) (k := 8) (j := 0) (t := 0) (w' := wM w md1 mn mw) hx hb hts i_8 tyX8 tyX8_ok nmX8 hown hK hW ⟨⟨hfl, rfl⟩, by decide⟩ hS rfl ⟨by decide, by decide, rfl⟩ (hts (.fieldLink RX8 51 "OpticalJukeboxModel" "thrown" "I") (by decide +kernel)) rfl (ty := .int) (by decide +kernel) rfl rfl ⟨rfl, rfl⟩ dX8_sessionSize_2 (fp_M e_md1 rfl) (fun H locs hW hS => ?_)
  refine lv_aload_n hx hb dX8_sessionSize_5 rfl (lv_at hl 0 rfl) ?_
  refine lv_iload_n hx hb dX8_sessionSize_6 rfl (lv_at hl 1 rfl) ?_
  refine lv_iload_n hx hb dX8_sessionSize_7 rfl (lv_at hl 2 rfl) ?_
  obtain ⟨q2, h_q2, hf⟩ := x_bindE hf
  refine x_ci0 (x_rV ⟨hx, hb, hml, hown, hts⟩ (ct_X8_isSession l g hfl w md1 mn mw (a1) (a2) h_q2) (cwV 2 hts gX8_sessionSize_X8_isSession rfl rfl rfl (by decide +kernel) ⟨Nat.le_of_ble_eq_true rfl, Nat.le_of_ble_eq_true rfl⟩) hK hW hS (x_recv (i := (g.1 + 189)) (k := 8) (j := 0) hK hW ⟨⟨hfl, rfl⟩, by decide⟩ rfl (by decide)) rfl hl.1 (rest := []) rfl (Nat.le_of_ble_eq_true rfl) dX8_sessionSize_8 ⟨Nat.le_of_ble_eq_true rfl, Nat.le_of_ble_eq_true rfl⟩) hS (fun H locs hW hS => ?_)
  have hW : World g (wM w md1 mn mw) H := hW
  refine W.eq (g2 := F0 m 11 ls [.int q2]) rfl ?_
  refine lv_if_eq (tgt := 32) hx hb dX8_sessionSize_11 (by decide) (fun hc => ?_) (fun hc => ?_)
  · have hf := x_iteT hf hc
    refine lv_ldc (v := -1000001) hx hb hown (hts (.constant RX8 186 (-1000001)) (by decide +kernel)) dX8_sessionSize_32 ?_
    cases hf
    exact x_iret hx hb hr hlocks hK hW hS rfl dX8_sessionSize_34
  · have hf := x_iteF hf hc
    refine lv_aload_n hx hb dX8_sessionSize_14 rfl (lv_at hl 0 rfl) ?_
    refine x_get (i := (g.1 + 189)) (k := 8) (j := 0) (t := 1) hx hb hts i_8 hown hK hW ⟨⟨hfl, rfl⟩, by decide⟩ rfl ⟨by decide, by decide, rfl⟩ (hts (.fieldLink RX8 7 "OpticalJukeboxModel" "now" "[I") (by decide +kernel)) (v := .ref (adr (g.1 + 189) 30 0)) rfl dX8_sessionSize_15 ?_
    refine lv_sipush (v := 169) hx hb dX8_sessionSize_18 (by decide) ?_
    refine lv_bipush (v := 8) hx hb dX8_sessionSize_21 (by decide) ?_
    refine lv_iload_n hx hb dX8_sessionSize_23 rfl (lv_at hl 1 rfl) ?_
    refine lv_imul hx hb dX8_sessionSize_24 ?_
    refine lv_iadd hx hb dX8_sessionSize_25 ?_
    refine lv_iload_n hx hb dX8_sessionSize_26 rfl (lv_at hl 2 rfl) ?_
    refine lv_iadd hx hb dX8_sessionSize_27 ?_
    obtain ⟨hg3, hf⟩ := x_guardE hf
    refine x_iald (i := (g.1 + 189)) (k := 30) (j := 0) (f := md1 30 0) hx hb hK hW ⟨⟨hfl, rfl⟩, by decide⟩ (by decide) (rfl) rfl hg3 dX8_sessionSize_28 ?_
    refine lv_goto (tgt := 34) hx hb dX8_sessionSize_29 (by decide) ?_
    cases hf
    exact x_iret hx hb hr hlocks hK hW hS rfl dX8_sessionSize_34
abbrev rm_X8_sparesLeft : Room := { frames := 2, cells := 0, slots := 0, locals := 46 }
set_option maxRecDepth 100000 in
set_option maxHeartbeats 4000000 in
theorem ct_X8_sparesLeft (l : Launch) (g : GT) (hfl : 2 ≤ gf g) (w : WT) (md : SD) (mn : Nat → Int64) (mw : Int64) (a1 : Int32) {q : (Int32 × SD)} (hf : f_X8_sparesLeft md a1 = some q) : Met l yX8_sparesLeft wsX8_sparesLeft rm_X8_sparesLeft (cPre g (wM w md mn mw) [.ref (adr (g.1 + 189) 8 0), .int a1]) (cQi g q.1 (wM w q.2 mn mw)) 0 0 (gA g) := by
  have i_8 : ∀ w ∈ u_ws RX8 TX8 27, w ∈ wsX8_sparesLeft := by decide +kernel
  refine x_met (by decide) rfl (Nat.le_of_ble_eq_true rfl) ?_
  intro p e s m below meth c hx hb hr hml hts hown hlocks hK hW hS ls hl
  have hown : s.vm.findClass RX8 = some m.cls := hown
  have hl : lv_has ls 2 [(0, .ref (adr (g.1 + 189) 8 0)), (1, .int a1)] := hl
  rw [f_X8_sparesLeft] at hf
  refine lv_aload_n hx hb dX8_sparesLeft_0 rfl (lv_at hl 0 rfl) ?_
  refine lv_iconst (v := 0) hx hb dX8_sparesLeft_1 (by decide) ?_
  obtain ⟨md1, e_md1, hf⟩ := x_letE hf
  refine x_put (i := (g.1 + 189)) (k := 8) (j := 0) (t := 0) (w' := wM w md1 mn mw) hx hb hts i_8 tyX8 tyX8_ok nmX8 hown hK hW ⟨⟨hfl, rfl⟩, by decide⟩ hS rfl ⟨by decide, by decide, rfl⟩ (hts (.fieldLink RX8 51 "OpticalJukeboxModel" "thrown" "I") (by decide +kernel)) rfl (ty := .int) (by decide +kernel) rfl rfl ⟨rfl, rfl⟩ dX8_sparesLeft_2 (fp_M e_md1 rfl) (fun H locs hW hS => ?_)
  refine lv_aload_n hx hb dX8_sparesLeft_5 rfl (lv_at hl 0 rfl) ?_
  refine lv_iload_n hx hb dX8_sparesLeft_6 rfl (lv_at hl 1 rfl) ?_
  obtain ⟨q2, h_q2, hf⟩ := x_bindE hf
  refine x_ci0 (x_rV ⟨hx, hb, hml, hown, hts⟩ (ct_X8_isPlatter l g hfl w md1 mn mw (a1) h_q2) (cwV 1 hts gX8_sparesLeft_X8_isPlatter rfl rfl rfl (by decide +kernel) ⟨Nat.le_of_ble_eq_true rfl, Nat.le_of_ble_eq_true rfl⟩) hK hW hS (x_recv (i := (g.1 + 189)) (k := 8) (j := 0) hK hW ⟨⟨hfl, rfl⟩, by decide⟩ rfl (by decide)) rfl hl.1 (rest := []) rfl (Nat.le_of_ble_eq_true rfl) dX8_sparesLeft_7 ⟨Nat.le_of_ble_eq_true rfl, Nat.le_of_ble_eq_true rfl⟩) hS (fun H locs hW hS => ?_)
  have hW : World g (wM w md1 mn mw) H := hW
  refine W.eq (g2 := F0 m 10 ls [.int q2]) rfl ?_
  refine lv_if_eq (tgt := 25) hx hb dX8_sparesLeft_10 (by decide) (fun hc => ?_) (fun hc => ?_)
  · have hf := x_iteT hf hc
    refine lv_ldc (v := -1000001) hx hb hown (hts (.constant RX8 186 (-1000001)) (by decide +kernel)) dX8_sparesLeft_25 ?_
    cases hf
    exact x_iret hx hb hr hlocks hK hW hS rfl dX8_sparesLeft_27
  · have hf := x_iteF hf hc
    refine lv_aload_n hx hb dX8_sparesLeft_13 rfl (lv_at hl 0 rfl) ?_
    refine x_get (i := (g.1 + 189)) (k := 8) (j := 0) (t := 1) hx hb hts i_8 hown hK hW ⟨⟨hfl, rfl⟩, by decide⟩ rfl ⟨by decide, by decide, rfl⟩ (hts (.fieldLink RX8 7 "OpticalJukeboxModel" "now" "[I") (by decide +kernel)) (v := .ref (adr (g.1 + 189) 30 0)) rfl dX8_sparesLeft_14 ?_
    refine lv_bipush (v := 49) hx hb dX8_sparesLeft_17 (by decide) ?_
    refine lv_iload_n hx hb dX8_sparesLeft_19 rfl (lv_at hl 1 rfl) ?_
    refine lv_iadd hx hb dX8_sparesLeft_20 ?_
    obtain ⟨hg3, hf⟩ := x_guardE hf
    refine x_iald (i := (g.1 + 189)) (k := 30) (j := 0) (f := md1 30 0) hx hb hK hW ⟨⟨hfl, rfl⟩, by decide⟩ (by decide) (rfl) rfl hg3 dX8_sparesLeft_21 ?_
    refine lv_goto (tgt := 27) hx hb dX8_sparesLeft_22 (by decide) ?_
    cases hf
    exact x_iret hx hb hr hlocks hK hW hS rfl dX8_sparesLeft_27
abbrev rm_X8_staleSectors : Room := { frames := 2, cells := 0, slots := 0, locals := 46 }
set_option maxRecDepth 100000 in
set_option maxHeartbeats 4000000 in
theorem ct_X8_staleSectors (l : Launch) (g : GT) (hfl : 2 ≤ gf g) (w : WT) (md : SD) (mn : Nat → Int64) (mw : Int64) (a1 : Int32) {q : (Int32 × SD)} (hf : f_X8_staleSectors md a1 = some q) : Met l yX8_staleSectors wsX8_staleSectors rm_X8_staleSectors (cPre g (wM w md mn mw) [.ref (adr (g.1 + 189) 8 0), .int a1]) (cQi g q.1 (wM w q.2 mn mw)) 0 0 (gA g) := by
  have i_8 : ∀ w ∈ u_ws RX8 TX8 27, w ∈ wsX8_staleSectors := by decide +kernel
  refine x_met (by decide) rfl (Nat.le_of_ble_eq_true rfl) ?_
  intro p e s m below meth c hx hb hr hml hts hown hlocks hK hW hS ls hl
  have hown : s.vm.findClass RX8 = some m.cls := hown
  have hl : lv_has ls 4 [(0, .ref (adr (g.1 + 189) 8 0)), (1, .int a1)] := hl
  rw [f_X8_staleSectors] at hf
  refine lv_aload_n hx hb dX8_staleSectors_0 rfl (lv_at hl 0 rfl) ?_
  refine lv_iconst (v := 0) hx hb dX8_staleSectors_1 (by decide) ?_
  obtain ⟨md1, e_md1, hf⟩ := x_letE hf
  refine x_put (i := (g.1 + 189)) (k := 8) (j := 0) (t := 0) (w' := wM w md1 mn mw) hx hb hts i_8 tyX8 tyX8_ok nmX8 hown hK hW ⟨⟨hfl, rfl⟩, by decide⟩ hS rfl ⟨by decide, by decide, rfl⟩ (hts (.fieldLink RX8 51 "OpticalJukeboxModel" "thrown" "I") (by decide +kernel)) rfl (ty := .int) (by decide +kernel) rfl rfl ⟨rfl, rfl⟩ dX8_staleSectors_2 (fp_M e_md1 rfl) (fun H locs hW hS => ?_)
  refine lv_aload_n hx hb dX8_staleSectors_5 rfl (lv_at hl 0 rfl) ?_
  refine lv_iload_n hx hb dX8_staleSectors_6 rfl (lv_at hl 1 rfl) ?_
  obtain ⟨q2, h_q2, hf⟩ := x_bindE hf
  refine x_ci0 (x_rV ⟨hx, hb, hml, hown, hts⟩ (ct_X8_isPlatter l g hfl w md1 mn mw (a1) h_q2) (cwV 1 hts gX8_staleSectors_X8_isPlatter rfl rfl rfl (by decide +kernel) ⟨Nat.le_of_ble_eq_true rfl, Nat.le_of_ble_eq_true rfl⟩) hK hW hS (x_recv (i := (g.1 + 189)) (k := 8) (j := 0) hK hW ⟨⟨hfl, rfl⟩, by decide⟩ rfl (by decide)) rfl hl.1 (rest := []) rfl (Nat.le_of_ble_eq_true rfl) dX8_staleSectors_7 ⟨Nat.le_of_ble_eq_true rfl, Nat.le_of_ble_eq_true rfl⟩) hS (fun H locs hW hS => ?_)
  have hW : World g (wM w md1 mn mw) H := hW
  refine W.eq (g2 := F0 m 10 ls [.int q2]) rfl ?_
  refine lv_if_ne (tgt := 16) hx hb dX8_staleSectors_10 (by decide) (fun hc => ?_) (fun hc => ?_)
  · have hf := x_iteF hf hc
    refine lv_iconst (v := 0) hx hb dX8_staleSectors_16 (by decide) ?_
    refine lv_istore_n (lv' := [(2, .int (0 : Int32)), (0, .ref (adr (g.1 + 189) 8 0)), (1, .int a1)]) hx hb dX8_staleSectors_17 rfl hl (by decide) rfl (fun ls hl => ?_)
    refine lv_iconst (v := 0) hx hb dX8_staleSectors_18 (by decide) ?_
    refine lv_istore_n (lv' := [(3, .int (0 : Int32)), (2, .int (0 : Int32)), (0, .ref (adr (g.1 + 189) 8 0)), (1, .int a1)]) hx hb dX8_staleSectors_19 rfl hl (by decide) rfl (fun ls hl => ?_)
    have L20 : ∀ (n : Nat) (v2_20 : Int32) (v3_20 : Int32) (ls : Array Slot) (H : Heap) (locs : List Loc), lv_has ls 4 [(0, .ref (adr (g.1 + 189) 8 0)), (1, .int a1), (2, .int v2_20), (3, .int v3_20)] → World g (wM w md1 mn mw) H → va_S (gA g) s.heap H locs → f_X8_staleSectors_L20 md1 a1 n v2_20 v3_20 = some q → W p l e rm_X8_staleSectors s m [.ref (adr (g.1 + 189) 8 0), .int a1].toArray below meth c H locs 0 0 (MQ below (cQi g q.1 (wM w q.2 mn mw)) [.ref (adr (g.1 + 189) 8 0), .int a1].toArray s 0 0 (gA g)) (F0 m 20 ls []) := by
      clear hW hS hl
      intro n
      induction n with
      | zero => intro v2_20 v3_20 ls H locs hl hW hS hf; cases hf
      | succ n_20 ih =>
        intro v2_20 v3_20 ls H locs hl hW hS hf
        rw [f_X8_staleSectors_L20] at hf
        refine lv_iload_n hx hb dX8_staleSectors_20 rfl (lv_at hl 3 rfl) ?_
        refine lv_aload_n hx hb dX8_staleSectors_21 rfl (lv_at hl 0 rfl) ?_
        refine x_get (i := (g.1 + 189)) (k := 8) (j := 0) (t := 1) hx hb hts i_8 hown hK hW ⟨⟨hfl, rfl⟩, by decide⟩ rfl ⟨by decide, by decide, rfl⟩ (hts (.fieldLink RX8 7 "OpticalJukeboxModel" "now" "[I") (by decide +kernel)) (v := .ref (adr (g.1 + 189) 30 0)) rfl dX8_staleSectors_22 ?_
        refine lv_bipush (v := 10) hx hb dX8_staleSectors_25 (by decide) ?_
        refine x_iald (i := (g.1 + 189)) (k := 30) (j := 0) (f := md1 30 0) hx hb hK hW ⟨⟨hfl, rfl⟩, by decide⟩ (by decide) (rfl) rfl (by unfold vp_in; decide) dX8_staleSectors_27 ?_
        refine W.eq (g2 := F0 m 28 ls [.int (md1 30 0 10), .int v3_20]) rfl ?_
        refine lv_icmp_ge (tgt := 76) hx hb dX8_staleSectors_28 (by decide) (fun hc => ?_) (fun hc => ?_)
        · have hf := x_iteT hf hc
          refine lv_iload_n hx hb dX8_staleSectors_76 rfl (lv_at hl 2 rfl) ?_
          cases hf
          exact x_iret hx hb hr hlocks hK hW hS rfl dX8_staleSectors_77
        · have hf := x_iteF hf hc
          refine lv_iload_n hx hb dX8_staleSectors_31 rfl (lv_at hl 2 rfl) ?_
          refine lv_aload_n hx hb dX8_staleSectors_32 rfl (lv_at hl 0 rfl) ?_
          refine x_get (i := (g.1 + 189)) (k := 8) (j := 0) (t := 1) hx hb hts i_8 hown hK hW ⟨⟨hfl, rfl⟩, by decide⟩ rfl ⟨by decide, by decide, rfl⟩ (hts (.fieldLink RX8 7 "OpticalJukeboxModel" "now" "[I") (by decide +kernel)) (v := .ref (adr (g.1 + 189) 30 0)) rfl dX8_staleSectors_33 ?_
          refine lv_sipush (v := 349) hx hb dX8_staleSectors_36 (by decide) ?_
          refine lv_iload_n hx hb dX8_staleSectors_39 rfl (lv_at hl 3 rfl) ?_
          refine lv_iadd hx hb dX8_staleSectors_40 ?_
          obtain ⟨hg3, hf⟩ := x_guardE hf
          refine x_iald (i := (g.1 + 189)) (k := 30) (j := 0) (f := md1 30 0) hx hb hK hW ⟨⟨hfl, rfl⟩, by decide⟩ (by decide) (rfl) rfl hg3 dX8_staleSectors_41 ?_
          refine lv_iload_n hx hb dX8_staleSectors_42 rfl (lv_at hl 1 rfl) ?_
          obtain ⟨K4, eK4, hf⟩ := x_letE hf
          have KK4 : ∀ (y5 : Int32) (ls : Array Slot) (H : Heap) (locs : List Loc), lv_has ls 4 [(0, .ref (adr (g.1 + 189) 8 0)), (1, .int a1), (2, .int v2_20), (3, .int v3_20)] → World g (wM w md1 mn mw) H → va_S (gA g) s.heap H locs → K4 y5 = some q → W p l e rm_X8_staleSectors s m [.ref (adr (g.1 + 189) 8 0), .int a1].toArray below meth c H locs 0 0 (MQ below (cQi g q.1 (wM w q.2 mn mw)) [.ref (adr (g.1 + 189) 8 0), .int a1].toArray s 0 0 (gA g)) (F0 m 68 ls [.int y5, .int v2_20]) := by
            intro y5 ls H locs hl hW hS hf
            subst eK4
            refine lv_iadd hx hb dX8_staleSectors_68 ?_
            obtain ⟨x6, e_x6, hf⟩ := x_letE hf
            refine x_topi e_x6 ?_
            refine lv_istore_n (lv' := [(2, .int x6), (0, .ref (adr (g.1 + 189) 8 0)), (1, .int a1), (3, .int v3_20)]) hx hb dX8_staleSectors_69 rfl hl (by decide) rfl (fun ls hl => ?_)
            obtain ⟨x7, e_x7, hf⟩ := x_letE hf
            refine lv_iinc (v := x7) (lv' := [(3, .int x7), (2, .int x6), (0, .ref (adr (g.1 + 189) 8 0)), (1, .int a1)]) hx hb dX8_staleSectors_70 hl (k := 3) rfl (by rw [e_x7]; rfl) (by decide) rfl (fun ls hl => ?_)
            refine lv_goto (tgt := 20) hx hb dX8_staleSectors_73 (by decide) ?_
            exact ih (x6) (x7) ls _ _ (lv_sub hl [2, 3, 1, 0] rfl) hW hS hf
          clear eK4
          obtain ⟨K8, eK8, hf⟩ := x_letE hf
          have KK8 : ∀ (_u : Unit) (ls : Array Slot) (H : Heap) (locs : List Loc), lv_has ls 4 [(0, .ref (adr (g.1 + 189) 8 0)), (1, .int a1), (2, .int v2_20), (3, .int v3_20)] → World g (wM w md1 mn mw) H → va_S (gA g) s.heap H locs → K8 _u = some q → W p l e rm_X8_staleSectors s m [.ref (adr (g.1 + 189) 8 0), .int a1].toArray below meth c H locs 0 0 (MQ below (cQi g q.1 (wM w q.2 mn mw)) [.ref (adr (g.1 + 189) 8 0), .int a1].toArray s 0 0 (gA g)) (F0 m 67 ls [.int v2_20]) := by
            intro _u ls H locs hl hW hS hf
            subst eK8
            refine lv_iconst (v := 0) hx hb dX8_staleSectors_67 (by decide) ?_
            exact KK4 ((0 : Int32)) ls _ _ hl hW hS hf
          clear eK8
          refine lv_icmp_ne (tgt := 67) hx hb dX8_staleSectors_43 (by decide) (fun hc => ?_) (fun hc => ?_)
          · have hf := x_iteF hf hc
            exact KK8 (()) ls _ _ hl hW hS hf
          · have hf := x_iteT hf hc
            refine lv_aload_n hx hb dX8_staleSectors_46 rfl (lv_at hl 0 rfl) ?_
            refine lv_iload_n hx hb dX8_staleSectors_47 rfl (lv_at hl 3 rfl) ?_
            obtain ⟨q9, h_q9, hf⟩ := x_bindE hf
            refine x_ci0 (x_rV ⟨hx, hb, hml, hown, hts⟩ (ct_X8_isCurrent l g hfl w md1 mn mw (v3_20) h_q9) (cwV 1 hts gX8_staleSectors_X8_isCurrent rfl rfl rfl (by decide +kernel) ⟨Nat.le_of_ble_eq_true rfl, Nat.le_of_ble_eq_true rfl⟩) hK hW hS (x_recv (i := (g.1 + 189)) (k := 8) (j := 0) hK hW ⟨⟨hfl, rfl⟩, by decide⟩ rfl (by decide)) rfl hl.1 (rest := [.int v2_20]) rfl (Nat.le_of_ble_eq_true rfl) dX8_staleSectors_48 ⟨Nat.le_of_ble_eq_true rfl, Nat.le_of_ble_eq_true rfl⟩) hS (fun H locs hW hS => ?_)
            have hW : World g (wM w md1 mn mw) H := hW
            refine W.eq (g2 := F0 m 51 ls [.int q9, .int v2_20]) rfl ?_
            refine lv_if_ne (tgt := 67) hx hb dX8_staleSectors_51 (by decide) (fun hc => ?_) (fun hc => ?_)
            · have hf := x_iteF hf hc
              exact KK8 (()) ls _ _ hl hW hS hf
            · have hf := x_iteT hf hc
              refine lv_aload_n hx hb dX8_staleSectors_54 rfl (lv_at hl 0 rfl) ?_
              refine x_get (i := (g.1 + 189)) (k := 8) (j := 0) (t := 1) hx hb hts i_8 hown hK hW ⟨⟨hfl, rfl⟩, by decide⟩ rfl ⟨by decide, by decide, rfl⟩ (hts (.fieldLink RX8 7 "OpticalJukeboxModel" "now" "[I") (by decide +kernel)) (v := .ref (adr (g.1 + 189) 30 0)) rfl dX8_staleSectors_55 ?_
              refine lv_sipush (v := 429) hx hb dX8_staleSectors_58 (by decide) ?_
              refine lv_iload_n hx hb dX8_staleSectors_61 rfl (lv_at hl 3 rfl) ?_
              refine lv_iadd hx hb dX8_staleSectors_62 ?_
              obtain ⟨hg10, hf⟩ := x_guardE hf
              refine x_iald (i := (g.1 + 189)) (k := 30) (j := 0) (f := md1 30 0) hx hb hK hW ⟨⟨hfl, rfl⟩, by decide⟩ (by decide) (rfl) rfl hg10 dX8_staleSectors_63 ?_
              refine lv_goto (tgt := 68) hx hb dX8_staleSectors_64 (by decide) ?_
              exact KK4 ((md1 30 0 (((429 : Int32) + v3_20)).toNatClampNeg)) ls _ _ hl hW hS hf
    exact L20 fuel ((0 : Int32)) ((0 : Int32)) ls _ _ (lv_sub hl [2, 3, 1, 0] rfl) hW hS hf
  · have hf := x_iteT hf hc
    refine lv_ldc (v := -1000001) hx hb hown (hts (.constant RX8 186 (-1000001)) (by decide +kernel)) dX8_staleSectors_13 ?_
    cases hf
    exact x_iret hx hb hr hlocks hK hW hS rfl dX8_staleSectors_15
abbrev rm_X8_sectorKind : Room := { frames := 3, cells := 0, slots := 0, locals := 68 }
set_option maxRecDepth 100000 in
set_option maxHeartbeats 4000000 in
theorem ct_X8_sectorKind (l : Launch) (g : GT) (hfl : 2 ≤ gf g) (w : WT) (md : SD) (mn : Nat → Int64) (mw : Int64) (a1 : Int32) (a2 : Int32) {q : (Int32 × SD)} (hf : f_X8_sectorKind md a1 a2 = some q) : Met l yX8_sectorKind wsX8_sectorKind rm_X8_sectorKind (cPre g (wM w md mn mw) [.ref (adr (g.1 + 189) 8 0), .int a1, .int a2]) (cQi g q.1 (wM w q.2 mn mw)) 0 0 (gA g) := by
  have i_8 : ∀ w ∈ u_ws RX8 TX8 27, w ∈ wsX8_sectorKind := by decide +kernel
  refine x_met (by decide) rfl (Nat.le_of_ble_eq_true rfl) ?_
  intro p e s m below meth c hx hb hr hml hts hown hlocks hK hW hS ls hl
  have hown : s.vm.findClass RX8 = some m.cls := hown
  have hl : lv_has ls 5 [(0, .ref (adr (g.1 + 189) 8 0)), (1, .int a1), (2, .int a2)] := hl
  rw [f_X8_sectorKind] at hf
  refine lv_aload_n hx hb dX8_sectorKind_0 rfl (lv_at hl 0 rfl) ?_
  refine lv_iconst (v := 0) hx hb dX8_sectorKind_1 (by decide) ?_
  obtain ⟨md1, e_md1, hf⟩ := x_letE hf
  refine x_put (i := (g.1 + 189)) (k := 8) (j := 0) (t := 0) (w' := wM w md1 mn mw) hx hb hts i_8 tyX8 tyX8_ok nmX8 hown hK hW ⟨⟨hfl, rfl⟩, by decide⟩ hS rfl ⟨by decide, by decide, rfl⟩ (hts (.fieldLink RX8 51 "OpticalJukeboxModel" "thrown" "I") (by decide +kernel)) rfl (ty := .int) (by decide +kernel) rfl rfl ⟨rfl, rfl⟩ dX8_sectorKind_2 (fp_M e_md1 rfl) (fun H locs hW hS => ?_)
  refine lv_aload_n hx hb dX8_sectorKind_5 rfl (lv_at hl 0 rfl) ?_
  refine lv_iload_n hx hb dX8_sectorKind_6 rfl (lv_at hl 1 rfl) ?_
  refine lv_iload_n hx hb dX8_sectorKind_7 rfl (lv_at hl 2 rfl) ?_
  obtain ⟨q2, h_q2, hf⟩ := x_bindE hf
  refine x_ci0 (x_rV ⟨hx, hb, hml, hown, hts⟩ (ct_X8_isSector l g hfl w md1 mn mw (a1) (a2) h_q2) (cwV 2 hts gX8_sectorKind_X8_isSector rfl rfl rfl (by decide +kernel) ⟨Nat.le_of_ble_eq_true rfl, Nat.le_of_ble_eq_true rfl⟩) hK hW hS (x_recv (i := (g.1 + 189)) (k := 8) (j := 0) hK hW ⟨⟨hfl, rfl⟩, by decide⟩ rfl (by decide)) rfl hl.1 (rest := []) rfl (Nat.le_of_ble_eq_true rfl) dX8_sectorKind_8 ⟨Nat.le_of_ble_eq_true rfl, Nat.le_of_ble_eq_true rfl⟩) hS (fun H locs hW hS => ?_)
  have hW : World g (wM w md1 mn mw) H := hW
  refine W.eq (g2 := F0 m 11 ls [.int q2]) rfl ?_
  refine lv_if_ne (tgt := 17) hx hb dX8_sectorKind_11 (by decide) (fun hc => ?_) (fun hc => ?_)
  · have hf := x_iteF hf hc
    refine lv_aload_n hx hb dX8_sectorKind_17 rfl (lv_at hl 0 rfl) ?_
    refine x_get (i := (g.1 + 189)) (k := 8) (j := 0) (t := 1) hx hb hts i_8 hown hK hW ⟨⟨hfl, rfl⟩, by decide⟩ rfl ⟨by decide, by decide, rfl⟩ (hts (.fieldLink RX8 7 "OpticalJukeboxModel" "now" "[I") (by decide +kernel)) (v := .ref (adr (g.1 + 189) 30 0)) rfl dX8_sectorKind_18 ?_
    refine lv_iload_n hx hb dX8_sectorKind_21 rfl (lv_at hl 1 rfl) ?_
    refine lv_iload_n hx hb dX8_sectorKind_22 rfl (lv_at hl 2 rfl) ?_
    obtain ⟨q3, h_q3, hf⟩ := x_bindE hf
    refine x_ci0 (x_rS ⟨hx, hb, hml, hown, hts⟩ (ct_X8_versionAt l g hfl w md1 mn mw 30 isRow_30 (a1) (a2) h_q3) (va_cwS 3 hts gX8_sectorKind_X8_versionAt rfl rfl rfl (by decide +kernel) ⟨Nat.le_of_ble_eq_true rfl, Nat.le_of_ble_eq_true rfl⟩) hK hW hS rfl hl.1 (rest := []) rfl (Nat.le_of_ble_eq_true rfl) dX8_sectorKind_23 ⟨Nat.le_of_ble_eq_true rfl, Nat.le_of_ble_eq_true rfl⟩) hS (fun H locs hW hS => ?_)
    have hW : World g (wM w md1 mn mw) H := hW
    refine W.eq (g2 := F0 m 26 ls [.int q3]) rfl ?_
    refine lv_istore_n (lv' := [(3, .int q3), (0, .ref (adr (g.1 + 189) 8 0)), (1, .int a1), (2, .int a2)]) hx hb dX8_sectorKind_26 rfl hl (by decide) rfl (fun ls hl => ?_)
    refine lv_iload_n hx hb dX8_sectorKind_27 rfl (lv_at hl 3 rfl) ?_
    refine lv_aload_n hx hb dX8_sectorKind_28 rfl (lv_at hl 1 rfl) ?_
    refine x_get (i := (g.1 + 189)) (k := 8) (j := 0) (t := 1) hx hb hts i_8 hown hK hW ⟨⟨hfl, rfl⟩, by decide⟩ rfl ⟨by decide, by decide, rfl⟩ (hts (.fieldLink RX8 7 "OpticalJukeboxModel" "now" "[I") (by decide +kernel)) (v := .ref (adr (g.1 + 189) 30 0)) rfl dX8_sectorKind_29 ?_
    refine lv_bipush (v := 59) hx hb dX8_sectorKind_32 (by decide) ?_
    refine lv_iload_n hx hb dX8_sectorKind_34 rfl (lv_at hl 2 rfl) ?_
    refine lv_iadd hx hb dX8_sectorKind_35 ?_
    obtain ⟨hg4, hf⟩ := x_guardE hf
    refine x_iald (i := (g.1 + 189)) (k := 30) (j := 0) (f := md1 30 0) hx hb hK hW ⟨⟨hfl, rfl⟩, by decide⟩ (by decide) (rfl) rfl hg4 dX8_sectorKind_36 ?_
    obtain ⟨K5, eK5, hf⟩ := x_letE hf
    have KK5 : ∀ (y6 : Int32) (ls : Array Slot) (H : Heap) (locs : List Loc), lv_has ls 5 [(0, .ref (adr (g.1 + 189) 8 0)), (1, .int a1), (2, .int a2), (3, .int q3)] → World g (wM w md1 mn mw) H → va_S (gA g) s.heap H locs → K5 y6 = some q → W p l e rm_X8_sectorKind s m [.ref (adr (g.1 + 189) 8 0), .int a1, .int a2].toArray below meth c H locs 0 0 (MQ below (cQi g q.1 (wM w q.2 mn mw)) [.ref (adr (g.1 + 189) 8 0), .int a1, .int a2].toArray s 0 0 (gA g)) (F0 m 66 ls [.int y6]) := by
      intro y6 ls H locs hl hW hS hf
      subst eK5
      refine lv_istore (lv' := [(4, .int y6), (0, .ref (adr (g.1 + 189) 8 0)), (1, .int a1), (2, .int a2), (3, .int q3)]) hx hb dX8_sectorKind_66 hl (by decide) rfl (fun ls hl => ?_)
      refine lv_iload hx hb dX8_sectorKind_68 (lv_at hl 0 rfl) ?_
      refine lv_aload_n hx hb dX8_sectorKind_70 rfl (lv_at hl 1 rfl) ?_
      refine x_get (i := (g.1 + 189)) (k := 8) (j := 0) (t := 1) hx hb hts i_8 hown hK hW ⟨⟨hfl, rfl⟩, by decide⟩ rfl ⟨by decide, by decide, rfl⟩ (hts (.fieldLink RX8 7 "OpticalJukeboxModel" "now" "[I") (by decide +kernel)) (v := .ref (adr (g.1 + 189) 30 0)) rfl dX8_sectorKind_71 ?_
      refine lv_iload_n hx hb dX8_sectorKind_74 rfl (lv_at hl 2 rfl) ?_
      refine lv_iload_n hx hb dX8_sectorKind_75 rfl (lv_at hl 3 rfl) ?_
      obtain ⟨q7, h_q7, hf⟩ := x_bindE hf
      refine x_ci0 (x_rS ⟨hx, hb, hml, hown, hts⟩ (ct_X8_isBad l g hfl w md1 mn mw 30 isRow_30 (a1) (a2) h_q7) (va_cwS 3 hts gX8_sectorKind_X8_isBad rfl rfl rfl (by decide +kernel) ⟨Nat.le_of_ble_eq_true rfl, Nat.le_of_ble_eq_true rfl⟩) hK hW hS rfl hl.1 (rest := [.int y6]) rfl (Nat.le_of_ble_eq_true rfl) dX8_sectorKind_76 ⟨Nat.le_of_ble_eq_true rfl, Nat.le_of_ble_eq_true rfl⟩) hS (fun H locs hW hS => ?_)
      have hW : World g (wM w md1 mn mw) H := hW
      refine W.eq (g2 := F0 m 79 ls [.int q7, .int y6]) rfl ?_
      refine lv_if_eq (tgt := 87) hx hb dX8_sectorKind_79 (by decide) (fun hc => ?_) (fun hc => ?_)
      · have hf := x_iteT hf hc
        refine lv_iconst (v := 0) hx hb dX8_sectorKind_87 (by decide) ?_
        refine lv_iadd hx hb dX8_sectorKind_88 ?_
        cases hf
        exact x_iret hx hb hr hlocks hK hW hS rfl dX8_sectorKind_89
      · have hf := x_iteF hf hc
        refine lv_bipush (v := 10) hx hb dX8_sectorKind_82 (by decide) ?_
        refine lv_goto (tgt := 88) hx hb dX8_sectorKind_84 (by decide) ?_
        refine lv_iadd hx hb dX8_sectorKind_88 ?_
        cases hf
        exact x_iret hx hb hr hlocks hK hW hS rfl dX8_sectorKind_89
    clear eK5
    refine lv_icmp_lt (tgt := 44) hx hb dX8_sectorKind_37 (by decide) (fun hc => ?_) (fun hc => ?_)
    · have hf := x_iteT hf hc
      refine lv_iload_n hx hb dX8_sectorKind_44 rfl (lv_at hl 0 rfl) ?_
      refine lv_iconst (v := -1) hx hb dX8_sectorKind_45 (by decide) ?_
      refine lv_icmp_ne (tgt := 53) hx hb dX8_sectorKind_46 (by decide) (fun hc => ?_) (fun hc => ?_)
      · have hf := x_iteF hf hc
        refine lv_aload_n hx hb dX8_sectorKind_53 rfl (lv_at hl 1 rfl) ?_
        refine lv_iload_n hx hb dX8_sectorKind_54 rfl (lv_at hl 0 rfl) ?_
        obtain ⟨q8, h_q8, hf⟩ := x_bindE hf
        refine x_ci0 (x_rV ⟨hx, hb, hml, hown, hts⟩ (ct_X8_isCurrent l g hfl w md1 mn mw (q3) h_q8) (cwV 1 hts gX8_sectorKind_X8_isCurrent rfl rfl rfl (by decide +kernel) ⟨Nat.le_of_ble_eq_true rfl, Nat.le_of_ble_eq_true rfl⟩) hK hW hS (x_recv (i := (g.1 + 189)) (k := 8) (j := 0) hK hW ⟨⟨hfl, rfl⟩, by decide⟩ rfl (by decide)) rfl hl.1 (rest := []) rfl (Nat.le_of_ble_eq_true rfl) dX8_sectorKind_55 ⟨Nat.le_of_ble_eq_true rfl, Nat.le_of_ble_eq_true rfl⟩) hS (fun H locs hW hS => ?_)
        have hW : World g (wM w md1 mn mw) H := hW
        refine W.eq (g2 := F0 m 58 ls [.int q8]) rfl ?_
        refine lv_if_eq (tgt := 65) hx hb dX8_sectorKind_58 (by decide) (fun hc => ?_) (fun hc => ?_)
        · have hf := x_iteT hf hc
          refine lv_iconst (v := 2) hx hb dX8_sectorKind_65 (by decide) ?_
          exact KK5 ((2 : Int32)) ls _ _ (lv_sub hl [1, 2, 3, 0] rfl) hW hS hf
        · have hf := x_iteF hf hc
          refine lv_iconst (v := 1) hx hb dX8_sectorKind_61 (by decide) ?_
          refine lv_goto (tgt := 66) hx hb dX8_sectorKind_62 (by decide) ?_
          exact KK5 ((1 : Int32)) ls _ _ (lv_sub hl [1, 2, 3, 0] rfl) hW hS hf
      · have hf := x_iteT hf hc
        refine lv_iconst (v := 3) hx hb dX8_sectorKind_49 (by decide) ?_
        refine lv_goto (tgt := 66) hx hb dX8_sectorKind_50 (by decide) ?_
        exact KK5 ((3 : Int32)) ls _ _ (lv_sub hl [1, 2, 3, 0] rfl) hW hS hf
    · have hf := x_iteF hf hc
      refine lv_iconst (v := 0) hx hb dX8_sectorKind_40 (by decide) ?_
      refine lv_goto (tgt := 66) hx hb dX8_sectorKind_41 (by decide) ?_
      exact KK5 ((0 : Int32)) ls _ _ (lv_sub hl [1, 2, 3, 0] rfl) hW hS hf
  · have hf := x_iteT hf hc
    refine lv_ldc (v := -1000001) hx hb hown (hts (.constant RX8 186 (-1000001)) (by decide +kernel)) dX8_sectorKind_14 ?_
    cases hf
    exact x_iret hx hb hr hlocks hK hW hS rfl dX8_sectorKind_16
