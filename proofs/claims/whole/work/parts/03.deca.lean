theorem dX0_init_0 : decode cX0_init 0 = .ok (.aload_n 0, 1) := by decide +kernel
theorem dX0_init_1 : decode cX0_init 1 = .ok (.invokespecial 1, 3) := by decide +kernel
theorem dX0_init_4 : decode cX0_init 4 = .ok (.return_, 1) := by decide +kernel
theorem dX0_copyFrom_0 : decode cX0_copyFrom 0 = .ok (.aload_n 0, 1) := by decide +kernel
theorem dX0_copyFrom_1 : decode cX0_copyFrom 1 = .ok (.aload_n 1, 1) := by decide +kernel
theorem dX0_copyFrom_2 : decode cX0_copyFrom 2 = .ok (.getfield 7, 3) := by decide +kernel
theorem dX0_copyFrom_5 : decode cX0_copyFrom 5 = .ok (.putfield 7, 3) := by decide +kernel
theorem dX0_copyFrom_8 : decode cX0_copyFrom 8 = .ok (.aload_n 0, 1) := by decide +kernel
theorem dX0_copyFrom_9 : decode cX0_copyFrom 9 = .ok (.aload_n 1, 1) := by decide +kernel
theorem dX0_copyFrom_10 : decode cX0_copyFrom 10 = .ok (.getfield 13, 3) := by decide +kernel
theorem dX0_copyFrom_13 : decode cX0_copyFrom 13 = .ok (.putfield 13, 3) := by decide +kernel
theorem dX0_copyFrom_16 : decode cX0_copyFrom 16 = .ok (.aload_n 0, 1) := by decide +kernel
theorem dX0_copyFrom_17 : decode cX0_copyFrom 17 = .ok (.aload_n 1, 1) := by decide +kernel
theorem dX0_copyFrom_18 : decode cX0_copyFrom 18 = .ok (.getfield 16, 3) := by decide +kernel
theorem dX0_copyFrom_21 : decode cX0_copyFrom 21 = .ok (.putfield 16, 3) := by decide +kernel
theorem dX0_copyFrom_24 : decode cX0_copyFrom 24 = .ok (.return_, 1) := by decide +kernel
theorem dX1_init_0 : decode cX1_init 0 = .ok (.aload_n 0, 1) := by decide +kernel
theorem dX1_init_1 : decode cX1_init 1 = .ok (.invokespecial 3, 3) := by decide +kernel
theorem dX1_init_4 : decode cX1_init 4 = .ok (.aload_n 0, 1) := by decide +kernel
theorem dX1_init_5 : decode cX1_init 5 = .ok (.bipush 16, 2) := by decide +kernel
theorem dX1_init_7 : decode cX1_init 7 = .ok (.anewarray 9, 3) := by decide +kernel
theorem dX1_init_10 : decode cX1_init 10 = .ok (.putfield 11, 3) := by decide +kernel
theorem dX1_init_13 : decode cX1_init 13 = .ok (.return_, 1) := by decide +kernel
theorem dX1_forgetAll_0 : decode cX1_forgetAll 0 = .ok (.aload_n 0, 1) := by decide +kernel
theorem dX1_forgetAll_1 : decode cX1_forgetAll 1 = .ok (.iconst 0, 1) := by decide +kernel
theorem dX1_forgetAll_2 : decode cX1_forgetAll 2 = .ok (.putfield 17, 3) := by decide +kernel
theorem dX1_forgetAll_5 : decode cX1_forgetAll 5 = .ok (.return_, 1) := by decide +kernel
set_option maxRecDepth 20000 in
theorem ggX1_keep_X4_init : GoodIn wsX1_keep wsX4_init := goodIn_r _ [9, 10, 11, 12, 13, 14, 15, 16, 17, 18, 19, 20, 21, 22, 23, 24, 25, 26, 27, 28, 29, 30, 31, 32, 33, 34, 35, 36, 37, 38, 39, 40, 41, 42, 43, 6, 44, 45, 46, 47, 48, 49, 50, 51, 52, 53, 54, 55, 56, 57, 58, 59, 60, 101, 102, 103, 104, 105, 106, 107, 108, 109, 110, 111, 112, 113, 114, 115, 116, 117, 118, 119, 120, 121, 122, 123, 124, 125, 126, 127, 128, 129, 130, 131, 132, 133, 134, 135, 136, 137] (by decide +kernel) (by decide +kernel)
set_option maxRecDepth 20000 in
theorem gX1_keep_X4_init : GoodIn wsX1_keep (wsX4_init) := ggX1_keep_X4_init
set_option maxRecDepth 20000 in
theorem ggX1_keep_X4_copyFrom : GoodIn wsX1_keep wsX4_copyFrom := goodIn_r _ [64, 45, 14, 65, 66, 67, 68, 46, 16, 47, 48, 18, 49, 50, 20, 21, 51, 22, 52, 53, 54, 55, 56, 69, 70, 71, 24, 72, 73, 74, 75, 76, 77, 78, 26, 79, 80, 81, 82, 83, 84, 85, 35, 86, 36, 37, 87, 88, 89, 28, 90, 91, 92, 93, 94, 95, 96, 97, 101, 102, 103, 104, 105, 106, 107, 108, 109, 110, 111, 112, 113, 114, 115, 116, 117, 118, 119, 120, 121, 122, 123, 124, 125, 126, 127, 128, 129, 130, 131, 132, 133, 134, 135, 136, 137] (by decide +kernel) (by decide +kernel)
set_option maxRecDepth 20000 in
theorem gX1_keep_X4_copyFrom : GoodIn wsX1_keep (wsV RX1 25 RX4 yX4_copyFrom wsX4_copyFrom) := goodIn_app (goodIn_of _ (by decide +kernel)) ggX1_keep_X4_copyFrom
theorem dX1_keep_0 : decode cX1_keep 0 = .ok (.aload_n 0, 1) := by decide +kernel
theorem dX1_keep_1 : decode cX1_keep 1 = .ok (.getfield 21, 3) := by decide +kernel
theorem dX1_keep_4 : decode cX1_keep 4 = .ok (.aload_n 0, 1) := by decide +kernel
theorem dX1_keep_5 : decode cX1_keep 5 = .ok (.getfield 17, 3) := by decide +kernel
theorem dX1_keep_8 : decode cX1_keep 8 = .ok (.iadd, 1) := by decide +kernel
theorem dX1_keep_9 : decode cX1_keep 9 = .ok (.bipush 16, 2) := by decide +kernel
theorem dX1_keep_11 : decode cX1_keep 11 = .ok (.irem, 1) := by decide +kernel
theorem dX1_keep_12 : decode cX1_keep 12 = .ok (.istore_n 2, 1) := by decide +kernel
theorem dX1_keep_13 : decode cX1_keep 13 = .ok (.aload_n 0, 1) := by decide +kernel
theorem dX1_keep_14 : decode cX1_keep 14 = .ok (.getfield 11, 3) := by decide +kernel
theorem dX1_keep_17 : decode cX1_keep 17 = .ok (.iload_n 2, 1) := by decide +kernel
theorem dX1_keep_18 : decode cX1_keep 18 = .ok (.aaload, 1) := by decide +kernel
theorem dX1_keep_19 : decode cX1_keep 19 = .ok (.ifnonnull 16, 3) := by decide +kernel
theorem dX1_keep_22 : decode cX1_keep 22 = .ok (.aload_n 0, 1) := by decide +kernel
theorem dX1_keep_23 : decode cX1_keep 23 = .ok (.getfield 11, 3) := by decide +kernel
theorem dX1_keep_26 : decode cX1_keep 26 = .ok (.iload_n 2, 1) := by decide +kernel
theorem dX1_keep_27 : decode cX1_keep 27 = .ok (.new 9, 3) := by decide +kernel
theorem dX1_keep_30 : decode cX1_keep 30 = .ok (.dup, 1) := by decide +kernel
theorem dX1_keep_31 : decode cX1_keep 31 = .ok (.invokespecial 24, 3) := by decide +kernel
theorem dX1_keep_34 : decode cX1_keep 34 = .ok (.aastore, 1) := by decide +kernel
theorem dX1_keep_35 : decode cX1_keep 35 = .ok (.aload_n 0, 1) := by decide +kernel
theorem dX1_keep_36 : decode cX1_keep 36 = .ok (.getfield 11, 3) := by decide +kernel
theorem dX1_keep_39 : decode cX1_keep 39 = .ok (.iload_n 2, 1) := by decide +kernel
theorem dX1_keep_40 : decode cX1_keep 40 = .ok (.aaload, 1) := by decide +kernel
theorem dX1_keep_41 : decode cX1_keep 41 = .ok (.aload_n 1, 1) := by decide +kernel
theorem dX1_keep_42 : decode cX1_keep 42 = .ok (.invokevirtual 25, 3) := by decide +kernel
theorem dX1_keep_45 : decode cX1_keep 45 = .ok (.aload_n 0, 1) := by decide +kernel
theorem dX1_keep_46 : decode cX1_keep 46 = .ok (.getfield 17, 3) := by decide +kernel
theorem dX1_keep_49 : decode cX1_keep 49 = .ok (.bipush 16, 2) := by decide +kernel
theorem dX1_keep_51 : decode cX1_keep 51 = .ok (.if_icmp .ge 16, 3) := by decide +kernel
theorem dX1_keep_54 : decode cX1_keep 54 = .ok (.aload_n 0, 1) := by decide +kernel
theorem dX1_keep_55 : decode cX1_keep 55 = .ok (.dup, 1) := by decide +kernel
theorem dX1_keep_56 : decode cX1_keep 56 = .ok (.getfield 17, 3) := by decide +kernel
theorem dX1_keep_59 : decode cX1_keep 59 = .ok (.iconst 1, 1) := by decide +kernel
theorem dX1_keep_60 : decode cX1_keep 60 = .ok (.iadd, 1) := by decide +kernel
theorem dX1_keep_61 : decode cX1_keep 61 = .ok (.putfield 17, 3) := by decide +kernel
theorem dX1_keep_64 : decode cX1_keep 64 = .ok (.goto 16, 3) := by decide +kernel
theorem dX1_keep_67 : decode cX1_keep 67 = .ok (.aload_n 0, 1) := by decide +kernel
theorem dX1_keep_68 : decode cX1_keep 68 = .ok (.aload_n 0, 1) := by decide +kernel
theorem dX1_keep_69 : decode cX1_keep 69 = .ok (.getfield 21, 3) := by decide +kernel
theorem dX1_keep_72 : decode cX1_keep 72 = .ok (.iconst 1, 1) := by decide +kernel
theorem dX1_keep_73 : decode cX1_keep 73 = .ok (.iadd, 1) := by decide +kernel
theorem dX1_keep_74 : decode cX1_keep 74 = .ok (.bipush 16, 2) := by decide +kernel
theorem dX1_keep_76 : decode cX1_keep 76 = .ok (.irem, 1) := by decide +kernel
theorem dX1_keep_77 : decode cX1_keep 77 = .ok (.putfield 21, 3) := by decide +kernel
theorem dX1_keep_80 : decode cX1_keep 80 = .ok (.return_, 1) := by decide +kernel
theorem dX1_goBack_0 : decode cX1_goBack 0 = .ok (.aload_n 0, 1) := by decide +kernel
theorem dX1_goBack_1 : decode cX1_goBack 1 = .ok (.getfield 17, 3) := by decide +kernel
theorem dX1_goBack_4 : decode cX1_goBack 4 = .ok (.ifCond .ne 5, 3) := by decide +kernel
theorem dX1_goBack_7 : decode cX1_goBack 7 = .ok (.aload_n 1, 1) := by decide +kernel
theorem dX1_goBack_8 : decode cX1_goBack 8 = .ok (.areturn, 1) := by decide +kernel
theorem dX1_goBack_9 : decode cX1_goBack 9 = .ok (.aload_n 0, 1) := by decide +kernel
theorem dX1_goBack_10 : decode cX1_goBack 10 = .ok (.dup, 1) := by decide +kernel
theorem dX1_goBack_11 : decode cX1_goBack 11 = .ok (.getfield 17, 3) := by decide +kernel
theorem dX1_goBack_14 : decode cX1_goBack 14 = .ok (.iconst 1, 1) := by decide +kernel
theorem dX1_goBack_15 : decode cX1_goBack 15 = .ok (.isub, 1) := by decide +kernel
theorem dX1_goBack_16 : decode cX1_goBack 16 = .ok (.putfield 17, 3) := by decide +kernel
theorem dX1_goBack_19 : decode cX1_goBack 19 = .ok (.aload_n 0, 1) := by decide +kernel
theorem dX1_goBack_20 : decode cX1_goBack 20 = .ok (.getfield 21, 3) := by decide +kernel
theorem dX1_goBack_23 : decode cX1_goBack 23 = .ok (.aload_n 0, 1) := by decide +kernel
theorem dX1_goBack_24 : decode cX1_goBack 24 = .ok (.getfield 17, 3) := by decide +kernel
theorem dX1_goBack_27 : decode cX1_goBack 27 = .ok (.iadd, 1) := by decide +kernel
theorem dX1_goBack_28 : decode cX1_goBack 28 = .ok (.bipush 16, 2) := by decide +kernel
theorem dX1_goBack_30 : decode cX1_goBack 30 = .ok (.irem, 1) := by decide +kernel
theorem dX1_goBack_31 : decode cX1_goBack 31 = .ok (.istore_n 2, 1) := by decide +kernel
theorem dX1_goBack_32 : decode cX1_goBack 32 = .ok (.aload_n 0, 1) := by decide +kernel
theorem dX1_goBack_33 : decode cX1_goBack 33 = .ok (.getfield 11, 3) := by decide +kernel
theorem dX1_goBack_36 : decode cX1_goBack 36 = .ok (.iload_n 2, 1) := by decide +kernel
theorem dX1_goBack_37 : decode cX1_goBack 37 = .ok (.aaload, 1) := by decide +kernel
theorem dX1_goBack_38 : decode cX1_goBack 38 = .ok (.astore_n 3, 1) := by decide +kernel
theorem dX1_goBack_39 : decode cX1_goBack 39 = .ok (.aload_n 0, 1) := by decide +kernel
theorem dX1_goBack_40 : decode cX1_goBack 40 = .ok (.getfield 11, 3) := by decide +kernel
theorem dX1_goBack_43 : decode cX1_goBack 43 = .ok (.iload_n 2, 1) := by decide +kernel
theorem dX1_goBack_44 : decode cX1_goBack 44 = .ok (.aload_n 1, 1) := by decide +kernel
theorem dX1_goBack_45 : decode cX1_goBack 45 = .ok (.aastore, 1) := by decide +kernel
theorem dX1_goBack_46 : decode cX1_goBack 46 = .ok (.aload_n 3, 1) := by decide +kernel
theorem dX1_goBack_47 : decode cX1_goBack 47 = .ok (.ifnonnull 7, 3) := by decide +kernel
theorem dX1_goBack_50 : decode cX1_goBack 50 = .ok (.aload_n 1, 1) := by decide +kernel
theorem dX1_goBack_51 : decode cX1_goBack 51 = .ok (.goto 4, 3) := by decide +kernel
theorem dX1_goBack_54 : decode cX1_goBack 54 = .ok (.aload_n 3, 1) := by decide +kernel
theorem dX1_goBack_55 : decode cX1_goBack 55 = .ok (.areturn, 1) := by decide +kernel
theorem dX2_init_0 : decode cX2_init 0 = .ok (.aload_n 0, 1) := by decide +kernel
theorem dX2_init_1 : decode cX2_init 1 = .ok (.invokespecial 3, 3) := by decide +kernel
theorem dX2_init_4 : decode cX2_init 4 = .ok (.aload_n 0, 1) := by decide +kernel
theorem dX2_init_5 : decode cX2_init 5 = .ok (.sipush 10240, 3) := by decide +kernel
theorem dX2_init_8 : decode cX2_init 8 = .ok (.newarray .int, 2) := by decide +kernel
theorem dX2_init_10 : decode cX2_init 10 = .ok (.putfield 9, 3) := by decide +kernel
theorem dX2_init_13 : decode cX2_init 13 = .ok (.aload_n 0, 1) := by decide +kernel
theorem dX2_init_14 : decode cX2_init 14 = .ok (.bipush 100, 2) := by decide +kernel
theorem dX2_init_16 : decode cX2_init 16 = .ok (.newarray .int, 2) := by decide +kernel
theorem dX2_init_18 : decode cX2_init 18 = .ok (.putfield 15, 3) := by decide +kernel
theorem dX2_init_21 : decode cX2_init 21 = .ok (.aload_n 0, 1) := by decide +kernel
theorem dX2_init_22 : decode cX2_init 22 = .ok (.bipush 10, 2) := by decide +kernel
theorem dX2_init_24 : decode cX2_init 24 = .ok (.newarray .int, 2) := by decide +kernel
theorem dX2_init_26 : decode cX2_init 26 = .ok (.putfield 18, 3) := by decide +kernel
theorem dX2_init_29 : decode cX2_init 29 = .ok (.aload_n 0, 1) := by decide +kernel
theorem dX2_init_30 : decode cX2_init 30 = .ok (.iconst (-1), 1) := by decide +kernel
theorem dX2_init_31 : decode cX2_init 31 = .ok (.putfield 21, 3) := by decide +kernel
theorem dX2_init_34 : decode cX2_init 34 = .ok (.aload_n 0, 1) := by decide +kernel
theorem dX2_init_35 : decode cX2_init 35 = .ok (.iconst (-1), 1) := by decide +kernel
theorem dX2_init_36 : decode cX2_init 36 = .ok (.putfield 25, 3) := by decide +kernel
theorem dX2_init_39 : decode cX2_init 39 = .ok (.return_, 1) := by decide +kernel
theorem dX2_forgetTable_0 : decode cX2_forgetTable 0 = .ok (.aload_n 0, 1) := by decide +kernel
theorem dX2_forgetTable_1 : decode cX2_forgetTable 1 = .ok (.iconst (-1), 1) := by decide +kernel
theorem dX2_forgetTable_2 : decode cX2_forgetTable 2 = .ok (.putfield 25, 3) := by decide +kernel
theorem dX2_forgetTable_5 : decode cX2_forgetTable 5 = .ok (.return_, 1) := by decide +kernel
set_option maxRecDepth 20000 in
theorem ggX2_timeWithout_X4_awayPlatters : GoodIn wsX2_timeWithout wsX4_awayPlatters := goodIn_r _ [5, 6, 7, 8, 9, 10, 11, 4, 12, 13, 14, 15, 16, 17, 18, 19, 20, 21, 95, 96, 97, 98, 99, 100, 101, 102, 103, 104, 105, 106, 107, 108, 109, 110, 111, 112, 113, 114, 115, 116, 117, 118, 119, 120, 121, 122] (by decide +kernel) (by decide +kernel)
set_option maxRecDepth 20000 in
theorem gX2_timeWithout_X4_awayPlatters : GoodIn wsX2_timeWithout (wsV RX2 28 RX4 yX4_awayPlatters wsX4_awayPlatters) := goodIn_app (goodIn_of _ (by decide +kernel)) ggX2_timeWithout_X4_awayPlatters
set_option maxRecDepth 20000 in
theorem ggX2_timeWithout_X4_driveAfterReading : GoodIn wsX2_timeWithout wsX4_driveAfterReading := goodIn_r _ [25, 6, 7, 8, 9, 10, 11, 4, 12, 13, 14, 15, 16, 17, 18, 19, 20, 21, 26, 27, 28, 29, 30, 31, 95, 96, 97, 98, 99, 100, 101, 102, 103, 104, 105, 106, 107, 108, 109, 110, 111, 112, 113, 114, 115, 116, 117, 118, 119, 120, 121, 122] (by decide +kernel) (by decide +kernel)
set_option maxRecDepth 20000 in
theorem gX2_timeWithout_X4_driveAfterReading : GoodIn wsX2_timeWithout (wsV RX2 34 RX4 yX4_driveAfterReading wsX4_driveAfterReading) := goodIn_app (goodIn_of _ (by decide +kernel)) ggX2_timeWithout_X4_driveAfterReading
set_option maxRecDepth 20000 in
theorem ggX2_timeWithout_X2_leastTime : GoodIn wsX2_timeWithout wsX2_leastTime := goodIn_r _ [36, 37, 38, 39, 40, 41, 42, 43, 44, 45, 46, 47, 4, 48, 19, 49, 50, 51, 35, 52, 53, 54, 55, 56, 57, 58, 59, 60, 61, 62, 63, 64, 65, 66, 67, 68, 69, 70, 71, 72, 73, 74, 20, 21, 75, 76, 77, 78, 79, 80, 81, 82, 83, 84, 123, 124, 125, 126, 127, 128, 129, 95, 96, 97, 98, 99, 100, 101, 102, 103, 104, 105, 106, 107, 108, 109, 110, 111, 112, 120, 121, 122, 130, 131, 132, 133, 134, 135, 136, 137, 138] (by decide +kernel) (by decide +kernel)
set_option maxRecDepth 20000 in
theorem gX2_timeWithout_X2_leastTime : GoodIn wsX2_timeWithout (wsV RX2 37 RX2 yX2_leastTime wsX2_leastTime) := goodIn_app (goodIn_of _ (by decide +kernel)) ggX2_timeWithout_X2_leastTime
set_option maxRecDepth 20000 in
theorem ggX2_timeWithout_X4_requestsReadTime : GoodIn wsX2_timeWithout wsX4_requestsReadTime := goodIn_r _ [88, 6, 7, 9, 10, 11, 4, 12, 13, 14, 89, 90, 91, 92, 75, 93, 94, 95, 96, 97, 98, 99, 100, 101, 102, 103, 104, 105, 106, 107, 108, 109, 110, 111, 112, 113, 114, 115, 116, 117, 118, 119] (by decide +kernel) (by decide +kernel)
set_option maxRecDepth 20000 in
theorem gX2_timeWithout_X4_requestsReadTime : GoodIn wsX2_timeWithout (wsV RX2 41 RX4 yX4_requestsReadTime wsX4_requestsReadTime) := goodIn_app (goodIn_of _ (by decide +kernel)) ggX2_timeWithout_X4_requestsReadTime
theorem dX2_timeWithout_0 : decode cX2_timeWithout 0 = .ok (.aload_n 1, 1) := by decide +kernel
theorem dX2_timeWithout_1 : decode cX2_timeWithout 1 = .ok (.iload_n 2, 1) := by decide +kernel
theorem dX2_timeWithout_2 : decode cX2_timeWithout 2 = .ok (.invokevirtual 28, 3) := by decide +kernel
theorem dX2_timeWithout_5 : decode cX2_timeWithout 5 = .ok (.istore_n 3, 1) := by decide +kernel
theorem dX2_timeWithout_6 : decode cX2_timeWithout 6 = .ok (.aload_n 0, 1) := by decide +kernel
theorem dX2_timeWithout_7 : decode cX2_timeWithout 7 = .ok (.aload_n 1, 1) := by decide +kernel
theorem dX2_timeWithout_8 : decode cX2_timeWithout 8 = .ok (.aload_n 1, 1) := by decide +kernel
theorem dX2_timeWithout_9 : decode cX2_timeWithout 9 = .ok (.iload_n 2, 1) := by decide +kernel
theorem dX2_timeWithout_10 : decode cX2_timeWithout 10 = .ok (.invokevirtual 34, 3) := by decide +kernel
theorem dX2_timeWithout_13 : decode cX2_timeWithout 13 = .ok (.iload_n 3, 1) := by decide +kernel
theorem dX2_timeWithout_14 : decode cX2_timeWithout 14 = .ok (.invokevirtual 37, 3) := by decide +kernel
theorem dX2_timeWithout_17 : decode cX2_timeWithout 17 = .ok (.istore 4, 2) := by decide +kernel
theorem dX2_timeWithout_19 : decode cX2_timeWithout 19 = .ok (.aload_n 1, 1) := by decide +kernel
theorem dX2_timeWithout_20 : decode cX2_timeWithout 20 = .ok (.iload_n 2, 1) := by decide +kernel
theorem dX2_timeWithout_21 : decode cX2_timeWithout 21 = .ok (.invokevirtual 41, 3) := by decide +kernel
theorem dX2_timeWithout_24 : decode cX2_timeWithout 24 = .ok (.iload 4, 2) := by decide +kernel
theorem dX2_timeWithout_26 : decode cX2_timeWithout 26 = .ok (.iadd, 1) := by decide +kernel
theorem dX2_timeWithout_27 : decode cX2_timeWithout 27 = .ok (.ireturn, 1) := by decide +kernel
set_option maxRecDepth 20000 in
theorem ggX2_planOrder_X4_awayPlatters : GoodIn wsX2_planOrder wsX4_awayPlatters := goodIn_r _ [9, 10, 11, 12, 13, 14, 15, 8, 16, 17, 18, 19, 20, 21, 22, 23, 24, 25, 103, 104, 105, 106, 107, 108, 109, 110, 111, 112, 113, 114, 115, 116, 117, 118, 119, 120, 121, 122, 123, 124, 125, 126, 127, 128, 129, 130] (by decide +kernel) (by decide +kernel)
set_option maxRecDepth 20000 in
theorem gX2_planOrder_X4_awayPlatters : GoodIn wsX2_planOrder (wsV RX2 28 RX4 yX4_awayPlatters wsX4_awayPlatters) := goodIn_app (goodIn_of _ (by decide +kernel)) ggX2_planOrder_X4_awayPlatters
set_option maxRecDepth 20000 in
theorem ggX2_planOrder_X4_driveAfterReading : GoodIn wsX2_planOrder wsX4_driveAfterReading := goodIn_r _ [29, 10, 11, 12, 13, 14, 15, 8, 16, 17, 18, 19, 20, 21, 22, 23, 24, 25, 30, 31, 32, 33, 34, 35, 103, 104, 105, 106, 107, 108, 109, 110, 111, 112, 113, 114, 115, 116, 117, 118, 119, 120, 121, 122, 123, 124, 125, 126, 127, 128, 129, 130] (by decide +kernel) (by decide +kernel)
set_option maxRecDepth 20000 in
theorem gX2_planOrder_X4_driveAfterReading : GoodIn wsX2_planOrder (wsV RX2 34 RX4 yX4_driveAfterReading wsX4_driveAfterReading) := goodIn_app (goodIn_of _ (by decide +kernel)) ggX2_planOrder_X4_driveAfterReading
set_option maxRecDepth 20000 in
theorem ggX2_planOrder_X4_hasDrive : GoodIn wsX2_planOrder wsX4_hasDrive := goodIn_r _ [39, 23, 103, 104, 105, 106, 107, 108, 109, 110, 111, 112, 113, 114, 115, 116, 117, 118, 119, 120] (by decide +kernel) (by decide +kernel)
set_option maxRecDepth 20000 in
theorem gX2_planOrder_X4_hasDrive : GoodIn wsX2_planOrder (wsV RX2 47 RX4 yX4_hasDrive wsX4_hasDrive) := goodIn_app (goodIn_of _ (by decide +kernel)) ggX2_planOrder_X4_hasDrive
set_option maxRecDepth 20000 in
theorem ggX2_planOrder_X2_leastTime : GoodIn wsX2_planOrder wsX2_leastTime := goodIn_r _ [44, 45, 46, 47, 3, 48, 49, 50, 51, 36, 37, 38, 8, 39, 23, 52, 53, 54, 43, 55, 56, 57, 58, 59, 60, 61, 62, 63, 64, 65, 66, 67, 68, 69, 70, 71, 72, 73, 74, 75, 76, 77, 24, 25, 78, 79, 80, 81, 82, 83, 84, 85, 86, 87, 96, 97, 98, 99, 100, 101, 102, 103, 104, 105, 106, 107, 108, 109, 110, 111, 112, 113, 114, 115, 116, 117, 118, 119, 120, 128, 129, 130, 131, 132, 133, 134, 135, 136, 137, 138, 139] (by decide +kernel) (by decide +kernel)
set_option maxRecDepth 20000 in
theorem gX2_planOrder_X2_leastTime : GoodIn wsX2_planOrder (wsV RX2 37 RX2 yX2_leastTime wsX2_leastTime) := goodIn_app (goodIn_of _ (by decide +kernel)) ggX2_planOrder_X2_leastTime
set_option maxRecDepth 20000 in
theorem ggX2_planOrder_X2_lowestNext : GoodIn wsX2_planOrder wsX2_lowestNext := goodIn_r _ [91, 3, 92, 93, 94, 43, 95, 1, 65, 74, 75, 76, 8, 77, 24, 25, 78, 79, 80, 81, 82, 83, 84, 85, 86, 87, 63, 50, 64, 96, 97, 98, 99, 100, 101, 102, 103, 104, 105, 106, 107, 108, 109, 110, 111, 112, 113, 114, 115, 116, 117, 118, 119, 120, 128, 129, 130, 131, 132, 133, 134, 135, 136, 137, 138, 139] (by decide +kernel) (by decide +kernel)
set_option maxRecDepth 20000 in
theorem gX2_planOrder_X2_lowestNext : GoodIn wsX2_planOrder (wsV RX2 51 RX2 yX2_lowestNext wsX2_lowestNext) := goodIn_app (goodIn_of _ (by decide +kernel)) ggX2_planOrder_X2_lowestNext
theorem dX2_planOrder_0 : decode cX2_planOrder 0 = .ok (.aload_n 1, 1) := by decide +kernel
theorem dX2_planOrder_1 : decode cX2_planOrder 1 = .ok (.iconst (-1), 1) := by decide +kernel
theorem dX2_planOrder_2 : decode cX2_planOrder 2 = .ok (.invokevirtual 28, 3) := by decide +kernel
theorem dX2_planOrder_5 : decode cX2_planOrder 5 = .ok (.istore_n 2, 1) := by decide +kernel
theorem dX2_planOrder_6 : decode cX2_planOrder 6 = .ok (.aload_n 0, 1) := by decide +kernel
theorem dX2_planOrder_7 : decode cX2_planOrder 7 = .ok (.aload_n 1, 1) := by decide +kernel
theorem dX2_planOrder_8 : decode cX2_planOrder 8 = .ok (.iconst (-1), 1) := by decide +kernel
theorem dX2_planOrder_9 : decode cX2_planOrder 9 = .ok (.invokevirtual 34, 3) := by decide +kernel
theorem dX2_planOrder_12 : decode cX2_planOrder 12 = .ok (.putfield 21, 3) := by decide +kernel
theorem dX2_planOrder_15 : decode cX2_planOrder 15 = .ok (.aload_n 0, 1) := by decide +kernel
theorem dX2_planOrder_16 : decode cX2_planOrder 16 = .ok (.iconst 0, 1) := by decide +kernel
theorem dX2_planOrder_17 : decode cX2_planOrder 17 = .ok (.putfield 44, 3) := by decide +kernel
theorem dX2_planOrder_20 : decode cX2_planOrder 20 = .ok (.aload_n 1, 1) := by decide +kernel
theorem dX2_planOrder_21 : decode cX2_planOrder 21 = .ok (.aload_n 0, 1) := by decide +kernel
theorem dX2_planOrder_22 : decode cX2_planOrder 22 = .ok (.getfield 21, 3) := by decide +kernel
theorem dX2_planOrder_25 : decode cX2_planOrder 25 = .ok (.invokevirtual 47, 3) := by decide +kernel
theorem dX2_planOrder_28 : decode cX2_planOrder 28 = .ok (.ifCond .ne 4, 3) := by decide +kernel
theorem dX2_planOrder_31 : decode cX2_planOrder 31 = .ok (.return_, 1) := by decide +kernel
theorem dX2_planOrder_32 : decode cX2_planOrder 32 = .ok (.aload_n 0, 1) := by decide +kernel
theorem dX2_planOrder_33 : decode cX2_planOrder 33 = .ok (.aload_n 1, 1) := by decide +kernel
theorem dX2_planOrder_34 : decode cX2_planOrder 34 = .ok (.aload_n 0, 1) := by decide +kernel
theorem dX2_planOrder_35 : decode cX2_planOrder 35 = .ok (.getfield 21, 3) := by decide +kernel
theorem dX2_planOrder_38 : decode cX2_planOrder 38 = .ok (.iload_n 2, 1) := by decide +kernel
theorem dX2_planOrder_39 : decode cX2_planOrder 39 = .ok (.invokevirtual 37, 3) := by decide +kernel
theorem dX2_planOrder_42 : decode cX2_planOrder 42 = .ok (.istore_n 3, 1) := by decide +kernel
theorem dX2_planOrder_43 : decode cX2_planOrder 43 = .ok (.iconst (-1), 1) := by decide +kernel
theorem dX2_planOrder_44 : decode cX2_planOrder 44 = .ok (.istore 4, 2) := by decide +kernel
theorem dX2_planOrder_46 : decode cX2_planOrder 46 = .ok (.iconst 0, 1) := by decide +kernel
theorem dX2_planOrder_47 : decode cX2_planOrder 47 = .ok (.istore 5, 2) := by decide +kernel
theorem dX2_planOrder_49 : decode cX2_planOrder 49 = .ok (.iload 5, 2) := by decide +kernel
theorem dX2_planOrder_51 : decode cX2_planOrder 51 = .ok (.bipush 10, 2) := by decide +kernel
theorem dX2_planOrder_53 : decode cX2_planOrder 53 = .ok (.if_icmp .ge 74, 3) := by decide +kernel
theorem dX2_planOrder_56 : decode cX2_planOrder 56 = .ok (.iload_n 2, 1) := by decide +kernel
theorem dX2_planOrder_57 : decode cX2_planOrder 57 = .ok (.ifCond .eq 70, 3) := by decide +kernel
theorem dX2_planOrder_60 : decode cX2_planOrder 60 = .ok (.aload_n 0, 1) := by decide +kernel
theorem dX2_planOrder_61 : decode cX2_planOrder 61 = .ok (.aload_n 1, 1) := by decide +kernel
theorem dX2_planOrder_62 : decode cX2_planOrder 62 = .ok (.iload 4, 2) := by decide +kernel
theorem dX2_planOrder_64 : decode cX2_planOrder 64 = .ok (.iload_n 2, 1) := by decide +kernel
theorem dX2_planOrder_65 : decode cX2_planOrder 65 = .ok (.iload_n 3, 1) := by decide +kernel
theorem dX2_planOrder_66 : decode cX2_planOrder 66 = .ok (.invokevirtual 51, 3) := by decide +kernel
theorem dX2_planOrder_69 : decode cX2_planOrder 69 = .ok (.istore 6, 2) := by decide +kernel
theorem dX2_planOrder_71 : decode cX2_planOrder 71 = .ok (.iload 6, 2) := by decide +kernel
theorem dX2_planOrder_73 : decode cX2_planOrder 73 = .ok (.iconst (-1), 1) := by decide +kernel
theorem dX2_planOrder_74 : decode cX2_planOrder 74 = .ok (.if_icmp .ne 4, 3) := by decide +kernel
theorem dX2_planOrder_77 : decode cX2_planOrder 77 = .ok (.return_, 1) := by decide +kernel
theorem dX2_planOrder_78 : decode cX2_planOrder 78 = .ok (.iload_n 2, 1) := by decide +kernel
theorem dX2_planOrder_79 : decode cX2_planOrder 79 = .ok (.iconst 1, 1) := by decide +kernel
theorem dX2_planOrder_80 : decode cX2_planOrder 80 = .ok (.iload 6, 2) := by decide +kernel
theorem dX2_planOrder_82 : decode cX2_planOrder 82 = .ok (.ishl, 1) := by decide +kernel
theorem dX2_planOrder_83 : decode cX2_planOrder 83 = .ok (.ixor, 1) := by decide +kernel
theorem dX2_planOrder_84 : decode cX2_planOrder 84 = .ok (.istore_n 2, 1) := by decide +kernel
theorem dX2_planOrder_85 : decode cX2_planOrder 85 = .ok (.aload_n 0, 1) := by decide +kernel
theorem dX2_planOrder_86 : decode cX2_planOrder 86 = .ok (.getfield 9, 3) := by decide +kernel
theorem dX2_planOrder_89 : decode cX2_planOrder 89 = .ok (.iload_n 2, 1) := by decide +kernel
theorem dX2_planOrder_90 : decode cX2_planOrder 90 = .ok (.bipush 10, 2) := by decide +kernel
theorem dX2_planOrder_92 : decode cX2_planOrder 92 = .ok (.imul, 1) := by decide +kernel
theorem dX2_planOrder_93 : decode cX2_planOrder 93 = .ok (.iload 6, 2) := by decide +kernel
theorem dX2_planOrder_95 : decode cX2_planOrder 95 = .ok (.iadd, 1) := by decide +kernel
theorem dX2_planOrder_96 : decode cX2_planOrder 96 = .ok (.iaload, 1) := by decide +kernel
theorem dX2_planOrder_97 : decode cX2_planOrder 97 = .ok (.istore_n 3, 1) := by decide +kernel
theorem dX2_planOrder_98 : decode cX2_planOrder 98 = .ok (.aload_n 0, 1) := by decide +kernel
theorem dX2_planOrder_99 : decode cX2_planOrder 99 = .ok (.getfield 18, 3) := by decide +kernel
theorem dX2_planOrder_102 : decode cX2_planOrder 102 = .ok (.iload 5, 2) := by decide +kernel
theorem dX2_planOrder_104 : decode cX2_planOrder 104 = .ok (.iload 6, 2) := by decide +kernel
theorem dX2_planOrder_106 : decode cX2_planOrder 106 = .ok (.iastore, 1) := by decide +kernel
theorem dX2_planOrder_107 : decode cX2_planOrder 107 = .ok (.aload_n 0, 1) := by decide +kernel
theorem dX2_planOrder_108 : decode cX2_planOrder 108 = .ok (.dup, 1) := by decide +kernel
theorem dX2_planOrder_109 : decode cX2_planOrder 109 = .ok (.getfield 44, 3) := by decide +kernel
theorem dX2_planOrder_112 : decode cX2_planOrder 112 = .ok (.iconst 1, 1) := by decide +kernel
theorem dX2_planOrder_113 : decode cX2_planOrder 113 = .ok (.iadd, 1) := by decide +kernel
theorem dX2_planOrder_114 : decode cX2_planOrder 114 = .ok (.putfield 44, 3) := by decide +kernel
theorem dX2_planOrder_117 : decode cX2_planOrder 117 = .ok (.iload 6, 2) := by decide +kernel
theorem dX2_planOrder_119 : decode cX2_planOrder 119 = .ok (.istore 4, 2) := by decide +kernel
theorem dX2_planOrder_121 : decode cX2_planOrder 121 = .ok (.iinc 5 1, 3) := by decide +kernel
theorem dX2_planOrder_124 : decode cX2_planOrder 124 = .ok (.goto (-75), 3) := by decide +kernel
theorem dX2_planOrder_127 : decode cX2_planOrder 127 = .ok (.return_, 1) := by decide +kernel
set_option maxRecDepth 20000 in
theorem ggX2_lowestNext_X2_stepTime : GoodIn wsX2_lowestNext wsX2_stepTime := goodIn_r _ [6, 7, 8, 9, 10, 11, 12, 13, 14, 15, 16, 17, 18, 19, 20, 21, 22, 23, 24, 25, 26, 27, 28, 29, 30, 31, 32, 33, 34, 35, 36, 37, 38, 39, 40, 41, 42, 43, 44, 45, 46, 47, 48, 49, 50, 51, 52, 53, 54, 55, 56, 57, 58, 59, 60, 61, 62, 63, 64, 65] (by decide +kernel) (by decide +kernel)
set_option maxRecDepth 20000 in
theorem gX2_lowestNext_X2_stepTime : GoodIn wsX2_lowestNext (wsV RX2 55 RX2 yX2_stepTime wsX2_stepTime) := goodIn_app (goodIn_of _ (by decide +kernel)) ggX2_lowestNext_X2_stepTime
theorem dX2_lowestNext_0 : decode cX2_lowestNext 0 = .ok (.iconst 0, 1) := by decide +kernel
theorem dX2_lowestNext_1 : decode cX2_lowestNext 1 = .ok (.istore 5, 2) := by decide +kernel
theorem dX2_lowestNext_3 : decode cX2_lowestNext 3 = .ok (.iload 5, 2) := by decide +kernel
theorem dX2_lowestNext_5 : decode cX2_lowestNext 5 = .ok (.bipush 10, 2) := by decide +kernel
theorem dX2_lowestNext_7 : decode cX2_lowestNext 7 = .ok (.if_icmp .ge 52, 3) := by decide +kernel
theorem dX2_lowestNext_10 : decode cX2_lowestNext 10 = .ok (.iload_n 3, 1) := by decide +kernel
theorem dX2_lowestNext_11 : decode cX2_lowestNext 11 = .ok (.iload 5, 2) := by decide +kernel
theorem dX2_lowestNext_13 : decode cX2_lowestNext 13 = .ok (.ishr, 1) := by decide +kernel
theorem dX2_lowestNext_14 : decode cX2_lowestNext 14 = .ok (.iconst 1, 1) := by decide +kernel
theorem dX2_lowestNext_15 : decode cX2_lowestNext 15 = .ok (.iand, 1) := by decide +kernel
theorem dX2_lowestNext_16 : decode cX2_lowestNext 16 = .ok (.ifCond .eq 37, 3) := by decide +kernel
theorem dX2_lowestNext_19 : decode cX2_lowestNext 19 = .ok (.aload_n 0, 1) := by decide +kernel
theorem dX2_lowestNext_20 : decode cX2_lowestNext 20 = .ok (.aload_n 1, 1) := by decide +kernel
theorem dX2_lowestNext_21 : decode cX2_lowestNext 21 = .ok (.iload_n 2, 1) := by decide +kernel
theorem dX2_lowestNext_22 : decode cX2_lowestNext 22 = .ok (.iload 5, 2) := by decide +kernel
theorem dX2_lowestNext_24 : decode cX2_lowestNext 24 = .ok (.invokevirtual 55, 3) := by decide +kernel
theorem dX2_lowestNext_27 : decode cX2_lowestNext 27 = .ok (.aload_n 0, 1) := by decide +kernel
theorem dX2_lowestNext_28 : decode cX2_lowestNext 28 = .ok (.getfield 9, 3) := by decide +kernel
theorem dX2_lowestNext_31 : decode cX2_lowestNext 31 = .ok (.iload_n 3, 1) := by decide +kernel
theorem dX2_lowestNext_32 : decode cX2_lowestNext 32 = .ok (.iconst 1, 1) := by decide +kernel
theorem dX2_lowestNext_33 : decode cX2_lowestNext 33 = .ok (.iload 5, 2) := by decide +kernel
theorem dX2_lowestNext_35 : decode cX2_lowestNext 35 = .ok (.ishl, 1) := by decide +kernel
theorem dX2_lowestNext_36 : decode cX2_lowestNext 36 = .ok (.ixor, 1) := by decide +kernel
theorem dX2_lowestNext_37 : decode cX2_lowestNext 37 = .ok (.bipush 10, 2) := by decide +kernel
theorem dX2_lowestNext_39 : decode cX2_lowestNext 39 = .ok (.imul, 1) := by decide +kernel
theorem dX2_lowestNext_40 : decode cX2_lowestNext 40 = .ok (.iload 5, 2) := by decide +kernel
theorem dX2_lowestNext_42 : decode cX2_lowestNext 42 = .ok (.iadd, 1) := by decide +kernel
theorem dX2_lowestNext_43 : decode cX2_lowestNext 43 = .ok (.iaload, 1) := by decide +kernel
theorem dX2_lowestNext_44 : decode cX2_lowestNext 44 = .ok (.iadd, 1) := by decide +kernel
theorem dX2_lowestNext_45 : decode cX2_lowestNext 45 = .ok (.iload 4, 2) := by decide +kernel
theorem dX2_lowestNext_47 : decode cX2_lowestNext 47 = .ok (.if_icmp .ne 6, 3) := by decide +kernel
theorem dX2_lowestNext_50 : decode cX2_lowestNext 50 = .ok (.iload 5, 2) := by decide +kernel
theorem dX2_lowestNext_52 : decode cX2_lowestNext 52 = .ok (.ireturn, 1) := by decide +kernel
theorem dX2_lowestNext_53 : decode cX2_lowestNext 53 = .ok (.iinc 5 1, 3) := by decide +kernel
theorem dX2_lowestNext_56 : decode cX2_lowestNext 56 = .ok (.goto (-53), 3) := by decide +kernel
theorem dX2_lowestNext_59 : decode cX2_lowestNext 59 = .ok (.iconst (-1), 1) := by decide +kernel
theorem dX2_lowestNext_60 : decode cX2_lowestNext 60 = .ok (.ireturn, 1) := by decide +kernel
set_option maxRecDepth 20000 in
theorem ggX2_stepTime_X4_bringTime : GoodIn wsX2_stepTime wsX4_bringTime := goodIn_r _ [7, 8, 9, 10, 11, 12, 13, 6, 14, 15, 16, 17, 18, 19, 20, 21, 22, 30, 31, 32, 33, 34, 35, 36, 37, 38, 39, 40, 41, 42, 43, 44, 45, 46, 47, 48, 49, 50, 51, 52, 53, 54, 55, 56, 57, 58, 59] (by decide +kernel) (by decide +kernel)
set_option maxRecDepth 20000 in
theorem gX2_stepTime_X4_bringTime : GoodIn wsX2_stepTime (wsV RX2 58 RX4 yX4_bringTime wsX4_bringTime) := goodIn_app (goodIn_of _ (by decide +kernel)) ggX2_stepTime_X4_bringTime
theorem dX2_stepTime_0 : decode cX2_stepTime 0 = .ok (.iload_n 2, 1) := by decide +kernel
theorem dX2_stepTime_1 : decode cX2_stepTime 1 = .ok (.iconst (-1), 1) := by decide +kernel
theorem dX2_stepTime_2 : decode cX2_stepTime 2 = .ok (.if_icmp .ne 13, 3) := by decide +kernel
theorem dX2_stepTime_5 : decode cX2_stepTime 5 = .ok (.aload_n 1, 1) := by decide +kernel
theorem dX2_stepTime_6 : decode cX2_stepTime 6 = .ok (.iload_n 3, 1) := by decide +kernel
theorem dX2_stepTime_7 : decode cX2_stepTime 7 = .ok (.aload_n 0, 1) := by decide +kernel
theorem dX2_stepTime_8 : decode cX2_stepTime 8 = .ok (.getfield 21, 3) := by decide +kernel
theorem dX2_stepTime_11 : decode cX2_stepTime 11 = .ok (.invokevirtual 58, 3) := by decide +kernel
theorem dX2_stepTime_14 : decode cX2_stepTime 14 = .ok (.ireturn, 1) := by decide +kernel
theorem dX2_stepTime_15 : decode cX2_stepTime 15 = .ok (.aload_n 0, 1) := by decide +kernel
theorem dX2_stepTime_16 : decode cX2_stepTime 16 = .ok (.getfield 15, 3) := by decide +kernel
theorem dX2_stepTime_19 : decode cX2_stepTime 19 = .ok (.iload_n 2, 1) := by decide +kernel
theorem dX2_stepTime_20 : decode cX2_stepTime 20 = .ok (.bipush 10, 2) := by decide +kernel
theorem dX2_stepTime_22 : decode cX2_stepTime 22 = .ok (.imul, 1) := by decide +kernel
theorem dX2_stepTime_23 : decode cX2_stepTime 23 = .ok (.iload_n 3, 1) := by decide +kernel
theorem dX2_stepTime_24 : decode cX2_stepTime 24 = .ok (.iadd, 1) := by decide +kernel
theorem dX2_stepTime_25 : decode cX2_stepTime 25 = .ok (.iaload, 1) := by decide +kernel
theorem dX2_stepTime_26 : decode cX2_stepTime 26 = .ok (.ireturn, 1) := by decide +kernel
set_option maxRecDepth 20000 in
theorem ggX2_leastTime_X4_hasDrive : GoodIn wsX2_leastTime wsX4_hasDrive := goodIn_r _ [13, 14, 61, 62, 63, 64, 65, 66, 67, 68, 69, 70, 71, 72, 73, 74, 75, 76, 77, 78] (by decide +kernel) (by decide +kernel)
set_option maxRecDepth 20000 in
theorem gX2_leastTime_X4_hasDrive : GoodIn wsX2_leastTime (wsV RX2 47 RX4 yX4_hasDrive wsX4_hasDrive) := goodIn_app (goodIn_of _ (by decide +kernel)) ggX2_leastTime_X4_hasDrive
set_option maxRecDepth 20000 in
theorem ggX2_leastTime_X2_fillSwap : GoodIn wsX2_leastTime wsX2_fillSwap := goodIn_r _ [19, 20, 21, 22, 23, 24, 25, 26, 27, 7, 28, 29, 61, 62, 63, 64, 65, 66, 67, 68, 69, 70, 71, 72, 73, 74, 75, 76, 77, 78, 79, 80, 81, 82, 83, 84, 85, 86, 87, 88, 89, 90, 54, 55, 56, 57, 58, 59, 60] (by decide +kernel) (by decide +kernel)
set_option maxRecDepth 20000 in
theorem gX2_leastTime_X2_fillSwap : GoodIn wsX2_leastTime (wsV RX2 65 RX2 yX2_fillSwap wsX2_fillSwap) := goodIn_app (goodIn_of _ (by decide +kernel)) ggX2_leastTime_X2_fillSwap
set_option maxRecDepth 20000 in
theorem ggX2_leastTime_X2_fillRest : GoodIn wsX2_leastTime wsX2_fillRest := goodIn_r _ [33, 4, 34, 35, 36, 18, 37, 3, 29, 5, 6, 7, 8, 54, 55, 56, 57, 58, 59, 60] (by decide +kernel) (by decide +kernel)
set_option maxRecDepth 20000 in
theorem gX2_leastTime_X2_fillRest : GoodIn wsX2_leastTime (wsV RX2 69 RX2 yX2_fillRest wsX2_fillRest) := goodIn_app (goodIn_of _ (by decide +kernel)) ggX2_leastTime_X2_fillRest
set_option maxRecDepth 20000 in
theorem ggX2_leastTime_X4_bringTime : GoodIn wsX2_leastTime wsX4_bringTime := goodIn_r _ [41, 42, 43, 44, 45, 46, 47, 12, 48, 49, 50, 51, 52, 53, 27, 7, 28, 61, 62, 63, 64, 65, 66, 67, 68, 69, 70, 71, 72, 73, 74, 75, 76, 77, 78, 79, 80, 81, 82, 83, 84, 85, 86, 87, 88, 89, 90] (by decide +kernel) (by decide +kernel)
set_option maxRecDepth 20000 in
theorem gX2_leastTime_X4_bringTime : GoodIn wsX2_leastTime (wsV RX2 58 RX4 yX4_bringTime wsX4_bringTime) := goodIn_app (goodIn_of _ (by decide +kernel)) ggX2_leastTime_X4_bringTime
theorem dX2_leastTime_0 : decode cX2_leastTime 0 = .ok (.iload_n 3, 1) := by decide +kernel
theorem dX2_leastTime_1 : decode cX2_leastTime 1 = .ok (.ifCond .eq 11, 3) := by decide +kernel
theorem dX2_leastTime_4 : decode cX2_leastTime 4 = .ok (.aload_n 1, 1) := by decide +kernel
theorem dX2_leastTime_5 : decode cX2_leastTime 5 = .ok (.iload_n 2, 1) := by decide +kernel
theorem dX2_leastTime_6 : decode cX2_leastTime 6 = .ok (.invokevirtual 47, 3) := by decide +kernel
theorem dX2_leastTime_9 : decode cX2_leastTime 9 = .ok (.ifCond .ne 5, 3) := by decide +kernel
theorem dX2_leastTime_12 : decode cX2_leastTime 12 = .ok (.iconst 0, 1) := by decide +kernel
theorem dX2_leastTime_13 : decode cX2_leastTime 13 = .ok (.ireturn, 1) := by decide +kernel
theorem dX2_leastTime_14 : decode cX2_leastTime 14 = .ok (.aload_n 0, 1) := by decide +kernel
theorem dX2_leastTime_15 : decode cX2_leastTime 15 = .ok (.getfield 25, 3) := by decide +kernel
theorem dX2_leastTime_18 : decode cX2_leastTime 18 = .ok (.iload_n 2, 1) := by decide +kernel
theorem dX2_leastTime_19 : decode cX2_leastTime 19 = .ok (.if_icmp .ne 14, 3) := by decide +kernel
theorem dX2_leastTime_22 : decode cX2_leastTime 22 = .ok (.iload_n 3, 1) := by decide +kernel
theorem dX2_leastTime_23 : decode cX2_leastTime 23 = .ok (.aload_n 0, 1) := by decide +kernel
theorem dX2_leastTime_24 : decode cX2_leastTime 24 = .ok (.getfield 62, 3) := by decide +kernel
theorem dX2_leastTime_27 : decode cX2_leastTime 27 = .ok (.iconst (-1), 1) := by decide +kernel
theorem dX2_leastTime_28 : decode cX2_leastTime 28 = .ok (.ixor, 1) := by decide +kernel
theorem dX2_leastTime_29 : decode cX2_leastTime 29 = .ok (.iand, 1) := by decide +kernel
theorem dX2_leastTime_30 : decode cX2_leastTime 30 = .ok (.ifCond .eq 24, 3) := by decide +kernel
theorem dX2_leastTime_33 : decode cX2_leastTime 33 = .ok (.aload_n 0, 1) := by decide +kernel
theorem dX2_leastTime_34 : decode cX2_leastTime 34 = .ok (.aload_n 1, 1) := by decide +kernel
theorem dX2_leastTime_35 : decode cX2_leastTime 35 = .ok (.iload_n 2, 1) := by decide +kernel
theorem dX2_leastTime_36 : decode cX2_leastTime 36 = .ok (.invokevirtual 65, 3) := by decide +kernel
theorem dX2_leastTime_39 : decode cX2_leastTime 39 = .ok (.aload_n 0, 1) := by decide +kernel
theorem dX2_leastTime_40 : decode cX2_leastTime 40 = .ok (.iload_n 3, 1) := by decide +kernel
theorem dX2_leastTime_41 : decode cX2_leastTime 41 = .ok (.invokevirtual 69, 3) := by decide +kernel
theorem dX2_leastTime_44 : decode cX2_leastTime 44 = .ok (.aload_n 0, 1) := by decide +kernel
theorem dX2_leastTime_45 : decode cX2_leastTime 45 = .ok (.iload_n 2, 1) := by decide +kernel
theorem dX2_leastTime_46 : decode cX2_leastTime 46 = .ok (.putfield 25, 3) := by decide +kernel
theorem dX2_leastTime_49 : decode cX2_leastTime 49 = .ok (.aload_n 0, 1) := by decide +kernel
theorem dX2_leastTime_50 : decode cX2_leastTime 50 = .ok (.iload_n 3, 1) := by decide +kernel
theorem dX2_leastTime_51 : decode cX2_leastTime 51 = .ok (.putfield 62, 3) := by decide +kernel
theorem dX2_leastTime_54 : decode cX2_leastTime 54 = .ok (.ldc 75, 2) := by decide +kernel
theorem dX2_leastTime_56 : decode cX2_leastTime 56 = .ok (.istore 4, 2) := by decide +kernel
theorem dX2_leastTime_58 : decode cX2_leastTime 58 = .ok (.iconst 0, 1) := by decide +kernel
theorem dX2_leastTime_59 : decode cX2_leastTime 59 = .ok (.istore 5, 2) := by decide +kernel
theorem dX2_leastTime_61 : decode cX2_leastTime 61 = .ok (.iload 5, 2) := by decide +kernel
theorem dX2_leastTime_63 : decode cX2_leastTime 63 = .ok (.bipush 10, 2) := by decide +kernel
theorem dX2_leastTime_65 : decode cX2_leastTime 65 = .ok (.if_icmp .ge 54, 3) := by decide +kernel
theorem dX2_leastTime_68 : decode cX2_leastTime 68 = .ok (.iload_n 3, 1) := by decide +kernel
theorem dX2_leastTime_69 : decode cX2_leastTime 69 = .ok (.iload 5, 2) := by decide +kernel
theorem dX2_leastTime_71 : decode cX2_leastTime 71 = .ok (.ishr, 1) := by decide +kernel
theorem dX2_leastTime_72 : decode cX2_leastTime 72 = .ok (.iconst 1, 1) := by decide +kernel
theorem dX2_leastTime_73 : decode cX2_leastTime 73 = .ok (.iand, 1) := by decide +kernel
theorem dX2_leastTime_74 : decode cX2_leastTime 74 = .ok (.ifCond .eq 39, 3) := by decide +kernel
theorem dX2_leastTime_77 : decode cX2_leastTime 77 = .ok (.aload_n 0, 1) := by decide +kernel
theorem dX2_leastTime_78 : decode cX2_leastTime 78 = .ok (.getfield 9, 3) := by decide +kernel
theorem dX2_leastTime_81 : decode cX2_leastTime 81 = .ok (.iload_n 3, 1) := by decide +kernel
theorem dX2_leastTime_82 : decode cX2_leastTime 82 = .ok (.iconst 1, 1) := by decide +kernel
theorem dX2_leastTime_83 : decode cX2_leastTime 83 = .ok (.iload 5, 2) := by decide +kernel
theorem dX2_leastTime_85 : decode cX2_leastTime 85 = .ok (.ishl, 1) := by decide +kernel
theorem dX2_leastTime_86 : decode cX2_leastTime 86 = .ok (.ixor, 1) := by decide +kernel
theorem dX2_leastTime_87 : decode cX2_leastTime 87 = .ok (.bipush 10, 2) := by decide +kernel
theorem dX2_leastTime_89 : decode cX2_leastTime 89 = .ok (.imul, 1) := by decide +kernel
theorem dX2_leastTime_90 : decode cX2_leastTime 90 = .ok (.iload 5, 2) := by decide +kernel
theorem dX2_leastTime_92 : decode cX2_leastTime 92 = .ok (.iadd, 1) := by decide +kernel
theorem dX2_leastTime_93 : decode cX2_leastTime 93 = .ok (.iaload, 1) := by decide +kernel
theorem dX2_leastTime_94 : decode cX2_leastTime 94 = .ok (.istore 6, 2) := by decide +kernel
theorem dX2_leastTime_96 : decode cX2_leastTime 96 = .ok (.iload 4, 2) := by decide +kernel
theorem dX2_leastTime_98 : decode cX2_leastTime 98 = .ok (.aload_n 1, 1) := by decide +kernel
theorem dX2_leastTime_99 : decode cX2_leastTime 99 = .ok (.iload 5, 2) := by decide +kernel
theorem dX2_leastTime_101 : decode cX2_leastTime 101 = .ok (.iload_n 2, 1) := by decide +kernel
theorem dX2_leastTime_102 : decode cX2_leastTime 102 = .ok (.invokevirtual 58, 3) := by decide +kernel
theorem dX2_leastTime_105 : decode cX2_leastTime 105 = .ok (.iload 6, 2) := by decide +kernel
theorem dX2_leastTime_107 : decode cX2_leastTime 107 = .ok (.iadd, 1) := by decide +kernel
theorem dX2_leastTime_108 : decode cX2_leastTime 108 = .ok (.invokestatic 76, 3) := by decide +kernel
theorem dX2_leastTime_111 : decode cX2_leastTime 111 = .ok (.istore 4, 2) := by decide +kernel
theorem dX2_leastTime_113 : decode cX2_leastTime 113 = .ok (.iinc 5 1, 3) := by decide +kernel
theorem dX2_leastTime_116 : decode cX2_leastTime 116 = .ok (.goto (-55), 3) := by decide +kernel
theorem dX2_leastTime_119 : decode cX2_leastTime 119 = .ok (.iload 4, 2) := by decide +kernel
theorem dX2_leastTime_121 : decode cX2_leastTime 121 = .ok (.ireturn, 1) := by decide +kernel
theorem dX2_fillSwap_0 : decode cX2_fillSwap 0 = .ok (.aload_n 1, 1) := by decide +kernel
theorem dX2_fillSwap_1 : decode cX2_fillSwap 1 = .ok (.getfield 81, 3) := by decide +kernel
theorem dX2_fillSwap_4 : decode cX2_fillSwap 4 = .ok (.iload_n 2, 1) := by decide +kernel
theorem dX2_fillSwap_5 : decode cX2_fillSwap 5 = .ok (.aaload, 1) := by decide +kernel
theorem dX2_fillSwap_6 : decode cX2_fillSwap 6 = .ok (.getfield 85, 3) := by decide +kernel
theorem dX2_fillSwap_9 : decode cX2_fillSwap 9 = .ok (.istore_n 3, 1) := by decide +kernel
theorem dX2_fillSwap_10 : decode cX2_fillSwap 10 = .ok (.iconst 4, 1) := by decide +kernel
theorem dX2_fillSwap_11 : decode cX2_fillSwap 11 = .ok (.aload_n 1, 1) := by decide +kernel
theorem dX2_fillSwap_12 : decode cX2_fillSwap 12 = .ok (.getfield 90, 3) := by decide +kernel
theorem dX2_fillSwap_15 : decode cX2_fillSwap 15 = .ok (.iconst 1, 1) := by decide +kernel
theorem dX2_fillSwap_16 : decode cX2_fillSwap 16 = .ok (.iaload, 1) := by decide +kernel
theorem dX2_fillSwap_17 : decode cX2_fillSwap 17 = .ok (.imul, 1) := by decide +kernel
theorem dX2_fillSwap_18 : decode cX2_fillSwap 18 = .ok (.aload_n 1, 1) := by decide +kernel
theorem dX2_fillSwap_19 : decode cX2_fillSwap 19 = .ok (.getfield 90, 3) := by decide +kernel
theorem dX2_fillSwap_22 : decode cX2_fillSwap 22 = .ok (.iconst 2, 1) := by decide +kernel
theorem dX2_fillSwap_23 : decode cX2_fillSwap 23 = .ok (.iaload, 1) := by decide +kernel
theorem dX2_fillSwap_24 : decode cX2_fillSwap 24 = .ok (.iadd, 1) := by decide +kernel
theorem dX2_fillSwap_25 : decode cX2_fillSwap 25 = .ok (.istore 4, 2) := by decide +kernel
theorem dX2_fillSwap_27 : decode cX2_fillSwap 27 = .ok (.iconst 0, 1) := by decide +kernel
theorem dX2_fillSwap_28 : decode cX2_fillSwap 28 = .ok (.istore 5, 2) := by decide +kernel
theorem dX2_fillSwap_30 : decode cX2_fillSwap 30 = .ok (.iload 5, 2) := by decide +kernel
theorem dX2_fillSwap_32 : decode cX2_fillSwap 32 = .ok (.aload_n 1, 1) := by decide +kernel
theorem dX2_fillSwap_33 : decode cX2_fillSwap 33 = .ok (.getfield 93, 3) := by decide +kernel
theorem dX2_fillSwap_36 : decode cX2_fillSwap 36 = .ok (.if_icmp .ge 102, 3) := by decide +kernel
theorem dX2_fillSwap_39 : decode cX2_fillSwap 39 = .ok (.aload_n 1, 1) := by decide +kernel
theorem dX2_fillSwap_40 : decode cX2_fillSwap 40 = .ok (.getfield 96, 3) := by decide +kernel
theorem dX2_fillSwap_43 : decode cX2_fillSwap 43 = .ok (.iload 5, 2) := by decide +kernel
theorem dX2_fillSwap_45 : decode cX2_fillSwap 45 = .ok (.aaload, 1) := by decide +kernel
theorem dX2_fillSwap_46 : decode cX2_fillSwap 46 = .ok (.getfield 100, 3) := by decide +kernel
theorem dX2_fillSwap_49 : decode cX2_fillSwap 49 = .ok (.istore 6, 2) := by decide +kernel
theorem dX2_fillSwap_51 : decode cX2_fillSwap 51 = .ok (.iconst 0, 1) := by decide +kernel
theorem dX2_fillSwap_52 : decode cX2_fillSwap 52 = .ok (.istore 7, 2) := by decide +kernel
theorem dX2_fillSwap_54 : decode cX2_fillSwap 54 = .ok (.iload 7, 2) := by decide +kernel
theorem dX2_fillSwap_56 : decode cX2_fillSwap 56 = .ok (.aload_n 1, 1) := by decide +kernel
theorem dX2_fillSwap_57 : decode cX2_fillSwap 57 = .ok (.getfield 93, 3) := by decide +kernel
theorem dX2_fillSwap_60 : decode cX2_fillSwap 60 = .ok (.if_icmp .ge 72, 3) := by decide +kernel
theorem dX2_fillSwap_63 : decode cX2_fillSwap 63 = .ok (.aload_n 1, 1) := by decide +kernel
theorem dX2_fillSwap_64 : decode cX2_fillSwap 64 = .ok (.getfield 96, 3) := by decide +kernel
theorem dX2_fillSwap_67 : decode cX2_fillSwap 67 = .ok (.iload 7, 2) := by decide +kernel
theorem dX2_fillSwap_69 : decode cX2_fillSwap 69 = .ok (.aaload, 1) := by decide +kernel
theorem dX2_fillSwap_70 : decode cX2_fillSwap 70 = .ok (.getfield 100, 3) := by decide +kernel
theorem dX2_fillSwap_73 : decode cX2_fillSwap 73 = .ok (.istore 8, 2) := by decide +kernel
theorem dX2_fillSwap_75 : decode cX2_fillSwap 75 = .ok (.iload_n 3, 1) := by decide +kernel
theorem dX2_fillSwap_76 : decode cX2_fillSwap 76 = .ok (.iload 6, 2) := by decide +kernel
theorem dX2_fillSwap_78 : decode cX2_fillSwap 78 = .ok (.isub, 1) := by decide +kernel
theorem dX2_fillSwap_79 : decode cX2_fillSwap 79 = .ok (.invokestatic 105, 3) := by decide +kernel
theorem dX2_fillSwap_82 : decode cX2_fillSwap 82 = .ok (.iload 6, 2) := by decide +kernel
theorem dX2_fillSwap_84 : decode cX2_fillSwap 84 = .ok (.iload 8, 2) := by decide +kernel
theorem dX2_fillSwap_86 : decode cX2_fillSwap 86 = .ok (.isub, 1) := by decide +kernel
theorem dX2_fillSwap_87 : decode cX2_fillSwap 87 = .ok (.invokestatic 105, 3) := by decide +kernel
theorem dX2_fillSwap_90 : decode cX2_fillSwap 90 = .ok (.iadd, 1) := by decide +kernel
theorem dX2_fillSwap_91 : decode cX2_fillSwap 91 = .ok (.iload 8, 2) := by decide +kernel
theorem dX2_fillSwap_93 : decode cX2_fillSwap 93 = .ok (.iload_n 3, 1) := by decide +kernel
theorem dX2_fillSwap_94 : decode cX2_fillSwap 94 = .ok (.isub, 1) := by decide +kernel
theorem dX2_fillSwap_95 : decode cX2_fillSwap 95 = .ok (.invokestatic 105, 3) := by decide +kernel
theorem dX2_fillSwap_98 : decode cX2_fillSwap 98 = .ok (.iadd, 1) := by decide +kernel
theorem dX2_fillSwap_99 : decode cX2_fillSwap 99 = .ok (.istore 9, 2) := by decide +kernel
theorem dX2_fillSwap_101 : decode cX2_fillSwap 101 = .ok (.aload_n 0, 1) := by decide +kernel
theorem dX2_fillSwap_102 : decode cX2_fillSwap 102 = .ok (.getfield 15, 3) := by decide +kernel
theorem dX2_fillSwap_105 : decode cX2_fillSwap 105 = .ok (.iload 5, 2) := by decide +kernel
theorem dX2_fillSwap_107 : decode cX2_fillSwap 107 = .ok (.bipush 10, 2) := by decide +kernel
theorem dX2_fillSwap_109 : decode cX2_fillSwap 109 = .ok (.imul, 1) := by decide +kernel
theorem dX2_fillSwap_110 : decode cX2_fillSwap 110 = .ok (.iload 7, 2) := by decide +kernel
theorem dX2_fillSwap_112 : decode cX2_fillSwap 112 = .ok (.iadd, 1) := by decide +kernel
theorem dX2_fillSwap_113 : decode cX2_fillSwap 113 = .ok (.iload 9, 2) := by decide +kernel
theorem dX2_fillSwap_115 : decode cX2_fillSwap 115 = .ok (.aload_n 1, 1) := by decide +kernel
theorem dX2_fillSwap_116 : decode cX2_fillSwap 116 = .ok (.getfield 90, 3) := by decide +kernel
theorem dX2_fillSwap_119 : decode cX2_fillSwap 119 = .ok (.iconst 0, 1) := by decide +kernel
theorem dX2_fillSwap_120 : decode cX2_fillSwap 120 = .ok (.iaload, 1) := by decide +kernel
theorem dX2_fillSwap_121 : decode cX2_fillSwap 121 = .ok (.imul, 1) := by decide +kernel
theorem dX2_fillSwap_122 : decode cX2_fillSwap 122 = .ok (.iload 4, 2) := by decide +kernel
theorem dX2_fillSwap_124 : decode cX2_fillSwap 124 = .ok (.iadd, 1) := by decide +kernel
theorem dX2_fillSwap_125 : decode cX2_fillSwap 125 = .ok (.iastore, 1) := by decide +kernel
theorem dX2_fillSwap_126 : decode cX2_fillSwap 126 = .ok (.iinc 7 1, 3) := by decide +kernel
theorem dX2_fillSwap_129 : decode cX2_fillSwap 129 = .ok (.goto (-75), 3) := by decide +kernel
theorem dX2_fillSwap_132 : decode cX2_fillSwap 132 = .ok (.iinc 5 1, 3) := by decide +kernel
theorem dX2_fillSwap_135 : decode cX2_fillSwap 135 = .ok (.goto (-105), 3) := by decide +kernel
theorem dX2_fillSwap_138 : decode cX2_fillSwap 138 = .ok (.return_, 1) := by decide +kernel
set_option maxRecDepth 20000 in
theorem ggX2_fillRest_X2_restAfter : GoodIn wsX2_fillRest wsX2_restAfter := goodIn_r _ [6, 7, 1, 8, 9, 10, 11, 12, 13, 14, 15, 16, 17, 18, 19] (by decide +kernel) (by decide +kernel)
set_option maxRecDepth 20000 in
theorem gX2_fillRest_X2_restAfter : GoodIn wsX2_fillRest (wsV RX2 108 RX2 yX2_restAfter wsX2_restAfter) := goodIn_app (goodIn_of _ (by decide +kernel)) ggX2_fillRest_X2_restAfter
theorem dX2_fillRest_0 : decode cX2_fillRest 0 = .ok (.iconst 0, 1) := by decide +kernel
theorem dX2_fillRest_1 : decode cX2_fillRest 1 = .ok (.istore_n 2, 1) := by decide +kernel
theorem dX2_fillRest_2 : decode cX2_fillRest 2 = .ok (.iload_n 2, 1) := by decide +kernel
theorem dX2_fillRest_3 : decode cX2_fillRest 3 = .ok (.iload_n 1, 1) := by decide +kernel
theorem dX2_fillRest_4 : decode cX2_fillRest 4 = .ok (.if_icmp .ge 64, 3) := by decide +kernel
theorem dX2_fillRest_7 : decode cX2_fillRest 7 = .ok (.iload_n 2, 1) := by decide +kernel
theorem dX2_fillRest_8 : decode cX2_fillRest 8 = .ok (.iload_n 1, 1) := by decide +kernel
theorem dX2_fillRest_9 : decode cX2_fillRest 9 = .ok (.iconst (-1), 1) := by decide +kernel
theorem dX2_fillRest_10 : decode cX2_fillRest 10 = .ok (.ixor, 1) := by decide +kernel
theorem dX2_fillRest_11 : decode cX2_fillRest 11 = .ok (.iand, 1) := by decide +kernel
theorem dX2_fillRest_12 : decode cX2_fillRest 12 = .ok (.ifCond .ne 50, 3) := by decide +kernel
theorem dX2_fillRest_15 : decode cX2_fillRest 15 = .ok (.iconst 0, 1) := by decide +kernel
theorem dX2_fillRest_16 : decode cX2_fillRest 16 = .ok (.istore_n 3, 1) := by decide +kernel
theorem dX2_fillRest_17 : decode cX2_fillRest 17 = .ok (.iload_n 3, 1) := by decide +kernel
theorem dX2_fillRest_18 : decode cX2_fillRest 18 = .ok (.bipush 10, 2) := by decide +kernel
theorem dX2_fillRest_20 : decode cX2_fillRest 20 = .ok (.if_icmp .ge 42, 3) := by decide +kernel
theorem dX2_fillRest_23 : decode cX2_fillRest 23 = .ok (.iload_n 1, 1) := by decide +kernel
theorem dX2_fillRest_24 : decode cX2_fillRest 24 = .ok (.iload_n 3, 1) := by decide +kernel
theorem dX2_fillRest_25 : decode cX2_fillRest 25 = .ok (.ishr, 1) := by decide +kernel
theorem dX2_fillRest_26 : decode cX2_fillRest 26 = .ok (.iconst 1, 1) := by decide +kernel
theorem dX2_fillRest_27 : decode cX2_fillRest 27 = .ok (.iand, 1) := by decide +kernel
theorem dX2_fillRest_28 : decode cX2_fillRest 28 = .ok (.ifCond .eq 28, 3) := by decide +kernel
theorem dX2_fillRest_31 : decode cX2_fillRest 31 = .ok (.iload_n 2, 1) := by decide +kernel
theorem dX2_fillRest_32 : decode cX2_fillRest 32 = .ok (.iload_n 3, 1) := by decide +kernel
theorem dX2_fillRest_33 : decode cX2_fillRest 33 = .ok (.ishr, 1) := by decide +kernel
theorem dX2_fillRest_34 : decode cX2_fillRest 34 = .ok (.iconst 1, 1) := by decide +kernel
theorem dX2_fillRest_35 : decode cX2_fillRest 35 = .ok (.iand, 1) := by decide +kernel
theorem dX2_fillRest_36 : decode cX2_fillRest 36 = .ok (.ifCond .ne 20, 3) := by decide +kernel
theorem dX2_fillRest_39 : decode cX2_fillRest 39 = .ok (.aload_n 0, 1) := by decide +kernel
theorem dX2_fillRest_40 : decode cX2_fillRest 40 = .ok (.getfield 9, 3) := by decide +kernel
theorem dX2_fillRest_43 : decode cX2_fillRest 43 = .ok (.iload_n 2, 1) := by decide +kernel
theorem dX2_fillRest_44 : decode cX2_fillRest 44 = .ok (.bipush 10, 2) := by decide +kernel
theorem dX2_fillRest_46 : decode cX2_fillRest 46 = .ok (.imul, 1) := by decide +kernel
theorem dX2_fillRest_47 : decode cX2_fillRest 47 = .ok (.iload_n 3, 1) := by decide +kernel
theorem dX2_fillRest_48 : decode cX2_fillRest 48 = .ok (.iadd, 1) := by decide +kernel
theorem dX2_fillRest_49 : decode cX2_fillRest 49 = .ok (.aload_n 0, 1) := by decide +kernel
theorem dX2_fillRest_50 : decode cX2_fillRest 50 = .ok (.iload_n 3, 1) := by decide +kernel
theorem dX2_fillRest_51 : decode cX2_fillRest 51 = .ok (.iload_n 2, 1) := by decide +kernel
theorem dX2_fillRest_52 : decode cX2_fillRest 52 = .ok (.invokevirtual 108, 3) := by decide +kernel
theorem dX2_fillRest_55 : decode cX2_fillRest 55 = .ok (.iastore, 1) := by decide +kernel
theorem dX2_fillRest_56 : decode cX2_fillRest 56 = .ok (.iinc 3 1, 3) := by decide +kernel
theorem dX2_fillRest_59 : decode cX2_fillRest 59 = .ok (.goto (-42), 3) := by decide +kernel
theorem dX2_fillRest_62 : decode cX2_fillRest 62 = .ok (.iinc 2 1, 3) := by decide +kernel
theorem dX2_fillRest_65 : decode cX2_fillRest 65 = .ok (.goto (-63), 3) := by decide +kernel
theorem dX2_fillRest_68 : decode cX2_fillRest 68 = .ok (.return_, 1) := by decide +kernel
theorem dX2_restAfter_0 : decode cX2_restAfter 0 = .ok (.iload_n 2, 1) := by decide +kernel
theorem dX2_restAfter_1 : decode cX2_restAfter 1 = .ok (.ifCond .ne 5, 3) := by decide +kernel
theorem dX2_restAfter_4 : decode cX2_restAfter 4 = .ok (.iconst 0, 1) := by decide +kernel
theorem dX2_restAfter_5 : decode cX2_restAfter 5 = .ok (.ireturn, 1) := by decide +kernel
theorem dX2_restAfter_6 : decode cX2_restAfter 6 = .ok (.ldc 75, 2) := by decide +kernel
theorem dX2_restAfter_8 : decode cX2_restAfter 8 = .ok (.istore_n 3, 1) := by decide +kernel
theorem dX2_restAfter_9 : decode cX2_restAfter 9 = .ok (.iconst 0, 1) := by decide +kernel
theorem dX2_restAfter_10 : decode cX2_restAfter 10 = .ok (.istore 4, 2) := by decide +kernel
theorem dX2_restAfter_12 : decode cX2_restAfter 12 = .ok (.iload 4, 2) := by decide +kernel
theorem dX2_restAfter_14 : decode cX2_restAfter 14 = .ok (.bipush 10, 2) := by decide +kernel
theorem dX2_restAfter_16 : decode cX2_restAfter 16 = .ok (.if_icmp .ge 57, 3) := by decide +kernel
theorem dX2_restAfter_19 : decode cX2_restAfter 19 = .ok (.iload_n 2, 1) := by decide +kernel
theorem dX2_restAfter_20 : decode cX2_restAfter 20 = .ok (.iload 4, 2) := by decide +kernel
theorem dX2_restAfter_22 : decode cX2_restAfter 22 = .ok (.ishr, 1) := by decide +kernel
theorem dX2_restAfter_23 : decode cX2_restAfter 23 = .ok (.iconst 1, 1) := by decide +kernel
theorem dX2_restAfter_24 : decode cX2_restAfter 24 = .ok (.iand, 1) := by decide +kernel
theorem dX2_restAfter_25 : decode cX2_restAfter 25 = .ok (.ifCond .eq 42, 3) := by decide +kernel
theorem dX2_restAfter_28 : decode cX2_restAfter 28 = .ok (.aload_n 0, 1) := by decide +kernel
theorem dX2_restAfter_29 : decode cX2_restAfter 29 = .ok (.getfield 9, 3) := by decide +kernel
theorem dX2_restAfter_32 : decode cX2_restAfter 32 = .ok (.iload_n 2, 1) := by decide +kernel
theorem dX2_restAfter_33 : decode cX2_restAfter 33 = .ok (.iconst 1, 1) := by decide +kernel
theorem dX2_restAfter_34 : decode cX2_restAfter 34 = .ok (.iload 4, 2) := by decide +kernel
theorem dX2_restAfter_36 : decode cX2_restAfter 36 = .ok (.ishl, 1) := by decide +kernel
theorem dX2_restAfter_37 : decode cX2_restAfter 37 = .ok (.ixor, 1) := by decide +kernel
theorem dX2_restAfter_38 : decode cX2_restAfter 38 = .ok (.bipush 10, 2) := by decide +kernel
theorem dX2_restAfter_40 : decode cX2_restAfter 40 = .ok (.imul, 1) := by decide +kernel
theorem dX2_restAfter_41 : decode cX2_restAfter 41 = .ok (.iload 4, 2) := by decide +kernel
theorem dX2_restAfter_43 : decode cX2_restAfter 43 = .ok (.iadd, 1) := by decide +kernel
theorem dX2_restAfter_44 : decode cX2_restAfter 44 = .ok (.iaload, 1) := by decide +kernel
theorem dX2_restAfter_45 : decode cX2_restAfter 45 = .ok (.istore 5, 2) := by decide +kernel
theorem dX2_restAfter_47 : decode cX2_restAfter 47 = .ok (.iload_n 3, 1) := by decide +kernel
theorem dX2_restAfter_48 : decode cX2_restAfter 48 = .ok (.aload_n 0, 1) := by decide +kernel
theorem dX2_restAfter_49 : decode cX2_restAfter 49 = .ok (.getfield 15, 3) := by decide +kernel
theorem dX2_restAfter_52 : decode cX2_restAfter 52 = .ok (.iload_n 1, 1) := by decide +kernel
theorem dX2_restAfter_53 : decode cX2_restAfter 53 = .ok (.bipush 10, 2) := by decide +kernel
theorem dX2_restAfter_55 : decode cX2_restAfter 55 = .ok (.imul, 1) := by decide +kernel
theorem dX2_restAfter_56 : decode cX2_restAfter 56 = .ok (.iload 4, 2) := by decide +kernel
theorem dX2_restAfter_58 : decode cX2_restAfter 58 = .ok (.iadd, 1) := by decide +kernel
theorem dX2_restAfter_59 : decode cX2_restAfter 59 = .ok (.iaload, 1) := by decide +kernel
theorem dX2_restAfter_60 : decode cX2_restAfter 60 = .ok (.iload 5, 2) := by decide +kernel
theorem dX2_restAfter_62 : decode cX2_restAfter 62 = .ok (.iadd, 1) := by decide +kernel
theorem dX2_restAfter_63 : decode cX2_restAfter 63 = .ok (.invokestatic 76, 3) := by decide +kernel
theorem dX2_restAfter_66 : decode cX2_restAfter 66 = .ok (.istore_n 3, 1) := by decide +kernel
theorem dX2_restAfter_67 : decode cX2_restAfter 67 = .ok (.iinc 4 1, 3) := by decide +kernel
theorem dX2_restAfter_70 : decode cX2_restAfter 70 = .ok (.goto (-58), 3) := by decide +kernel
theorem dX2_restAfter_73 : decode cX2_restAfter 73 = .ok (.iload_n 3, 1) := by decide +kernel
theorem dX2_restAfter_74 : decode cX2_restAfter 74 = .ok (.ireturn, 1) := by decide +kernel
theorem dX3_init_0 : decode cX3_init 0 = .ok (.aload_n 0, 1) := by decide +kernel
theorem dX3_init_1 : decode cX3_init 1 = .ok (.invokespecial 3, 3) := by decide +kernel
theorem dX3_init_4 : decode cX3_init 4 = .ok (.aload_n 0, 1) := by decide +kernel
theorem dX3_init_5 : decode cX3_init 5 = .ok (.bipush 8, 2) := by decide +kernel
theorem dX3_init_7 : decode cX3_init 7 = .ok (.newarray .int, 2) := by decide +kernel
theorem dX3_init_9 : decode cX3_init 9 = .ok (.putfield 9, 3) := by decide +kernel
theorem dX3_init_12 : decode cX3_init 12 = .ok (.aload_n 0, 1) := by decide +kernel
theorem dX3_init_13 : decode cX3_init 13 = .ok (.bipush 8, 2) := by decide +kernel
theorem dX3_init_15 : decode cX3_init 15 = .ok (.newarray .int, 2) := by decide +kernel
theorem dX3_init_17 : decode cX3_init 17 = .ok (.putfield 15, 3) := by decide +kernel
theorem dX3_init_20 : decode cX3_init 20 = .ok (.aload_n 0, 1) := by decide +kernel
theorem dX3_init_21 : decode cX3_init 21 = .ok (.bipush 10, 2) := by decide +kernel
theorem dX3_init_23 : decode cX3_init 23 = .ok (.newarray .int, 2) := by decide +kernel
theorem dX3_init_25 : decode cX3_init 25 = .ok (.putfield 18, 3) := by decide +kernel
theorem dX3_init_28 : decode cX3_init 28 = .ok (.return_, 1) := by decide +kernel
set_option maxRecDepth 20000 in
theorem ggX3_begin_J7_fill_53178 : GoodIn wsX3_begin wsJ7_fill_53178 := goodIn_r _ [11] (by decide +kernel) (by decide +kernel)
set_option maxRecDepth 20000 in
theorem gX3_begin_J7_fill_53178 : GoodIn wsX3_begin (va_wsS RX3 41 yJ7_fill_53178 wsJ7_fill_53178) := goodIn_app (goodIn_of _ (by decide +kernel)) ggX3_begin_J7_fill_53178
theorem dX3_begin_0 : decode cX3_begin 0 = .ok (.aload_n 0, 1) := by decide +kernel
theorem dX3_begin_1 : decode cX3_begin 1 = .ok (.iload_n 1, 1) := by decide +kernel
theorem dX3_begin_2 : decode cX3_begin 2 = .ok (.putfield 21, 3) := by decide +kernel
theorem dX3_begin_5 : decode cX3_begin 5 = .ok (.aload_n 0, 1) := by decide +kernel
theorem dX3_begin_6 : decode cX3_begin 6 = .ok (.iload_n 2, 1) := by decide +kernel
theorem dX3_begin_7 : decode cX3_begin 7 = .ok (.putfield 25, 3) := by decide +kernel
theorem dX3_begin_10 : decode cX3_begin 10 = .ok (.aload_n 0, 1) := by decide +kernel
theorem dX3_begin_11 : decode cX3_begin 11 = .ok (.iload_n 3, 1) := by decide +kernel
theorem dX3_begin_12 : decode cX3_begin 12 = .ok (.putfield 28, 3) := by decide +kernel
theorem dX3_begin_15 : decode cX3_begin 15 = .ok (.aload_n 0, 1) := by decide +kernel
theorem dX3_begin_16 : decode cX3_begin 16 = .ok (.iconst 0, 1) := by decide +kernel
theorem dX3_begin_17 : decode cX3_begin 17 = .ok (.putfield 31, 3) := by decide +kernel
theorem dX3_begin_20 : decode cX3_begin 20 = .ok (.aload_n 0, 1) := by decide +kernel
theorem dX3_begin_21 : decode cX3_begin 21 = .ok (.iconst 0, 1) := by decide +kernel
theorem dX3_begin_22 : decode cX3_begin 22 = .ok (.putfield 34, 3) := by decide +kernel
theorem dX3_begin_25 : decode cX3_begin 25 = .ok (.aload_n 0, 1) := by decide +kernel
theorem dX3_begin_26 : decode cX3_begin 26 = .ok (.iconst 0, 1) := by decide +kernel
theorem dX3_begin_27 : decode cX3_begin 27 = .ok (.putfield 37, 3) := by decide +kernel
theorem dX3_begin_30 : decode cX3_begin 30 = .ok (.aload_n 0, 1) := by decide +kernel
theorem dX3_begin_31 : decode cX3_begin 31 = .ok (.getfield 18, 3) := by decide +kernel
theorem dX3_begin_34 : decode cX3_begin 34 = .ok (.iconst 0, 1) := by decide +kernel
theorem dX3_begin_35 : decode cX3_begin 35 = .ok (.invokestatic 41, 3) := by decide +kernel
theorem dX3_begin_38 : decode cX3_begin 38 = .ok (.return_, 1) := by decide +kernel
theorem dX3_copyFrom_0 : decode cX3_copyFrom 0 = .ok (.aload_n 0, 1) := by decide +kernel
theorem dX3_copyFrom_1 : decode cX3_copyFrom 1 = .ok (.aload_n 1, 1) := by decide +kernel
theorem dX3_copyFrom_2 : decode cX3_copyFrom 2 = .ok (.getfield 21, 3) := by decide +kernel
theorem dX3_copyFrom_5 : decode cX3_copyFrom 5 = .ok (.putfield 21, 3) := by decide +kernel
theorem dX3_copyFrom_8 : decode cX3_copyFrom 8 = .ok (.aload_n 0, 1) := by decide +kernel
theorem dX3_copyFrom_9 : decode cX3_copyFrom 9 = .ok (.aload_n 1, 1) := by decide +kernel
theorem dX3_copyFrom_10 : decode cX3_copyFrom 10 = .ok (.getfield 25, 3) := by decide +kernel
theorem dX3_copyFrom_13 : decode cX3_copyFrom 13 = .ok (.putfield 25, 3) := by decide +kernel
theorem dX3_copyFrom_16 : decode cX3_copyFrom 16 = .ok (.aload_n 0, 1) := by decide +kernel
theorem dX3_copyFrom_17 : decode cX3_copyFrom 17 = .ok (.aload_n 1, 1) := by decide +kernel
theorem dX3_copyFrom_18 : decode cX3_copyFrom 18 = .ok (.getfield 28, 3) := by decide +kernel
theorem dX3_copyFrom_21 : decode cX3_copyFrom 21 = .ok (.putfield 28, 3) := by decide +kernel
theorem dX3_copyFrom_24 : decode cX3_copyFrom 24 = .ok (.aload_n 0, 1) := by decide +kernel
theorem dX3_copyFrom_25 : decode cX3_copyFrom 25 = .ok (.aload_n 1, 1) := by decide +kernel
theorem dX3_copyFrom_26 : decode cX3_copyFrom 26 = .ok (.getfield 31, 3) := by decide +kernel
theorem dX3_copyFrom_29 : decode cX3_copyFrom 29 = .ok (.putfield 31, 3) := by decide +kernel
theorem dX3_copyFrom_32 : decode cX3_copyFrom 32 = .ok (.aload_n 0, 1) := by decide +kernel
theorem dX3_copyFrom_33 : decode cX3_copyFrom 33 = .ok (.aload_n 1, 1) := by decide +kernel
theorem dX3_copyFrom_34 : decode cX3_copyFrom 34 = .ok (.getfield 34, 3) := by decide +kernel
theorem dX3_copyFrom_37 : decode cX3_copyFrom 37 = .ok (.putfield 34, 3) := by decide +kernel
theorem dX3_copyFrom_40 : decode cX3_copyFrom 40 = .ok (.aload_n 0, 1) := by decide +kernel
theorem dX3_copyFrom_41 : decode cX3_copyFrom 41 = .ok (.aload_n 1, 1) := by decide +kernel
theorem dX3_copyFrom_42 : decode cX3_copyFrom 42 = .ok (.getfield 37, 3) := by decide +kernel
theorem dX3_copyFrom_45 : decode cX3_copyFrom 45 = .ok (.putfield 37, 3) := by decide +kernel
theorem dX3_copyFrom_48 : decode cX3_copyFrom 48 = .ok (.aload_n 1, 1) := by decide +kernel
theorem dX3_copyFrom_49 : decode cX3_copyFrom 49 = .ok (.getfield 9, 3) := by decide +kernel
theorem dX3_copyFrom_52 : decode cX3_copyFrom 52 = .ok (.iconst 0, 1) := by decide +kernel
theorem dX3_copyFrom_53 : decode cX3_copyFrom 53 = .ok (.aload_n 0, 1) := by decide +kernel
theorem dX3_copyFrom_54 : decode cX3_copyFrom 54 = .ok (.getfield 9, 3) := by decide +kernel
theorem dX3_copyFrom_57 : decode cX3_copyFrom 57 = .ok (.iconst 0, 1) := by decide +kernel
theorem dX3_copyFrom_58 : decode cX3_copyFrom 58 = .ok (.bipush 8, 2) := by decide +kernel
theorem dX3_copyFrom_60 : decode cX3_copyFrom 60 = .ok (.invokestatic 47, 3) := by decide +kernel
theorem dX3_copyFrom_63 : decode cX3_copyFrom 63 = .ok (.aload_n 1, 1) := by decide +kernel
theorem dX3_copyFrom_64 : decode cX3_copyFrom 64 = .ok (.getfield 15, 3) := by decide +kernel
theorem dX3_copyFrom_67 : decode cX3_copyFrom 67 = .ok (.iconst 0, 1) := by decide +kernel
theorem dX3_copyFrom_68 : decode cX3_copyFrom 68 = .ok (.aload_n 0, 1) := by decide +kernel
theorem dX3_copyFrom_69 : decode cX3_copyFrom 69 = .ok (.getfield 15, 3) := by decide +kernel
theorem dX3_copyFrom_72 : decode cX3_copyFrom 72 = .ok (.iconst 0, 1) := by decide +kernel
theorem dX3_copyFrom_73 : decode cX3_copyFrom 73 = .ok (.bipush 8, 2) := by decide +kernel
theorem dX3_copyFrom_75 : decode cX3_copyFrom 75 = .ok (.invokestatic 47, 3) := by decide +kernel
theorem dX3_copyFrom_78 : decode cX3_copyFrom 78 = .ok (.aload_n 1, 1) := by decide +kernel
theorem dX3_copyFrom_79 : decode cX3_copyFrom 79 = .ok (.getfield 18, 3) := by decide +kernel
theorem dX3_copyFrom_82 : decode cX3_copyFrom 82 = .ok (.iconst 0, 1) := by decide +kernel
theorem dX3_copyFrom_83 : decode cX3_copyFrom 83 = .ok (.aload_n 0, 1) := by decide +kernel
theorem dX3_copyFrom_84 : decode cX3_copyFrom 84 = .ok (.getfield 18, 3) := by decide +kernel
theorem dX3_copyFrom_87 : decode cX3_copyFrom 87 = .ok (.iconst 0, 1) := by decide +kernel
theorem dX3_copyFrom_88 : decode cX3_copyFrom 88 = .ok (.aload_n 0, 1) := by decide +kernel
theorem dX3_copyFrom_89 : decode cX3_copyFrom 89 = .ok (.getfield 18, 3) := by decide +kernel
theorem dX3_copyFrom_92 : decode cX3_copyFrom 92 = .ok (.arraylength, 1) := by decide +kernel
theorem dX3_copyFrom_93 : decode cX3_copyFrom 93 = .ok (.invokestatic 47, 3) := by decide +kernel
theorem dX3_copyFrom_96 : decode cX3_copyFrom 96 = .ok (.return_, 1) := by decide +kernel
theorem dX3_unused_0 : decode cX3_unused 0 = .ok (.aload_n 0, 1) := by decide +kernel
theorem dX3_unused_1 : decode cX3_unused 1 = .ok (.getfield 25, 3) := by decide +kernel
theorem dX3_unused_4 : decode cX3_unused 4 = .ok (.aload_n 0, 1) := by decide +kernel
theorem dX3_unused_5 : decode cX3_unused 5 = .ok (.getfield 31, 3) := by decide +kernel
theorem dX3_unused_8 : decode cX3_unused 8 = .ok (.isub, 1) := by decide +kernel
theorem dX3_unused_9 : decode cX3_unused 9 = .ok (.ireturn, 1) := by decide +kernel
theorem dX3_isBad_0 : decode cX3_isBad 0 = .ok (.iload_n 1, 1) := by decide +kernel
theorem dX3_isBad_1 : decode cX3_isBad 1 = .ok (.ifCond .lt 10, 3) := by decide +kernel
theorem dX3_isBad_4 : decode cX3_isBad 4 = .ok (.iload_n 1, 1) := by decide +kernel
theorem dX3_isBad_5 : decode cX3_isBad 5 = .ok (.sipush 300, 3) := by decide +kernel
theorem dX3_isBad_8 : decode cX3_isBad 8 = .ok (.if_icmp .lt 5, 3) := by decide +kernel
theorem dX3_isBad_11 : decode cX3_isBad 11 = .ok (.iconst 0, 1) := by decide +kernel
theorem dX3_isBad_12 : decode cX3_isBad 12 = .ok (.ireturn, 1) := by decide +kernel
theorem dX3_isBad_13 : decode cX3_isBad 13 = .ok (.aload_n 0, 1) := by decide +kernel
theorem dX3_isBad_14 : decode cX3_isBad 14 = .ok (.getfield 18, 3) := by decide +kernel
theorem dX3_isBad_17 : decode cX3_isBad 17 = .ok (.iload_n 1, 1) := by decide +kernel
theorem dX3_isBad_18 : decode cX3_isBad 18 = .ok (.bipush 32, 2) := by decide +kernel
theorem dX3_isBad_20 : decode cX3_isBad 20 = .ok (.idiv, 1) := by decide +kernel
theorem dX3_isBad_21 : decode cX3_isBad 21 = .ok (.iaload, 1) := by decide +kernel
theorem dX3_isBad_22 : decode cX3_isBad 22 = .ok (.iload_n 1, 1) := by decide +kernel
theorem dX3_isBad_23 : decode cX3_isBad 23 = .ok (.bipush 32, 2) := by decide +kernel
theorem dX3_isBad_25 : decode cX3_isBad 25 = .ok (.irem, 1) := by decide +kernel
theorem dX3_isBad_26 : decode cX3_isBad 26 = .ok (.iushr, 1) := by decide +kernel
theorem dX3_isBad_27 : decode cX3_isBad 27 = .ok (.iconst 1, 1) := by decide +kernel
theorem dX3_isBad_28 : decode cX3_isBad 28 = .ok (.iand, 1) := by decide +kernel
theorem dX3_isBad_29 : decode cX3_isBad 29 = .ok (.ifCond .eq 7, 3) := by decide +kernel
theorem dX3_isBad_32 : decode cX3_isBad 32 = .ok (.iconst 1, 1) := by decide +kernel
theorem dX3_isBad_33 : decode cX3_isBad 33 = .ok (.goto 4, 3) := by decide +kernel
theorem dX3_isBad_36 : decode cX3_isBad 36 = .ok (.iconst 0, 1) := by decide +kernel
theorem dX3_isBad_37 : decode cX3_isBad 37 = .ok (.ireturn, 1) := by decide +kernel
theorem dX3_setBad_0 : decode cX3_setBad 0 = .ok (.iload_n 1, 1) := by decide +kernel
theorem dX3_setBad_1 : decode cX3_setBad 1 = .ok (.ifCond .lt 28, 3) := by decide +kernel
theorem dX3_setBad_4 : decode cX3_setBad 4 = .ok (.iload_n 1, 1) := by decide +kernel
theorem dX3_setBad_5 : decode cX3_setBad 5 = .ok (.sipush 300, 3) := by decide +kernel
theorem dX3_setBad_8 : decode cX3_setBad 8 = .ok (.if_icmp .ge 21, 3) := by decide +kernel
theorem dX3_setBad_11 : decode cX3_setBad 11 = .ok (.aload_n 0, 1) := by decide +kernel
theorem dX3_setBad_12 : decode cX3_setBad 12 = .ok (.getfield 18, 3) := by decide +kernel
theorem dX3_setBad_15 : decode cX3_setBad 15 = .ok (.iload_n 1, 1) := by decide +kernel
theorem dX3_setBad_16 : decode cX3_setBad 16 = .ok (.bipush 32, 2) := by decide +kernel
theorem dX3_setBad_18 : decode cX3_setBad 18 = .ok (.idiv, 1) := by decide +kernel
theorem dX3_setBad_19 : decode cX3_setBad 19 = .ok (.dup2, 1) := by decide +kernel
theorem dX3_setBad_20 : decode cX3_setBad 20 = .ok (.iaload, 1) := by decide +kernel
theorem dX3_setBad_21 : decode cX3_setBad 21 = .ok (.iconst 1, 1) := by decide +kernel
theorem dX3_setBad_22 : decode cX3_setBad 22 = .ok (.iload_n 1, 1) := by decide +kernel
theorem dX3_setBad_23 : decode cX3_setBad 23 = .ok (.bipush 32, 2) := by decide +kernel
theorem dX3_setBad_25 : decode cX3_setBad 25 = .ok (.irem, 1) := by decide +kernel
theorem dX3_setBad_26 : decode cX3_setBad 26 = .ok (.ishl, 1) := by decide +kernel
theorem dX3_setBad_27 : decode cX3_setBad 27 = .ok (.ior, 1) := by decide +kernel
theorem dX3_setBad_28 : decode cX3_setBad 28 = .ok (.iastore, 1) := by decide +kernel
theorem dX3_setBad_29 : decode cX3_setBad 29 = .ok (.return_, 1) := by decide +kernel
set_option maxRecDepth 20000 in
theorem ggX3_badAmongNext_X3_isBad : GoodIn wsX3_badAmongNext wsX3_isBad := goodIn_r _ [6, 7, 8, 9, 10, 11, 12, 13, 14, 15, 16] (by decide +kernel) (by decide +kernel)
set_option maxRecDepth 20000 in
theorem gX3_badAmongNext_X3_isBad : GoodIn wsX3_badAmongNext (wsV RX3 53 RX3 yX3_isBad wsX3_isBad) := goodIn_app (goodIn_of _ (by decide +kernel)) ggX3_badAmongNext_X3_isBad
theorem dX3_badAmongNext_0 : decode cX3_badAmongNext 0 = .ok (.iconst 0, 1) := by decide +kernel
theorem dX3_badAmongNext_1 : decode cX3_badAmongNext 1 = .ok (.istore_n 2, 1) := by decide +kernel
theorem dX3_badAmongNext_2 : decode cX3_badAmongNext 2 = .ok (.aload_n 0, 1) := by decide +kernel
theorem dX3_badAmongNext_3 : decode cX3_badAmongNext 3 = .ok (.getfield 31, 3) := by decide +kernel
theorem dX3_badAmongNext_6 : decode cX3_badAmongNext 6 = .ok (.istore_n 3, 1) := by decide +kernel
theorem dX3_badAmongNext_7 : decode cX3_badAmongNext 7 = .ok (.iload_n 3, 1) := by decide +kernel
theorem dX3_badAmongNext_8 : decode cX3_badAmongNext 8 = .ok (.aload_n 0, 1) := by decide +kernel
theorem dX3_badAmongNext_9 : decode cX3_badAmongNext 9 = .ok (.getfield 31, 3) := by decide +kernel
theorem dX3_badAmongNext_12 : decode cX3_badAmongNext 12 = .ok (.iload_n 1, 1) := by decide +kernel
theorem dX3_badAmongNext_13 : decode cX3_badAmongNext 13 = .ok (.iadd, 1) := by decide +kernel
theorem dX3_badAmongNext_14 : decode cX3_badAmongNext 14 = .ok (.if_icmp .ge 20, 3) := by decide +kernel
theorem dX3_badAmongNext_17 : decode cX3_badAmongNext 17 = .ok (.aload_n 0, 1) := by decide +kernel
theorem dX3_badAmongNext_18 : decode cX3_badAmongNext 18 = .ok (.iload_n 3, 1) := by decide +kernel
theorem dX3_badAmongNext_19 : decode cX3_badAmongNext 19 = .ok (.invokevirtual 53, 3) := by decide +kernel
theorem dX3_badAmongNext_22 : decode cX3_badAmongNext 22 = .ok (.ifCond .eq 6, 3) := by decide +kernel
theorem dX3_badAmongNext_25 : decode cX3_badAmongNext 25 = .ok (.iinc 2 1, 3) := by decide +kernel
theorem dX3_badAmongNext_28 : decode cX3_badAmongNext 28 = .ok (.iinc 3 1, 3) := by decide +kernel
theorem dX3_badAmongNext_31 : decode cX3_badAmongNext 31 = .ok (.goto (-24), 3) := by decide +kernel
theorem dX3_badAmongNext_34 : decode cX3_badAmongNext 34 = .ok (.iload_n 2, 1) := by decide +kernel
theorem dX3_badAmongNext_35 : decode cX3_badAmongNext 35 = .ok (.ireturn, 1) := by decide +kernel
set_option maxRecDepth 20000 in
theorem ggX3_canTake_X3_unused : GoodIn wsX3_canTake wsX3_unused := goodIn_r _ [8, 9, 10, 20, 21, 22, 23, 24, 25, 26, 27, 28] (by decide +kernel) (by decide +kernel)
set_option maxRecDepth 20000 in
theorem gX3_canTake_X3_unused : GoodIn wsX3_canTake (wsV RX3 57 RX3 yX3_unused wsX3_unused) := goodIn_app (goodIn_of _ (by decide +kernel)) ggX3_canTake_X3_unused
set_option maxRecDepth 20000 in
theorem ggX3_canTake_X3_badAmongNext : GoodIn wsX3_canTake wsX3_badAmongNext := goodIn_r _ [14, 10, 15, 16, 17, 7, 18, 19, 20, 21, 22, 23, 24, 25, 26, 27, 28] (by decide +kernel) (by decide +kernel)
set_option maxRecDepth 20000 in
theorem gX3_canTake_X3_badAmongNext : GoodIn wsX3_canTake (wsV RX3 61 RX3 yX3_badAmongNext wsX3_badAmongNext) := goodIn_app (goodIn_of _ (by decide +kernel)) ggX3_canTake_X3_badAmongNext
theorem dX3_canTake_0 : decode cX3_canTake 0 = .ok (.aload_n 0, 1) := by decide +kernel
theorem dX3_canTake_1 : decode cX3_canTake 1 = .ok (.getfield 37, 3) := by decide +kernel
theorem dX3_canTake_4 : decode cX3_canTake 4 = .ok (.ifCond .ne 14, 3) := by decide +kernel
theorem dX3_canTake_7 : decode cX3_canTake 7 = .ok (.aload_n 0, 1) := by decide +kernel
theorem dX3_canTake_8 : decode cX3_canTake 8 = .ok (.getfield 34, 3) := by decide +kernel
theorem dX3_canTake_11 : decode cX3_canTake 11 = .ok (.bipush 8, 2) := by decide +kernel
theorem dX3_canTake_13 : decode cX3_canTake 13 = .ok (.if_icmp .lt 5, 3) := by decide +kernel
theorem dX3_canTake_16 : decode cX3_canTake 16 = .ok (.iconst 0, 1) := by decide +kernel
theorem dX3_canTake_17 : decode cX3_canTake 17 = .ok (.ireturn, 1) := by decide +kernel
theorem dX3_canTake_18 : decode cX3_canTake 18 = .ok (.iload_n 1, 1) := by decide +kernel
theorem dX3_canTake_19 : decode cX3_canTake 19 = .ok (.aload_n 0, 1) := by decide +kernel
theorem dX3_canTake_20 : decode cX3_canTake 20 = .ok (.invokevirtual 57, 3) := by decide +kernel
theorem dX3_canTake_23 : decode cX3_canTake 23 = .ok (.if_icmp .gt 19, 3) := by decide +kernel
theorem dX3_canTake_26 : decode cX3_canTake 26 = .ok (.aload_n 0, 1) := by decide +kernel
theorem dX3_canTake_27 : decode cX3_canTake 27 = .ok (.iload_n 1, 1) := by decide +kernel
theorem dX3_canTake_28 : decode cX3_canTake 28 = .ok (.invokevirtual 61, 3) := by decide +kernel
theorem dX3_canTake_31 : decode cX3_canTake 31 = .ok (.aload_n 0, 1) := by decide +kernel
theorem dX3_canTake_32 : decode cX3_canTake 32 = .ok (.getfield 28, 3) := by decide +kernel
theorem dX3_canTake_35 : decode cX3_canTake 35 = .ok (.if_icmp .gt 7, 3) := by decide +kernel
theorem dX3_canTake_38 : decode cX3_canTake 38 = .ok (.iconst 1, 1) := by decide +kernel
theorem dX3_canTake_39 : decode cX3_canTake 39 = .ok (.goto 4, 3) := by decide +kernel
theorem dX3_canTake_42 : decode cX3_canTake 42 = .ok (.iconst 0, 1) := by decide +kernel
theorem dX3_canTake_43 : decode cX3_canTake 43 = .ok (.ireturn, 1) := by decide +kernel
set_option maxRecDepth 20000 in
theorem ggX3_takeSectors_X3_extendLastSession : GoodIn wsX3_takeSectors wsX3_extendLastSession := goodIn_r _ [11, 2, 5, 4, 12, 13, 14, 15, 16, 17, 18, 19, 20] (by decide +kernel) (by decide +kernel)
set_option maxRecDepth 20000 in
theorem gX3_takeSectors_X3_extendLastSession : GoodIn wsX3_takeSectors (wsV RX3 65 RX3 yX3_extendLastSession wsX3_extendLastSession) := goodIn_app (goodIn_of _ (by decide +kernel)) ggX3_takeSectors_X3_extendLastSession
theorem dX3_takeSectors_0 : decode cX3_takeSectors 0 = .ok (.aload_n 0, 1) := by decide +kernel
theorem dX3_takeSectors_1 : decode cX3_takeSectors 1 = .ok (.getfield 37, 3) := by decide +kernel
theorem dX3_takeSectors_4 : decode cX3_takeSectors 4 = .ok (.ifCond .ne 50, 3) := by decide +kernel
theorem dX3_takeSectors_7 : decode cX3_takeSectors 7 = .ok (.aload_n 0, 1) := by decide +kernel
theorem dX3_takeSectors_8 : decode cX3_takeSectors 8 = .ok (.getfield 34, 3) := by decide +kernel
theorem dX3_takeSectors_11 : decode cX3_takeSectors 11 = .ok (.bipush 8, 2) := by decide +kernel
theorem dX3_takeSectors_13 : decode cX3_takeSectors 13 = .ok (.if_icmp .ge 41, 3) := by decide +kernel
theorem dX3_takeSectors_16 : decode cX3_takeSectors 16 = .ok (.aload_n 0, 1) := by decide +kernel
theorem dX3_takeSectors_17 : decode cX3_takeSectors 17 = .ok (.getfield 9, 3) := by decide +kernel
theorem dX3_takeSectors_20 : decode cX3_takeSectors 20 = .ok (.aload_n 0, 1) := by decide +kernel
theorem dX3_takeSectors_21 : decode cX3_takeSectors 21 = .ok (.getfield 34, 3) := by decide +kernel
theorem dX3_takeSectors_24 : decode cX3_takeSectors 24 = .ok (.aload_n 0, 1) := by decide +kernel
theorem dX3_takeSectors_25 : decode cX3_takeSectors 25 = .ok (.getfield 31, 3) := by decide +kernel
theorem dX3_takeSectors_28 : decode cX3_takeSectors 28 = .ok (.iastore, 1) := by decide +kernel
theorem dX3_takeSectors_29 : decode cX3_takeSectors 29 = .ok (.aload_n 0, 1) := by decide +kernel
theorem dX3_takeSectors_30 : decode cX3_takeSectors 30 = .ok (.getfield 15, 3) := by decide +kernel
theorem dX3_takeSectors_33 : decode cX3_takeSectors 33 = .ok (.aload_n 0, 1) := by decide +kernel
theorem dX3_takeSectors_34 : decode cX3_takeSectors 34 = .ok (.getfield 34, 3) := by decide +kernel
theorem dX3_takeSectors_37 : decode cX3_takeSectors 37 = .ok (.iconst 0, 1) := by decide +kernel
theorem dX3_takeSectors_38 : decode cX3_takeSectors 38 = .ok (.iastore, 1) := by decide +kernel
theorem dX3_takeSectors_39 : decode cX3_takeSectors 39 = .ok (.aload_n 0, 1) := by decide +kernel
theorem dX3_takeSectors_40 : decode cX3_takeSectors 40 = .ok (.dup, 1) := by decide +kernel
theorem dX3_takeSectors_41 : decode cX3_takeSectors 41 = .ok (.getfield 34, 3) := by decide +kernel
theorem dX3_takeSectors_44 : decode cX3_takeSectors 44 = .ok (.iconst 1, 1) := by decide +kernel
theorem dX3_takeSectors_45 : decode cX3_takeSectors 45 = .ok (.iadd, 1) := by decide +kernel
theorem dX3_takeSectors_46 : decode cX3_takeSectors 46 = .ok (.putfield 34, 3) := by decide +kernel
theorem dX3_takeSectors_49 : decode cX3_takeSectors 49 = .ok (.aload_n 0, 1) := by decide +kernel
theorem dX3_takeSectors_50 : decode cX3_takeSectors 50 = .ok (.iconst 1, 1) := by decide +kernel
theorem dX3_takeSectors_51 : decode cX3_takeSectors 51 = .ok (.putfield 37, 3) := by decide +kernel
theorem dX3_takeSectors_54 : decode cX3_takeSectors 54 = .ok (.aload_n 0, 1) := by decide +kernel
theorem dX3_takeSectors_55 : decode cX3_takeSectors 55 = .ok (.dup, 1) := by decide +kernel
theorem dX3_takeSectors_56 : decode cX3_takeSectors 56 = .ok (.getfield 28, 3) := by decide +kernel
theorem dX3_takeSectors_59 : decode cX3_takeSectors 59 = .ok (.iload_n 2, 1) := by decide +kernel
theorem dX3_takeSectors_60 : decode cX3_takeSectors 60 = .ok (.isub, 1) := by decide +kernel
theorem dX3_takeSectors_61 : decode cX3_takeSectors 61 = .ok (.putfield 28, 3) := by decide +kernel
theorem dX3_takeSectors_64 : decode cX3_takeSectors 64 = .ok (.aload_n 0, 1) := by decide +kernel
theorem dX3_takeSectors_65 : decode cX3_takeSectors 65 = .ok (.iload_n 1, 1) := by decide +kernel
theorem dX3_takeSectors_66 : decode cX3_takeSectors 66 = .ok (.invokevirtual 65, 3) := by decide +kernel
theorem dX3_takeSectors_69 : decode cX3_takeSectors 69 = .ok (.return_, 1) := by decide +kernel
set_option maxRecDepth 20000 in
theorem ggX3_addLeadOut_X3_unused : GoodIn wsX3_addLeadOut wsX3_unused := goodIn_r _ [10, 11, 12, 19, 20, 21, 22, 23, 24, 25, 26, 27] (by decide +kernel) (by decide +kernel)
set_option maxRecDepth 20000 in
theorem gX3_addLeadOut_X3_unused : GoodIn wsX3_addLeadOut (wsV RX3 57 RX3 yX3_unused wsX3_unused) := goodIn_app (goodIn_of _ (by decide +kernel)) ggX3_addLeadOut_X3_unused
set_option maxRecDepth 20000 in
theorem ggX3_addLeadOut_X3_extendLastSession : GoodIn wsX3_addLeadOut wsX3_extendLastSession := goodIn_r _ [16, 17, 18, 12, 19, 20, 21, 22, 23, 24, 25, 26, 27] (by decide +kernel) (by decide +kernel)
set_option maxRecDepth 20000 in
theorem gX3_addLeadOut_X3_extendLastSession : GoodIn wsX3_addLeadOut (wsV RX3 65 RX3 yX3_extendLastSession wsX3_extendLastSession) := goodIn_app (goodIn_of _ (by decide +kernel)) ggX3_addLeadOut_X3_extendLastSession
theorem dX3_addLeadOut_0 : decode cX3_addLeadOut 0 = .ok (.iconst 2, 1) := by decide +kernel
theorem dX3_addLeadOut_1 : decode cX3_addLeadOut 1 = .ok (.aload_n 0, 1) := by decide +kernel
theorem dX3_addLeadOut_2 : decode cX3_addLeadOut 2 = .ok (.invokevirtual 57, 3) := by decide +kernel
theorem dX3_addLeadOut_5 : decode cX3_addLeadOut 5 = .ok (.invokestatic 69, 3) := by decide +kernel
theorem dX3_addLeadOut_8 : decode cX3_addLeadOut 8 = .ok (.istore_n 1, 1) := by decide +kernel
theorem dX3_addLeadOut_9 : decode cX3_addLeadOut 9 = .ok (.aload_n 0, 1) := by decide +kernel
theorem dX3_addLeadOut_10 : decode cX3_addLeadOut 10 = .ok (.iload_n 1, 1) := by decide +kernel
theorem dX3_addLeadOut_11 : decode cX3_addLeadOut 11 = .ok (.invokevirtual 65, 3) := by decide +kernel
theorem dX3_addLeadOut_14 : decode cX3_addLeadOut 14 = .ok (.aload_n 0, 1) := by decide +kernel
theorem dX3_addLeadOut_15 : decode cX3_addLeadOut 15 = .ok (.iconst 0, 1) := by decide +kernel
theorem dX3_addLeadOut_16 : decode cX3_addLeadOut 16 = .ok (.putfield 37, 3) := by decide +kernel
theorem dX3_addLeadOut_19 : decode cX3_addLeadOut 19 = .ok (.iload_n 1, 1) := by decide +kernel
theorem dX3_addLeadOut_20 : decode cX3_addLeadOut 20 = .ok (.ireturn, 1) := by decide +kernel
theorem dX3_extendLastSession_0 : decode cX3_extendLastSession 0 = .ok (.aload_n 0, 1) := by decide +kernel
theorem dX3_extendLastSession_1 : decode cX3_extendLastSession 1 = .ok (.getfield 34, 3) := by decide +kernel
theorem dX3_extendLastSession_4 : decode cX3_extendLastSession 4 = .ok (.ifCond .le 37, 3) := by decide +kernel
theorem dX3_extendLastSession_7 : decode cX3_extendLastSession 7 = .ok (.aload_n 0, 1) := by decide +kernel
theorem dX3_extendLastSession_8 : decode cX3_extendLastSession 8 = .ok (.getfield 34, 3) := by decide +kernel
theorem dX3_extendLastSession_11 : decode cX3_extendLastSession 11 = .ok (.bipush 8, 2) := by decide +kernel
theorem dX3_extendLastSession_13 : decode cX3_extendLastSession 13 = .ok (.if_icmp .gt 28, 3) := by decide +kernel
theorem dX3_extendLastSession_16 : decode cX3_extendLastSession 16 = .ok (.aload_n 0, 1) := by decide +kernel
theorem dX3_extendLastSession_17 : decode cX3_extendLastSession 17 = .ok (.getfield 15, 3) := by decide +kernel
theorem dX3_extendLastSession_20 : decode cX3_extendLastSession 20 = .ok (.aload_n 0, 1) := by decide +kernel
theorem dX3_extendLastSession_21 : decode cX3_extendLastSession 21 = .ok (.getfield 34, 3) := by decide +kernel
theorem dX3_extendLastSession_24 : decode cX3_extendLastSession 24 = .ok (.iconst 1, 1) := by decide +kernel
theorem dX3_extendLastSession_25 : decode cX3_extendLastSession 25 = .ok (.isub, 1) := by decide +kernel
theorem dX3_extendLastSession_26 : decode cX3_extendLastSession 26 = .ok (.dup2, 1) := by decide +kernel
theorem dX3_extendLastSession_27 : decode cX3_extendLastSession 27 = .ok (.iaload, 1) := by decide +kernel
theorem dX3_extendLastSession_28 : decode cX3_extendLastSession 28 = .ok (.iload_n 1, 1) := by decide +kernel
theorem dX3_extendLastSession_29 : decode cX3_extendLastSession 29 = .ok (.iadd, 1) := by decide +kernel
theorem dX3_extendLastSession_30 : decode cX3_extendLastSession 30 = .ok (.iastore, 1) := by decide +kernel
theorem dX3_extendLastSession_31 : decode cX3_extendLastSession 31 = .ok (.aload_n 0, 1) := by decide +kernel
theorem dX3_extendLastSession_32 : decode cX3_extendLastSession 32 = .ok (.dup, 1) := by decide +kernel
theorem dX3_extendLastSession_33 : decode cX3_extendLastSession 33 = .ok (.getfield 31, 3) := by decide +kernel
theorem dX3_extendLastSession_36 : decode cX3_extendLastSession 36 = .ok (.iload_n 1, 1) := by decide +kernel
theorem dX3_extendLastSession_37 : decode cX3_extendLastSession 37 = .ok (.iadd, 1) := by decide +kernel
theorem dX3_extendLastSession_38 : decode cX3_extendLastSession 38 = .ok (.putfield 31, 3) := by decide +kernel
theorem dX3_extendLastSession_41 : decode cX3_extendLastSession 41 = .ok (.return_, 1) := by decide +kernel
theorem dX3_isClosed_0 : decode cX3_isClosed 0 = .ok (.aload_n 0, 1) := by decide +kernel
theorem dX3_isClosed_1 : decode cX3_isClosed 1 = .ok (.getfield 37, 3) := by decide +kernel
theorem dX3_isClosed_4 : decode cX3_isClosed 4 = .ok (.ifCond .eq 13, 3) := by decide +kernel
theorem dX3_isClosed_7 : decode cX3_isClosed 7 = .ok (.iload_n 1, 1) := by decide +kernel
theorem dX3_isClosed_8 : decode cX3_isClosed 8 = .ok (.aload_n 0, 1) := by decide +kernel
theorem dX3_isClosed_9 : decode cX3_isClosed 9 = .ok (.getfield 34, 3) := by decide +kernel
theorem dX3_isClosed_12 : decode cX3_isClosed 12 = .ok (.iconst 1, 1) := by decide +kernel
theorem dX3_isClosed_13 : decode cX3_isClosed 13 = .ok (.isub, 1) := by decide +kernel
theorem dX3_isClosed_14 : decode cX3_isClosed 14 = .ok (.if_icmp .eq 7, 3) := by decide +kernel
theorem dX3_isClosed_17 : decode cX3_isClosed 17 = .ok (.iconst 1, 1) := by decide +kernel
theorem dX3_isClosed_18 : decode cX3_isClosed 18 = .ok (.goto 4, 3) := by decide +kernel
theorem dX3_isClosed_21 : decode cX3_isClosed 21 = .ok (.iconst 0, 1) := by decide +kernel
theorem dX3_isClosed_22 : decode cX3_isClosed 22 = .ok (.ireturn, 1) := by decide +kernel
set_option maxRecDepth 20000 in
theorem ggX3_longestCleanRun_X3_isBad : GoodIn wsX3_longestCleanRun wsX3_isBad := goodIn_r _ [11, 12, 13, 14, 15, 16, 17, 18, 19, 20, 21] (by decide +kernel) (by decide +kernel)
set_option maxRecDepth 20000 in
theorem gX3_longestCleanRun_X3_isBad : GoodIn wsX3_longestCleanRun (wsV RX3 53 RX3 yX3_isBad wsX3_isBad) := goodIn_app (goodIn_of _ (by decide +kernel)) ggX3_longestCleanRun_X3_isBad
theorem dX3_longestCleanRun_0 : decode cX3_longestCleanRun 0 = .ok (.iconst 0, 1) := by decide +kernel
theorem dX3_longestCleanRun_1 : decode cX3_longestCleanRun 1 = .ok (.istore_n 1, 1) := by decide +kernel
theorem dX3_longestCleanRun_2 : decode cX3_longestCleanRun 2 = .ok (.iconst 0, 1) := by decide +kernel
theorem dX3_longestCleanRun_3 : decode cX3_longestCleanRun 3 = .ok (.istore_n 2, 1) := by decide +kernel
theorem dX3_longestCleanRun_4 : decode cX3_longestCleanRun 4 = .ok (.aload_n 0, 1) := by decide +kernel
theorem dX3_longestCleanRun_5 : decode cX3_longestCleanRun 5 = .ok (.getfield 31, 3) := by decide +kernel
theorem dX3_longestCleanRun_8 : decode cX3_longestCleanRun 8 = .ok (.istore_n 3, 1) := by decide +kernel
theorem dX3_longestCleanRun_9 : decode cX3_longestCleanRun 9 = .ok (.iload_n 3, 1) := by decide +kernel
theorem dX3_longestCleanRun_10 : decode cX3_longestCleanRun 10 = .ok (.aload_n 0, 1) := by decide +kernel
theorem dX3_longestCleanRun_11 : decode cX3_longestCleanRun 11 = .ok (.getfield 25, 3) := by decide +kernel
theorem dX3_longestCleanRun_14 : decode cX3_longestCleanRun 14 = .ok (.if_icmp .ge 31, 3) := by decide +kernel
theorem dX3_longestCleanRun_17 : decode cX3_longestCleanRun 17 = .ok (.aload_n 0, 1) := by decide +kernel
theorem dX3_longestCleanRun_18 : decode cX3_longestCleanRun 18 = .ok (.iload_n 3, 1) := by decide +kernel
theorem dX3_longestCleanRun_19 : decode cX3_longestCleanRun 19 = .ok (.invokevirtual 53, 3) := by decide +kernel
theorem dX3_longestCleanRun_22 : decode cX3_longestCleanRun 22 = .ok (.ifCond .eq 7, 3) := by decide +kernel
theorem dX3_longestCleanRun_25 : decode cX3_longestCleanRun 25 = .ok (.iconst 0, 1) := by decide +kernel
theorem dX3_longestCleanRun_26 : decode cX3_longestCleanRun 26 = .ok (.goto 6, 3) := by decide +kernel
theorem dX3_longestCleanRun_29 : decode cX3_longestCleanRun 29 = .ok (.iload_n 2, 1) := by decide +kernel
theorem dX3_longestCleanRun_30 : decode cX3_longestCleanRun 30 = .ok (.iconst 1, 1) := by decide +kernel
theorem dX3_longestCleanRun_31 : decode cX3_longestCleanRun 31 = .ok (.iadd, 1) := by decide +kernel
theorem dX3_longestCleanRun_32 : decode cX3_longestCleanRun 32 = .ok (.istore_n 2, 1) := by decide +kernel
theorem dX3_longestCleanRun_33 : decode cX3_longestCleanRun 33 = .ok (.iload_n 1, 1) := by decide +kernel
theorem dX3_longestCleanRun_34 : decode cX3_longestCleanRun 34 = .ok (.iload_n 2, 1) := by decide +kernel
theorem dX3_longestCleanRun_35 : decode cX3_longestCleanRun 35 = .ok (.invokestatic 75, 3) := by decide +kernel
theorem dX3_longestCleanRun_38 : decode cX3_longestCleanRun 38 = .ok (.istore_n 1, 1) := by decide +kernel
theorem dX3_longestCleanRun_39 : decode cX3_longestCleanRun 39 = .ok (.iinc 3 1, 3) := by decide +kernel
theorem dX3_longestCleanRun_42 : decode cX3_longestCleanRun 42 = .ok (.goto (-33), 3) := by decide +kernel
theorem dX3_longestCleanRun_45 : decode cX3_longestCleanRun 45 = .ok (.iload_n 1, 1) := by decide +kernel
theorem dX3_longestCleanRun_46 : decode cX3_longestCleanRun 46 = .ok (.ireturn, 1) := by decide +kernel
set_option maxRecDepth 20000 in
theorem ggX4_init_X0_init : GoodIn wsX4_init wsX0_init := goodIn_r _ [21, 22, 2, 3] (by decide +kernel) (by decide +kernel)
set_option maxRecDepth 20000 in
theorem gX4_init_X0_init_n39 : GoodIn wsX4_init (wsX0_init) := ggX4_init_X0_init
set_option maxRecDepth 20000 in
theorem ggX4_init_X3_init : GoodIn wsX4_init wsX3_init := goodIn_r _ [24, 25, 2, 3, 4, 26, 27, 28, 74, 75, 76, 77, 78, 79, 80, 81, 82] (by decide +kernel) (by decide +kernel)
set_option maxRecDepth 20000 in
theorem gX4_init_X3_init_n40 : GoodIn wsX4_init (wsX3_init) := ggX4_init_X3_init
set_option maxRecDepth 20000 in
theorem ggX4_init_X6_init : GoodIn wsX4_init wsX6_init := goodIn_r _ [30, 31, 2, 3] (by decide +kernel) (by decide +kernel)
set_option maxRecDepth 20000 in
theorem gX4_init_X6_init_n41 : GoodIn wsX4_init (wsX6_init) := ggX4_init_X6_init
set_option maxRecDepth 20000 in
theorem ggX4_init_X4_beginEmpty : GoodIn wsX4_init wsX4_beginEmpty := goodIn_r _ [36, 37, 38, 39, 40, 41, 42, 43, 44, 45, 46, 47, 48, 49, 50, 51, 35, 52, 5, 53, 54, 55, 56, 57, 58, 59, 60, 61, 62, 63, 64, 65, 66, 67, 68, 69, 70] (by decide +kernel) (by decide +kernel)
set_option maxRecDepth 20000 in
theorem gX4_init_X4_beginEmpty : GoodIn wsX4_init (wsV RX4 42 RX4 yX4_beginEmpty wsX4_beginEmpty) := goodIn_app (goodIn_of _ (by decide +kernel)) ggX4_init_X4_beginEmpty
theorem dX4_init_0 : decode cX4_init 0 = .ok (.aload_n 0, 1) := by decide +kernel
theorem dX4_init_1 : decode cX4_init 1 = .ok (.invokespecial 3, 3) := by decide +kernel
theorem dX4_init_4 : decode cX4_init 4 = .ok (.aload_n 0, 1) := by decide +kernel
theorem dX4_init_5 : decode cX4_init 5 = .ok (.iconst 5, 1) := by decide +kernel
theorem dX4_init_6 : decode cX4_init 6 = .ok (.newarray .int, 2) := by decide +kernel
theorem dX4_init_8 : decode cX4_init 8 = .ok (.putfield 9, 3) := by decide +kernel
theorem dX4_init_11 : decode cX4_init 11 = .ok (.aload_n 0, 1) := by decide +kernel
theorem dX4_init_12 : decode cX4_init 12 = .ok (.iconst 4, 1) := by decide +kernel
theorem dX4_init_13 : decode cX4_init 13 = .ok (.anewarray 15, 3) := by decide +kernel
theorem dX4_init_16 : decode cX4_init 16 = .ok (.putfield 17, 3) := by decide +kernel
theorem dX4_init_19 : decode cX4_init 19 = .ok (.aload_n 0, 1) := by decide +kernel
theorem dX4_init_20 : decode cX4_init 20 = .ok (.bipush 10, 2) := by decide +kernel
theorem dX4_init_22 : decode cX4_init 22 = .ok (.anewarray 21, 3) := by decide +kernel
theorem dX4_init_25 : decode cX4_init 25 = .ok (.putfield 23, 3) := by decide +kernel
theorem dX4_init_28 : decode cX4_init 28 = .ok (.aload_n 0, 1) := by decide +kernel
theorem dX4_init_29 : decode cX4_init 29 = .ok (.bipush 40, 2) := by decide +kernel
theorem dX4_init_31 : decode cX4_init 31 = .ok (.anewarray 27, 3) := by decide +kernel
theorem dX4_init_34 : decode cX4_init 34 = .ok (.putfield 29, 3) := by decide +kernel
theorem dX4_init_37 : decode cX4_init 37 = .ok (.aload_n 0, 1) := by decide +kernel
theorem dX4_init_38 : decode cX4_init 38 = .ok (.bipush 20, 2) := by decide +kernel
theorem dX4_init_40 : decode cX4_init 40 = .ok (.newarray .int, 2) := by decide +kernel
theorem dX4_init_42 : decode cX4_init 42 = .ok (.putfield 33, 3) := by decide +kernel
theorem dX4_init_45 : decode cX4_init 45 = .ok (.aload_n 0, 1) := by decide +kernel
theorem dX4_init_46 : decode cX4_init 46 = .ok (.bipush 16, 2) := by decide +kernel
theorem dX4_init_48 : decode cX4_init 48 = .ok (.newarray .int, 2) := by decide +kernel
theorem dX4_init_50 : decode cX4_init 50 = .ok (.putfield 36, 3) := by decide +kernel
theorem dX4_init_53 : decode cX4_init 53 = .ok (.iconst 0, 1) := by decide +kernel
theorem dX4_init_54 : decode cX4_init 54 = .ok (.istore_n 1, 1) := by decide +kernel
theorem dX4_init_55 : decode cX4_init 55 = .ok (.iload_n 1, 1) := by decide +kernel
theorem dX4_init_56 : decode cX4_init 56 = .ok (.iconst 4, 1) := by decide +kernel
theorem dX4_init_57 : decode cX4_init 57 = .ok (.if_icmp .ge 22, 3) := by decide +kernel
theorem dX4_init_60 : decode cX4_init 60 = .ok (.aload_n 0, 1) := by decide +kernel
theorem dX4_init_61 : decode cX4_init 61 = .ok (.getfield 17, 3) := by decide +kernel
theorem dX4_init_64 : decode cX4_init 64 = .ok (.iload_n 1, 1) := by decide +kernel
theorem dX4_init_65 : decode cX4_init 65 = .ok (.new 15, 3) := by decide +kernel
theorem dX4_init_68 : decode cX4_init 68 = .ok (.dup, 1) := by decide +kernel
theorem dX4_init_69 : decode cX4_init 69 = .ok (.invokespecial 39, 3) := by decide +kernel
theorem dX4_init_72 : decode cX4_init 72 = .ok (.aastore, 1) := by decide +kernel
theorem dX4_init_73 : decode cX4_init 73 = .ok (.iinc 1 1, 3) := by decide +kernel
theorem dX4_init_76 : decode cX4_init 76 = .ok (.goto (-21), 3) := by decide +kernel
theorem dX4_init_79 : decode cX4_init 79 = .ok (.iconst 0, 1) := by decide +kernel
theorem dX4_init_80 : decode cX4_init 80 = .ok (.istore_n 1, 1) := by decide +kernel
theorem dX4_init_81 : decode cX4_init 81 = .ok (.iload_n 1, 1) := by decide +kernel
theorem dX4_init_82 : decode cX4_init 82 = .ok (.bipush 10, 2) := by decide +kernel
theorem dX4_init_84 : decode cX4_init 84 = .ok (.if_icmp .ge 22, 3) := by decide +kernel
theorem dX4_init_87 : decode cX4_init 87 = .ok (.aload_n 0, 1) := by decide +kernel
theorem dX4_init_88 : decode cX4_init 88 = .ok (.getfield 23, 3) := by decide +kernel
theorem dX4_init_91 : decode cX4_init 91 = .ok (.iload_n 1, 1) := by decide +kernel
theorem dX4_init_92 : decode cX4_init 92 = .ok (.new 21, 3) := by decide +kernel
theorem dX4_init_95 : decode cX4_init 95 = .ok (.dup, 1) := by decide +kernel
theorem dX4_init_96 : decode cX4_init 96 = .ok (.invokespecial 40, 3) := by decide +kernel
theorem dX4_init_99 : decode cX4_init 99 = .ok (.aastore, 1) := by decide +kernel
theorem dX4_init_100 : decode cX4_init 100 = .ok (.iinc 1 1, 3) := by decide +kernel
theorem dX4_init_103 : decode cX4_init 103 = .ok (.goto (-22), 3) := by decide +kernel
theorem dX4_init_106 : decode cX4_init 106 = .ok (.iconst 0, 1) := by decide +kernel
theorem dX4_init_107 : decode cX4_init 107 = .ok (.istore_n 1, 1) := by decide +kernel
theorem dX4_init_108 : decode cX4_init 108 = .ok (.iload_n 1, 1) := by decide +kernel
theorem dX4_init_109 : decode cX4_init 109 = .ok (.bipush 40, 2) := by decide +kernel
theorem dX4_init_111 : decode cX4_init 111 = .ok (.if_icmp .ge 22, 3) := by decide +kernel
theorem dX4_init_114 : decode cX4_init 114 = .ok (.aload_n 0, 1) := by decide +kernel
theorem dX4_init_115 : decode cX4_init 115 = .ok (.getfield 29, 3) := by decide +kernel
theorem dX4_init_118 : decode cX4_init 118 = .ok (.iload_n 1, 1) := by decide +kernel
theorem dX4_init_119 : decode cX4_init 119 = .ok (.new 27, 3) := by decide +kernel
theorem dX4_init_122 : decode cX4_init 122 = .ok (.dup, 1) := by decide +kernel
theorem dX4_init_123 : decode cX4_init 123 = .ok (.invokespecial 41, 3) := by decide +kernel
theorem dX4_init_126 : decode cX4_init 126 = .ok (.aastore, 1) := by decide +kernel
theorem dX4_init_127 : decode cX4_init 127 = .ok (.iinc 1 1, 3) := by decide +kernel
theorem dX4_init_130 : decode cX4_init 130 = .ok (.goto (-22), 3) := by decide +kernel
theorem dX4_init_133 : decode cX4_init 133 = .ok (.aload_n 0, 1) := by decide +kernel
theorem dX4_init_134 : decode cX4_init 134 = .ok (.invokevirtual 42, 3) := by decide +kernel
theorem dX4_init_137 : decode cX4_init 137 = .ok (.return_, 1) := by decide +kernel
set_option maxRecDepth 20000 in
theorem ggX4_beginEmpty_X4_putTimes : GoodIn wsX4_beginEmpty wsX4_putTimes := goodIn_r _ [17, 18, 19, 20, 21, 22, 23, 24, 25, 26, 27, 28, 29, 30, 31, 32, 33, 34, 35, 36] (by decide +kernel) (by decide +kernel)
set_option maxRecDepth 20000 in
theorem gX4_beginEmpty_X4_putTimes : GoodIn wsX4_beginEmpty (wsV RX4 49 RX4 yX4_putTimes wsX4_putTimes) := goodIn_app (goodIn_of _ (by decide +kernel)) ggX4_beginEmpty_X4_putTimes
theorem dX4_beginEmpty_0 : decode cX4_beginEmpty 0 = .ok (.aload_n 0, 1) := by decide +kernel
theorem dX4_beginEmpty_1 : decode cX4_beginEmpty 1 = .ok (.bipush 12, 2) := by decide +kernel
theorem dX4_beginEmpty_3 : decode cX4_beginEmpty 3 = .ok (.putfield 45, 3) := by decide +kernel
theorem dX4_beginEmpty_6 : decode cX4_beginEmpty 6 = .ok (.aload_n 0, 1) := by decide +kernel
theorem dX4_beginEmpty_7 : decode cX4_beginEmpty 7 = .ok (.iconst 1, 1) := by decide +kernel
theorem dX4_beginEmpty_8 : decode cX4_beginEmpty 8 = .ok (.iconst 2, 1) := by decide +kernel
theorem dX4_beginEmpty_9 : decode cX4_beginEmpty 9 = .ok (.iconst 5, 1) := by decide +kernel
theorem dX4_beginEmpty_10 : decode cX4_beginEmpty 10 = .ok (.iconst 1, 1) := by decide +kernel
theorem dX4_beginEmpty_11 : decode cX4_beginEmpty 11 = .ok (.iconst 3, 1) := by decide +kernel
theorem dX4_beginEmpty_12 : decode cX4_beginEmpty 12 = .ok (.invokevirtual 49, 3) := by decide +kernel
theorem dX4_beginEmpty_15 : decode cX4_beginEmpty 15 = .ok (.aload_n 0, 1) := by decide +kernel
theorem dX4_beginEmpty_16 : decode cX4_beginEmpty 16 = .ok (.iconst 0, 1) := by decide +kernel
theorem dX4_beginEmpty_17 : decode cX4_beginEmpty 17 = .ok (.putfield 53, 3) := by decide +kernel
theorem dX4_beginEmpty_20 : decode cX4_beginEmpty 20 = .ok (.aload_n 0, 1) := by decide +kernel
theorem dX4_beginEmpty_21 : decode cX4_beginEmpty 21 = .ok (.iconst 0, 1) := by decide +kernel
theorem dX4_beginEmpty_22 : decode cX4_beginEmpty 22 = .ok (.putfield 56, 3) := by decide +kernel
theorem dX4_beginEmpty_25 : decode cX4_beginEmpty 25 = .ok (.aload_n 0, 1) := by decide +kernel
theorem dX4_beginEmpty_26 : decode cX4_beginEmpty 26 = .ok (.iconst 0, 1) := by decide +kernel
theorem dX4_beginEmpty_27 : decode cX4_beginEmpty 27 = .ok (.putfield 59, 3) := by decide +kernel
theorem dX4_beginEmpty_30 : decode cX4_beginEmpty 30 = .ok (.aload_n 0, 1) := by decide +kernel
theorem dX4_beginEmpty_31 : decode cX4_beginEmpty 31 = .ok (.iconst 0, 1) := by decide +kernel
theorem dX4_beginEmpty_32 : decode cX4_beginEmpty 32 = .ok (.putfield 62, 3) := by decide +kernel
theorem dX4_beginEmpty_35 : decode cX4_beginEmpty 35 = .ok (.aload_n 0, 1) := by decide +kernel
theorem dX4_beginEmpty_36 : decode cX4_beginEmpty 36 = .ok (.iconst 0, 1) := by decide +kernel
theorem dX4_beginEmpty_37 : decode cX4_beginEmpty 37 = .ok (.putfield 65, 3) := by decide +kernel
theorem dX4_beginEmpty_40 : decode cX4_beginEmpty 40 = .ok (.aload_n 0, 1) := by decide +kernel
theorem dX4_beginEmpty_41 : decode cX4_beginEmpty 41 = .ok (.iconst 0, 1) := by decide +kernel
theorem dX4_beginEmpty_42 : decode cX4_beginEmpty 42 = .ok (.putfield 68, 3) := by decide +kernel
theorem dX4_beginEmpty_45 : decode cX4_beginEmpty 45 = .ok (.aload_n 0, 1) := by decide +kernel
theorem dX4_beginEmpty_46 : decode cX4_beginEmpty 46 = .ok (.iconst 0, 1) := by decide +kernel
theorem dX4_beginEmpty_47 : decode cX4_beginEmpty 47 = .ok (.putfield 71, 3) := by decide +kernel
theorem dX4_beginEmpty_50 : decode cX4_beginEmpty 50 = .ok (.aload_n 0, 1) := by decide +kernel
theorem dX4_beginEmpty_51 : decode cX4_beginEmpty 51 = .ok (.iconst 0, 1) := by decide +kernel
theorem dX4_beginEmpty_52 : decode cX4_beginEmpty 52 = .ok (.putfield 74, 3) := by decide +kernel
theorem dX4_beginEmpty_55 : decode cX4_beginEmpty 55 = .ok (.aload_n 0, 1) := by decide +kernel
theorem dX4_beginEmpty_56 : decode cX4_beginEmpty 56 = .ok (.iconst 0, 1) := by decide +kernel
theorem dX4_beginEmpty_57 : decode cX4_beginEmpty 57 = .ok (.putfield 77, 3) := by decide +kernel
theorem dX4_beginEmpty_60 : decode cX4_beginEmpty 60 = .ok (.aload_n 0, 1) := by decide +kernel
theorem dX4_beginEmpty_61 : decode cX4_beginEmpty 61 = .ok (.iconst 0, 1) := by decide +kernel
theorem dX4_beginEmpty_62 : decode cX4_beginEmpty 62 = .ok (.putfield 80, 3) := by decide +kernel
theorem dX4_beginEmpty_65 : decode cX4_beginEmpty 65 = .ok (.aload_n 0, 1) := by decide +kernel
theorem dX4_beginEmpty_66 : decode cX4_beginEmpty 66 = .ok (.iconst 0, 1) := by decide +kernel
theorem dX4_beginEmpty_67 : decode cX4_beginEmpty 67 = .ok (.putfield 83, 3) := by decide +kernel
theorem dX4_beginEmpty_70 : decode cX4_beginEmpty 70 = .ok (.return_, 1) := by decide +kernel
set_option maxRecDepth 20000 in
theorem ggX4_copyFrom_X0_copyFrom : GoodIn wsX4_copyFrom wsX0_copyFrom := goodIn_r _ [27, 28, 29, 30, 76, 77, 78] (by decide +kernel) (by decide +kernel)
set_option maxRecDepth 20000 in
theorem gX4_copyFrom_X0_copyFrom : GoodIn wsX4_copyFrom (wsV RX4 92 RX0 yX0_copyFrom wsX0_copyFrom) := goodIn_app (goodIn_of _ (by decide +kernel)) ggX4_copyFrom_X0_copyFrom
set_option maxRecDepth 20000 in
theorem ggX4_copyFrom_X3_copyFrom : GoodIn wsX4_copyFrom wsX3_copyFrom := goodIn_r _ [35, 36, 37, 38, 39, 40, 41, 42, 43, 4, 5, 6, 44, 45, 79, 80, 81, 82, 83, 84, 85, 86, 87] (by decide +kernel) (by decide +kernel)
set_option maxRecDepth 20000 in
theorem gX4_copyFrom_X3_copyFrom : GoodIn wsX4_copyFrom (wsV RX4 96 RX3 yX3_copyFrom wsX3_copyFrom) := goodIn_app (goodIn_of _ (by decide +kernel)) ggX4_copyFrom_X3_copyFrom
set_option maxRecDepth 20000 in
theorem ggX4_copyFrom_X6_copyFrom : GoodIn wsX4_copyFrom wsX6_copyFrom := goodIn_r _ [50, 51, 52, 53, 54, 55, 56, 57, 88, 89, 90, 91, 92, 93, 94] (by decide +kernel) (by decide +kernel)
set_option maxRecDepth 20000 in
theorem gX4_copyFrom_X6_copyFrom : GoodIn wsX4_copyFrom (wsV RX4 99 RX6 yX6_copyFrom wsX6_copyFrom) := goodIn_app (goodIn_of _ (by decide +kernel)) ggX4_copyFrom_X6_copyFrom
theorem dX4_copyFrom_0 : decode cX4_copyFrom 0 = .ok (.aload_n 0, 1) := by decide +kernel
theorem dX4_copyFrom_1 : decode cX4_copyFrom 1 = .ok (.aload_n 1, 1) := by decide +kernel
theorem dX4_copyFrom_2 : decode cX4_copyFrom 2 = .ok (.getfield 45, 3) := by decide +kernel
theorem dX4_copyFrom_5 : decode cX4_copyFrom 5 = .ok (.putfield 45, 3) := by decide +kernel
theorem dX4_copyFrom_8 : decode cX4_copyFrom 8 = .ok (.aload_n 1, 1) := by decide +kernel
theorem dX4_copyFrom_9 : decode cX4_copyFrom 9 = .ok (.getfield 9, 3) := by decide +kernel
theorem dX4_copyFrom_12 : decode cX4_copyFrom 12 = .ok (.iconst 0, 1) := by decide +kernel
theorem dX4_copyFrom_13 : decode cX4_copyFrom 13 = .ok (.aload_n 0, 1) := by decide +kernel
theorem dX4_copyFrom_14 : decode cX4_copyFrom 14 = .ok (.getfield 9, 3) := by decide +kernel
theorem dX4_copyFrom_17 : decode cX4_copyFrom 17 = .ok (.iconst 0, 1) := by decide +kernel
theorem dX4_copyFrom_18 : decode cX4_copyFrom 18 = .ok (.iconst 5, 1) := by decide +kernel
theorem dX4_copyFrom_19 : decode cX4_copyFrom 19 = .ok (.invokestatic 86, 3) := by decide +kernel
theorem dX4_copyFrom_22 : decode cX4_copyFrom 22 = .ok (.aload_n 0, 1) := by decide +kernel
theorem dX4_copyFrom_23 : decode cX4_copyFrom 23 = .ok (.aload_n 1, 1) := by decide +kernel
theorem dX4_copyFrom_24 : decode cX4_copyFrom 24 = .ok (.getfield 53, 3) := by decide +kernel
theorem dX4_copyFrom_27 : decode cX4_copyFrom 27 = .ok (.putfield 53, 3) := by decide +kernel
theorem dX4_copyFrom_30 : decode cX4_copyFrom 30 = .ok (.iconst 0, 1) := by decide +kernel
theorem dX4_copyFrom_31 : decode cX4_copyFrom 31 = .ok (.istore_n 2, 1) := by decide +kernel
theorem dX4_copyFrom_32 : decode cX4_copyFrom 32 = .ok (.iload_n 2, 1) := by decide +kernel
theorem dX4_copyFrom_33 : decode cX4_copyFrom 33 = .ok (.aload_n 0, 1) := by decide +kernel
theorem dX4_copyFrom_34 : decode cX4_copyFrom 34 = .ok (.getfield 53, 3) := by decide +kernel
theorem dX4_copyFrom_37 : decode cX4_copyFrom 37 = .ok (.if_icmp .ge 24, 3) := by decide +kernel
theorem dX4_copyFrom_40 : decode cX4_copyFrom 40 = .ok (.aload_n 0, 1) := by decide +kernel
theorem dX4_copyFrom_41 : decode cX4_copyFrom 41 = .ok (.getfield 17, 3) := by decide +kernel
theorem dX4_copyFrom_44 : decode cX4_copyFrom 44 = .ok (.iload_n 2, 1) := by decide +kernel
theorem dX4_copyFrom_45 : decode cX4_copyFrom 45 = .ok (.aaload, 1) := by decide +kernel
theorem dX4_copyFrom_46 : decode cX4_copyFrom 46 = .ok (.aload_n 1, 1) := by decide +kernel
theorem dX4_copyFrom_47 : decode cX4_copyFrom 47 = .ok (.getfield 17, 3) := by decide +kernel
theorem dX4_copyFrom_50 : decode cX4_copyFrom 50 = .ok (.iload_n 2, 1) := by decide +kernel
theorem dX4_copyFrom_51 : decode cX4_copyFrom 51 = .ok (.aaload, 1) := by decide +kernel
theorem dX4_copyFrom_52 : decode cX4_copyFrom 52 = .ok (.invokevirtual 92, 3) := by decide +kernel
theorem dX4_copyFrom_55 : decode cX4_copyFrom 55 = .ok (.iinc 2 1, 3) := by decide +kernel
theorem dX4_copyFrom_58 : decode cX4_copyFrom 58 = .ok (.goto (-26), 3) := by decide +kernel
theorem dX4_copyFrom_61 : decode cX4_copyFrom 61 = .ok (.aload_n 0, 1) := by decide +kernel
theorem dX4_copyFrom_62 : decode cX4_copyFrom 62 = .ok (.aload_n 1, 1) := by decide +kernel
theorem dX4_copyFrom_63 : decode cX4_copyFrom 63 = .ok (.getfield 56, 3) := by decide +kernel
theorem dX4_copyFrom_66 : decode cX4_copyFrom 66 = .ok (.putfield 56, 3) := by decide +kernel
theorem dX4_copyFrom_69 : decode cX4_copyFrom 69 = .ok (.aload_n 0, 1) := by decide +kernel
theorem dX4_copyFrom_70 : decode cX4_copyFrom 70 = .ok (.aload_n 1, 1) := by decide +kernel
theorem dX4_copyFrom_71 : decode cX4_copyFrom 71 = .ok (.getfield 59, 3) := by decide +kernel
theorem dX4_copyFrom_74 : decode cX4_copyFrom 74 = .ok (.putfield 59, 3) := by decide +kernel
theorem dX4_copyFrom_77 : decode cX4_copyFrom 77 = .ok (.iconst 0, 1) := by decide +kernel
theorem dX4_copyFrom_78 : decode cX4_copyFrom 78 = .ok (.istore_n 2, 1) := by decide +kernel
theorem dX4_copyFrom_79 : decode cX4_copyFrom 79 = .ok (.iload_n 2, 1) := by decide +kernel
theorem dX4_copyFrom_80 : decode cX4_copyFrom 80 = .ok (.aload_n 0, 1) := by decide +kernel
theorem dX4_copyFrom_81 : decode cX4_copyFrom 81 = .ok (.getfield 59, 3) := by decide +kernel
theorem dX4_copyFrom_84 : decode cX4_copyFrom 84 = .ok (.if_icmp .ge 24, 3) := by decide +kernel
theorem dX4_copyFrom_87 : decode cX4_copyFrom 87 = .ok (.aload_n 0, 1) := by decide +kernel
theorem dX4_copyFrom_88 : decode cX4_copyFrom 88 = .ok (.getfield 23, 3) := by decide +kernel
theorem dX4_copyFrom_91 : decode cX4_copyFrom 91 = .ok (.iload_n 2, 1) := by decide +kernel
theorem dX4_copyFrom_92 : decode cX4_copyFrom 92 = .ok (.aaload, 1) := by decide +kernel
theorem dX4_copyFrom_93 : decode cX4_copyFrom 93 = .ok (.aload_n 1, 1) := by decide +kernel
theorem dX4_copyFrom_94 : decode cX4_copyFrom 94 = .ok (.getfield 23, 3) := by decide +kernel
theorem dX4_copyFrom_97 : decode cX4_copyFrom 97 = .ok (.iload_n 2, 1) := by decide +kernel
theorem dX4_copyFrom_98 : decode cX4_copyFrom 98 = .ok (.aaload, 1) := by decide +kernel
theorem dX4_copyFrom_99 : decode cX4_copyFrom 99 = .ok (.invokevirtual 96, 3) := by decide +kernel
theorem dX4_copyFrom_102 : decode cX4_copyFrom 102 = .ok (.iinc 2 1, 3) := by decide +kernel
theorem dX4_copyFrom_105 : decode cX4_copyFrom 105 = .ok (.goto (-26), 3) := by decide +kernel
theorem dX4_copyFrom_108 : decode cX4_copyFrom 108 = .ok (.aload_n 0, 1) := by decide +kernel
theorem dX4_copyFrom_109 : decode cX4_copyFrom 109 = .ok (.aload_n 1, 1) := by decide +kernel
theorem dX4_copyFrom_110 : decode cX4_copyFrom 110 = .ok (.getfield 62, 3) := by decide +kernel
theorem dX4_copyFrom_113 : decode cX4_copyFrom 113 = .ok (.putfield 62, 3) := by decide +kernel
theorem dX4_copyFrom_116 : decode cX4_copyFrom 116 = .ok (.aload_n 0, 1) := by decide +kernel
theorem dX4_copyFrom_117 : decode cX4_copyFrom 117 = .ok (.aload_n 1, 1) := by decide +kernel
theorem dX4_copyFrom_118 : decode cX4_copyFrom 118 = .ok (.getfield 65, 3) := by decide +kernel
theorem dX4_copyFrom_121 : decode cX4_copyFrom 121 = .ok (.putfield 65, 3) := by decide +kernel
theorem dX4_copyFrom_124 : decode cX4_copyFrom 124 = .ok (.iconst 0, 1) := by decide +kernel
theorem dX4_copyFrom_125 : decode cX4_copyFrom 125 = .ok (.istore_n 2, 1) := by decide +kernel
theorem dX4_copyFrom_126 : decode cX4_copyFrom 126 = .ok (.iload_n 2, 1) := by decide +kernel
theorem dX4_copyFrom_127 : decode cX4_copyFrom 127 = .ok (.aload_n 0, 1) := by decide +kernel
theorem dX4_copyFrom_128 : decode cX4_copyFrom 128 = .ok (.getfield 65, 3) := by decide +kernel
theorem dX4_copyFrom_131 : decode cX4_copyFrom 131 = .ok (.if_icmp .ge 24, 3) := by decide +kernel
theorem dX4_copyFrom_134 : decode cX4_copyFrom 134 = .ok (.aload_n 0, 1) := by decide +kernel
theorem dX4_copyFrom_135 : decode cX4_copyFrom 135 = .ok (.getfield 29, 3) := by decide +kernel
theorem dX4_copyFrom_138 : decode cX4_copyFrom 138 = .ok (.iload_n 2, 1) := by decide +kernel
theorem dX4_copyFrom_139 : decode cX4_copyFrom 139 = .ok (.aaload, 1) := by decide +kernel
theorem dX4_copyFrom_140 : decode cX4_copyFrom 140 = .ok (.aload_n 1, 1) := by decide +kernel
theorem dX4_copyFrom_141 : decode cX4_copyFrom 141 = .ok (.getfield 29, 3) := by decide +kernel
theorem dX4_copyFrom_144 : decode cX4_copyFrom 144 = .ok (.iload_n 2, 1) := by decide +kernel
theorem dX4_copyFrom_145 : decode cX4_copyFrom 145 = .ok (.aaload, 1) := by decide +kernel
theorem dX4_copyFrom_146 : decode cX4_copyFrom 146 = .ok (.invokevirtual 99, 3) := by decide +kernel
theorem dX4_copyFrom_149 : decode cX4_copyFrom 149 = .ok (.iinc 2 1, 3) := by decide +kernel
theorem dX4_copyFrom_152 : decode cX4_copyFrom 152 = .ok (.goto (-26), 3) := by decide +kernel
theorem dX4_copyFrom_155 : decode cX4_copyFrom 155 = .ok (.aload_n 1, 1) := by decide +kernel
theorem dX4_copyFrom_156 : decode cX4_copyFrom 156 = .ok (.getfield 33, 3) := by decide +kernel
theorem dX4_copyFrom_159 : decode cX4_copyFrom 159 = .ok (.iconst 0, 1) := by decide +kernel
theorem dX4_copyFrom_160 : decode cX4_copyFrom 160 = .ok (.aload_n 0, 1) := by decide +kernel
theorem dX4_copyFrom_161 : decode cX4_copyFrom 161 = .ok (.getfield 33, 3) := by decide +kernel
theorem dX4_copyFrom_164 : decode cX4_copyFrom 164 = .ok (.iconst 0, 1) := by decide +kernel
theorem dX4_copyFrom_165 : decode cX4_copyFrom 165 = .ok (.bipush 20, 2) := by decide +kernel
theorem dX4_copyFrom_167 : decode cX4_copyFrom 167 = .ok (.invokestatic 86, 3) := by decide +kernel
theorem dX4_copyFrom_170 : decode cX4_copyFrom 170 = .ok (.aload_n 0, 1) := by decide +kernel
theorem dX4_copyFrom_171 : decode cX4_copyFrom 171 = .ok (.aload_n 1, 1) := by decide +kernel
theorem dX4_copyFrom_172 : decode cX4_copyFrom 172 = .ok (.getfield 68, 3) := by decide +kernel
theorem dX4_copyFrom_175 : decode cX4_copyFrom 175 = .ok (.putfield 68, 3) := by decide +kernel
theorem dX4_copyFrom_178 : decode cX4_copyFrom 178 = .ok (.aload_n 1, 1) := by decide +kernel
theorem dX4_copyFrom_179 : decode cX4_copyFrom 179 = .ok (.getfield 36, 3) := by decide +kernel
theorem dX4_copyFrom_182 : decode cX4_copyFrom 182 = .ok (.iconst 0, 1) := by decide +kernel
theorem dX4_copyFrom_183 : decode cX4_copyFrom 183 = .ok (.aload_n 0, 1) := by decide +kernel
theorem dX4_copyFrom_184 : decode cX4_copyFrom 184 = .ok (.getfield 36, 3) := by decide +kernel
theorem dX4_copyFrom_187 : decode cX4_copyFrom 187 = .ok (.iconst 0, 1) := by decide +kernel
theorem dX4_copyFrom_188 : decode cX4_copyFrom 188 = .ok (.bipush 16, 2) := by decide +kernel
theorem dX4_copyFrom_190 : decode cX4_copyFrom 190 = .ok (.invokestatic 86, 3) := by decide +kernel
theorem dX4_copyFrom_193 : decode cX4_copyFrom 193 = .ok (.aload_n 0, 1) := by decide +kernel
theorem dX4_copyFrom_194 : decode cX4_copyFrom 194 = .ok (.aload_n 1, 1) := by decide +kernel
theorem dX4_copyFrom_195 : decode cX4_copyFrom 195 = .ok (.getfield 71, 3) := by decide +kernel
theorem dX4_copyFrom_198 : decode cX4_copyFrom 198 = .ok (.putfield 71, 3) := by decide +kernel
theorem dX4_copyFrom_201 : decode cX4_copyFrom 201 = .ok (.aload_n 0, 1) := by decide +kernel
theorem dX4_copyFrom_202 : decode cX4_copyFrom 202 = .ok (.aload_n 1, 1) := by decide +kernel
theorem dX4_copyFrom_203 : decode cX4_copyFrom 203 = .ok (.getfield 74, 3) := by decide +kernel
theorem dX4_copyFrom_206 : decode cX4_copyFrom 206 = .ok (.putfield 74, 3) := by decide +kernel
theorem dX4_copyFrom_209 : decode cX4_copyFrom 209 = .ok (.aload_n 0, 1) := by decide +kernel
theorem dX4_copyFrom_210 : decode cX4_copyFrom 210 = .ok (.aload_n 1, 1) := by decide +kernel
theorem dX4_copyFrom_211 : decode cX4_copyFrom 211 = .ok (.getfield 77, 3) := by decide +kernel
theorem dX4_copyFrom_214 : decode cX4_copyFrom 214 = .ok (.putfield 77, 3) := by decide +kernel
theorem dX4_copyFrom_217 : decode cX4_copyFrom 217 = .ok (.aload_n 0, 1) := by decide +kernel
theorem dX4_copyFrom_218 : decode cX4_copyFrom 218 = .ok (.aload_n 1, 1) := by decide +kernel
theorem dX4_copyFrom_219 : decode cX4_copyFrom 219 = .ok (.getfield 80, 3) := by decide +kernel
theorem dX4_copyFrom_222 : decode cX4_copyFrom 222 = .ok (.putfield 80, 3) := by decide +kernel
theorem dX4_copyFrom_225 : decode cX4_copyFrom 225 = .ok (.aload_n 0, 1) := by decide +kernel
theorem dX4_copyFrom_226 : decode cX4_copyFrom 226 = .ok (.aload_n 1, 1) := by decide +kernel
theorem dX4_copyFrom_227 : decode cX4_copyFrom 227 = .ok (.getfield 83, 3) := by decide +kernel
theorem dX4_copyFrom_230 : decode cX4_copyFrom 230 = .ok (.putfield 83, 3) := by decide +kernel
theorem dX4_copyFrom_233 : decode cX4_copyFrom 233 = .ok (.return_, 1) := by decide +kernel
theorem dX4_putTimes_0 : decode cX4_putTimes 0 = .ok (.aload_n 0, 1) := by decide +kernel
theorem dX4_putTimes_1 : decode cX4_putTimes 1 = .ok (.getfield 9, 3) := by decide +kernel
theorem dX4_putTimes_4 : decode cX4_putTimes 4 = .ok (.iconst 0, 1) := by decide +kernel
theorem dX4_putTimes_5 : decode cX4_putTimes 5 = .ok (.iload_n 1, 1) := by decide +kernel
theorem dX4_putTimes_6 : decode cX4_putTimes 6 = .ok (.iastore, 1) := by decide +kernel
theorem dX4_putTimes_7 : decode cX4_putTimes 7 = .ok (.aload_n 0, 1) := by decide +kernel
theorem dX4_putTimes_8 : decode cX4_putTimes 8 = .ok (.getfield 9, 3) := by decide +kernel
theorem dX4_putTimes_11 : decode cX4_putTimes 11 = .ok (.iconst 1, 1) := by decide +kernel
theorem dX4_putTimes_12 : decode cX4_putTimes 12 = .ok (.iload_n 2, 1) := by decide +kernel
theorem dX4_putTimes_13 : decode cX4_putTimes 13 = .ok (.iastore, 1) := by decide +kernel
theorem dX4_putTimes_14 : decode cX4_putTimes 14 = .ok (.aload_n 0, 1) := by decide +kernel
theorem dX4_putTimes_15 : decode cX4_putTimes 15 = .ok (.getfield 9, 3) := by decide +kernel
theorem dX4_putTimes_18 : decode cX4_putTimes 18 = .ok (.iconst 2, 1) := by decide +kernel
theorem dX4_putTimes_19 : decode cX4_putTimes 19 = .ok (.iload_n 3, 1) := by decide +kernel
theorem dX4_putTimes_20 : decode cX4_putTimes 20 = .ok (.iastore, 1) := by decide +kernel
theorem dX4_putTimes_21 : decode cX4_putTimes 21 = .ok (.aload_n 0, 1) := by decide +kernel
theorem dX4_putTimes_22 : decode cX4_putTimes 22 = .ok (.getfield 9, 3) := by decide +kernel
theorem dX4_putTimes_25 : decode cX4_putTimes 25 = .ok (.iconst 3, 1) := by decide +kernel
theorem dX4_putTimes_26 : decode cX4_putTimes 26 = .ok (.iload 4, 2) := by decide +kernel
theorem dX4_putTimes_28 : decode cX4_putTimes 28 = .ok (.iastore, 1) := by decide +kernel
theorem dX4_putTimes_29 : decode cX4_putTimes 29 = .ok (.aload_n 0, 1) := by decide +kernel
theorem dX4_putTimes_30 : decode cX4_putTimes 30 = .ok (.getfield 9, 3) := by decide +kernel
theorem dX4_putTimes_33 : decode cX4_putTimes 33 = .ok (.iconst 4, 1) := by decide +kernel
theorem dX4_putTimes_34 : decode cX4_putTimes 34 = .ok (.iload 5, 2) := by decide +kernel
theorem dX4_putTimes_36 : decode cX4_putTimes 36 = .ok (.iastore, 1) := by decide +kernel
theorem dX4_putTimes_37 : decode cX4_putTimes 37 = .ok (.return_, 1) := by decide +kernel
theorem dX4_hasSlot_0 : decode cX4_hasSlot 0 = .ok (.iload_n 1, 1) := by decide +kernel
theorem dX4_hasSlot_1 : decode cX4_hasSlot 1 = .ok (.ifCond .lt 15, 3) := by decide +kernel
theorem dX4_hasSlot_4 : decode cX4_hasSlot 4 = .ok (.iload_n 1, 1) := by decide +kernel
theorem dX4_hasSlot_5 : decode cX4_hasSlot 5 = .ok (.aload_n 0, 1) := by decide +kernel
theorem dX4_hasSlot_6 : decode cX4_hasSlot 6 = .ok (.getfield 45, 3) := by decide +kernel
theorem dX4_hasSlot_9 : decode cX4_hasSlot 9 = .ok (.if_icmp .ge 7, 3) := by decide +kernel
theorem dX4_hasSlot_12 : decode cX4_hasSlot 12 = .ok (.iconst 1, 1) := by decide +kernel
theorem dX4_hasSlot_13 : decode cX4_hasSlot 13 = .ok (.goto 4, 3) := by decide +kernel
theorem dX4_hasSlot_16 : decode cX4_hasSlot 16 = .ok (.iconst 0, 1) := by decide +kernel
theorem dX4_hasSlot_17 : decode cX4_hasSlot 17 = .ok (.ireturn, 1) := by decide +kernel
theorem dX4_hasDrive_0 : decode cX4_hasDrive 0 = .ok (.iload_n 1, 1) := by decide +kernel
theorem dX4_hasDrive_1 : decode cX4_hasDrive 1 = .ok (.ifCond .lt 15, 3) := by decide +kernel
theorem dX4_hasDrive_4 : decode cX4_hasDrive 4 = .ok (.iload_n 1, 1) := by decide +kernel
theorem dX4_hasDrive_5 : decode cX4_hasDrive 5 = .ok (.aload_n 0, 1) := by decide +kernel
theorem dX4_hasDrive_6 : decode cX4_hasDrive 6 = .ok (.getfield 53, 3) := by decide +kernel
theorem dX4_hasDrive_9 : decode cX4_hasDrive 9 = .ok (.if_icmp .ge 7, 3) := by decide +kernel
theorem dX4_hasDrive_12 : decode cX4_hasDrive 12 = .ok (.iconst 1, 1) := by decide +kernel
theorem dX4_hasDrive_13 : decode cX4_hasDrive 13 = .ok (.goto 4, 3) := by decide +kernel
theorem dX4_hasDrive_16 : decode cX4_hasDrive 16 = .ok (.iconst 0, 1) := by decide +kernel
theorem dX4_hasDrive_17 : decode cX4_hasDrive 17 = .ok (.ireturn, 1) := by decide +kernel
theorem dX4_hasPlatter_0 : decode cX4_hasPlatter 0 = .ok (.iload_n 1, 1) := by decide +kernel
theorem dX4_hasPlatter_1 : decode cX4_hasPlatter 1 = .ok (.ifCond .lt 15, 3) := by decide +kernel
theorem dX4_hasPlatter_4 : decode cX4_hasPlatter 4 = .ok (.iload_n 1, 1) := by decide +kernel
theorem dX4_hasPlatter_5 : decode cX4_hasPlatter 5 = .ok (.aload_n 0, 1) := by decide +kernel
theorem dX4_hasPlatter_6 : decode cX4_hasPlatter 6 = .ok (.getfield 59, 3) := by decide +kernel
theorem dX4_hasPlatter_9 : decode cX4_hasPlatter 9 = .ok (.if_icmp .ge 7, 3) := by decide +kernel
theorem dX4_hasPlatter_12 : decode cX4_hasPlatter 12 = .ok (.iconst 1, 1) := by decide +kernel
theorem dX4_hasPlatter_13 : decode cX4_hasPlatter 13 = .ok (.goto 4, 3) := by decide +kernel
theorem dX4_hasPlatter_16 : decode cX4_hasPlatter 16 = .ok (.iconst 0, 1) := by decide +kernel
theorem dX4_hasPlatter_17 : decode cX4_hasPlatter 17 = .ok (.ireturn, 1) := by decide +kernel
set_option maxRecDepth 20000 in
theorem ggX4_hasSession_X4_hasPlatter : GoodIn wsX4_hasSession wsX4_hasPlatter := goodIn_r _ [7, 8, 9, 10, 11, 12, 13, 14, 15, 16, 17, 18, 19, 20, 21, 22, 23, 24, 25, 26] (by decide +kernel) (by decide +kernel)
set_option maxRecDepth 20000 in
theorem gX4_hasSession_X4_hasPlatter : GoodIn wsX4_hasSession (wsV RX4 102 RX4 yX4_hasPlatter wsX4_hasPlatter) := goodIn_app (goodIn_of _ (by decide +kernel)) ggX4_hasSession_X4_hasPlatter
theorem dX4_hasSession_0 : decode cX4_hasSession 0 = .ok (.aload_n 0, 1) := by decide +kernel
theorem dX4_hasSession_1 : decode cX4_hasSession 1 = .ok (.iload_n 1, 1) := by decide +kernel
theorem dX4_hasSession_2 : decode cX4_hasSession 2 = .ok (.invokevirtual 102, 3) := by decide +kernel
theorem dX4_hasSession_5 : decode cX4_hasSession 5 = .ok (.ifCond .eq 24, 3) := by decide +kernel
theorem dX4_hasSession_8 : decode cX4_hasSession 8 = .ok (.iload_n 2, 1) := by decide +kernel
theorem dX4_hasSession_9 : decode cX4_hasSession 9 = .ok (.ifCond .lt 20, 3) := by decide +kernel
theorem dX4_hasSession_12 : decode cX4_hasSession 12 = .ok (.iload_n 2, 1) := by decide +kernel
theorem dX4_hasSession_13 : decode cX4_hasSession 13 = .ok (.aload_n 0, 1) := by decide +kernel
theorem dX4_hasSession_14 : decode cX4_hasSession 14 = .ok (.getfield 23, 3) := by decide +kernel
theorem dX4_hasSession_17 : decode cX4_hasSession 17 = .ok (.iload_n 1, 1) := by decide +kernel
theorem dX4_hasSession_18 : decode cX4_hasSession 18 = .ok (.aaload, 1) := by decide +kernel
theorem dX4_hasSession_19 : decode cX4_hasSession 19 = .ok (.getfield 106, 3) := by decide +kernel
theorem dX4_hasSession_22 : decode cX4_hasSession 22 = .ok (.if_icmp .ge 7, 3) := by decide +kernel
theorem dX4_hasSession_25 : decode cX4_hasSession 25 = .ok (.iconst 1, 1) := by decide +kernel
theorem dX4_hasSession_26 : decode cX4_hasSession 26 = .ok (.goto 4, 3) := by decide +kernel
theorem dX4_hasSession_29 : decode cX4_hasSession 29 = .ok (.iconst 0, 1) := by decide +kernel
theorem dX4_hasSession_30 : decode cX4_hasSession 30 = .ok (.ireturn, 1) := by decide +kernel
set_option maxRecDepth 20000 in
theorem ggX4_hasSector_X4_hasPlatter : GoodIn wsX4_hasSector wsX4_hasPlatter := goodIn_r _ [7, 8, 9, 10, 11, 12, 13, 14, 15, 16, 17, 18, 19, 20, 21, 22, 23, 24, 25, 26] (by decide +kernel) (by decide +kernel)
set_option maxRecDepth 20000 in
theorem gX4_hasSector_X4_hasPlatter : GoodIn wsX4_hasSector (wsV RX4 102 RX4 yX4_hasPlatter wsX4_hasPlatter) := goodIn_app (goodIn_of _ (by decide +kernel)) ggX4_hasSector_X4_hasPlatter
theorem dX4_hasSector_0 : decode cX4_hasSector 0 = .ok (.aload_n 0, 1) := by decide +kernel
theorem dX4_hasSector_1 : decode cX4_hasSector 1 = .ok (.iload_n 1, 1) := by decide +kernel
theorem dX4_hasSector_2 : decode cX4_hasSector 2 = .ok (.invokevirtual 102, 3) := by decide +kernel
theorem dX4_hasSector_5 : decode cX4_hasSector 5 = .ok (.ifCond .eq 24, 3) := by decide +kernel
theorem dX4_hasSector_8 : decode cX4_hasSector 8 = .ok (.iload_n 2, 1) := by decide +kernel
theorem dX4_hasSector_9 : decode cX4_hasSector 9 = .ok (.ifCond .lt 20, 3) := by decide +kernel
theorem dX4_hasSector_12 : decode cX4_hasSector 12 = .ok (.iload_n 2, 1) := by decide +kernel
theorem dX4_hasSector_13 : decode cX4_hasSector 13 = .ok (.aload_n 0, 1) := by decide +kernel
theorem dX4_hasSector_14 : decode cX4_hasSector 14 = .ok (.getfield 23, 3) := by decide +kernel
theorem dX4_hasSector_17 : decode cX4_hasSector 17 = .ok (.iload_n 1, 1) := by decide +kernel
theorem dX4_hasSector_18 : decode cX4_hasSector 18 = .ok (.aaload, 1) := by decide +kernel
theorem dX4_hasSector_19 : decode cX4_hasSector 19 = .ok (.getfield 109, 3) := by decide +kernel
theorem dX4_hasSector_22 : decode cX4_hasSector 22 = .ok (.if_icmp .ge 7, 3) := by decide +kernel
theorem dX4_hasSector_25 : decode cX4_hasSector 25 = .ok (.iconst 1, 1) := by decide +kernel
theorem dX4_hasSector_26 : decode cX4_hasSector 26 = .ok (.goto 4, 3) := by decide +kernel
theorem dX4_hasSector_29 : decode cX4_hasSector 29 = .ok (.iconst 0, 1) := by decide +kernel
theorem dX4_hasSector_30 : decode cX4_hasSector 30 = .ok (.ireturn, 1) := by decide +kernel
theorem dX4_hasFile_0 : decode cX4_hasFile 0 = .ok (.iload_n 1, 1) := by decide +kernel
theorem dX4_hasFile_1 : decode cX4_hasFile 1 = .ok (.ifCond .lt 15, 3) := by decide +kernel
theorem dX4_hasFile_4 : decode cX4_hasFile 4 = .ok (.iload_n 1, 1) := by decide +kernel
theorem dX4_hasFile_5 : decode cX4_hasFile 5 = .ok (.aload_n 0, 1) := by decide +kernel
theorem dX4_hasFile_6 : decode cX4_hasFile 6 = .ok (.getfield 68, 3) := by decide +kernel
theorem dX4_hasFile_9 : decode cX4_hasFile 9 = .ok (.if_icmp .ge 7, 3) := by decide +kernel
theorem dX4_hasFile_12 : decode cX4_hasFile 12 = .ok (.iconst 1, 1) := by decide +kernel
theorem dX4_hasFile_13 : decode cX4_hasFile 13 = .ok (.goto 4, 3) := by decide +kernel
theorem dX4_hasFile_16 : decode cX4_hasFile 16 = .ok (.iconst 0, 1) := by decide +kernel
theorem dX4_hasFile_17 : decode cX4_hasFile 17 = .ok (.ireturn, 1) := by decide +kernel
theorem dX4_hasRequest_0 : decode cX4_hasRequest 0 = .ok (.iload_n 1, 1) := by decide +kernel
theorem dX4_hasRequest_1 : decode cX4_hasRequest 1 = .ok (.ifCond .lt 15, 3) := by decide +kernel
theorem dX4_hasRequest_4 : decode cX4_hasRequest 4 = .ok (.iload_n 1, 1) := by decide +kernel
theorem dX4_hasRequest_5 : decode cX4_hasRequest 5 = .ok (.aload_n 0, 1) := by decide +kernel
theorem dX4_hasRequest_6 : decode cX4_hasRequest 6 = .ok (.getfield 71, 3) := by decide +kernel
theorem dX4_hasRequest_9 : decode cX4_hasRequest 9 = .ok (.if_icmp .ge 7, 3) := by decide +kernel
theorem dX4_hasRequest_12 : decode cX4_hasRequest 12 = .ok (.iconst 1, 1) := by decide +kernel
theorem dX4_hasRequest_13 : decode cX4_hasRequest 13 = .ok (.goto 4, 3) := by decide +kernel
theorem dX4_hasRequest_16 : decode cX4_hasRequest 16 = .ok (.iconst 0, 1) := by decide +kernel
theorem dX4_hasRequest_17 : decode cX4_hasRequest 17 = .ok (.ireturn, 1) := by decide +kernel
theorem dX4_addDrive_0 : decode cX4_addDrive 0 = .ok (.aload_n 0, 1) := by decide +kernel
theorem dX4_addDrive_1 : decode cX4_addDrive 1 = .ok (.getfield 53, 3) := by decide +kernel
theorem dX4_addDrive_4 : decode cX4_addDrive 4 = .ok (.iconst 4, 1) := by decide +kernel
theorem dX4_addDrive_5 : decode cX4_addDrive 5 = .ok (.if_icmp .ge 38, 3) := by decide +kernel
theorem dX4_addDrive_8 : decode cX4_addDrive 8 = .ok (.aload_n 0, 1) := by decide +kernel
theorem dX4_addDrive_9 : decode cX4_addDrive 9 = .ok (.getfield 17, 3) := by decide +kernel
theorem dX4_addDrive_12 : decode cX4_addDrive 12 = .ok (.aload_n 0, 1) := by decide +kernel
theorem dX4_addDrive_13 : decode cX4_addDrive 13 = .ok (.getfield 53, 3) := by decide +kernel
theorem dX4_addDrive_16 : decode cX4_addDrive 16 = .ok (.aaload, 1) := by decide +kernel
theorem dX4_addDrive_17 : decode cX4_addDrive 17 = .ok (.astore_n 2, 1) := by decide +kernel
theorem dX4_addDrive_18 : decode cX4_addDrive 18 = .ok (.aload_n 2, 1) := by decide +kernel
theorem dX4_addDrive_19 : decode cX4_addDrive 19 = .ok (.iload_n 1, 1) := by decide +kernel
theorem dX4_addDrive_20 : decode cX4_addDrive 20 = .ok (.putfield 112, 3) := by decide +kernel
theorem dX4_addDrive_23 : decode cX4_addDrive 23 = .ok (.aload_n 2, 1) := by decide +kernel
theorem dX4_addDrive_24 : decode cX4_addDrive 24 = .ok (.iconst (-1), 1) := by decide +kernel
theorem dX4_addDrive_25 : decode cX4_addDrive 25 = .ok (.putfield 115, 3) := by decide +kernel
theorem dX4_addDrive_28 : decode cX4_addDrive 28 = .ok (.aload_n 2, 1) := by decide +kernel
theorem dX4_addDrive_29 : decode cX4_addDrive 29 = .ok (.iconst 0, 1) := by decide +kernel
theorem dX4_addDrive_30 : decode cX4_addDrive 30 = .ok (.putfield 118, 3) := by decide +kernel
theorem dX4_addDrive_33 : decode cX4_addDrive 33 = .ok (.aload_n 0, 1) := by decide +kernel
theorem dX4_addDrive_34 : decode cX4_addDrive 34 = .ok (.dup, 1) := by decide +kernel
theorem dX4_addDrive_35 : decode cX4_addDrive 35 = .ok (.getfield 53, 3) := by decide +kernel
theorem dX4_addDrive_38 : decode cX4_addDrive 38 = .ok (.iconst 1, 1) := by decide +kernel
theorem dX4_addDrive_39 : decode cX4_addDrive 39 = .ok (.iadd, 1) := by decide +kernel
theorem dX4_addDrive_40 : decode cX4_addDrive 40 = .ok (.putfield 53, 3) := by decide +kernel
theorem dX4_addDrive_43 : decode cX4_addDrive 43 = .ok (.return_, 1) := by decide +kernel
set_option maxRecDepth 20000 in
theorem ggX4_addPlatter_X3_begin : GoodIn wsX4_addPlatter wsX3_begin := goodIn_r _ [7, 8, 9, 10, 11, 12, 13, 14, 15, 16, 17, 18, 37, 38, 39, 40, 41, 42, 43, 44, 45] (by decide +kernel) (by decide +kernel)
set_option maxRecDepth 20000 in
theorem gX4_addPlatter_X3_begin : GoodIn wsX4_addPlatter (wsV RX4 121 RX3 yX3_begin wsX3_begin) := goodIn_app (goodIn_of _ (by decide +kernel)) ggX4_addPlatter_X3_begin
theorem dX4_addPlatter_0 : decode cX4_addPlatter 0 = .ok (.aload_n 0, 1) := by decide +kernel
theorem dX4_addPlatter_1 : decode cX4_addPlatter 1 = .ok (.getfield 59, 3) := by decide +kernel
theorem dX4_addPlatter_4 : decode cX4_addPlatter 4 = .ok (.bipush 10, 2) := by decide +kernel
theorem dX4_addPlatter_6 : decode cX4_addPlatter 6 = .ok (.if_icmp .ge 28, 3) := by decide +kernel
theorem dX4_addPlatter_9 : decode cX4_addPlatter 9 = .ok (.aload_n 0, 1) := by decide +kernel
theorem dX4_addPlatter_10 : decode cX4_addPlatter 10 = .ok (.getfield 23, 3) := by decide +kernel
theorem dX4_addPlatter_13 : decode cX4_addPlatter 13 = .ok (.aload_n 0, 1) := by decide +kernel
theorem dX4_addPlatter_14 : decode cX4_addPlatter 14 = .ok (.getfield 59, 3) := by decide +kernel
theorem dX4_addPlatter_17 : decode cX4_addPlatter 17 = .ok (.aaload, 1) := by decide +kernel
theorem dX4_addPlatter_18 : decode cX4_addPlatter 18 = .ok (.iload_n 1, 1) := by decide +kernel
theorem dX4_addPlatter_19 : decode cX4_addPlatter 19 = .ok (.iload_n 2, 1) := by decide +kernel
theorem dX4_addPlatter_20 : decode cX4_addPlatter 20 = .ok (.iload_n 3, 1) := by decide +kernel
theorem dX4_addPlatter_21 : decode cX4_addPlatter 21 = .ok (.invokevirtual 121, 3) := by decide +kernel
theorem dX4_addPlatter_24 : decode cX4_addPlatter 24 = .ok (.aload_n 0, 1) := by decide +kernel
theorem dX4_addPlatter_25 : decode cX4_addPlatter 25 = .ok (.dup, 1) := by decide +kernel
theorem dX4_addPlatter_26 : decode cX4_addPlatter 26 = .ok (.getfield 59, 3) := by decide +kernel
theorem dX4_addPlatter_29 : decode cX4_addPlatter 29 = .ok (.iconst 1, 1) := by decide +kernel
theorem dX4_addPlatter_30 : decode cX4_addPlatter 30 = .ok (.iadd, 1) := by decide +kernel
theorem dX4_addPlatter_31 : decode cX4_addPlatter 31 = .ok (.putfield 59, 3) := by decide +kernel
theorem dX4_addPlatter_34 : decode cX4_addPlatter 34 = .ok (.return_, 1) := by decide +kernel
theorem dX4_platterWithHome_0 : decode cX4_platterWithHome 0 = .ok (.iconst 0, 1) := by decide +kernel
theorem dX4_platterWithHome_1 : decode cX4_platterWithHome 1 = .ok (.istore_n 2, 1) := by decide +kernel
theorem dX4_platterWithHome_2 : decode cX4_platterWithHome 2 = .ok (.iload_n 2, 1) := by decide +kernel
theorem dX4_platterWithHome_3 : decode cX4_platterWithHome 3 = .ok (.aload_n 0, 1) := by decide +kernel
theorem dX4_platterWithHome_4 : decode cX4_platterWithHome 4 = .ok (.getfield 59, 3) := by decide +kernel
theorem dX4_platterWithHome_7 : decode cX4_platterWithHome 7 = .ok (.if_icmp .ge 24, 3) := by decide +kernel
theorem dX4_platterWithHome_10 : decode cX4_platterWithHome 10 = .ok (.aload_n 0, 1) := by decide +kernel
theorem dX4_platterWithHome_11 : decode cX4_platterWithHome 11 = .ok (.getfield 23, 3) := by decide +kernel
theorem dX4_platterWithHome_14 : decode cX4_platterWithHome 14 = .ok (.iload_n 2, 1) := by decide +kernel
theorem dX4_platterWithHome_15 : decode cX4_platterWithHome 15 = .ok (.aaload, 1) := by decide +kernel
theorem dX4_platterWithHome_16 : decode cX4_platterWithHome 16 = .ok (.getfield 125, 3) := by decide +kernel
theorem dX4_platterWithHome_19 : decode cX4_platterWithHome 19 = .ok (.iload_n 1, 1) := by decide +kernel
theorem dX4_platterWithHome_20 : decode cX4_platterWithHome 20 = .ok (.if_icmp .ne 5, 3) := by decide +kernel
theorem dX4_platterWithHome_23 : decode cX4_platterWithHome 23 = .ok (.iload_n 2, 1) := by decide +kernel
theorem dX4_platterWithHome_24 : decode cX4_platterWithHome 24 = .ok (.ireturn, 1) := by decide +kernel
theorem dX4_platterWithHome_25 : decode cX4_platterWithHome 25 = .ok (.iinc 2 1, 3) := by decide +kernel
theorem dX4_platterWithHome_28 : decode cX4_platterWithHome 28 = .ok (.goto (-26), 3) := by decide +kernel
theorem dX4_platterWithHome_31 : decode cX4_platterWithHome 31 = .ok (.iconst (-1), 1) := by decide +kernel
theorem dX4_platterWithHome_32 : decode cX4_platterWithHome 32 = .ok (.ireturn, 1) := by decide +kernel
set_option maxRecDepth 20000 in
theorem ggX4_addVersion_X4_hasFile : GoodIn wsX4_addVersion wsX4_hasFile := goodIn_r _ [18, 19, 49, 50, 51, 52, 53, 54, 55, 56, 57, 58, 59, 60, 61, 62, 63, 64, 65, 66] (by decide +kernel) (by decide +kernel)
set_option maxRecDepth 20000 in
theorem gX4_addVersion_X4_hasFile : GoodIn wsX4_addVersion (wsV RX4 128 RX4 yX4_hasFile wsX4_hasFile) := goodIn_app (goodIn_of _ (by decide +kernel)) ggX4_addVersion_X4_hasFile
set_option maxRecDepth 20000 in
theorem ggX4_addVersion_X4_hasPlatter : GoodIn wsX4_addVersion wsX4_hasPlatter := goodIn_r _ [23, 24, 49, 50, 51, 52, 53, 54, 55, 56, 57, 58, 59, 60, 61, 62, 63, 64, 65, 66] (by decide +kernel) (by decide +kernel)
set_option maxRecDepth 20000 in
theorem gX4_addVersion_X4_hasPlatter : GoodIn wsX4_addVersion (wsV RX4 102 RX4 yX4_hasPlatter wsX4_hasPlatter) := goodIn_app (goodIn_of _ (by decide +kernel)) ggX4_addVersion_X4_hasPlatter
set_option maxRecDepth 20000 in
theorem ggX4_addVersion_X3_badAmongNext : GoodIn wsX4_addVersion wsX3_badAmongNext := goodIn_r _ [29, 30, 31, 32, 33, 28, 34, 35, 74, 75, 76, 77, 78, 79, 80, 81, 82] (by decide +kernel) (by decide +kernel)
set_option maxRecDepth 20000 in
theorem gX4_addVersion_X3_badAmongNext : GoodIn wsX4_addVersion (wsV RX4 144 RX3 yX3_badAmongNext wsX3_badAmongNext) := goodIn_app (goodIn_of _ (by decide +kernel)) ggX4_addVersion_X3_badAmongNext
set_option maxRecDepth 20000 in
theorem ggX4_addVersion_X3_takeSectors : GoodIn wsX4_addVersion wsX3_takeSectors := goodIn_r _ [39, 40, 41, 42, 30, 43, 44, 45, 46, 47, 28, 48, 74, 75, 76, 77, 78, 79, 80, 81, 82] (by decide +kernel) (by decide +kernel)
set_option maxRecDepth 20000 in
theorem gX4_addVersion_X3_takeSectors : GoodIn wsX4_addVersion (wsV RX4 155 RX3 yX3_takeSectors wsX3_takeSectors) := goodIn_app (goodIn_of _ (by decide +kernel)) ggX4_addVersion_X3_takeSectors
theorem dX4_addVersion_0 : decode cX4_addVersion 0 = .ok (.aload_n 0, 1) := by decide +kernel
theorem dX4_addVersion_1 : decode cX4_addVersion 1 = .ok (.getfield 65, 3) := by decide +kernel
theorem dX4_addVersion_4 : decode cX4_addVersion 4 = .ok (.bipush 40, 2) := by decide +kernel
theorem dX4_addVersion_6 : decode cX4_addVersion 6 = .ok (.if_icmp .ge 126, 3) := by decide +kernel
theorem dX4_addVersion_9 : decode cX4_addVersion 9 = .ok (.aload_n 0, 1) := by decide +kernel
theorem dX4_addVersion_10 : decode cX4_addVersion 10 = .ok (.iload_n 1, 1) := by decide +kernel
theorem dX4_addVersion_11 : decode cX4_addVersion 11 = .ok (.invokevirtual 128, 3) := by decide +kernel
theorem dX4_addVersion_14 : decode cX4_addVersion 14 = .ok (.ifCond .eq 118, 3) := by decide +kernel
theorem dX4_addVersion_17 : decode cX4_addVersion 17 = .ok (.aload_n 0, 1) := by decide +kernel
theorem dX4_addVersion_18 : decode cX4_addVersion 18 = .ok (.iload_n 3, 1) := by decide +kernel
theorem dX4_addVersion_19 : decode cX4_addVersion 19 = .ok (.invokevirtual 102, 3) := by decide +kernel
theorem dX4_addVersion_22 : decode cX4_addVersion 22 = .ok (.ifCond .eq 110, 3) := by decide +kernel
theorem dX4_addVersion_25 : decode cX4_addVersion 25 = .ok (.aload_n 0, 1) := by decide +kernel
theorem dX4_addVersion_26 : decode cX4_addVersion 26 = .ok (.getfield 23, 3) := by decide +kernel
theorem dX4_addVersion_29 : decode cX4_addVersion 29 = .ok (.iload_n 3, 1) := by decide +kernel
theorem dX4_addVersion_30 : decode cX4_addVersion 30 = .ok (.aaload, 1) := by decide +kernel
theorem dX4_addVersion_31 : decode cX4_addVersion 31 = .ok (.astore 4, 2) := by decide +kernel
theorem dX4_addVersion_33 : decode cX4_addVersion 33 = .ok (.aload_n 0, 1) := by decide +kernel
theorem dX4_addVersion_34 : decode cX4_addVersion 34 = .ok (.getfield 29, 3) := by decide +kernel
theorem dX4_addVersion_37 : decode cX4_addVersion 37 = .ok (.aload_n 0, 1) := by decide +kernel
theorem dX4_addVersion_38 : decode cX4_addVersion 38 = .ok (.getfield 65, 3) := by decide +kernel
theorem dX4_addVersion_41 : decode cX4_addVersion 41 = .ok (.aaload, 1) := by decide +kernel
theorem dX4_addVersion_42 : decode cX4_addVersion 42 = .ok (.astore 5, 2) := by decide +kernel
theorem dX4_addVersion_44 : decode cX4_addVersion 44 = .ok (.aload 5, 2) := by decide +kernel
theorem dX4_addVersion_46 : decode cX4_addVersion 46 = .ok (.iload_n 1, 1) := by decide +kernel
theorem dX4_addVersion_47 : decode cX4_addVersion 47 = .ok (.putfield 131, 3) := by decide +kernel
theorem dX4_addVersion_50 : decode cX4_addVersion 50 = .ok (.aload 5, 2) := by decide +kernel
theorem dX4_addVersion_52 : decode cX4_addVersion 52 = .ok (.iload_n 3, 1) := by decide +kernel
theorem dX4_addVersion_53 : decode cX4_addVersion 53 = .ok (.putfield 134, 3) := by decide +kernel
theorem dX4_addVersion_56 : decode cX4_addVersion 56 = .ok (.aload 5, 2) := by decide +kernel
theorem dX4_addVersion_58 : decode cX4_addVersion 58 = .ok (.aload 4, 2) := by decide +kernel
theorem dX4_addVersion_60 : decode cX4_addVersion 60 = .ok (.getfield 135, 3) := by decide +kernel
theorem dX4_addVersion_63 : decode cX4_addVersion 63 = .ok (.putfield 138, 3) := by decide +kernel
theorem dX4_addVersion_66 : decode cX4_addVersion 66 = .ok (.aload 5, 2) := by decide +kernel
theorem dX4_addVersion_68 : decode cX4_addVersion 68 = .ok (.iload_n 2, 1) := by decide +kernel
theorem dX4_addVersion_69 : decode cX4_addVersion 69 = .ok (.putfield 141, 3) := by decide +kernel
theorem dX4_addVersion_72 : decode cX4_addVersion 72 = .ok (.aload 5, 2) := by decide +kernel
theorem dX4_addVersion_74 : decode cX4_addVersion 74 = .ok (.aload 4, 2) := by decide +kernel
theorem dX4_addVersion_76 : decode cX4_addVersion 76 = .ok (.iload_n 2, 1) := by decide +kernel
theorem dX4_addVersion_77 : decode cX4_addVersion 77 = .ok (.invokevirtual 144, 3) := by decide +kernel
theorem dX4_addVersion_80 : decode cX4_addVersion 80 = .ok (.putfield 148, 3) := by decide +kernel
theorem dX4_addVersion_83 : decode cX4_addVersion 83 = .ok (.aload 5, 2) := by decide +kernel
theorem dX4_addVersion_85 : decode cX4_addVersion 85 = .ok (.iconst 0, 1) := by decide +kernel
theorem dX4_addVersion_86 : decode cX4_addVersion 86 = .ok (.putfield 151, 3) := by decide +kernel
theorem dX4_addVersion_89 : decode cX4_addVersion 89 = .ok (.aload 4, 2) := by decide +kernel
theorem dX4_addVersion_91 : decode cX4_addVersion 91 = .ok (.iload_n 2, 1) := by decide +kernel
theorem dX4_addVersion_92 : decode cX4_addVersion 92 = .ok (.aload 5, 2) := by decide +kernel
theorem dX4_addVersion_94 : decode cX4_addVersion 94 = .ok (.getfield 148, 3) := by decide +kernel
theorem dX4_addVersion_97 : decode cX4_addVersion 97 = .ok (.invokevirtual 155, 3) := by decide +kernel
theorem dX4_addVersion_100 : decode cX4_addVersion 100 = .ok (.aload 5, 2) := by decide +kernel
theorem dX4_addVersion_102 : decode cX4_addVersion 102 = .ok (.aload 4, 2) := by decide +kernel
theorem dX4_addVersion_104 : decode cX4_addVersion 104 = .ok (.getfield 106, 3) := by decide +kernel
theorem dX4_addVersion_107 : decode cX4_addVersion 107 = .ok (.iconst 1, 1) := by decide +kernel
theorem dX4_addVersion_108 : decode cX4_addVersion 108 = .ok (.isub, 1) := by decide +kernel
theorem dX4_addVersion_109 : decode cX4_addVersion 109 = .ok (.putfield 159, 3) := by decide +kernel
theorem dX4_addVersion_112 : decode cX4_addVersion 112 = .ok (.aload_n 0, 1) := by decide +kernel
theorem dX4_addVersion_113 : decode cX4_addVersion 113 = .ok (.getfield 33, 3) := by decide +kernel
theorem dX4_addVersion_116 : decode cX4_addVersion 116 = .ok (.iload_n 1, 1) := by decide +kernel
theorem dX4_addVersion_117 : decode cX4_addVersion 117 = .ok (.aload_n 0, 1) := by decide +kernel
theorem dX4_addVersion_118 : decode cX4_addVersion 118 = .ok (.getfield 65, 3) := by decide +kernel
theorem dX4_addVersion_121 : decode cX4_addVersion 121 = .ok (.iastore, 1) := by decide +kernel
theorem dX4_addVersion_122 : decode cX4_addVersion 122 = .ok (.aload_n 0, 1) := by decide +kernel
theorem dX4_addVersion_123 : decode cX4_addVersion 123 = .ok (.dup, 1) := by decide +kernel
theorem dX4_addVersion_124 : decode cX4_addVersion 124 = .ok (.getfield 65, 3) := by decide +kernel
theorem dX4_addVersion_127 : decode cX4_addVersion 127 = .ok (.iconst 1, 1) := by decide +kernel
theorem dX4_addVersion_128 : decode cX4_addVersion 128 = .ok (.iadd, 1) := by decide +kernel
theorem dX4_addVersion_129 : decode cX4_addVersion 129 = .ok (.putfield 65, 3) := by decide +kernel
theorem dX4_addVersion_132 : decode cX4_addVersion 132 = .ok (.return_, 1) := by decide +kernel
set_option maxRecDepth 20000 in
theorem ggX4_spoil_X3_setBad : GoodIn wsX4_spoil wsX3_setBad := goodIn_r _ [9, 10, 50, 51, 52, 53, 54, 55, 56, 57, 58] (by decide +kernel) (by decide +kernel)
set_option maxRecDepth 20000 in
theorem gX4_spoil_X3_setBad : GoodIn wsX4_spoil (wsV RX4 162 RX3 yX3_setBad wsX3_setBad) := goodIn_app (goodIn_of _ (by decide +kernel)) ggX4_spoil_X3_setBad
set_option maxRecDepth 20000 in
theorem ggX4_spoil_X4_versionAt : GoodIn wsX4_spoil wsX4_versionAt := goodIn_r _ [15, 16, 3, 17, 18, 19, 20, 21, 22, 23, 24, 25, 26, 27, 28, 29, 30, 31, 32, 33, 34, 35, 36, 37, 38, 39, 40, 41, 42, 43, 44, 45, 46, 47, 48, 49] (by decide +kernel) (by decide +kernel)
set_option maxRecDepth 20000 in
theorem gX4_spoil_X4_versionAt : GoodIn wsX4_spoil (wsV RX4 166 RX4 yX4_versionAt wsX4_versionAt) := goodIn_app (goodIn_of _ (by decide +kernel)) ggX4_spoil_X4_versionAt
theorem dX4_spoil_0 : decode cX4_spoil 0 = .ok (.aload_n 0, 1) := by decide +kernel
theorem dX4_spoil_1 : decode cX4_spoil 1 = .ok (.getfield 23, 3) := by decide +kernel
theorem dX4_spoil_4 : decode cX4_spoil 4 = .ok (.iload_n 1, 1) := by decide +kernel
theorem dX4_spoil_5 : decode cX4_spoil 5 = .ok (.aaload, 1) := by decide +kernel
theorem dX4_spoil_6 : decode cX4_spoil 6 = .ok (.iload_n 2, 1) := by decide +kernel
theorem dX4_spoil_7 : decode cX4_spoil 7 = .ok (.invokevirtual 162, 3) := by decide +kernel
theorem dX4_spoil_10 : decode cX4_spoil 10 = .ok (.aload_n 0, 1) := by decide +kernel
theorem dX4_spoil_11 : decode cX4_spoil 11 = .ok (.dup, 1) := by decide +kernel
theorem dX4_spoil_12 : decode cX4_spoil 12 = .ok (.getfield 62, 3) := by decide +kernel
theorem dX4_spoil_15 : decode cX4_spoil 15 = .ok (.iconst 1, 1) := by decide +kernel
theorem dX4_spoil_16 : decode cX4_spoil 16 = .ok (.iadd, 1) := by decide +kernel
theorem dX4_spoil_17 : decode cX4_spoil 17 = .ok (.putfield 62, 3) := by decide +kernel
theorem dX4_spoil_20 : decode cX4_spoil 20 = .ok (.aload_n 0, 1) := by decide +kernel
theorem dX4_spoil_21 : decode cX4_spoil 21 = .ok (.iload_n 1, 1) := by decide +kernel
theorem dX4_spoil_22 : decode cX4_spoil 22 = .ok (.iload_n 2, 1) := by decide +kernel
theorem dX4_spoil_23 : decode cX4_spoil 23 = .ok (.invokevirtual 166, 3) := by decide +kernel
theorem dX4_spoil_26 : decode cX4_spoil 26 = .ok (.istore_n 3, 1) := by decide +kernel
theorem dX4_spoil_27 : decode cX4_spoil 27 = .ok (.iload_n 3, 1) := by decide +kernel
theorem dX4_spoil_28 : decode cX4_spoil 28 = .ok (.iconst (-1), 1) := by decide +kernel
theorem dX4_spoil_29 : decode cX4_spoil 29 = .ok (.if_icmp .eq 13, 3) := by decide +kernel
theorem dX4_spoil_32 : decode cX4_spoil 32 = .ok (.aload_n 0, 1) := by decide +kernel
theorem dX4_spoil_33 : decode cX4_spoil 33 = .ok (.getfield 29, 3) := by decide +kernel
theorem dX4_spoil_36 : decode cX4_spoil 36 = .ok (.iload_n 3, 1) := by decide +kernel
theorem dX4_spoil_37 : decode cX4_spoil 37 = .ok (.aaload, 1) := by decide +kernel
theorem dX4_spoil_38 : decode cX4_spoil 38 = .ok (.iconst 1, 1) := by decide +kernel
theorem dX4_spoil_39 : decode cX4_spoil 39 = .ok (.putfield 151, 3) := by decide +kernel
theorem dX4_spoil_42 : decode cX4_spoil 42 = .ok (.return_, 1) := by decide +kernel
theorem dX4_currentVersion_0 : decode cX4_currentVersion 0 = .ok (.aload_n 0, 1) := by decide +kernel
theorem dX4_currentVersion_1 : decode cX4_currentVersion 1 = .ok (.getfield 29, 3) := by decide +kernel
theorem dX4_currentVersion_4 : decode cX4_currentVersion 4 = .ok (.aload_n 0, 1) := by decide +kernel
theorem dX4_currentVersion_5 : decode cX4_currentVersion 5 = .ok (.getfield 33, 3) := by decide +kernel
theorem dX4_currentVersion_8 : decode cX4_currentVersion 8 = .ok (.iload_n 1, 1) := by decide +kernel
theorem dX4_currentVersion_9 : decode cX4_currentVersion 9 = .ok (.iaload, 1) := by decide +kernel
theorem dX4_currentVersion_10 : decode cX4_currentVersion 10 = .ok (.aaload, 1) := by decide +kernel
theorem dX4_currentVersion_11 : decode cX4_currentVersion 11 = .ok (.areturn, 1) := by decide +kernel
set_option maxRecDepth 20000 in
theorem ggX4_isGood_X3_isClosed : GoodIn wsX4_isGood wsX3_isClosed := goodIn_r _ [9, 10, 11, 37, 38, 39, 40, 41, 42, 43, 44, 45] (by decide +kernel) (by decide +kernel)
set_option maxRecDepth 20000 in
theorem gX4_isGood_X3_isClosed : GoodIn wsX4_isGood (wsV RX4 170 RX3 yX3_isClosed wsX3_isClosed) := goodIn_app (goodIn_of _ (by decide +kernel)) ggX4_isGood_X3_isClosed
theorem dX4_isGood_0 : decode cX4_isGood 0 = .ok (.aload_n 1, 1) := by decide +kernel
theorem dX4_isGood_1 : decode cX4_isGood 1 = .ok (.getfield 151, 3) := by decide +kernel
theorem dX4_isGood_4 : decode cX4_isGood 4 = .ok (.ifCond .ne 26, 3) := by decide +kernel
theorem dX4_isGood_7 : decode cX4_isGood 7 = .ok (.aload_n 0, 1) := by decide +kernel
theorem dX4_isGood_8 : decode cX4_isGood 8 = .ok (.getfield 23, 3) := by decide +kernel
theorem dX4_isGood_11 : decode cX4_isGood 11 = .ok (.aload_n 1, 1) := by decide +kernel
theorem dX4_isGood_12 : decode cX4_isGood 12 = .ok (.getfield 134, 3) := by decide +kernel
theorem dX4_isGood_15 : decode cX4_isGood 15 = .ok (.aaload, 1) := by decide +kernel
theorem dX4_isGood_16 : decode cX4_isGood 16 = .ok (.aload_n 1, 1) := by decide +kernel
theorem dX4_isGood_17 : decode cX4_isGood 17 = .ok (.getfield 159, 3) := by decide +kernel
theorem dX4_isGood_20 : decode cX4_isGood 20 = .ok (.invokevirtual 170, 3) := by decide +kernel
theorem dX4_isGood_23 : decode cX4_isGood 23 = .ok (.ifCond .eq 7, 3) := by decide +kernel
theorem dX4_isGood_26 : decode cX4_isGood 26 = .ok (.iconst 1, 1) := by decide +kernel
theorem dX4_isGood_27 : decode cX4_isGood 27 = .ok (.goto 4, 3) := by decide +kernel
theorem dX4_isGood_30 : decode cX4_isGood 30 = .ok (.iconst 0, 1) := by decide +kernel
theorem dX4_isGood_31 : decode cX4_isGood 31 = .ok (.ireturn, 1) := by decide +kernel
set_option maxRecDepth 20000 in
theorem ggX4_isReadable_X4_currentVersion : GoodIn wsX4_isReadable wsX4_currentVersion := goodIn_r _ [5, 6, 7, 23, 24, 25, 26, 27, 28, 29, 30, 31, 32, 33, 34, 35, 36, 37, 38, 39, 40] (by decide +kernel) (by decide +kernel)
set_option maxRecDepth 20000 in
theorem gX4_isReadable_X4_currentVersion : GoodIn wsX4_isReadable (wsV RX4 173 RX4 yX4_currentVersion wsX4_currentVersion) := goodIn_app (goodIn_of _ (by decide +kernel)) ggX4_isReadable_X4_currentVersion
set_option maxRecDepth 20000 in
theorem ggX4_isReadable_X4_isGood : GoodIn wsX4_isReadable wsX4_isGood := goodIn_r _ [11, 12, 13, 14, 15, 16, 17, 18, 19, 20, 21, 22, 41, 42, 43, 44, 45, 46, 47, 23, 24, 25, 26, 27, 28, 29, 30, 31, 32, 33, 34, 35, 36, 37, 38, 39, 40, 48, 49, 50, 51, 52, 53, 54, 55, 56] (by decide +kernel) (by decide +kernel)
set_option maxRecDepth 20000 in
theorem gX4_isReadable_X4_isGood : GoodIn wsX4_isReadable (wsV RX4 177 RX4 yX4_isGood wsX4_isGood) := goodIn_app (goodIn_of _ (by decide +kernel)) ggX4_isReadable_X4_isGood
theorem dX4_isReadable_0 : decode cX4_isReadable 0 = .ok (.aload_n 0, 1) := by decide +kernel
theorem dX4_isReadable_1 : decode cX4_isReadable 1 = .ok (.aload_n 0, 1) := by decide +kernel
theorem dX4_isReadable_2 : decode cX4_isReadable 2 = .ok (.iload_n 1, 1) := by decide +kernel
theorem dX4_isReadable_3 : decode cX4_isReadable 3 = .ok (.invokevirtual 173, 3) := by decide +kernel
theorem dX4_isReadable_6 : decode cX4_isReadable 6 = .ok (.invokevirtual 177, 3) := by decide +kernel
theorem dX4_isReadable_9 : decode cX4_isReadable 9 = .ok (.ireturn, 1) := by decide +kernel
set_option maxRecDepth 20000 in
theorem ggX4_versionAt_X6_holds : GoodIn wsX4_versionAt wsX6_holds := goodIn_r _ [7, 8, 9, 10, 29, 30, 31, 32, 33, 34, 35] (by decide +kernel) (by decide +kernel)
set_option maxRecDepth 20000 in
theorem gX4_versionAt_X6_holds : GoodIn wsX4_versionAt (wsV RX4 181 RX6 yX6_holds wsX6_holds) := goodIn_app (goodIn_of _ (by decide +kernel)) ggX4_versionAt_X6_holds
theorem dX4_versionAt_0 : decode cX4_versionAt 0 = .ok (.iconst 0, 1) := by decide +kernel
theorem dX4_versionAt_1 : decode cX4_versionAt 1 = .ok (.istore_n 3, 1) := by decide +kernel
theorem dX4_versionAt_2 : decode cX4_versionAt 2 = .ok (.iload_n 3, 1) := by decide +kernel
theorem dX4_versionAt_3 : decode cX4_versionAt 3 = .ok (.aload_n 0, 1) := by decide +kernel
theorem dX4_versionAt_4 : decode cX4_versionAt 4 = .ok (.getfield 65, 3) := by decide +kernel
theorem dX4_versionAt_7 : decode cX4_versionAt 7 = .ok (.if_icmp .ge 25, 3) := by decide +kernel
theorem dX4_versionAt_10 : decode cX4_versionAt 10 = .ok (.aload_n 0, 1) := by decide +kernel
theorem dX4_versionAt_11 : decode cX4_versionAt 11 = .ok (.getfield 29, 3) := by decide +kernel
theorem dX4_versionAt_14 : decode cX4_versionAt 14 = .ok (.iload_n 3, 1) := by decide +kernel
theorem dX4_versionAt_15 : decode cX4_versionAt 15 = .ok (.aaload, 1) := by decide +kernel
theorem dX4_versionAt_16 : decode cX4_versionAt 16 = .ok (.iload_n 1, 1) := by decide +kernel
theorem dX4_versionAt_17 : decode cX4_versionAt 17 = .ok (.iload_n 2, 1) := by decide +kernel
theorem dX4_versionAt_18 : decode cX4_versionAt 18 = .ok (.invokevirtual 181, 3) := by decide +kernel
theorem dX4_versionAt_21 : decode cX4_versionAt 21 = .ok (.ifCond .eq 5, 3) := by decide +kernel
theorem dX4_versionAt_24 : decode cX4_versionAt 24 = .ok (.iload_n 3, 1) := by decide +kernel
theorem dX4_versionAt_25 : decode cX4_versionAt 25 = .ok (.ireturn, 1) := by decide +kernel
theorem dX4_versionAt_26 : decode cX4_versionAt 26 = .ok (.iinc 3 1, 3) := by decide +kernel
theorem dX4_versionAt_29 : decode cX4_versionAt 29 = .ok (.goto (-27), 3) := by decide +kernel
theorem dX4_versionAt_32 : decode cX4_versionAt 32 = .ok (.iconst (-1), 1) := by decide +kernel
theorem dX4_versionAt_33 : decode cX4_versionAt 33 = .ok (.ireturn, 1) := by decide +kernel
theorem dX4_isCurrent_0 : decode cX4_isCurrent 0 = .ok (.aload_n 0, 1) := by decide +kernel
theorem dX4_isCurrent_1 : decode cX4_isCurrent 1 = .ok (.getfield 33, 3) := by decide +kernel
theorem dX4_isCurrent_4 : decode cX4_isCurrent 4 = .ok (.aload_n 0, 1) := by decide +kernel
theorem dX4_isCurrent_5 : decode cX4_isCurrent 5 = .ok (.getfield 29, 3) := by decide +kernel
theorem dX4_isCurrent_8 : decode cX4_isCurrent 8 = .ok (.iload_n 1, 1) := by decide +kernel
theorem dX4_isCurrent_9 : decode cX4_isCurrent 9 = .ok (.aaload, 1) := by decide +kernel
theorem dX4_isCurrent_10 : decode cX4_isCurrent 10 = .ok (.getfield 131, 3) := by decide +kernel
theorem dX4_isCurrent_13 : decode cX4_isCurrent 13 = .ok (.iaload, 1) := by decide +kernel
theorem dX4_isCurrent_14 : decode cX4_isCurrent 14 = .ok (.iload_n 1, 1) := by decide +kernel
theorem dX4_isCurrent_15 : decode cX4_isCurrent 15 = .ok (.if_icmp .ne 7, 3) := by decide +kernel
theorem dX4_isCurrent_18 : decode cX4_isCurrent 18 = .ok (.iconst 1, 1) := by decide +kernel
theorem dX4_isCurrent_19 : decode cX4_isCurrent 19 = .ok (.goto 4, 3) := by decide +kernel
theorem dX4_isCurrent_22 : decode cX4_isCurrent 22 = .ok (.iconst 0, 1) := by decide +kernel
theorem dX4_isCurrent_23 : decode cX4_isCurrent 23 = .ok (.ireturn, 1) := by decide +kernel
set_option maxRecDepth 20000 in
theorem ggX4_kindOfSector_X4_versionAt : GoodIn wsX4_kindOfSector wsX4_versionAt := goodIn_r _ [7, 8, 9, 10, 11, 12, 13, 14, 15, 16, 17, 30, 31, 32, 33, 34, 35, 36, 37, 38, 39, 40, 41, 42, 43, 44, 45, 46, 47, 57, 58, 59, 60, 61, 62, 63] (by decide +kernel) (by decide +kernel)
set_option maxRecDepth 20000 in
theorem gX4_kindOfSector_X4_versionAt : GoodIn wsX4_kindOfSector (wsV RX4 166 RX4 yX4_versionAt wsX4_versionAt) := goodIn_app (goodIn_of _ (by decide +kernel)) ggX4_kindOfSector_X4_versionAt
set_option maxRecDepth 20000 in
theorem ggX4_kindOfSector_X4_isCurrent : GoodIn wsX4_kindOfSector wsX4_isCurrent := goodIn_r _ [21, 22, 9, 23, 30, 31, 32, 33, 34, 35, 36, 37, 38, 39, 40, 41, 42, 43, 44, 45, 46, 47, 57, 58, 59, 60, 61, 62, 63] (by decide +kernel) (by decide +kernel)
set_option maxRecDepth 20000 in
theorem gX4_kindOfSector_X4_isCurrent : GoodIn wsX4_kindOfSector (wsV RX4 185 RX4 yX4_isCurrent wsX4_isCurrent) := goodIn_app (goodIn_of _ (by decide +kernel)) ggX4_kindOfSector_X4_isCurrent
set_option maxRecDepth 20000 in
theorem ggX4_kindOfSector_X3_isBad : GoodIn wsX4_kindOfSector wsX3_isBad := goodIn_r _ [28, 29, 48, 49, 50, 51, 52, 53, 54, 55, 56] (by decide +kernel) (by decide +kernel)
set_option maxRecDepth 20000 in
theorem gX4_kindOfSector_X3_isBad : GoodIn wsX4_kindOfSector (wsV RX4 188 RX3 yX3_isBad wsX3_isBad) := goodIn_app (goodIn_of _ (by decide +kernel)) ggX4_kindOfSector_X3_isBad
theorem dX4_kindOfSector_0 : decode cX4_kindOfSector 0 = .ok (.iconst 0, 1) := by decide +kernel
theorem dX4_kindOfSector_1 : decode cX4_kindOfSector 1 = .ok (.istore_n 3, 1) := by decide +kernel
theorem dX4_kindOfSector_2 : decode cX4_kindOfSector 2 = .ok (.iload_n 2, 1) := by decide +kernel
theorem dX4_kindOfSector_3 : decode cX4_kindOfSector 3 = .ok (.aload_n 0, 1) := by decide +kernel
theorem dX4_kindOfSector_4 : decode cX4_kindOfSector 4 = .ok (.getfield 23, 3) := by decide +kernel
theorem dX4_kindOfSector_7 : decode cX4_kindOfSector 7 = .ok (.iload_n 1, 1) := by decide +kernel
theorem dX4_kindOfSector_8 : decode cX4_kindOfSector 8 = .ok (.aaload, 1) := by decide +kernel
theorem dX4_kindOfSector_9 : decode cX4_kindOfSector 9 = .ok (.getfield 135, 3) := by decide +kernel
theorem dX4_kindOfSector_12 : decode cX4_kindOfSector 12 = .ok (.if_icmp .ge 36, 3) := by decide +kernel
theorem dX4_kindOfSector_15 : decode cX4_kindOfSector 15 = .ok (.aload_n 0, 1) := by decide +kernel
theorem dX4_kindOfSector_16 : decode cX4_kindOfSector 16 = .ok (.iload_n 1, 1) := by decide +kernel
theorem dX4_kindOfSector_17 : decode cX4_kindOfSector 17 = .ok (.iload_n 2, 1) := by decide +kernel
theorem dX4_kindOfSector_18 : decode cX4_kindOfSector 18 = .ok (.invokevirtual 166, 3) := by decide +kernel
theorem dX4_kindOfSector_21 : decode cX4_kindOfSector 21 = .ok (.istore 4, 2) := by decide +kernel
theorem dX4_kindOfSector_23 : decode cX4_kindOfSector 23 = .ok (.iload 4, 2) := by decide +kernel
theorem dX4_kindOfSector_25 : decode cX4_kindOfSector 25 = .ok (.iconst (-1), 1) := by decide +kernel
theorem dX4_kindOfSector_26 : decode cX4_kindOfSector 26 = .ok (.if_icmp .ne 7, 3) := by decide +kernel
theorem dX4_kindOfSector_29 : decode cX4_kindOfSector 29 = .ok (.iconst 3, 1) := by decide +kernel
theorem dX4_kindOfSector_30 : decode cX4_kindOfSector 30 = .ok (.goto 17, 3) := by decide +kernel
theorem dX4_kindOfSector_33 : decode cX4_kindOfSector 33 = .ok (.aload_n 0, 1) := by decide +kernel
theorem dX4_kindOfSector_34 : decode cX4_kindOfSector 34 = .ok (.iload 4, 2) := by decide +kernel
theorem dX4_kindOfSector_36 : decode cX4_kindOfSector 36 = .ok (.invokevirtual 185, 3) := by decide +kernel
theorem dX4_kindOfSector_39 : decode cX4_kindOfSector 39 = .ok (.ifCond .eq 7, 3) := by decide +kernel
theorem dX4_kindOfSector_42 : decode cX4_kindOfSector 42 = .ok (.iconst 1, 1) := by decide +kernel
theorem dX4_kindOfSector_43 : decode cX4_kindOfSector 43 = .ok (.goto 4, 3) := by decide +kernel
theorem dX4_kindOfSector_46 : decode cX4_kindOfSector 46 = .ok (.iconst 2, 1) := by decide +kernel
theorem dX4_kindOfSector_47 : decode cX4_kindOfSector 47 = .ok (.istore_n 3, 1) := by decide +kernel
theorem dX4_kindOfSector_48 : decode cX4_kindOfSector 48 = .ok (.aload_n 0, 1) := by decide +kernel
theorem dX4_kindOfSector_49 : decode cX4_kindOfSector 49 = .ok (.getfield 23, 3) := by decide +kernel
theorem dX4_kindOfSector_52 : decode cX4_kindOfSector 52 = .ok (.iload_n 1, 1) := by decide +kernel
theorem dX4_kindOfSector_53 : decode cX4_kindOfSector 53 = .ok (.aaload, 1) := by decide +kernel
theorem dX4_kindOfSector_54 : decode cX4_kindOfSector 54 = .ok (.iload_n 2, 1) := by decide +kernel
theorem dX4_kindOfSector_55 : decode cX4_kindOfSector 55 = .ok (.invokevirtual 188, 3) := by decide +kernel
theorem dX4_kindOfSector_58 : decode cX4_kindOfSector 58 = .ok (.ifCond .eq 10, 3) := by decide +kernel
theorem dX4_kindOfSector_61 : decode cX4_kindOfSector 61 = .ok (.iload_n 3, 1) := by decide +kernel
theorem dX4_kindOfSector_62 : decode cX4_kindOfSector 62 = .ok (.bipush 10, 2) := by decide +kernel
theorem dX4_kindOfSector_64 : decode cX4_kindOfSector 64 = .ok (.iadd, 1) := by decide +kernel
theorem dX4_kindOfSector_65 : decode cX4_kindOfSector 65 = .ok (.goto 4, 3) := by decide +kernel
theorem dX4_kindOfSector_68 : decode cX4_kindOfSector 68 = .ok (.iload_n 3, 1) := by decide +kernel
theorem dX4_kindOfSector_69 : decode cX4_kindOfSector 69 = .ok (.ireturn, 1) := by decide +kernel
set_option maxRecDepth 20000 in
theorem ggX4_countStale_X4_isCurrent : GoodIn wsX4_countStale wsX4_isCurrent := goodIn_r _ [9, 10, 2, 11, 12, 13, 14, 15, 16, 17, 18, 19, 20, 21, 22, 23, 24, 25, 26, 27, 28, 29, 30, 31, 32, 33, 34, 35, 36] (by decide +kernel) (by decide +kernel)
set_option maxRecDepth 20000 in
theorem gX4_countStale_X4_isCurrent : GoodIn wsX4_countStale (wsV RX4 185 RX4 yX4_isCurrent wsX4_isCurrent) := goodIn_app (goodIn_of _ (by decide +kernel)) ggX4_countStale_X4_isCurrent
theorem dX4_countStale_0 : decode cX4_countStale 0 = .ok (.iconst 0, 1) := by decide +kernel
theorem dX4_countStale_1 : decode cX4_countStale 1 = .ok (.istore_n 2, 1) := by decide +kernel
theorem dX4_countStale_2 : decode cX4_countStale 2 = .ok (.iconst 0, 1) := by decide +kernel
theorem dX4_countStale_3 : decode cX4_countStale 3 = .ok (.istore_n 3, 1) := by decide +kernel
theorem dX4_countStale_4 : decode cX4_countStale 4 = .ok (.iload_n 3, 1) := by decide +kernel
theorem dX4_countStale_5 : decode cX4_countStale 5 = .ok (.aload_n 0, 1) := by decide +kernel
theorem dX4_countStale_6 : decode cX4_countStale 6 = .ok (.getfield 65, 3) := by decide +kernel
theorem dX4_countStale_9 : decode cX4_countStale 9 = .ok (.if_icmp .ge 42, 3) := by decide +kernel
theorem dX4_countStale_12 : decode cX4_countStale 12 = .ok (.aload_n 0, 1) := by decide +kernel
theorem dX4_countStale_13 : decode cX4_countStale 13 = .ok (.getfield 29, 3) := by decide +kernel
theorem dX4_countStale_16 : decode cX4_countStale 16 = .ok (.iload_n 3, 1) := by decide +kernel
theorem dX4_countStale_17 : decode cX4_countStale 17 = .ok (.aaload, 1) := by decide +kernel
theorem dX4_countStale_18 : decode cX4_countStale 18 = .ok (.getfield 134, 3) := by decide +kernel
theorem dX4_countStale_21 : decode cX4_countStale 21 = .ok (.iload_n 1, 1) := by decide +kernel
theorem dX4_countStale_22 : decode cX4_countStale 22 = .ok (.if_icmp .ne 23, 3) := by decide +kernel
theorem dX4_countStale_25 : decode cX4_countStale 25 = .ok (.aload_n 0, 1) := by decide +kernel
theorem dX4_countStale_26 : decode cX4_countStale 26 = .ok (.iload_n 3, 1) := by decide +kernel
theorem dX4_countStale_27 : decode cX4_countStale 27 = .ok (.invokevirtual 185, 3) := by decide +kernel
theorem dX4_countStale_30 : decode cX4_countStale 30 = .ok (.ifCond .ne 15, 3) := by decide +kernel
theorem dX4_countStale_33 : decode cX4_countStale 33 = .ok (.iload_n 2, 1) := by decide +kernel
theorem dX4_countStale_34 : decode cX4_countStale 34 = .ok (.aload_n 0, 1) := by decide +kernel
theorem dX4_countStale_35 : decode cX4_countStale 35 = .ok (.getfield 29, 3) := by decide +kernel
theorem dX4_countStale_38 : decode cX4_countStale 38 = .ok (.iload_n 3, 1) := by decide +kernel
theorem dX4_countStale_39 : decode cX4_countStale 39 = .ok (.aaload, 1) := by decide +kernel
theorem dX4_countStale_40 : decode cX4_countStale 40 = .ok (.getfield 141, 3) := by decide +kernel
theorem dX4_countStale_43 : decode cX4_countStale 43 = .ok (.iadd, 1) := by decide +kernel
theorem dX4_countStale_44 : decode cX4_countStale 44 = .ok (.istore_n 2, 1) := by decide +kernel
theorem dX4_countStale_45 : decode cX4_countStale 45 = .ok (.iinc 3 1, 3) := by decide +kernel
theorem dX4_countStale_48 : decode cX4_countStale 48 = .ok (.goto (-44), 3) := by decide +kernel
theorem dX4_countStale_51 : decode cX4_countStale 51 = .ok (.iload_n 2, 1) := by decide +kernel
theorem dX4_countStale_52 : decode cX4_countStale 52 = .ok (.ireturn, 1) := by decide +kernel
theorem dX4_countDamaged_0 : decode cX4_countDamaged 0 = .ok (.iconst 0, 1) := by decide +kernel
theorem dX4_countDamaged_1 : decode cX4_countDamaged 1 = .ok (.istore_n 1, 1) := by decide +kernel
theorem dX4_countDamaged_2 : decode cX4_countDamaged 2 = .ok (.iconst 0, 1) := by decide +kernel
theorem dX4_countDamaged_3 : decode cX4_countDamaged 3 = .ok (.istore_n 2, 1) := by decide +kernel
theorem dX4_countDamaged_4 : decode cX4_countDamaged 4 = .ok (.iload_n 2, 1) := by decide +kernel
theorem dX4_countDamaged_5 : decode cX4_countDamaged 5 = .ok (.aload_n 0, 1) := by decide +kernel
theorem dX4_countDamaged_6 : decode cX4_countDamaged 6 = .ok (.getfield 65, 3) := by decide +kernel
theorem dX4_countDamaged_9 : decode cX4_countDamaged 9 = .ok (.if_icmp .ge 24, 3) := by decide +kernel
theorem dX4_countDamaged_12 : decode cX4_countDamaged 12 = .ok (.aload_n 0, 1) := by decide +kernel
theorem dX4_countDamaged_13 : decode cX4_countDamaged 13 = .ok (.getfield 29, 3) := by decide +kernel
theorem dX4_countDamaged_16 : decode cX4_countDamaged 16 = .ok (.iload_n 2, 1) := by decide +kernel
theorem dX4_countDamaged_17 : decode cX4_countDamaged 17 = .ok (.aaload, 1) := by decide +kernel
theorem dX4_countDamaged_18 : decode cX4_countDamaged 18 = .ok (.getfield 151, 3) := by decide +kernel
theorem dX4_countDamaged_21 : decode cX4_countDamaged 21 = .ok (.ifCond .eq 6, 3) := by decide +kernel
theorem dX4_countDamaged_24 : decode cX4_countDamaged 24 = .ok (.iinc 1 1, 3) := by decide +kernel
theorem dX4_countDamaged_27 : decode cX4_countDamaged 27 = .ok (.iinc 2 1, 3) := by decide +kernel
theorem dX4_countDamaged_30 : decode cX4_countDamaged 30 = .ok (.goto (-26), 3) := by decide +kernel
theorem dX4_countDamaged_33 : decode cX4_countDamaged 33 = .ok (.iload_n 1, 1) := by decide +kernel
theorem dX4_countDamaged_34 : decode cX4_countDamaged 34 = .ok (.ireturn, 1) := by decide +kernel
theorem dX4_countVersions_0 : decode cX4_countVersions 0 = .ok (.iconst 0, 1) := by decide +kernel
theorem dX4_countVersions_1 : decode cX4_countVersions 1 = .ok (.istore_n 2, 1) := by decide +kernel
theorem dX4_countVersions_2 : decode cX4_countVersions 2 = .ok (.iconst 0, 1) := by decide +kernel
theorem dX4_countVersions_3 : decode cX4_countVersions 3 = .ok (.istore_n 3, 1) := by decide +kernel
theorem dX4_countVersions_4 : decode cX4_countVersions 4 = .ok (.iload_n 3, 1) := by decide +kernel
theorem dX4_countVersions_5 : decode cX4_countVersions 5 = .ok (.aload_n 0, 1) := by decide +kernel
theorem dX4_countVersions_6 : decode cX4_countVersions 6 = .ok (.getfield 65, 3) := by decide +kernel
theorem dX4_countVersions_9 : decode cX4_countVersions 9 = .ok (.if_icmp .ge 25, 3) := by decide +kernel
theorem dX4_countVersions_12 : decode cX4_countVersions 12 = .ok (.aload_n 0, 1) := by decide +kernel
theorem dX4_countVersions_13 : decode cX4_countVersions 13 = .ok (.getfield 29, 3) := by decide +kernel
theorem dX4_countVersions_16 : decode cX4_countVersions 16 = .ok (.iload_n 3, 1) := by decide +kernel
theorem dX4_countVersions_17 : decode cX4_countVersions 17 = .ok (.aaload, 1) := by decide +kernel
theorem dX4_countVersions_18 : decode cX4_countVersions 18 = .ok (.getfield 131, 3) := by decide +kernel
theorem dX4_countVersions_21 : decode cX4_countVersions 21 = .ok (.iload_n 1, 1) := by decide +kernel
theorem dX4_countVersions_22 : decode cX4_countVersions 22 = .ok (.if_icmp .ne 6, 3) := by decide +kernel
theorem dX4_countVersions_25 : decode cX4_countVersions 25 = .ok (.iinc 2 1, 3) := by decide +kernel
theorem dX4_countVersions_28 : decode cX4_countVersions 28 = .ok (.iinc 3 1, 3) := by decide +kernel
theorem dX4_countVersions_31 : decode cX4_countVersions 31 = .ok (.goto (-27), 3) := by decide +kernel
theorem dX4_countVersions_34 : decode cX4_countVersions 34 = .ok (.iload_n 2, 1) := by decide +kernel
theorem dX4_countVersions_35 : decode cX4_countVersions 35 = .ok (.ireturn, 1) := by decide +kernel
set_option maxRecDepth 20000 in
theorem ggX4_countFiles_X4_currentVersion : GoodIn wsX4_countFiles wsX4_currentVersion := goodIn_r _ [7, 8, 9, 10, 11, 12, 13, 14, 15, 16, 17, 18, 19, 20, 21, 22, 23, 24, 25, 26, 27] (by decide +kernel) (by decide +kernel)
set_option maxRecDepth 20000 in
theorem gX4_countFiles_X4_currentVersion : GoodIn wsX4_countFiles (wsV RX4 173 RX4 yX4_currentVersion wsX4_currentVersion) := goodIn_app (goodIn_of _ (by decide +kernel)) ggX4_countFiles_X4_currentVersion
theorem dX4_countFiles_0 : decode cX4_countFiles 0 = .ok (.iconst 0, 1) := by decide +kernel
theorem dX4_countFiles_1 : decode cX4_countFiles 1 = .ok (.istore_n 2, 1) := by decide +kernel
theorem dX4_countFiles_2 : decode cX4_countFiles 2 = .ok (.iconst 0, 1) := by decide +kernel
theorem dX4_countFiles_3 : decode cX4_countFiles 3 = .ok (.istore_n 3, 1) := by decide +kernel
theorem dX4_countFiles_4 : decode cX4_countFiles 4 = .ok (.iload_n 3, 1) := by decide +kernel
theorem dX4_countFiles_5 : decode cX4_countFiles 5 = .ok (.aload_n 0, 1) := by decide +kernel
theorem dX4_countFiles_6 : decode cX4_countFiles 6 = .ok (.getfield 68, 3) := by decide +kernel
theorem dX4_countFiles_9 : decode cX4_countFiles 9 = .ok (.if_icmp .ge 24, 3) := by decide +kernel
theorem dX4_countFiles_12 : decode cX4_countFiles 12 = .ok (.aload_n 0, 1) := by decide +kernel
theorem dX4_countFiles_13 : decode cX4_countFiles 13 = .ok (.iload_n 3, 1) := by decide +kernel
theorem dX4_countFiles_14 : decode cX4_countFiles 14 = .ok (.invokevirtual 173, 3) := by decide +kernel
theorem dX4_countFiles_17 : decode cX4_countFiles 17 = .ok (.getfield 134, 3) := by decide +kernel
theorem dX4_countFiles_20 : decode cX4_countFiles 20 = .ok (.iload_n 1, 1) := by decide +kernel
theorem dX4_countFiles_21 : decode cX4_countFiles 21 = .ok (.if_icmp .ne 6, 3) := by decide +kernel
theorem dX4_countFiles_24 : decode cX4_countFiles 24 = .ok (.iinc 2 1, 3) := by decide +kernel
theorem dX4_countFiles_27 : decode cX4_countFiles 27 = .ok (.iinc 3 1, 3) := by decide +kernel
theorem dX4_countFiles_30 : decode cX4_countFiles 30 = .ok (.goto (-26), 3) := by decide +kernel
theorem dX4_countFiles_33 : decode cX4_countFiles 33 = .ok (.iload_n 2, 1) := by decide +kernel
theorem dX4_countFiles_34 : decode cX4_countFiles 34 = .ok (.ireturn, 1) := by decide +kernel
set_option maxRecDepth 20000 in
theorem ggX4_lastGood_X4_isGood : GoodIn wsX4_lastGood wsX4_isGood := goodIn_r _ [8, 9, 10, 11, 12, 13, 14, 15, 16, 17, 18, 19, 38, 39, 40, 41, 42, 43, 44, 20, 21, 22, 23, 24, 25, 26, 27, 28, 29, 30, 31, 32, 33, 34, 35, 36, 37, 45, 46, 47, 48, 49, 50, 51, 52, 53] (by decide +kernel) (by decide +kernel)
set_option maxRecDepth 20000 in
theorem gX4_lastGood_X4_isGood : GoodIn wsX4_lastGood (wsV RX4 177 RX4 yX4_isGood wsX4_isGood) := goodIn_app (goodIn_of _ (by decide +kernel)) ggX4_lastGood_X4_isGood
theorem dX4_lastGood_0 : decode cX4_lastGood 0 = .ok (.iconst 0, 1) := by decide +kernel
theorem dX4_lastGood_1 : decode cX4_lastGood 1 = .ok (.istore_n 2, 1) := by decide +kernel
theorem dX4_lastGood_2 : decode cX4_lastGood 2 = .ok (.iconst (-1), 1) := by decide +kernel
theorem dX4_lastGood_3 : decode cX4_lastGood 3 = .ok (.istore_n 3, 1) := by decide +kernel
theorem dX4_lastGood_4 : decode cX4_lastGood 4 = .ok (.iconst 0, 1) := by decide +kernel
theorem dX4_lastGood_5 : decode cX4_lastGood 5 = .ok (.istore 4, 2) := by decide +kernel
theorem dX4_lastGood_7 : decode cX4_lastGood 7 = .ok (.iload 4, 2) := by decide +kernel
theorem dX4_lastGood_9 : decode cX4_lastGood 9 = .ok (.aload_n 0, 1) := by decide +kernel
theorem dX4_lastGood_10 : decode cX4_lastGood 10 = .ok (.getfield 65, 3) := by decide +kernel
theorem dX4_lastGood_13 : decode cX4_lastGood 13 = .ok (.if_icmp .ge 46, 3) := by decide +kernel
theorem dX4_lastGood_16 : decode cX4_lastGood 16 = .ok (.aload_n 0, 1) := by decide +kernel
theorem dX4_lastGood_17 : decode cX4_lastGood 17 = .ok (.getfield 29, 3) := by decide +kernel
theorem dX4_lastGood_20 : decode cX4_lastGood 20 = .ok (.iload 4, 2) := by decide +kernel
theorem dX4_lastGood_22 : decode cX4_lastGood 22 = .ok (.aaload, 1) := by decide +kernel
theorem dX4_lastGood_23 : decode cX4_lastGood 23 = .ok (.getfield 131, 3) := by decide +kernel
theorem dX4_lastGood_26 : decode cX4_lastGood 26 = .ok (.iload_n 1, 1) := by decide +kernel
theorem dX4_lastGood_27 : decode cX4_lastGood 27 = .ok (.if_icmp .ne 26, 3) := by decide +kernel
theorem dX4_lastGood_30 : decode cX4_lastGood 30 = .ok (.aload_n 0, 1) := by decide +kernel
theorem dX4_lastGood_31 : decode cX4_lastGood 31 = .ok (.aload_n 0, 1) := by decide +kernel
theorem dX4_lastGood_32 : decode cX4_lastGood 32 = .ok (.getfield 29, 3) := by decide +kernel
theorem dX4_lastGood_35 : decode cX4_lastGood 35 = .ok (.iload 4, 2) := by decide +kernel
theorem dX4_lastGood_37 : decode cX4_lastGood 37 = .ok (.aaload, 1) := by decide +kernel
theorem dX4_lastGood_38 : decode cX4_lastGood 38 = .ok (.invokevirtual 177, 3) := by decide +kernel
theorem dX4_lastGood_41 : decode cX4_lastGood 41 = .ok (.ifCond .eq 7, 3) := by decide +kernel
theorem dX4_lastGood_44 : decode cX4_lastGood 44 = .ok (.iload_n 2, 1) := by decide +kernel
theorem dX4_lastGood_45 : decode cX4_lastGood 45 = .ok (.goto 4, 3) := by decide +kernel
theorem dX4_lastGood_48 : decode cX4_lastGood 48 = .ok (.iload_n 3, 1) := by decide +kernel
theorem dX4_lastGood_49 : decode cX4_lastGood 49 = .ok (.istore_n 3, 1) := by decide +kernel
theorem dX4_lastGood_50 : decode cX4_lastGood 50 = .ok (.iinc 2 1, 3) := by decide +kernel
theorem dX4_lastGood_53 : decode cX4_lastGood 53 = .ok (.iinc 4 1, 3) := by decide +kernel
theorem dX4_lastGood_56 : decode cX4_lastGood 56 = .ok (.goto (-49), 3) := by decide +kernel
theorem dX4_lastGood_59 : decode cX4_lastGood 59 = .ok (.iload_n 3, 1) := by decide +kernel
theorem dX4_lastGood_60 : decode cX4_lastGood 60 = .ok (.ireturn, 1) := by decide +kernel
theorem dX4_driveHolding_0 : decode cX4_driveHolding 0 = .ok (.iconst 0, 1) := by decide +kernel
theorem dX4_driveHolding_1 : decode cX4_driveHolding 1 = .ok (.istore_n 2, 1) := by decide +kernel
theorem dX4_driveHolding_2 : decode cX4_driveHolding 2 = .ok (.iload_n 2, 1) := by decide +kernel
theorem dX4_driveHolding_3 : decode cX4_driveHolding 3 = .ok (.aload_n 0, 1) := by decide +kernel
theorem dX4_driveHolding_4 : decode cX4_driveHolding 4 = .ok (.getfield 53, 3) := by decide +kernel
theorem dX4_driveHolding_7 : decode cX4_driveHolding 7 = .ok (.if_icmp .ge 24, 3) := by decide +kernel
theorem dX4_driveHolding_10 : decode cX4_driveHolding 10 = .ok (.aload_n 0, 1) := by decide +kernel
theorem dX4_driveHolding_11 : decode cX4_driveHolding 11 = .ok (.getfield 17, 3) := by decide +kernel
theorem dX4_driveHolding_14 : decode cX4_driveHolding 14 = .ok (.iload_n 2, 1) := by decide +kernel
theorem dX4_driveHolding_15 : decode cX4_driveHolding 15 = .ok (.aaload, 1) := by decide +kernel
theorem dX4_driveHolding_16 : decode cX4_driveHolding 16 = .ok (.getfield 115, 3) := by decide +kernel
theorem dX4_driveHolding_19 : decode cX4_driveHolding 19 = .ok (.iload_n 1, 1) := by decide +kernel
theorem dX4_driveHolding_20 : decode cX4_driveHolding 20 = .ok (.if_icmp .ne 5, 3) := by decide +kernel
theorem dX4_driveHolding_23 : decode cX4_driveHolding 23 = .ok (.iload_n 2, 1) := by decide +kernel
theorem dX4_driveHolding_24 : decode cX4_driveHolding 24 = .ok (.ireturn, 1) := by decide +kernel
theorem dX4_driveHolding_25 : decode cX4_driveHolding 25 = .ok (.iinc 2 1, 3) := by decide +kernel
theorem dX4_driveHolding_28 : decode cX4_driveHolding 28 = .ok (.goto (-26), 3) := by decide +kernel
theorem dX4_driveHolding_31 : decode cX4_driveHolding 31 = .ok (.iconst (-1), 1) := by decide +kernel
theorem dX4_driveHolding_32 : decode cX4_driveHolding 32 = .ok (.ireturn, 1) := by decide +kernel
set_option maxRecDepth 20000 in
theorem ggX4_driveToChoose_X4_driveHolding : GoodIn wsX4_driveToChoose wsX4_driveHolding := goodIn_r _ [5, 6, 7, 8, 15, 16, 17, 18, 19, 20, 21, 22, 23, 24, 25, 26, 27, 28, 29, 30, 31, 32, 33, 34, 35] (by decide +kernel) (by decide +kernel)
set_option maxRecDepth 20000 in
theorem gX4_driveToChoose_X4_driveHolding : GoodIn wsX4_driveToChoose (wsV RX4 191 RX4 yX4_driveHolding wsX4_driveHolding) := goodIn_app (goodIn_of _ (by decide +kernel)) ggX4_driveToChoose_X4_driveHolding
set_option maxRecDepth 20000 in
theorem ggX4_driveToChoose_X4_driveForAway : GoodIn wsX4_driveToChoose wsX4_driveForAway := goodIn_r _ [12, 6, 7, 8, 13, 14, 15, 16, 17, 18, 19, 20, 21, 22, 23, 24, 25, 26, 27, 28, 29, 30, 31, 32, 33, 34, 35] (by decide +kernel) (by decide +kernel)
set_option maxRecDepth 20000 in
theorem gX4_driveToChoose_X4_driveForAway : GoodIn wsX4_driveToChoose (wsV RX4 194 RX4 yX4_driveForAway wsX4_driveForAway) := goodIn_app (goodIn_of _ (by decide +kernel)) ggX4_driveToChoose_X4_driveForAway
theorem dX4_driveToChoose_0 : decode cX4_driveToChoose 0 = .ok (.aload_n 0, 1) := by decide +kernel
theorem dX4_driveToChoose_1 : decode cX4_driveToChoose 1 = .ok (.iload_n 1, 1) := by decide +kernel
theorem dX4_driveToChoose_2 : decode cX4_driveToChoose 2 = .ok (.invokevirtual 191, 3) := by decide +kernel
theorem dX4_driveToChoose_5 : decode cX4_driveToChoose 5 = .ok (.istore_n 2, 1) := by decide +kernel
theorem dX4_driveToChoose_6 : decode cX4_driveToChoose 6 = .ok (.iload_n 2, 1) := by decide +kernel
theorem dX4_driveToChoose_7 : decode cX4_driveToChoose 7 = .ok (.iconst (-1), 1) := by decide +kernel
theorem dX4_driveToChoose_8 : decode cX4_driveToChoose 8 = .ok (.if_icmp .eq 7, 3) := by decide +kernel
theorem dX4_driveToChoose_11 : decode cX4_driveToChoose 11 = .ok (.iload_n 2, 1) := by decide +kernel
theorem dX4_driveToChoose_12 : decode cX4_driveToChoose 12 = .ok (.goto 8, 3) := by decide +kernel
theorem dX4_driveToChoose_15 : decode cX4_driveToChoose 15 = .ok (.aload_n 0, 1) := by decide +kernel
theorem dX4_driveToChoose_16 : decode cX4_driveToChoose 16 = .ok (.iconst 0, 1) := by decide +kernel
theorem dX4_driveToChoose_17 : decode cX4_driveToChoose 17 = .ok (.invokevirtual 194, 3) := by decide +kernel
theorem dX4_driveToChoose_20 : decode cX4_driveToChoose 20 = .ok (.ireturn, 1) := by decide +kernel
set_option maxRecDepth 20000 in
theorem ggX4_driveAfterReading_X4_currentVersion : GoodIn wsX4_driveAfterReading wsX4_currentVersion := goodIn_r _ [8, 9, 10, 24, 25, 26, 27, 28, 29, 30, 31, 32, 33, 34, 35, 36, 37, 38, 39, 40, 41] (by decide +kernel) (by decide +kernel)
set_option maxRecDepth 20000 in
theorem gX4_driveAfterReading_X4_currentVersion : GoodIn wsX4_driveAfterReading (wsV RX4 173 RX4 yX4_currentVersion wsX4_currentVersion) := goodIn_app (goodIn_of _ (by decide +kernel)) ggX4_driveAfterReading_X4_currentVersion
set_option maxRecDepth 20000 in
theorem ggX4_driveAfterReading_X4_driveHolding : GoodIn wsX4_driveAfterReading wsX4_driveHolding := goodIn_r _ [14, 15, 16, 17, 24, 25, 26, 27, 28, 29, 30, 31, 32, 33, 34, 35, 36, 37, 38, 39, 40, 41, 49, 50, 51] (by decide +kernel) (by decide +kernel)
set_option maxRecDepth 20000 in
theorem gX4_driveAfterReading_X4_driveHolding : GoodIn wsX4_driveAfterReading (wsV RX4 191 RX4 yX4_driveHolding wsX4_driveHolding) := goodIn_app (goodIn_of _ (by decide +kernel)) ggX4_driveAfterReading_X4_driveHolding
set_option maxRecDepth 20000 in
theorem ggX4_driveAfterReading_X4_driveForAway : GoodIn wsX4_driveAfterReading wsX4_driveForAway := goodIn_r _ [21, 15, 16, 17, 22, 23, 24, 25, 26, 27, 28, 29, 30, 31, 32, 33, 34, 35, 36, 37, 38, 39, 40, 41, 49, 50, 51] (by decide +kernel) (by decide +kernel)
set_option maxRecDepth 20000 in
theorem gX4_driveAfterReading_X4_driveForAway : GoodIn wsX4_driveAfterReading (wsV RX4 194 RX4 yX4_driveForAway wsX4_driveForAway) := goodIn_app (goodIn_of _ (by decide +kernel)) ggX4_driveAfterReading_X4_driveForAway
theorem dX4_driveAfterReading_0 : decode cX4_driveAfterReading 0 = .ok (.iconst 0, 1) := by decide +kernel
theorem dX4_driveAfterReading_1 : decode cX4_driveAfterReading 1 = .ok (.istore_n 2, 1) := by decide +kernel
theorem dX4_driveAfterReading_2 : decode cX4_driveAfterReading 2 = .ok (.iconst 0, 1) := by decide +kernel
theorem dX4_driveAfterReading_3 : decode cX4_driveAfterReading 3 = .ok (.istore_n 3, 1) := by decide +kernel
theorem dX4_driveAfterReading_4 : decode cX4_driveAfterReading 4 = .ok (.iload_n 3, 1) := by decide +kernel
theorem dX4_driveAfterReading_5 : decode cX4_driveAfterReading 5 = .ok (.aload_n 0, 1) := by decide +kernel
theorem dX4_driveAfterReading_6 : decode cX4_driveAfterReading 6 = .ok (.getfield 71, 3) := by decide +kernel
theorem dX4_driveAfterReading_9 : decode cX4_driveAfterReading 9 = .ok (.if_icmp .ge 46, 3) := by decide +kernel
theorem dX4_driveAfterReading_12 : decode cX4_driveAfterReading 12 = .ok (.aload_n 0, 1) := by decide +kernel
theorem dX4_driveAfterReading_13 : decode cX4_driveAfterReading 13 = .ok (.aload_n 0, 1) := by decide +kernel
theorem dX4_driveAfterReading_14 : decode cX4_driveAfterReading 14 = .ok (.aload_n 0, 1) := by decide +kernel
theorem dX4_driveAfterReading_15 : decode cX4_driveAfterReading 15 = .ok (.getfield 36, 3) := by decide +kernel
theorem dX4_driveAfterReading_18 : decode cX4_driveAfterReading 18 = .ok (.iload_n 3, 1) := by decide +kernel
theorem dX4_driveAfterReading_19 : decode cX4_driveAfterReading 19 = .ok (.iaload, 1) := by decide +kernel
theorem dX4_driveAfterReading_20 : decode cX4_driveAfterReading 20 = .ok (.invokevirtual 173, 3) := by decide +kernel
theorem dX4_driveAfterReading_23 : decode cX4_driveAfterReading 23 = .ok (.getfield 134, 3) := by decide +kernel
theorem dX4_driveAfterReading_26 : decode cX4_driveAfterReading 26 = .ok (.invokevirtual 191, 3) := by decide +kernel
theorem dX4_driveAfterReading_29 : decode cX4_driveAfterReading 29 = .ok (.istore 4, 2) := by decide +kernel
theorem dX4_driveAfterReading_31 : decode cX4_driveAfterReading 31 = .ok (.iload_n 3, 1) := by decide +kernel
theorem dX4_driveAfterReading_32 : decode cX4_driveAfterReading 32 = .ok (.iload_n 1, 1) := by decide +kernel
theorem dX4_driveAfterReading_33 : decode cX4_driveAfterReading 33 = .ok (.if_icmp .eq 16, 3) := by decide +kernel
theorem dX4_driveAfterReading_36 : decode cX4_driveAfterReading 36 = .ok (.iload 4, 2) := by decide +kernel
theorem dX4_driveAfterReading_38 : decode cX4_driveAfterReading 38 = .ok (.iconst (-1), 1) := by decide +kernel
theorem dX4_driveAfterReading_39 : decode cX4_driveAfterReading 39 = .ok (.if_icmp .eq 10, 3) := by decide +kernel
theorem dX4_driveAfterReading_42 : decode cX4_driveAfterReading 42 = .ok (.iload_n 2, 1) := by decide +kernel
theorem dX4_driveAfterReading_43 : decode cX4_driveAfterReading 43 = .ok (.iconst 1, 1) := by decide +kernel
theorem dX4_driveAfterReading_44 : decode cX4_driveAfterReading 44 = .ok (.iload 4, 2) := by decide +kernel
theorem dX4_driveAfterReading_46 : decode cX4_driveAfterReading 46 = .ok (.ishl, 1) := by decide +kernel
theorem dX4_driveAfterReading_47 : decode cX4_driveAfterReading 47 = .ok (.ior, 1) := by decide +kernel
theorem dX4_driveAfterReading_48 : decode cX4_driveAfterReading 48 = .ok (.istore_n 2, 1) := by decide +kernel
theorem dX4_driveAfterReading_49 : decode cX4_driveAfterReading 49 = .ok (.iinc 3 1, 3) := by decide +kernel
theorem dX4_driveAfterReading_52 : decode cX4_driveAfterReading 52 = .ok (.goto (-48), 3) := by decide +kernel
theorem dX4_driveAfterReading_55 : decode cX4_driveAfterReading 55 = .ok (.aload_n 0, 1) := by decide +kernel
theorem dX4_driveAfterReading_56 : decode cX4_driveAfterReading 56 = .ok (.iload_n 2, 1) := by decide +kernel
theorem dX4_driveAfterReading_57 : decode cX4_driveAfterReading 57 = .ok (.invokevirtual 194, 3) := by decide +kernel
theorem dX4_driveAfterReading_60 : decode cX4_driveAfterReading 60 = .ok (.ireturn, 1) := by decide +kernel
theorem dX4_driveForAway_0 : decode cX4_driveForAway 0 = .ok (.iconst (-1), 1) := by decide +kernel
theorem dX4_driveForAway_1 : decode cX4_driveForAway 1 = .ok (.istore_n 2, 1) := by decide +kernel
theorem dX4_driveForAway_2 : decode cX4_driveForAway 2 = .ok (.iconst 0, 1) := by decide +kernel
theorem dX4_driveForAway_3 : decode cX4_driveForAway 3 = .ok (.istore_n 3, 1) := by decide +kernel
theorem dX4_driveForAway_4 : decode cX4_driveForAway 4 = .ok (.iconst 0, 1) := by decide +kernel
theorem dX4_driveForAway_5 : decode cX4_driveForAway 5 = .ok (.istore 4, 2) := by decide +kernel
theorem dX4_driveForAway_7 : decode cX4_driveForAway 7 = .ok (.iload 4, 2) := by decide +kernel
theorem dX4_driveForAway_9 : decode cX4_driveForAway 9 = .ok (.aload_n 0, 1) := by decide +kernel
theorem dX4_driveForAway_10 : decode cX4_driveForAway 10 = .ok (.getfield 53, 3) := by decide +kernel
theorem dX4_driveForAway_13 : decode cX4_driveForAway 13 = .ok (.if_icmp .ge 76, 3) := by decide +kernel
theorem dX4_driveForAway_16 : decode cX4_driveForAway 16 = .ok (.aload_n 0, 1) := by decide +kernel
theorem dX4_driveForAway_17 : decode cX4_driveForAway 17 = .ok (.getfield 17, 3) := by decide +kernel
theorem dX4_driveForAway_20 : decode cX4_driveForAway 20 = .ok (.iload 4, 2) := by decide +kernel
theorem dX4_driveForAway_22 : decode cX4_driveForAway 22 = .ok (.aaload, 1) := by decide +kernel
theorem dX4_driveForAway_23 : decode cX4_driveForAway 23 = .ok (.getfield 115, 3) := by decide +kernel
theorem dX4_driveForAway_26 : decode cX4_driveForAway 26 = .ok (.iconst (-1), 1) := by decide +kernel
theorem dX4_driveForAway_27 : decode cX4_driveForAway 27 = .ok (.if_icmp .ne 6, 3) := by decide +kernel
theorem dX4_driveForAway_30 : decode cX4_driveForAway 30 = .ok (.iload 4, 2) := by decide +kernel
theorem dX4_driveForAway_32 : decode cX4_driveForAway 32 = .ok (.ireturn, 1) := by decide +kernel
theorem dX4_driveForAway_33 : decode cX4_driveForAway 33 = .ok (.iload_n 1, 1) := by decide +kernel
theorem dX4_driveForAway_34 : decode cX4_driveForAway 34 = .ok (.iload 4, 2) := by decide +kernel
theorem dX4_driveForAway_36 : decode cX4_driveForAway 36 = .ok (.ishr, 1) := by decide +kernel
theorem dX4_driveForAway_37 : decode cX4_driveForAway 37 = .ok (.iconst 1, 1) := by decide +kernel
theorem dX4_driveForAway_38 : decode cX4_driveForAway 38 = .ok (.iand, 1) := by decide +kernel
theorem dX4_driveForAway_39 : decode cX4_driveForAway 39 = .ok (.ifCond .eq 15, 3) := by decide +kernel
theorem dX4_driveForAway_42 : decode cX4_driveForAway 42 = .ok (.aload_n 0, 1) := by decide +kernel
theorem dX4_driveForAway_43 : decode cX4_driveForAway 43 = .ok (.getfield 56, 3) := by decide +kernel
theorem dX4_driveForAway_46 : decode cX4_driveForAway 46 = .ok (.iconst 1, 1) := by decide +kernel
theorem dX4_driveForAway_47 : decode cX4_driveForAway 47 = .ok (.iadd, 1) := by decide +kernel
theorem dX4_driveForAway_48 : decode cX4_driveForAway 48 = .ok (.iload 4, 2) := by decide +kernel
theorem dX4_driveForAway_50 : decode cX4_driveForAway 50 = .ok (.iadd, 1) := by decide +kernel
theorem dX4_driveForAway_51 : decode cX4_driveForAway 51 = .ok (.goto 13, 3) := by decide +kernel
theorem dX4_driveForAway_54 : decode cX4_driveForAway 54 = .ok (.aload_n 0, 1) := by decide +kernel
theorem dX4_driveForAway_55 : decode cX4_driveForAway 55 = .ok (.getfield 17, 3) := by decide +kernel
theorem dX4_driveForAway_58 : decode cX4_driveForAway 58 = .ok (.iload 4, 2) := by decide +kernel
theorem dX4_driveForAway_60 : decode cX4_driveForAway 60 = .ok (.aaload, 1) := by decide +kernel
theorem dX4_driveForAway_61 : decode cX4_driveForAway 61 = .ok (.getfield 118, 3) := by decide +kernel
theorem dX4_driveForAway_64 : decode cX4_driveForAway 64 = .ok (.istore 5, 2) := by decide +kernel
theorem dX4_driveForAway_66 : decode cX4_driveForAway 66 = .ok (.iload_n 2, 1) := by decide +kernel
theorem dX4_driveForAway_67 : decode cX4_driveForAway 67 = .ok (.iconst (-1), 1) := by decide +kernel
theorem dX4_driveForAway_68 : decode cX4_driveForAway 68 = .ok (.if_icmp .eq 9, 3) := by decide +kernel
theorem dX4_driveForAway_71 : decode cX4_driveForAway 71 = .ok (.iload 5, 2) := by decide +kernel
theorem dX4_driveForAway_73 : decode cX4_driveForAway 73 = .ok (.iload_n 3, 1) := by decide +kernel
theorem dX4_driveForAway_74 : decode cX4_driveForAway 74 = .ok (.if_icmp .ge 9, 3) := by decide +kernel
theorem dX4_driveForAway_77 : decode cX4_driveForAway 77 = .ok (.iload 4, 2) := by decide +kernel
theorem dX4_driveForAway_79 : decode cX4_driveForAway 79 = .ok (.istore_n 2, 1) := by decide +kernel
theorem dX4_driveForAway_80 : decode cX4_driveForAway 80 = .ok (.iload 5, 2) := by decide +kernel
theorem dX4_driveForAway_82 : decode cX4_driveForAway 82 = .ok (.istore_n 3, 1) := by decide +kernel
theorem dX4_driveForAway_83 : decode cX4_driveForAway 83 = .ok (.iinc 4 1, 3) := by decide +kernel
theorem dX4_driveForAway_86 : decode cX4_driveForAway 86 = .ok (.goto (-79), 3) := by decide +kernel
theorem dX4_driveForAway_89 : decode cX4_driveForAway 89 = .ok (.iload_n 2, 1) := by decide +kernel
theorem dX4_driveForAway_90 : decode cX4_driveForAway 90 = .ok (.ireturn, 1) := by decide +kernel
theorem dX4_distanceToDrive_0 : decode cX4_distanceToDrive 0 = .ok (.bipush 24, 2) := by decide +kernel
theorem dX4_distanceToDrive_2 : decode cX4_distanceToDrive 2 = .ok (.istore_n 2, 1) := by decide +kernel
theorem dX4_distanceToDrive_3 : decode cX4_distanceToDrive 3 = .ok (.iconst 0, 1) := by decide +kernel
theorem dX4_distanceToDrive_4 : decode cX4_distanceToDrive 4 = .ok (.istore_n 3, 1) := by decide +kernel
theorem dX4_distanceToDrive_5 : decode cX4_distanceToDrive 5 = .ok (.iload_n 3, 1) := by decide +kernel
theorem dX4_distanceToDrive_6 : decode cX4_distanceToDrive 6 = .ok (.aload_n 0, 1) := by decide +kernel
theorem dX4_distanceToDrive_7 : decode cX4_distanceToDrive 7 = .ok (.getfield 53, 3) := by decide +kernel
theorem dX4_distanceToDrive_10 : decode cX4_distanceToDrive 10 = .ok (.if_icmp .ge 28, 3) := by decide +kernel
theorem dX4_distanceToDrive_13 : decode cX4_distanceToDrive 13 = .ok (.iload_n 2, 1) := by decide +kernel
theorem dX4_distanceToDrive_14 : decode cX4_distanceToDrive 14 = .ok (.iload_n 1, 1) := by decide +kernel
theorem dX4_distanceToDrive_15 : decode cX4_distanceToDrive 15 = .ok (.aload_n 0, 1) := by decide +kernel
theorem dX4_distanceToDrive_16 : decode cX4_distanceToDrive 16 = .ok (.getfield 17, 3) := by decide +kernel
theorem dX4_distanceToDrive_19 : decode cX4_distanceToDrive 19 = .ok (.iload_n 3, 1) := by decide +kernel
theorem dX4_distanceToDrive_20 : decode cX4_distanceToDrive 20 = .ok (.aaload, 1) := by decide +kernel
theorem dX4_distanceToDrive_21 : decode cX4_distanceToDrive 21 = .ok (.getfield 112, 3) := by decide +kernel
theorem dX4_distanceToDrive_24 : decode cX4_distanceToDrive 24 = .ok (.isub, 1) := by decide +kernel
theorem dX4_distanceToDrive_25 : decode cX4_distanceToDrive 25 = .ok (.invokestatic 197, 3) := by decide +kernel
theorem dX4_distanceToDrive_28 : decode cX4_distanceToDrive 28 = .ok (.invokestatic 202, 3) := by decide +kernel
theorem dX4_distanceToDrive_31 : decode cX4_distanceToDrive 31 = .ok (.istore_n 2, 1) := by decide +kernel
theorem dX4_distanceToDrive_32 : decode cX4_distanceToDrive 32 = .ok (.iinc 3 1, 3) := by decide +kernel
theorem dX4_distanceToDrive_35 : decode cX4_distanceToDrive 35 = .ok (.goto (-30), 3) := by decide +kernel
theorem dX4_distanceToDrive_38 : decode cX4_distanceToDrive 38 = .ok (.iload_n 2, 1) := by decide +kernel
theorem dX4_distanceToDrive_39 : decode cX4_distanceToDrive 39 = .ok (.ireturn, 1) := by decide +kernel
theorem dX4_bringMoves_0 : decode cX4_bringMoves 0 = .ok (.aload_n 0, 1) := by decide +kernel
theorem dX4_bringMoves_1 : decode cX4_bringMoves 1 = .ok (.getfield 17, 3) := by decide +kernel
theorem dX4_bringMoves_4 : decode cX4_bringMoves 4 = .ok (.iload_n 2, 1) := by decide +kernel
theorem dX4_bringMoves_5 : decode cX4_bringMoves 5 = .ok (.aaload, 1) := by decide +kernel
theorem dX4_bringMoves_6 : decode cX4_bringMoves 6 = .ok (.getfield 112, 3) := by decide +kernel
theorem dX4_bringMoves_9 : decode cX4_bringMoves 9 = .ok (.istore_n 3, 1) := by decide +kernel
theorem dX4_bringMoves_10 : decode cX4_bringMoves 10 = .ok (.aload_n 0, 1) := by decide +kernel
theorem dX4_bringMoves_11 : decode cX4_bringMoves 11 = .ok (.getfield 17, 3) := by decide +kernel
theorem dX4_bringMoves_14 : decode cX4_bringMoves 14 = .ok (.iload_n 2, 1) := by decide +kernel
theorem dX4_bringMoves_15 : decode cX4_bringMoves 15 = .ok (.aaload, 1) := by decide +kernel
theorem dX4_bringMoves_16 : decode cX4_bringMoves 16 = .ok (.getfield 115, 3) := by decide +kernel
theorem dX4_bringMoves_19 : decode cX4_bringMoves 19 = .ok (.istore 4, 2) := by decide +kernel
theorem dX4_bringMoves_21 : decode cX4_bringMoves 21 = .ok (.iconst 0, 1) := by decide +kernel
theorem dX4_bringMoves_22 : decode cX4_bringMoves 22 = .ok (.istore 5, 2) := by decide +kernel
theorem dX4_bringMoves_24 : decode cX4_bringMoves 24 = .ok (.aload_n 0, 1) := by decide +kernel
theorem dX4_bringMoves_25 : decode cX4_bringMoves 25 = .ok (.getfield 74, 3) := by decide +kernel
theorem dX4_bringMoves_28 : decode cX4_bringMoves 28 = .ok (.istore 6, 2) := by decide +kernel
theorem dX4_bringMoves_30 : decode cX4_bringMoves 30 = .ok (.iload 4, 2) := by decide +kernel
theorem dX4_bringMoves_32 : decode cX4_bringMoves 32 = .ok (.iconst (-1), 1) := by decide +kernel
theorem dX4_bringMoves_33 : decode cX4_bringMoves 33 = .ok (.if_icmp .eq 36, 3) := by decide +kernel
theorem dX4_bringMoves_36 : decode cX4_bringMoves 36 = .ok (.aload_n 0, 1) := by decide +kernel
theorem dX4_bringMoves_37 : decode cX4_bringMoves 37 = .ok (.getfield 23, 3) := by decide +kernel
theorem dX4_bringMoves_40 : decode cX4_bringMoves 40 = .ok (.iload 4, 2) := by decide +kernel
theorem dX4_bringMoves_42 : decode cX4_bringMoves 42 = .ok (.aaload, 1) := by decide +kernel
theorem dX4_bringMoves_43 : decode cX4_bringMoves 43 = .ok (.getfield 125, 3) := by decide +kernel
theorem dX4_bringMoves_46 : decode cX4_bringMoves 46 = .ok (.istore 7, 2) := by decide +kernel
theorem dX4_bringMoves_48 : decode cX4_bringMoves 48 = .ok (.iload 6, 2) := by decide +kernel
theorem dX4_bringMoves_50 : decode cX4_bringMoves 50 = .ok (.iload_n 3, 1) := by decide +kernel
theorem dX4_bringMoves_51 : decode cX4_bringMoves 51 = .ok (.isub, 1) := by decide +kernel
theorem dX4_bringMoves_52 : decode cX4_bringMoves 52 = .ok (.invokestatic 197, 3) := by decide +kernel
theorem dX4_bringMoves_55 : decode cX4_bringMoves 55 = .ok (.iload_n 3, 1) := by decide +kernel
theorem dX4_bringMoves_56 : decode cX4_bringMoves 56 = .ok (.iload 7, 2) := by decide +kernel
theorem dX4_bringMoves_58 : decode cX4_bringMoves 58 = .ok (.isub, 1) := by decide +kernel
theorem dX4_bringMoves_59 : decode cX4_bringMoves 59 = .ok (.invokestatic 197, 3) := by decide +kernel
theorem dX4_bringMoves_62 : decode cX4_bringMoves 62 = .ok (.iadd, 1) := by decide +kernel
theorem dX4_bringMoves_63 : decode cX4_bringMoves 63 = .ok (.istore 5, 2) := by decide +kernel
theorem dX4_bringMoves_65 : decode cX4_bringMoves 65 = .ok (.iload 7, 2) := by decide +kernel
theorem dX4_bringMoves_67 : decode cX4_bringMoves 67 = .ok (.istore 6, 2) := by decide +kernel
theorem dX4_bringMoves_69 : decode cX4_bringMoves 69 = .ok (.aload_n 0, 1) := by decide +kernel
theorem dX4_bringMoves_70 : decode cX4_bringMoves 70 = .ok (.getfield 23, 3) := by decide +kernel
theorem dX4_bringMoves_73 : decode cX4_bringMoves 73 = .ok (.iload_n 1, 1) := by decide +kernel
theorem dX4_bringMoves_74 : decode cX4_bringMoves 74 = .ok (.aaload, 1) := by decide +kernel
theorem dX4_bringMoves_75 : decode cX4_bringMoves 75 = .ok (.getfield 125, 3) := by decide +kernel
theorem dX4_bringMoves_78 : decode cX4_bringMoves 78 = .ok (.istore 7, 2) := by decide +kernel
theorem dX4_bringMoves_80 : decode cX4_bringMoves 80 = .ok (.iload 5, 2) := by decide +kernel
theorem dX4_bringMoves_82 : decode cX4_bringMoves 82 = .ok (.iload 6, 2) := by decide +kernel
theorem dX4_bringMoves_84 : decode cX4_bringMoves 84 = .ok (.iload 7, 2) := by decide +kernel
theorem dX4_bringMoves_86 : decode cX4_bringMoves 86 = .ok (.isub, 1) := by decide +kernel
theorem dX4_bringMoves_87 : decode cX4_bringMoves 87 = .ok (.invokestatic 197, 3) := by decide +kernel
theorem dX4_bringMoves_90 : decode cX4_bringMoves 90 = .ok (.iadd, 1) := by decide +kernel
theorem dX4_bringMoves_91 : decode cX4_bringMoves 91 = .ok (.iload 7, 2) := by decide +kernel
theorem dX4_bringMoves_93 : decode cX4_bringMoves 93 = .ok (.iload_n 3, 1) := by decide +kernel
theorem dX4_bringMoves_94 : decode cX4_bringMoves 94 = .ok (.isub, 1) := by decide +kernel
theorem dX4_bringMoves_95 : decode cX4_bringMoves 95 = .ok (.invokestatic 197, 3) := by decide +kernel
theorem dX4_bringMoves_98 : decode cX4_bringMoves 98 = .ok (.iadd, 1) := by decide +kernel
theorem dX4_bringMoves_99 : decode cX4_bringMoves 99 = .ok (.ireturn, 1) := by decide +kernel
set_option maxRecDepth 20000 in
theorem ggX4_bringTime_X4_bringMoves : GoodIn wsX4_bringTime wsX4_bringMoves := goodIn_r _ [8, 1, 9, 2, 10, 11, 12, 13, 14, 15, 16, 17, 18, 19, 20, 21, 22, 23, 24, 25, 26, 27, 28, 29, 30, 31, 32, 33, 34, 35, 36, 37, 38, 39, 40, 41, 42, 43, 44, 45, 46] (by decide +kernel) (by decide +kernel)
set_option maxRecDepth 20000 in
theorem gX4_bringTime_X4_bringMoves : GoodIn wsX4_bringTime (wsV RX4 205 RX4 yX4_bringMoves wsX4_bringMoves) := goodIn_app (goodIn_of _ (by decide +kernel)) ggX4_bringTime_X4_bringMoves
theorem dX4_bringTime_0 : decode cX4_bringTime 0 = .ok (.aload_n 0, 1) := by decide +kernel
theorem dX4_bringTime_1 : decode cX4_bringTime 1 = .ok (.getfield 17, 3) := by decide +kernel
theorem dX4_bringTime_4 : decode cX4_bringTime 4 = .ok (.iload_n 2, 1) := by decide +kernel
theorem dX4_bringTime_5 : decode cX4_bringTime 5 = .ok (.aaload, 1) := by decide +kernel
theorem dX4_bringTime_6 : decode cX4_bringTime 6 = .ok (.getfield 115, 3) := by decide +kernel
theorem dX4_bringTime_9 : decode cX4_bringTime 9 = .ok (.istore_n 3, 1) := by decide +kernel
theorem dX4_bringTime_10 : decode cX4_bringTime 10 = .ok (.iload_n 3, 1) := by decide +kernel
theorem dX4_bringTime_11 : decode cX4_bringTime 11 = .ok (.iload_n 1, 1) := by decide +kernel
theorem dX4_bringTime_12 : decode cX4_bringTime 12 = .ok (.if_icmp .ne 5, 3) := by decide +kernel
theorem dX4_bringTime_15 : decode cX4_bringTime 15 = .ok (.iconst 0, 1) := by decide +kernel
theorem dX4_bringTime_16 : decode cX4_bringTime 16 = .ok (.ireturn, 1) := by decide +kernel
theorem dX4_bringTime_17 : decode cX4_bringTime 17 = .ok (.iload_n 3, 1) := by decide +kernel
theorem dX4_bringTime_18 : decode cX4_bringTime 18 = .ok (.iconst (-1), 1) := by decide +kernel
theorem dX4_bringTime_19 : decode cX4_bringTime 19 = .ok (.if_icmp .ne 7, 3) := by decide +kernel
theorem dX4_bringTime_22 : decode cX4_bringTime 22 = .ok (.iconst 2, 1) := by decide +kernel
theorem dX4_bringTime_23 : decode cX4_bringTime 23 = .ok (.goto 4, 3) := by decide +kernel
theorem dX4_bringTime_26 : decode cX4_bringTime 26 = .ok (.iconst 4, 1) := by decide +kernel
theorem dX4_bringTime_27 : decode cX4_bringTime 27 = .ok (.istore 4, 2) := by decide +kernel
theorem dX4_bringTime_29 : decode cX4_bringTime 29 = .ok (.aload_n 0, 1) := by decide +kernel
theorem dX4_bringTime_30 : decode cX4_bringTime 30 = .ok (.iload_n 1, 1) := by decide +kernel
theorem dX4_bringTime_31 : decode cX4_bringTime 31 = .ok (.iload_n 2, 1) := by decide +kernel
theorem dX4_bringTime_32 : decode cX4_bringTime 32 = .ok (.invokevirtual 205, 3) := by decide +kernel
theorem dX4_bringTime_35 : decode cX4_bringTime 35 = .ok (.aload_n 0, 1) := by decide +kernel
theorem dX4_bringTime_36 : decode cX4_bringTime 36 = .ok (.getfield 9, 3) := by decide +kernel
theorem dX4_bringTime_39 : decode cX4_bringTime 39 = .ok (.iconst 0, 1) := by decide +kernel
theorem dX4_bringTime_40 : decode cX4_bringTime 40 = .ok (.iaload, 1) := by decide +kernel
theorem dX4_bringTime_41 : decode cX4_bringTime 41 = .ok (.imul, 1) := by decide +kernel
theorem dX4_bringTime_42 : decode cX4_bringTime 42 = .ok (.iload 4, 2) := by decide +kernel
theorem dX4_bringTime_44 : decode cX4_bringTime 44 = .ok (.aload_n 0, 1) := by decide +kernel
theorem dX4_bringTime_45 : decode cX4_bringTime 45 = .ok (.getfield 9, 3) := by decide +kernel
theorem dX4_bringTime_48 : decode cX4_bringTime 48 = .ok (.iconst 1, 1) := by decide +kernel
theorem dX4_bringTime_49 : decode cX4_bringTime 49 = .ok (.iaload, 1) := by decide +kernel
theorem dX4_bringTime_50 : decode cX4_bringTime 50 = .ok (.imul, 1) := by decide +kernel
theorem dX4_bringTime_51 : decode cX4_bringTime 51 = .ok (.iadd, 1) := by decide +kernel
theorem dX4_bringTime_52 : decode cX4_bringTime 52 = .ok (.aload_n 0, 1) := by decide +kernel
theorem dX4_bringTime_53 : decode cX4_bringTime 53 = .ok (.getfield 9, 3) := by decide +kernel
theorem dX4_bringTime_56 : decode cX4_bringTime 56 = .ok (.iconst 2, 1) := by decide +kernel
theorem dX4_bringTime_57 : decode cX4_bringTime 57 = .ok (.iaload, 1) := by decide +kernel
theorem dX4_bringTime_58 : decode cX4_bringTime 58 = .ok (.iadd, 1) := by decide +kernel
theorem dX4_bringTime_59 : decode cX4_bringTime 59 = .ok (.ireturn, 1) := by decide +kernel
set_option maxRecDepth 20000 in
theorem ggX4_chosenBringTime_X4_driveToChoose : GoodIn wsX4_chosenBringTime wsX4_driveToChoose := goodIn_r _ [5, 6, 7, 8, 4, 9, 10, 11, 12, 13, 14, 15, 16, 17, 18, 36, 37, 38, 39, 40, 41, 42, 43, 44, 45, 46, 47, 48, 49, 50, 51, 52, 53, 54, 55, 56] (by decide +kernel) (by decide +kernel)
set_option maxRecDepth 20000 in
theorem gX4_chosenBringTime_X4_driveToChoose : GoodIn wsX4_chosenBringTime (wsV RX4 208 RX4 yX4_driveToChoose wsX4_driveToChoose) := goodIn_app (goodIn_of _ (by decide +kernel)) ggX4_chosenBringTime_X4_driveToChoose
set_option maxRecDepth 20000 in
theorem ggX4_chosenBringTime_X4_bringTime : GoodIn wsX4_chosenBringTime wsX4_bringTime := goodIn_r _ [22, 11, 12, 23, 24, 25, 26, 4, 27, 28, 29, 30, 31, 32, 33, 34, 35, 36, 37, 38, 39, 40, 41, 42, 43, 44, 45, 46, 47, 48, 49, 50, 51, 52, 53, 54, 55, 56, 57, 58, 59, 60, 61, 62, 63, 64, 65] (by decide +kernel) (by decide +kernel)
set_option maxRecDepth 20000 in
theorem gX4_chosenBringTime_X4_bringTime : GoodIn wsX4_chosenBringTime (wsV RX4 211 RX4 yX4_bringTime wsX4_bringTime) := goodIn_app (goodIn_of _ (by decide +kernel)) ggX4_chosenBringTime_X4_bringTime
theorem dX4_chosenBringTime_0 : decode cX4_chosenBringTime 0 = .ok (.aload_n 0, 1) := by decide +kernel
theorem dX4_chosenBringTime_1 : decode cX4_chosenBringTime 1 = .ok (.iload_n 1, 1) := by decide +kernel
theorem dX4_chosenBringTime_2 : decode cX4_chosenBringTime 2 = .ok (.invokevirtual 208, 3) := by decide +kernel
theorem dX4_chosenBringTime_5 : decode cX4_chosenBringTime 5 = .ok (.istore_n 2, 1) := by decide +kernel
theorem dX4_chosenBringTime_6 : decode cX4_chosenBringTime 6 = .ok (.iload_n 2, 1) := by decide +kernel
theorem dX4_chosenBringTime_7 : decode cX4_chosenBringTime 7 = .ok (.iconst (-1), 1) := by decide +kernel
theorem dX4_chosenBringTime_8 : decode cX4_chosenBringTime 8 = .ok (.if_icmp .ne 7, 3) := by decide +kernel
theorem dX4_chosenBringTime_11 : decode cX4_chosenBringTime 11 = .ok (.iconst 0, 1) := by decide +kernel
theorem dX4_chosenBringTime_12 : decode cX4_chosenBringTime 12 = .ok (.goto 9, 3) := by decide +kernel
theorem dX4_chosenBringTime_15 : decode cX4_chosenBringTime 15 = .ok (.aload_n 0, 1) := by decide +kernel
theorem dX4_chosenBringTime_16 : decode cX4_chosenBringTime 16 = .ok (.iload_n 1, 1) := by decide +kernel
theorem dX4_chosenBringTime_17 : decode cX4_chosenBringTime 17 = .ok (.iload_n 2, 1) := by decide +kernel
theorem dX4_chosenBringTime_18 : decode cX4_chosenBringTime 18 = .ok (.invokevirtual 211, 3) := by decide +kernel
theorem dX4_chosenBringTime_21 : decode cX4_chosenBringTime 21 = .ok (.ireturn, 1) := by decide +kernel
set_option maxRecDepth 20000 in
theorem ggX4_bringInto_X4_bringTime : GoodIn wsX4_bringInto wsX4_bringTime := goodIn_r _ [12, 1, 2, 13, 14, 15, 16, 11, 17, 5, 6, 18, 19, 20, 21, 22, 23, 30, 31, 32, 33, 34, 35, 36, 37, 38, 39, 40, 41, 42, 43, 44, 45, 46, 47, 48, 49, 50, 51, 52, 53, 54, 55, 56, 57, 58, 59] (by decide +kernel) (by decide +kernel)
set_option maxRecDepth 20000 in
theorem gX4_bringInto_X4_bringTime : GoodIn wsX4_bringInto (wsV RX4 211 RX4 yX4_bringTime wsX4_bringTime) := goodIn_app (goodIn_of _ (by decide +kernel)) ggX4_bringInto_X4_bringTime
set_option maxRecDepth 20000 in
theorem ggX4_bringInto_X4_bringMoves : GoodIn wsX4_bringInto wsX4_bringMoves := goodIn_r _ [17, 1, 5, 2, 6, 18, 19, 20, 21, 22, 23, 30, 31, 32, 33, 34, 35, 36, 37, 38, 39, 40, 41, 42, 43, 44, 45, 46, 47, 48, 49, 50, 51, 52, 53, 54, 55, 56, 57, 58, 59] (by decide +kernel) (by decide +kernel)
set_option maxRecDepth 20000 in
theorem gX4_bringInto_X4_bringMoves : GoodIn wsX4_bringInto (wsV RX4 205 RX4 yX4_bringMoves wsX4_bringMoves) := goodIn_app (goodIn_of _ (by decide +kernel)) ggX4_bringInto_X4_bringMoves
set_option maxRecDepth 20000 in
theorem ggX4_bringInto_X4_useDrive : GoodIn wsX4_bringInto wsX4_useDrive := goodIn_r _ [27, 28, 1, 29, 30, 31, 32, 33, 34, 35, 36, 37, 38, 39, 40, 41, 42, 43, 44, 45, 46, 47, 48, 49, 50] (by decide +kernel) (by decide +kernel)
set_option maxRecDepth 20000 in
theorem gX4_bringInto_X4_useDrive : GoodIn wsX4_bringInto (wsV RX4 214 RX4 yX4_useDrive wsX4_useDrive) := goodIn_app (goodIn_of _ (by decide +kernel)) ggX4_bringInto_X4_useDrive
theorem dX4_bringInto_0 : decode cX4_bringInto 0 = .ok (.aload_n 0, 1) := by decide +kernel
theorem dX4_bringInto_1 : decode cX4_bringInto 1 = .ok (.getfield 17, 3) := by decide +kernel
theorem dX4_bringInto_4 : decode cX4_bringInto 4 = .ok (.iload_n 2, 1) := by decide +kernel
theorem dX4_bringInto_5 : decode cX4_bringInto 5 = .ok (.aaload, 1) := by decide +kernel
theorem dX4_bringInto_6 : decode cX4_bringInto 6 = .ok (.getfield 115, 3) := by decide +kernel
theorem dX4_bringInto_9 : decode cX4_bringInto 9 = .ok (.iload_n 1, 1) := by decide +kernel
theorem dX4_bringInto_10 : decode cX4_bringInto 10 = .ok (.if_icmp .eq 66, 3) := by decide +kernel
theorem dX4_bringInto_13 : decode cX4_bringInto 13 = .ok (.aload_n 0, 1) := by decide +kernel
theorem dX4_bringInto_14 : decode cX4_bringInto 14 = .ok (.dup, 1) := by decide +kernel
theorem dX4_bringInto_15 : decode cX4_bringInto 15 = .ok (.getfield 77, 3) := by decide +kernel
theorem dX4_bringInto_18 : decode cX4_bringInto 18 = .ok (.aload_n 0, 1) := by decide +kernel
theorem dX4_bringInto_19 : decode cX4_bringInto 19 = .ok (.iload_n 1, 1) := by decide +kernel
theorem dX4_bringInto_20 : decode cX4_bringInto 20 = .ok (.iload_n 2, 1) := by decide +kernel
theorem dX4_bringInto_21 : decode cX4_bringInto 21 = .ok (.invokevirtual 211, 3) := by decide +kernel
theorem dX4_bringInto_24 : decode cX4_bringInto 24 = .ok (.iadd, 1) := by decide +kernel
theorem dX4_bringInto_25 : decode cX4_bringInto 25 = .ok (.putfield 77, 3) := by decide +kernel
theorem dX4_bringInto_28 : decode cX4_bringInto 28 = .ok (.aload_n 0, 1) := by decide +kernel
theorem dX4_bringInto_29 : decode cX4_bringInto 29 = .ok (.dup, 1) := by decide +kernel
theorem dX4_bringInto_30 : decode cX4_bringInto 30 = .ok (.getfield 83, 3) := by decide +kernel
theorem dX4_bringInto_33 : decode cX4_bringInto 33 = .ok (.aload_n 0, 1) := by decide +kernel
theorem dX4_bringInto_34 : decode cX4_bringInto 34 = .ok (.iload_n 1, 1) := by decide +kernel
theorem dX4_bringInto_35 : decode cX4_bringInto 35 = .ok (.iload_n 2, 1) := by decide +kernel
theorem dX4_bringInto_36 : decode cX4_bringInto 36 = .ok (.invokevirtual 205, 3) := by decide +kernel
theorem dX4_bringInto_39 : decode cX4_bringInto 39 = .ok (.iadd, 1) := by decide +kernel
theorem dX4_bringInto_40 : decode cX4_bringInto 40 = .ok (.putfield 83, 3) := by decide +kernel
theorem dX4_bringInto_43 : decode cX4_bringInto 43 = .ok (.aload_n 0, 1) := by decide +kernel
theorem dX4_bringInto_44 : decode cX4_bringInto 44 = .ok (.aload_n 0, 1) := by decide +kernel
theorem dX4_bringInto_45 : decode cX4_bringInto 45 = .ok (.getfield 17, 3) := by decide +kernel
theorem dX4_bringInto_48 : decode cX4_bringInto 48 = .ok (.iload_n 2, 1) := by decide +kernel
theorem dX4_bringInto_49 : decode cX4_bringInto 49 = .ok (.aaload, 1) := by decide +kernel
theorem dX4_bringInto_50 : decode cX4_bringInto 50 = .ok (.getfield 112, 3) := by decide +kernel
theorem dX4_bringInto_53 : decode cX4_bringInto 53 = .ok (.putfield 74, 3) := by decide +kernel
theorem dX4_bringInto_56 : decode cX4_bringInto 56 = .ok (.aload_n 0, 1) := by decide +kernel
theorem dX4_bringInto_57 : decode cX4_bringInto 57 = .ok (.getfield 17, 3) := by decide +kernel
theorem dX4_bringInto_60 : decode cX4_bringInto 60 = .ok (.iload_n 2, 1) := by decide +kernel
theorem dX4_bringInto_61 : decode cX4_bringInto 61 = .ok (.aaload, 1) := by decide +kernel
theorem dX4_bringInto_62 : decode cX4_bringInto 62 = .ok (.iload_n 1, 1) := by decide +kernel
theorem dX4_bringInto_63 : decode cX4_bringInto 63 = .ok (.putfield 115, 3) := by decide +kernel
theorem dX4_bringInto_66 : decode cX4_bringInto 66 = .ok (.aload_n 0, 1) := by decide +kernel
theorem dX4_bringInto_67 : decode cX4_bringInto 67 = .ok (.dup, 1) := by decide +kernel
theorem dX4_bringInto_68 : decode cX4_bringInto 68 = .ok (.getfield 80, 3) := by decide +kernel
theorem dX4_bringInto_71 : decode cX4_bringInto 71 = .ok (.iconst 1, 1) := by decide +kernel
theorem dX4_bringInto_72 : decode cX4_bringInto 72 = .ok (.iadd, 1) := by decide +kernel
theorem dX4_bringInto_73 : decode cX4_bringInto 73 = .ok (.putfield 80, 3) := by decide +kernel
theorem dX4_bringInto_76 : decode cX4_bringInto 76 = .ok (.aload_n 0, 1) := by decide +kernel
theorem dX4_bringInto_77 : decode cX4_bringInto 77 = .ok (.iload_n 2, 1) := by decide +kernel
theorem dX4_bringInto_78 : decode cX4_bringInto 78 = .ok (.invokevirtual 214, 3) := by decide +kernel
theorem dX4_bringInto_81 : decode cX4_bringInto 81 = .ok (.return_, 1) := by decide +kernel
set_option maxRecDepth 20000 in
theorem ggX4_bringToChosen_X4_driveToChoose : GoodIn wsX4_bringToChosen wsX4_driveToChoose := goodIn_r _ [5, 6, 7, 8, 4, 9, 10, 11, 12, 13, 14, 15, 16, 17, 18, 47, 48, 49, 50, 51, 52, 53, 54, 55, 56, 57, 58, 59, 60, 61, 62, 63, 64, 65, 66, 67] (by decide +kernel) (by decide +kernel)
set_option maxRecDepth 20000 in
theorem gX4_bringToChosen_X4_driveToChoose : GoodIn wsX4_bringToChosen (wsV RX4 208 RX4 yX4_driveToChoose wsX4_driveToChoose) := goodIn_app (goodIn_of _ (by decide +kernel)) ggX4_bringToChosen_X4_driveToChoose
set_option maxRecDepth 20000 in
theorem ggX4_bringToChosen_X4_bringInto : GoodIn wsX4_bringToChosen wsX4_bringInto := goodIn_r _ [22, 11, 12, 23, 24, 25, 26, 27, 28, 29, 30, 4, 31, 32, 33, 34, 35, 36, 37, 38, 39, 40, 41, 42, 43, 44, 45, 46, 17, 18, 47, 48, 49, 50, 51, 52, 53, 54, 55, 56, 57, 58, 59, 60, 61, 62, 63, 64, 65, 66, 67, 68, 69, 70, 71, 72, 73, 74, 75, 76] (by decide +kernel) (by decide +kernel)
set_option maxRecDepth 20000 in
theorem gX4_bringToChosen_X4_bringInto : GoodIn wsX4_bringToChosen (wsV RX4 217 RX4 yX4_bringInto wsX4_bringInto) := goodIn_app (goodIn_of _ (by decide +kernel)) ggX4_bringToChosen_X4_bringInto
theorem dX4_bringToChosen_0 : decode cX4_bringToChosen 0 = .ok (.aload_n 0, 1) := by decide +kernel
theorem dX4_bringToChosen_1 : decode cX4_bringToChosen 1 = .ok (.iload_n 1, 1) := by decide +kernel
theorem dX4_bringToChosen_2 : decode cX4_bringToChosen 2 = .ok (.invokevirtual 208, 3) := by decide +kernel
theorem dX4_bringToChosen_5 : decode cX4_bringToChosen 5 = .ok (.istore_n 2, 1) := by decide +kernel
theorem dX4_bringToChosen_6 : decode cX4_bringToChosen 6 = .ok (.iload_n 2, 1) := by decide +kernel
theorem dX4_bringToChosen_7 : decode cX4_bringToChosen 7 = .ok (.iconst (-1), 1) := by decide +kernel
theorem dX4_bringToChosen_8 : decode cX4_bringToChosen 8 = .ok (.if_icmp .eq 9, 3) := by decide +kernel
theorem dX4_bringToChosen_11 : decode cX4_bringToChosen 11 = .ok (.aload_n 0, 1) := by decide +kernel
theorem dX4_bringToChosen_12 : decode cX4_bringToChosen 12 = .ok (.iload_n 1, 1) := by decide +kernel
theorem dX4_bringToChosen_13 : decode cX4_bringToChosen 13 = .ok (.iload_n 2, 1) := by decide +kernel
theorem dX4_bringToChosen_14 : decode cX4_bringToChosen 14 = .ok (.invokevirtual 217, 3) := by decide +kernel
theorem dX4_bringToChosen_17 : decode cX4_bringToChosen 17 = .ok (.return_, 1) := by decide +kernel
theorem dX4_useDrive_0 : decode cX4_useDrive 0 = .ok (.aload_n 0, 1) := by decide +kernel
theorem dX4_useDrive_1 : decode cX4_useDrive 1 = .ok (.dup, 1) := by decide +kernel
theorem dX4_useDrive_2 : decode cX4_useDrive 2 = .ok (.getfield 56, 3) := by decide +kernel
theorem dX4_useDrive_5 : decode cX4_useDrive 5 = .ok (.iconst 1, 1) := by decide +kernel
theorem dX4_useDrive_6 : decode cX4_useDrive 6 = .ok (.iadd, 1) := by decide +kernel
theorem dX4_useDrive_7 : decode cX4_useDrive 7 = .ok (.putfield 56, 3) := by decide +kernel
theorem dX4_useDrive_10 : decode cX4_useDrive 10 = .ok (.aload_n 0, 1) := by decide +kernel
theorem dX4_useDrive_11 : decode cX4_useDrive 11 = .ok (.getfield 17, 3) := by decide +kernel
theorem dX4_useDrive_14 : decode cX4_useDrive 14 = .ok (.iload_n 1, 1) := by decide +kernel
theorem dX4_useDrive_15 : decode cX4_useDrive 15 = .ok (.aaload, 1) := by decide +kernel
theorem dX4_useDrive_16 : decode cX4_useDrive 16 = .ok (.aload_n 0, 1) := by decide +kernel
theorem dX4_useDrive_17 : decode cX4_useDrive 17 = .ok (.getfield 56, 3) := by decide +kernel
theorem dX4_useDrive_20 : decode cX4_useDrive 20 = .ok (.putfield 118, 3) := by decide +kernel
theorem dX4_useDrive_23 : decode cX4_useDrive 23 = .ok (.return_, 1) := by decide +kernel
theorem dX4_carryHome_0 : decode cX4_carryHome 0 = .ok (.aload_n 0, 1) := by decide +kernel
theorem dX4_carryHome_1 : decode cX4_carryHome 1 = .ok (.getfield 17, 3) := by decide +kernel
theorem dX4_carryHome_4 : decode cX4_carryHome 4 = .ok (.iload_n 1, 1) := by decide +kernel
theorem dX4_carryHome_5 : decode cX4_carryHome 5 = .ok (.aaload, 1) := by decide +kernel
theorem dX4_carryHome_6 : decode cX4_carryHome 6 = .ok (.getfield 115, 3) := by decide +kernel
theorem dX4_carryHome_9 : decode cX4_carryHome 9 = .ok (.istore_n 2, 1) := by decide +kernel
theorem dX4_carryHome_10 : decode cX4_carryHome 10 = .ok (.iload_n 2, 1) := by decide +kernel
theorem dX4_carryHome_11 : decode cX4_carryHome 11 = .ok (.iconst (-1), 1) := by decide +kernel
theorem dX4_carryHome_12 : decode cX4_carryHome 12 = .ok (.if_icmp .eq 97, 3) := by decide +kernel
theorem dX4_carryHome_15 : decode cX4_carryHome 15 = .ok (.aload_n 0, 1) := by decide +kernel
theorem dX4_carryHome_16 : decode cX4_carryHome 16 = .ok (.getfield 17, 3) := by decide +kernel
theorem dX4_carryHome_19 : decode cX4_carryHome 19 = .ok (.iload_n 1, 1) := by decide +kernel
theorem dX4_carryHome_20 : decode cX4_carryHome 20 = .ok (.aaload, 1) := by decide +kernel
theorem dX4_carryHome_21 : decode cX4_carryHome 21 = .ok (.getfield 112, 3) := by decide +kernel
theorem dX4_carryHome_24 : decode cX4_carryHome 24 = .ok (.istore_n 3, 1) := by decide +kernel
theorem dX4_carryHome_25 : decode cX4_carryHome 25 = .ok (.aload_n 0, 1) := by decide +kernel
theorem dX4_carryHome_26 : decode cX4_carryHome 26 = .ok (.getfield 23, 3) := by decide +kernel
theorem dX4_carryHome_29 : decode cX4_carryHome 29 = .ok (.iload_n 2, 1) := by decide +kernel
theorem dX4_carryHome_30 : decode cX4_carryHome 30 = .ok (.aaload, 1) := by decide +kernel
theorem dX4_carryHome_31 : decode cX4_carryHome 31 = .ok (.getfield 125, 3) := by decide +kernel
theorem dX4_carryHome_34 : decode cX4_carryHome 34 = .ok (.istore 4, 2) := by decide +kernel
theorem dX4_carryHome_36 : decode cX4_carryHome 36 = .ok (.aload_n 0, 1) := by decide +kernel
theorem dX4_carryHome_37 : decode cX4_carryHome 37 = .ok (.getfield 74, 3) := by decide +kernel
theorem dX4_carryHome_40 : decode cX4_carryHome 40 = .ok (.iload_n 3, 1) := by decide +kernel
theorem dX4_carryHome_41 : decode cX4_carryHome 41 = .ok (.isub, 1) := by decide +kernel
theorem dX4_carryHome_42 : decode cX4_carryHome 42 = .ok (.invokestatic 197, 3) := by decide +kernel
theorem dX4_carryHome_45 : decode cX4_carryHome 45 = .ok (.iload_n 3, 1) := by decide +kernel
theorem dX4_carryHome_46 : decode cX4_carryHome 46 = .ok (.iload 4, 2) := by decide +kernel
theorem dX4_carryHome_48 : decode cX4_carryHome 48 = .ok (.isub, 1) := by decide +kernel
theorem dX4_carryHome_49 : decode cX4_carryHome 49 = .ok (.invokestatic 197, 3) := by decide +kernel
theorem dX4_carryHome_52 : decode cX4_carryHome 52 = .ok (.iadd, 1) := by decide +kernel
theorem dX4_carryHome_53 : decode cX4_carryHome 53 = .ok (.istore 5, 2) := by decide +kernel
theorem dX4_carryHome_55 : decode cX4_carryHome 55 = .ok (.aload_n 0, 1) := by decide +kernel
theorem dX4_carryHome_56 : decode cX4_carryHome 56 = .ok (.dup, 1) := by decide +kernel
theorem dX4_carryHome_57 : decode cX4_carryHome 57 = .ok (.getfield 77, 3) := by decide +kernel
theorem dX4_carryHome_60 : decode cX4_carryHome 60 = .ok (.iload 5, 2) := by decide +kernel
theorem dX4_carryHome_62 : decode cX4_carryHome 62 = .ok (.aload_n 0, 1) := by decide +kernel
theorem dX4_carryHome_63 : decode cX4_carryHome 63 = .ok (.getfield 9, 3) := by decide +kernel
theorem dX4_carryHome_66 : decode cX4_carryHome 66 = .ok (.iconst 0, 1) := by decide +kernel
theorem dX4_carryHome_67 : decode cX4_carryHome 67 = .ok (.iaload, 1) := by decide +kernel
theorem dX4_carryHome_68 : decode cX4_carryHome 68 = .ok (.imul, 1) := by decide +kernel
theorem dX4_carryHome_69 : decode cX4_carryHome 69 = .ok (.iconst 2, 1) := by decide +kernel
theorem dX4_carryHome_70 : decode cX4_carryHome 70 = .ok (.aload_n 0, 1) := by decide +kernel
theorem dX4_carryHome_71 : decode cX4_carryHome 71 = .ok (.getfield 9, 3) := by decide +kernel
theorem dX4_carryHome_74 : decode cX4_carryHome 74 = .ok (.iconst 1, 1) := by decide +kernel
theorem dX4_carryHome_75 : decode cX4_carryHome 75 = .ok (.iaload, 1) := by decide +kernel
theorem dX4_carryHome_76 : decode cX4_carryHome 76 = .ok (.imul, 1) := by decide +kernel
theorem dX4_carryHome_77 : decode cX4_carryHome 77 = .ok (.iadd, 1) := by decide +kernel
theorem dX4_carryHome_78 : decode cX4_carryHome 78 = .ok (.iadd, 1) := by decide +kernel
theorem dX4_carryHome_79 : decode cX4_carryHome 79 = .ok (.putfield 77, 3) := by decide +kernel
theorem dX4_carryHome_82 : decode cX4_carryHome 82 = .ok (.aload_n 0, 1) := by decide +kernel
theorem dX4_carryHome_83 : decode cX4_carryHome 83 = .ok (.dup, 1) := by decide +kernel
theorem dX4_carryHome_84 : decode cX4_carryHome 84 = .ok (.getfield 83, 3) := by decide +kernel
theorem dX4_carryHome_87 : decode cX4_carryHome 87 = .ok (.iload 5, 2) := by decide +kernel
theorem dX4_carryHome_89 : decode cX4_carryHome 89 = .ok (.iadd, 1) := by decide +kernel
theorem dX4_carryHome_90 : decode cX4_carryHome 90 = .ok (.putfield 83, 3) := by decide +kernel
theorem dX4_carryHome_93 : decode cX4_carryHome 93 = .ok (.aload_n 0, 1) := by decide +kernel
theorem dX4_carryHome_94 : decode cX4_carryHome 94 = .ok (.iload 4, 2) := by decide +kernel
theorem dX4_carryHome_96 : decode cX4_carryHome 96 = .ok (.putfield 74, 3) := by decide +kernel
theorem dX4_carryHome_99 : decode cX4_carryHome 99 = .ok (.aload_n 0, 1) := by decide +kernel
theorem dX4_carryHome_100 : decode cX4_carryHome 100 = .ok (.getfield 17, 3) := by decide +kernel
theorem dX4_carryHome_103 : decode cX4_carryHome 103 = .ok (.iload_n 1, 1) := by decide +kernel
theorem dX4_carryHome_104 : decode cX4_carryHome 104 = .ok (.aaload, 1) := by decide +kernel
theorem dX4_carryHome_105 : decode cX4_carryHome 105 = .ok (.iconst (-1), 1) := by decide +kernel
theorem dX4_carryHome_106 : decode cX4_carryHome 106 = .ok (.putfield 115, 3) := by decide +kernel
theorem dX4_carryHome_109 : decode cX4_carryHome 109 = .ok (.return_, 1) := by decide +kernel
theorem dX4_sectorsReadTime_0 : decode cX4_sectorsReadTime 0 = .ok (.aload_n 0, 1) := by decide +kernel
theorem dX4_sectorsReadTime_1 : decode cX4_sectorsReadTime 1 = .ok (.getfield 9, 3) := by decide +kernel
theorem dX4_sectorsReadTime_4 : decode cX4_sectorsReadTime 4 = .ok (.iconst 3, 1) := by decide +kernel
theorem dX4_sectorsReadTime_5 : decode cX4_sectorsReadTime 5 = .ok (.iaload, 1) := by decide +kernel
theorem dX4_sectorsReadTime_6 : decode cX4_sectorsReadTime 6 = .ok (.aload_n 1, 1) := by decide +kernel
theorem dX4_sectorsReadTime_7 : decode cX4_sectorsReadTime 7 = .ok (.getfield 141, 3) := by decide +kernel
theorem dX4_sectorsReadTime_10 : decode cX4_sectorsReadTime 10 = .ok (.aload_n 1, 1) := by decide +kernel
theorem dX4_sectorsReadTime_11 : decode cX4_sectorsReadTime 11 = .ok (.getfield 148, 3) := by decide +kernel
theorem dX4_sectorsReadTime_14 : decode cX4_sectorsReadTime 14 = .ok (.iadd, 1) := by decide +kernel
theorem dX4_sectorsReadTime_15 : decode cX4_sectorsReadTime 15 = .ok (.imul, 1) := by decide +kernel
theorem dX4_sectorsReadTime_16 : decode cX4_sectorsReadTime 16 = .ok (.ireturn, 1) := by decide +kernel
set_option maxRecDepth 20000 in
theorem ggX4_readFile_X4_currentVersion : GoodIn wsX4_readFile wsX4_currentVersion := goodIn_r _ [7, 8, 9, 71, 72, 73, 74, 75, 76, 77, 78, 79, 80, 81, 82, 83, 84, 85, 86, 87, 88] (by decide +kernel) (by decide +kernel)
set_option maxRecDepth 20000 in
theorem gX4_readFile_X4_currentVersion : GoodIn wsX4_readFile (wsV RX4 173 RX4 yX4_currentVersion wsX4_currentVersion) := goodIn_app (goodIn_of _ (by decide +kernel)) ggX4_readFile_X4_currentVersion
set_option maxRecDepth 20000 in
theorem ggX4_readFile_X4_bringToChosen : GoodIn wsX4_readFile wsX4_bringToChosen := goodIn_r _ [13, 14, 15, 16, 6, 17, 18, 19, 20, 21, 22, 23, 24, 25, 26, 27, 28, 29, 30, 31, 32, 33, 34, 2, 35, 36, 37, 38, 39, 40, 41, 42, 43, 44, 45, 46, 47, 48, 49, 50, 51, 52, 53, 54, 55, 56, 57, 71, 72, 73, 74, 75, 76, 77, 78, 79, 80, 81, 82, 83, 84, 85, 86, 87, 88, 89, 90, 91, 92, 93, 94, 95, 96, 97, 98, 99, 100] (by decide +kernel) (by decide +kernel)
set_option maxRecDepth 20000 in
theorem gX4_readFile_X4_bringToChosen : GoodIn wsX4_readFile (wsV RX4 220 RX4 yX4_bringToChosen wsX4_bringToChosen) := goodIn_app (goodIn_of _ (by decide +kernel)) ggX4_readFile_X4_bringToChosen
set_option maxRecDepth 20000 in
theorem ggX4_readFile_X4_sectorsReadTime : GoodIn wsX4_readFile wsX4_sectorsReadTime := goodIn_r _ [61, 43, 62, 63, 71, 72, 73, 74, 75, 76, 77, 78, 79, 80, 81, 82, 83, 84, 85, 86, 87, 88, 64, 65, 66, 67, 68, 69, 70] (by decide +kernel) (by decide +kernel)
set_option maxRecDepth 20000 in
theorem gX4_readFile_X4_sectorsReadTime : GoodIn wsX4_readFile (wsV RX4 223 RX4 yX4_sectorsReadTime wsX4_sectorsReadTime) := goodIn_app (goodIn_of _ (by decide +kernel)) ggX4_readFile_X4_sectorsReadTime
theorem dX4_readFile_0 : decode cX4_readFile 0 = .ok (.aload_n 0, 1) := by decide +kernel
theorem dX4_readFile_1 : decode cX4_readFile 1 = .ok (.iload_n 1, 1) := by decide +kernel
theorem dX4_readFile_2 : decode cX4_readFile 2 = .ok (.invokevirtual 173, 3) := by decide +kernel
theorem dX4_readFile_5 : decode cX4_readFile 5 = .ok (.astore_n 2, 1) := by decide +kernel
theorem dX4_readFile_6 : decode cX4_readFile 6 = .ok (.aload_n 0, 1) := by decide +kernel
theorem dX4_readFile_7 : decode cX4_readFile 7 = .ok (.aload_n 2, 1) := by decide +kernel
theorem dX4_readFile_8 : decode cX4_readFile 8 = .ok (.getfield 134, 3) := by decide +kernel
theorem dX4_readFile_11 : decode cX4_readFile 11 = .ok (.invokevirtual 220, 3) := by decide +kernel
theorem dX4_readFile_14 : decode cX4_readFile 14 = .ok (.aload_n 0, 1) := by decide +kernel
theorem dX4_readFile_15 : decode cX4_readFile 15 = .ok (.dup, 1) := by decide +kernel
theorem dX4_readFile_16 : decode cX4_readFile 16 = .ok (.getfield 77, 3) := by decide +kernel
theorem dX4_readFile_19 : decode cX4_readFile 19 = .ok (.aload_n 0, 1) := by decide +kernel
theorem dX4_readFile_20 : decode cX4_readFile 20 = .ok (.aload_n 2, 1) := by decide +kernel
theorem dX4_readFile_21 : decode cX4_readFile 21 = .ok (.invokevirtual 223, 3) := by decide +kernel
theorem dX4_readFile_24 : decode cX4_readFile 24 = .ok (.iadd, 1) := by decide +kernel
theorem dX4_readFile_25 : decode cX4_readFile 25 = .ok (.putfield 77, 3) := by decide +kernel
theorem dX4_readFile_28 : decode cX4_readFile 28 = .ok (.return_, 1) := by decide +kernel
set_option maxRecDepth 20000 in
theorem ggX4_writeVersion_X4_bringToChosen : GoodIn wsX4_writeVersion wsX4_bringToChosen := goodIn_r _ [7, 8, 9, 10, 6, 11, 12, 13, 14, 15, 16, 17, 18, 19, 20, 21, 22, 23, 24, 25, 26, 27, 28, 1, 29, 30, 31, 32, 33, 34, 35, 36, 2, 37, 38, 39, 40, 41, 42, 43, 44, 45, 46, 47, 48, 49, 50, 101, 102, 103, 104, 105, 106, 107, 108, 109, 110, 111, 112, 113, 114, 115, 116, 117, 118, 119, 120, 121, 122, 123, 124, 125, 126, 127, 128, 129, 130] (by decide +kernel) (by decide +kernel)
set_option maxRecDepth 20000 in
theorem gX4_writeVersion_X4_bringToChosen : GoodIn wsX4_writeVersion (wsV RX4 220 RX4 yX4_bringToChosen wsX4_bringToChosen) := goodIn_app (goodIn_of _ (by decide +kernel)) ggX4_writeVersion_X4_bringToChosen
set_option maxRecDepth 20000 in
theorem ggX4_writeVersion_X4_addVersion : GoodIn wsX4_writeVersion wsX4_addVersion := goodIn_r _ [54, 55, 41, 56, 57, 58, 59, 60, 61, 62, 63, 64, 65, 66, 67, 68, 69, 6, 70, 71, 72, 73, 74, 75, 76, 77, 78, 79, 80, 81, 82, 83, 84, 85, 86, 87, 88, 89, 90, 91, 92, 93, 94, 95, 96, 97, 98, 99, 100, 101, 102, 103, 104, 105, 106, 107, 108, 109, 110, 111, 112, 113, 114, 115, 116, 117, 118, 131, 132, 133, 134, 135, 136, 137, 122, 123, 124, 125, 126, 127, 128, 129, 130] (by decide +kernel) (by decide +kernel)
set_option maxRecDepth 20000 in
theorem gX4_writeVersion_X4_addVersion : GoodIn wsX4_writeVersion (wsV RX4 227 RX4 yX4_addVersion wsX4_addVersion) := goodIn_app (goodIn_of _ (by decide +kernel)) ggX4_writeVersion_X4_addVersion
theorem dX4_writeVersion_0 : decode cX4_writeVersion 0 = .ok (.aload_n 0, 1) := by decide +kernel
theorem dX4_writeVersion_1 : decode cX4_writeVersion 1 = .ok (.iload_n 3, 1) := by decide +kernel
theorem dX4_writeVersion_2 : decode cX4_writeVersion 2 = .ok (.invokevirtual 220, 3) := by decide +kernel
theorem dX4_writeVersion_5 : decode cX4_writeVersion 5 = .ok (.aload_n 0, 1) := by decide +kernel
theorem dX4_writeVersion_6 : decode cX4_writeVersion 6 = .ok (.dup, 1) := by decide +kernel
theorem dX4_writeVersion_7 : decode cX4_writeVersion 7 = .ok (.getfield 77, 3) := by decide +kernel
theorem dX4_writeVersion_10 : decode cX4_writeVersion 10 = .ok (.aload_n 0, 1) := by decide +kernel
theorem dX4_writeVersion_11 : decode cX4_writeVersion 11 = .ok (.getfield 9, 3) := by decide +kernel
theorem dX4_writeVersion_14 : decode cX4_writeVersion 14 = .ok (.iconst 4, 1) := by decide +kernel
theorem dX4_writeVersion_15 : decode cX4_writeVersion 15 = .ok (.iaload, 1) := by decide +kernel
theorem dX4_writeVersion_16 : decode cX4_writeVersion 16 = .ok (.iload_n 2, 1) := by decide +kernel
theorem dX4_writeVersion_17 : decode cX4_writeVersion 17 = .ok (.imul, 1) := by decide +kernel
theorem dX4_writeVersion_18 : decode cX4_writeVersion 18 = .ok (.iadd, 1) := by decide +kernel
theorem dX4_writeVersion_19 : decode cX4_writeVersion 19 = .ok (.putfield 77, 3) := by decide +kernel
theorem dX4_writeVersion_22 : decode cX4_writeVersion 22 = .ok (.aload_n 0, 1) := by decide +kernel
theorem dX4_writeVersion_23 : decode cX4_writeVersion 23 = .ok (.iload_n 1, 1) := by decide +kernel
theorem dX4_writeVersion_24 : decode cX4_writeVersion 24 = .ok (.iload_n 2, 1) := by decide +kernel
theorem dX4_writeVersion_25 : decode cX4_writeVersion 25 = .ok (.iload_n 3, 1) := by decide +kernel
theorem dX4_writeVersion_26 : decode cX4_writeVersion 26 = .ok (.invokevirtual 227, 3) := by decide +kernel
theorem dX4_writeVersion_29 : decode cX4_writeVersion 29 = .ok (.return_, 1) := by decide +kernel
set_option maxRecDepth 20000 in
theorem ggX4_closeInDrive_X4_bringToChosen : GoodIn wsX4_closeInDrive wsX4_bringToChosen := goodIn_r _ [8, 9, 10, 11, 7, 12, 13, 14, 15, 16, 17, 18, 19, 20, 21, 22, 23, 24, 25, 26, 27, 28, 29, 2, 30, 31, 32, 33, 34, 35, 36, 37, 3, 38, 39, 40, 41, 1, 42, 43, 44, 45, 46, 47, 48, 49, 50, 72, 73, 74, 75, 76, 77, 78, 79, 80, 81, 82, 83, 84, 85, 86, 87, 88, 89, 90, 91, 92, 93, 94, 95, 96, 97, 98, 99, 100, 101] (by decide +kernel) (by decide +kernel)
set_option maxRecDepth 20000 in
theorem gX4_closeInDrive_X4_bringToChosen : GoodIn wsX4_closeInDrive (wsV RX4 220 RX4 yX4_bringToChosen wsX4_bringToChosen) := goodIn_app (goodIn_of _ (by decide +kernel)) ggX4_closeInDrive_X4_bringToChosen
set_option maxRecDepth 20000 in
theorem ggX4_closeInDrive_X3_addLeadOut : GoodIn wsX4_closeInDrive wsX3_addLeadOut := goodIn_r _ [55, 56, 57, 45, 58, 59, 60, 61, 62, 54, 63, 64, 65, 66, 67, 68, 69, 70, 71, 93, 94, 95, 96, 97, 98, 99, 100, 101] (by decide +kernel) (by decide +kernel)
set_option maxRecDepth 20000 in
theorem gX4_closeInDrive_X3_addLeadOut : GoodIn wsX4_closeInDrive (wsV RX4 230 RX3 yX3_addLeadOut wsX3_addLeadOut) := goodIn_app (goodIn_of _ (by decide +kernel)) ggX4_closeInDrive_X3_addLeadOut
theorem dX4_closeInDrive_0 : decode cX4_closeInDrive 0 = .ok (.aload_n 0, 1) := by decide +kernel
theorem dX4_closeInDrive_1 : decode cX4_closeInDrive 1 = .ok (.iload_n 1, 1) := by decide +kernel
theorem dX4_closeInDrive_2 : decode cX4_closeInDrive 2 = .ok (.invokevirtual 220, 3) := by decide +kernel
theorem dX4_closeInDrive_5 : decode cX4_closeInDrive 5 = .ok (.aload_n 0, 1) := by decide +kernel
theorem dX4_closeInDrive_6 : decode cX4_closeInDrive 6 = .ok (.getfield 23, 3) := by decide +kernel
theorem dX4_closeInDrive_9 : decode cX4_closeInDrive 9 = .ok (.iload_n 1, 1) := by decide +kernel
theorem dX4_closeInDrive_10 : decode cX4_closeInDrive 10 = .ok (.aaload, 1) := by decide +kernel
theorem dX4_closeInDrive_11 : decode cX4_closeInDrive 11 = .ok (.invokevirtual 230, 3) := by decide +kernel
theorem dX4_closeInDrive_14 : decode cX4_closeInDrive 14 = .ok (.istore_n 2, 1) := by decide +kernel
theorem dX4_closeInDrive_15 : decode cX4_closeInDrive 15 = .ok (.aload_n 0, 1) := by decide +kernel
theorem dX4_closeInDrive_16 : decode cX4_closeInDrive 16 = .ok (.dup, 1) := by decide +kernel
theorem dX4_closeInDrive_17 : decode cX4_closeInDrive 17 = .ok (.getfield 77, 3) := by decide +kernel
theorem dX4_closeInDrive_20 : decode cX4_closeInDrive 20 = .ok (.aload_n 0, 1) := by decide +kernel
theorem dX4_closeInDrive_21 : decode cX4_closeInDrive 21 = .ok (.getfield 9, 3) := by decide +kernel
theorem dX4_closeInDrive_24 : decode cX4_closeInDrive 24 = .ok (.iconst 4, 1) := by decide +kernel
theorem dX4_closeInDrive_25 : decode cX4_closeInDrive 25 = .ok (.iaload, 1) := by decide +kernel
theorem dX4_closeInDrive_26 : decode cX4_closeInDrive 26 = .ok (.iload_n 2, 1) := by decide +kernel
theorem dX4_closeInDrive_27 : decode cX4_closeInDrive 27 = .ok (.imul, 1) := by decide +kernel
theorem dX4_closeInDrive_28 : decode cX4_closeInDrive 28 = .ok (.iadd, 1) := by decide +kernel
theorem dX4_closeInDrive_29 : decode cX4_closeInDrive 29 = .ok (.putfield 77, 3) := by decide +kernel
theorem dX4_closeInDrive_32 : decode cX4_closeInDrive 32 = .ok (.iload_n 2, 1) := by decide +kernel
theorem dX4_closeInDrive_33 : decode cX4_closeInDrive 33 = .ok (.ireturn, 1) := by decide +kernel
theorem dX4_removeRequest_0 : decode cX4_removeRequest 0 = .ok (.aload_n 0, 1) := by decide +kernel
theorem dX4_removeRequest_1 : decode cX4_removeRequest 1 = .ok (.getfield 36, 3) := by decide +kernel
theorem dX4_removeRequest_4 : decode cX4_removeRequest 4 = .ok (.iload_n 1, 1) := by decide +kernel
theorem dX4_removeRequest_5 : decode cX4_removeRequest 5 = .ok (.iaload, 1) := by decide +kernel
theorem dX4_removeRequest_6 : decode cX4_removeRequest 6 = .ok (.istore_n 2, 1) := by decide +kernel
theorem dX4_removeRequest_7 : decode cX4_removeRequest 7 = .ok (.aload_n 0, 1) := by decide +kernel
theorem dX4_removeRequest_8 : decode cX4_removeRequest 8 = .ok (.dup, 1) := by decide +kernel
theorem dX4_removeRequest_9 : decode cX4_removeRequest 9 = .ok (.getfield 71, 3) := by decide +kernel
theorem dX4_removeRequest_12 : decode cX4_removeRequest 12 = .ok (.iconst 1, 1) := by decide +kernel
theorem dX4_removeRequest_13 : decode cX4_removeRequest 13 = .ok (.isub, 1) := by decide +kernel
theorem dX4_removeRequest_14 : decode cX4_removeRequest 14 = .ok (.putfield 71, 3) := by decide +kernel
theorem dX4_removeRequest_17 : decode cX4_removeRequest 17 = .ok (.iload_n 1, 1) := by decide +kernel
theorem dX4_removeRequest_18 : decode cX4_removeRequest 18 = .ok (.istore_n 3, 1) := by decide +kernel
theorem dX4_removeRequest_19 : decode cX4_removeRequest 19 = .ok (.iload_n 3, 1) := by decide +kernel
theorem dX4_removeRequest_20 : decode cX4_removeRequest 20 = .ok (.aload_n 0, 1) := by decide +kernel
theorem dX4_removeRequest_21 : decode cX4_removeRequest 21 = .ok (.getfield 71, 3) := by decide +kernel
theorem dX4_removeRequest_24 : decode cX4_removeRequest 24 = .ok (.if_icmp .ge 23, 3) := by decide +kernel
theorem dX4_removeRequest_27 : decode cX4_removeRequest 27 = .ok (.aload_n 0, 1) := by decide +kernel
theorem dX4_removeRequest_28 : decode cX4_removeRequest 28 = .ok (.getfield 36, 3) := by decide +kernel
theorem dX4_removeRequest_31 : decode cX4_removeRequest 31 = .ok (.iload_n 3, 1) := by decide +kernel
theorem dX4_removeRequest_32 : decode cX4_removeRequest 32 = .ok (.aload_n 0, 1) := by decide +kernel
theorem dX4_removeRequest_33 : decode cX4_removeRequest 33 = .ok (.getfield 36, 3) := by decide +kernel
theorem dX4_removeRequest_36 : decode cX4_removeRequest 36 = .ok (.iload_n 3, 1) := by decide +kernel
theorem dX4_removeRequest_37 : decode cX4_removeRequest 37 = .ok (.iconst 1, 1) := by decide +kernel
theorem dX4_removeRequest_38 : decode cX4_removeRequest 38 = .ok (.iadd, 1) := by decide +kernel
theorem dX4_removeRequest_39 : decode cX4_removeRequest 39 = .ok (.iaload, 1) := by decide +kernel
theorem dX4_removeRequest_40 : decode cX4_removeRequest 40 = .ok (.iastore, 1) := by decide +kernel
theorem dX4_removeRequest_41 : decode cX4_removeRequest 41 = .ok (.iinc 3 1, 3) := by decide +kernel
theorem dX4_removeRequest_44 : decode cX4_removeRequest 44 = .ok (.goto (-25), 3) := by decide +kernel
theorem dX4_removeRequest_47 : decode cX4_removeRequest 47 = .ok (.iload_n 2, 1) := by decide +kernel
theorem dX4_removeRequest_48 : decode cX4_removeRequest 48 = .ok (.ireturn, 1) := by decide +kernel
set_option maxRecDepth 20000 in
theorem ggX4_awayPlatters_X4_currentVersion : GoodIn wsX4_awayPlatters wsX4_currentVersion := goodIn_r _ [8, 9, 10, 18, 19, 20, 21, 22, 23, 24, 25, 26, 27, 28, 29, 30, 31, 32, 33, 34, 35] (by decide +kernel) (by decide +kernel)
set_option maxRecDepth 20000 in
theorem gX4_awayPlatters_X4_currentVersion : GoodIn wsX4_awayPlatters (wsV RX4 173 RX4 yX4_currentVersion wsX4_currentVersion) := goodIn_app (goodIn_of _ (by decide +kernel)) ggX4_awayPlatters_X4_currentVersion
set_option maxRecDepth 20000 in
theorem ggX4_awayPlatters_X4_driveHolding : GoodIn wsX4_awayPlatters wsX4_driveHolding := goodIn_r _ [14, 15, 16, 17, 18, 19, 20, 21, 22, 23, 24, 25, 26, 27, 28, 29, 30, 31, 32, 33, 34, 35, 43, 44, 45] (by decide +kernel) (by decide +kernel)
set_option maxRecDepth 20000 in
theorem gX4_awayPlatters_X4_driveHolding : GoodIn wsX4_awayPlatters (wsV RX4 191 RX4 yX4_driveHolding wsX4_driveHolding) := goodIn_app (goodIn_of _ (by decide +kernel)) ggX4_awayPlatters_X4_driveHolding
theorem dX4_awayPlatters_0 : decode cX4_awayPlatters 0 = .ok (.iconst 0, 1) := by decide +kernel
theorem dX4_awayPlatters_1 : decode cX4_awayPlatters 1 = .ok (.istore_n 2, 1) := by decide +kernel
theorem dX4_awayPlatters_2 : decode cX4_awayPlatters 2 = .ok (.iconst 0, 1) := by decide +kernel
theorem dX4_awayPlatters_3 : decode cX4_awayPlatters 3 = .ok (.istore_n 3, 1) := by decide +kernel
theorem dX4_awayPlatters_4 : decode cX4_awayPlatters 4 = .ok (.iload_n 3, 1) := by decide +kernel
theorem dX4_awayPlatters_5 : decode cX4_awayPlatters 5 = .ok (.aload_n 0, 1) := by decide +kernel
theorem dX4_awayPlatters_6 : decode cX4_awayPlatters 6 = .ok (.getfield 71, 3) := by decide +kernel
theorem dX4_awayPlatters_9 : decode cX4_awayPlatters 9 = .ok (.if_icmp .ge 46, 3) := by decide +kernel
theorem dX4_awayPlatters_12 : decode cX4_awayPlatters 12 = .ok (.aload_n 0, 1) := by decide +kernel
theorem dX4_awayPlatters_13 : decode cX4_awayPlatters 13 = .ok (.aload_n 0, 1) := by decide +kernel
theorem dX4_awayPlatters_14 : decode cX4_awayPlatters 14 = .ok (.getfield 36, 3) := by decide +kernel
theorem dX4_awayPlatters_17 : decode cX4_awayPlatters 17 = .ok (.iload_n 3, 1) := by decide +kernel
theorem dX4_awayPlatters_18 : decode cX4_awayPlatters 18 = .ok (.iaload, 1) := by decide +kernel
theorem dX4_awayPlatters_19 : decode cX4_awayPlatters 19 = .ok (.invokevirtual 173, 3) := by decide +kernel
theorem dX4_awayPlatters_22 : decode cX4_awayPlatters 22 = .ok (.getfield 134, 3) := by decide +kernel
theorem dX4_awayPlatters_25 : decode cX4_awayPlatters 25 = .ok (.istore 4, 2) := by decide +kernel
theorem dX4_awayPlatters_27 : decode cX4_awayPlatters 27 = .ok (.iload_n 3, 1) := by decide +kernel
theorem dX4_awayPlatters_28 : decode cX4_awayPlatters 28 = .ok (.iload_n 1, 1) := by decide +kernel
theorem dX4_awayPlatters_29 : decode cX4_awayPlatters 29 = .ok (.if_icmp .eq 20, 3) := by decide +kernel
theorem dX4_awayPlatters_32 : decode cX4_awayPlatters 32 = .ok (.aload_n 0, 1) := by decide +kernel
theorem dX4_awayPlatters_33 : decode cX4_awayPlatters 33 = .ok (.iload 4, 2) := by decide +kernel
theorem dX4_awayPlatters_35 : decode cX4_awayPlatters 35 = .ok (.invokevirtual 191, 3) := by decide +kernel
theorem dX4_awayPlatters_38 : decode cX4_awayPlatters 38 = .ok (.iconst (-1), 1) := by decide +kernel
theorem dX4_awayPlatters_39 : decode cX4_awayPlatters 39 = .ok (.if_icmp .ne 10, 3) := by decide +kernel
theorem dX4_awayPlatters_42 : decode cX4_awayPlatters 42 = .ok (.iload_n 2, 1) := by decide +kernel
theorem dX4_awayPlatters_43 : decode cX4_awayPlatters 43 = .ok (.iconst 1, 1) := by decide +kernel
theorem dX4_awayPlatters_44 : decode cX4_awayPlatters 44 = .ok (.iload 4, 2) := by decide +kernel
theorem dX4_awayPlatters_46 : decode cX4_awayPlatters 46 = .ok (.ishl, 1) := by decide +kernel
theorem dX4_awayPlatters_47 : decode cX4_awayPlatters 47 = .ok (.ior, 1) := by decide +kernel
theorem dX4_awayPlatters_48 : decode cX4_awayPlatters 48 = .ok (.istore_n 2, 1) := by decide +kernel
theorem dX4_awayPlatters_49 : decode cX4_awayPlatters 49 = .ok (.iinc 3 1, 3) := by decide +kernel
theorem dX4_awayPlatters_52 : decode cX4_awayPlatters 52 = .ok (.goto (-48), 3) := by decide +kernel
theorem dX4_awayPlatters_55 : decode cX4_awayPlatters 55 = .ok (.iload_n 2, 1) := by decide +kernel
theorem dX4_awayPlatters_56 : decode cX4_awayPlatters 56 = .ok (.ireturn, 1) := by decide +kernel
set_option maxRecDepth 20000 in
theorem ggX4_requestsReadTime_X4_currentVersion : GoodIn wsX4_requestsReadTime wsX4_currentVersion := goodIn_r _ [7, 8, 9, 17, 18, 19, 20, 21, 22, 23, 24, 25, 26, 27, 28, 29, 30, 31, 32, 33, 34] (by decide +kernel) (by decide +kernel)
set_option maxRecDepth 20000 in
theorem gX4_requestsReadTime_X4_currentVersion : GoodIn wsX4_requestsReadTime (wsV RX4 173 RX4 yX4_currentVersion wsX4_currentVersion) := goodIn_app (goodIn_of _ (by decide +kernel)) ggX4_requestsReadTime_X4_currentVersion
set_option maxRecDepth 20000 in
theorem ggX4_requestsReadTime_X4_sectorsReadTime : GoodIn wsX4_requestsReadTime wsX4_sectorsReadTime := goodIn_r _ [13, 14, 15, 16, 17, 18, 19, 20, 21, 22, 23, 24, 25, 26, 27, 28, 29, 30, 31, 32, 33, 34, 35, 36, 37, 38, 39, 40, 41] (by decide +kernel) (by decide +kernel)
set_option maxRecDepth 20000 in
theorem gX4_requestsReadTime_X4_sectorsReadTime : GoodIn wsX4_requestsReadTime (wsV RX4 223 RX4 yX4_sectorsReadTime wsX4_sectorsReadTime) := goodIn_app (goodIn_of _ (by decide +kernel)) ggX4_requestsReadTime_X4_sectorsReadTime
theorem dX4_requestsReadTime_0 : decode cX4_requestsReadTime 0 = .ok (.iconst 0, 1) := by decide +kernel
theorem dX4_requestsReadTime_1 : decode cX4_requestsReadTime 1 = .ok (.istore_n 2, 1) := by decide +kernel
theorem dX4_requestsReadTime_2 : decode cX4_requestsReadTime 2 = .ok (.iconst 0, 1) := by decide +kernel
theorem dX4_requestsReadTime_3 : decode cX4_requestsReadTime 3 = .ok (.istore_n 3, 1) := by decide +kernel
theorem dX4_requestsReadTime_4 : decode cX4_requestsReadTime 4 = .ok (.iload_n 3, 1) := by decide +kernel
theorem dX4_requestsReadTime_5 : decode cX4_requestsReadTime 5 = .ok (.aload_n 0, 1) := by decide +kernel
theorem dX4_requestsReadTime_6 : decode cX4_requestsReadTime 6 = .ok (.getfield 71, 3) := by decide +kernel
theorem dX4_requestsReadTime_9 : decode cX4_requestsReadTime 9 = .ok (.if_icmp .ge 31, 3) := by decide +kernel
theorem dX4_requestsReadTime_12 : decode cX4_requestsReadTime 12 = .ok (.iload_n 3, 1) := by decide +kernel
theorem dX4_requestsReadTime_13 : decode cX4_requestsReadTime 13 = .ok (.iload_n 1, 1) := by decide +kernel
theorem dX4_requestsReadTime_14 : decode cX4_requestsReadTime 14 = .ok (.if_icmp .eq 20, 3) := by decide +kernel
theorem dX4_requestsReadTime_17 : decode cX4_requestsReadTime 17 = .ok (.iload_n 2, 1) := by decide +kernel
theorem dX4_requestsReadTime_18 : decode cX4_requestsReadTime 18 = .ok (.aload_n 0, 1) := by decide +kernel
theorem dX4_requestsReadTime_19 : decode cX4_requestsReadTime 19 = .ok (.aload_n 0, 1) := by decide +kernel
theorem dX4_requestsReadTime_20 : decode cX4_requestsReadTime 20 = .ok (.aload_n 0, 1) := by decide +kernel
theorem dX4_requestsReadTime_21 : decode cX4_requestsReadTime 21 = .ok (.getfield 36, 3) := by decide +kernel
theorem dX4_requestsReadTime_24 : decode cX4_requestsReadTime 24 = .ok (.iload_n 3, 1) := by decide +kernel
theorem dX4_requestsReadTime_25 : decode cX4_requestsReadTime 25 = .ok (.iaload, 1) := by decide +kernel
theorem dX4_requestsReadTime_26 : decode cX4_requestsReadTime 26 = .ok (.invokevirtual 173, 3) := by decide +kernel
theorem dX4_requestsReadTime_29 : decode cX4_requestsReadTime 29 = .ok (.invokevirtual 223, 3) := by decide +kernel
theorem dX4_requestsReadTime_32 : decode cX4_requestsReadTime 32 = .ok (.iadd, 1) := by decide +kernel
theorem dX4_requestsReadTime_33 : decode cX4_requestsReadTime 33 = .ok (.istore_n 2, 1) := by decide +kernel
theorem dX4_requestsReadTime_34 : decode cX4_requestsReadTime 34 = .ok (.iinc 3 1, 3) := by decide +kernel
theorem dX4_requestsReadTime_37 : decode cX4_requestsReadTime 37 = .ok (.goto (-33), 3) := by decide +kernel
theorem dX4_requestsReadTime_40 : decode cX4_requestsReadTime 40 = .ok (.iload_n 2, 1) := by decide +kernel
theorem dX4_requestsReadTime_41 : decode cX4_requestsReadTime 41 = .ok (.ireturn, 1) := by decide +kernel
set_option maxRecDepth 20000 in
theorem ggX4_readInDrives_X4_readRequestsIn : GoodIn wsX4_readInDrives wsX4_readRequestsIn := goodIn_r _ [6, 7, 8, 9, 10, 11, 12, 13, 14, 15, 5, 16, 17, 18, 19, 20, 21, 22, 23, 24, 25, 26, 27, 28, 29, 30, 31, 32, 33, 34, 35, 36, 37, 38, 39, 40, 41, 42, 43, 44, 45, 46, 47, 48, 49, 50, 51, 52, 53, 54, 55, 56, 57, 58, 59] (by decide +kernel) (by decide +kernel)
set_option maxRecDepth 20000 in
theorem gX4_readInDrives_X4_readRequestsIn : GoodIn wsX4_readInDrives (wsV RX4 234 RX4 yX4_readRequestsIn wsX4_readRequestsIn) := goodIn_app (goodIn_of _ (by decide +kernel)) ggX4_readInDrives_X4_readRequestsIn
theorem dX4_readInDrives_0 : decode cX4_readInDrives 0 = .ok (.iconst 0, 1) := by decide +kernel
theorem dX4_readInDrives_1 : decode cX4_readInDrives 1 = .ok (.istore_n 1, 1) := by decide +kernel
theorem dX4_readInDrives_2 : decode cX4_readInDrives 2 = .ok (.iload_n 1, 1) := by decide +kernel
theorem dX4_readInDrives_3 : decode cX4_readInDrives 3 = .ok (.aload_n 0, 1) := by decide +kernel
theorem dX4_readInDrives_4 : decode cX4_readInDrives 4 = .ok (.getfield 53, 3) := by decide +kernel
theorem dX4_readInDrives_7 : decode cX4_readInDrives 7 = .ok (.if_icmp .ge 14, 3) := by decide +kernel
theorem dX4_readInDrives_10 : decode cX4_readInDrives 10 = .ok (.aload_n 0, 1) := by decide +kernel
theorem dX4_readInDrives_11 : decode cX4_readInDrives 11 = .ok (.iload_n 1, 1) := by decide +kernel
theorem dX4_readInDrives_12 : decode cX4_readInDrives 12 = .ok (.invokevirtual 234, 3) := by decide +kernel
theorem dX4_readInDrives_15 : decode cX4_readInDrives 15 = .ok (.iinc 1 1, 3) := by decide +kernel
theorem dX4_readInDrives_18 : decode cX4_readInDrives 18 = .ok (.goto (-16), 3) := by decide +kernel
theorem dX4_readInDrives_21 : decode cX4_readInDrives 21 = .ok (.return_, 1) := by decide +kernel
set_option maxRecDepth 20000 in
theorem ggX4_readRequestsIn_X4_currentVersion : GoodIn wsX4_readRequestsIn wsX4_currentVersion := goodIn_r _ [11, 12, 13, 27, 28, 29, 30, 31, 32, 33, 34, 35, 36, 37, 38, 39, 40, 41, 42, 43, 44] (by decide +kernel) (by decide +kernel)
set_option maxRecDepth 20000 in
theorem gX4_readRequestsIn_X4_currentVersion : GoodIn wsX4_readRequestsIn (wsV RX4 173 RX4 yX4_currentVersion wsX4_currentVersion) := goodIn_app (goodIn_of _ (by decide +kernel)) ggX4_readRequestsIn_X4_currentVersion
set_option maxRecDepth 20000 in
theorem ggX4_readRequestsIn_X4_sectorsReadTime : GoodIn wsX4_readRequestsIn wsX4_sectorsReadTime := goodIn_r _ [17, 18, 19, 20, 27, 28, 29, 30, 31, 32, 33, 34, 35, 36, 37, 38, 39, 40, 41, 42, 43, 44, 45, 46, 47, 48, 49, 50, 51] (by decide +kernel) (by decide +kernel)
set_option maxRecDepth 20000 in
theorem gX4_readRequestsIn_X4_sectorsReadTime : GoodIn wsX4_readRequestsIn (wsV RX4 223 RX4 yX4_sectorsReadTime wsX4_sectorsReadTime) := goodIn_app (goodIn_of _ (by decide +kernel)) ggX4_readRequestsIn_X4_sectorsReadTime
set_option maxRecDepth 20000 in
theorem ggX4_readRequestsIn_X4_useDrive : GoodIn wsX4_readRequestsIn wsX4_useDrive := goodIn_r _ [24, 25, 4, 26, 27, 28, 29, 30, 31, 32, 33, 34, 35, 36, 37, 38, 39, 40, 41, 42, 43, 44, 52, 53, 54] (by decide +kernel) (by decide +kernel)
set_option maxRecDepth 20000 in
theorem gX4_readRequestsIn_X4_useDrive : GoodIn wsX4_readRequestsIn (wsV RX4 214 RX4 yX4_useDrive wsX4_useDrive) := goodIn_app (goodIn_of _ (by decide +kernel)) ggX4_readRequestsIn_X4_useDrive
theorem dX4_readRequestsIn_0 : decode cX4_readRequestsIn 0 = .ok (.iconst 0, 1) := by decide +kernel
theorem dX4_readRequestsIn_1 : decode cX4_readRequestsIn 1 = .ok (.istore_n 2, 1) := by decide +kernel
theorem dX4_readRequestsIn_2 : decode cX4_readRequestsIn 2 = .ok (.iload_n 2, 1) := by decide +kernel
theorem dX4_readRequestsIn_3 : decode cX4_readRequestsIn 3 = .ok (.aload_n 0, 1) := by decide +kernel
theorem dX4_readRequestsIn_4 : decode cX4_readRequestsIn 4 = .ok (.getfield 71, 3) := by decide +kernel
theorem dX4_readRequestsIn_7 : decode cX4_readRequestsIn 7 = .ok (.if_icmp .ge 55, 3) := by decide +kernel
theorem dX4_readRequestsIn_10 : decode cX4_readRequestsIn 10 = .ok (.aload_n 0, 1) := by decide +kernel
theorem dX4_readRequestsIn_11 : decode cX4_readRequestsIn 11 = .ok (.aload_n 0, 1) := by decide +kernel
theorem dX4_readRequestsIn_12 : decode cX4_readRequestsIn 12 = .ok (.getfield 36, 3) := by decide +kernel
theorem dX4_readRequestsIn_15 : decode cX4_readRequestsIn 15 = .ok (.iload_n 2, 1) := by decide +kernel
theorem dX4_readRequestsIn_16 : decode cX4_readRequestsIn 16 = .ok (.iaload, 1) := by decide +kernel
theorem dX4_readRequestsIn_17 : decode cX4_readRequestsIn 17 = .ok (.invokevirtual 173, 3) := by decide +kernel
theorem dX4_readRequestsIn_20 : decode cX4_readRequestsIn 20 = .ok (.astore_n 3, 1) := by decide +kernel
theorem dX4_readRequestsIn_21 : decode cX4_readRequestsIn 21 = .ok (.aload_n 3, 1) := by decide +kernel
theorem dX4_readRequestsIn_22 : decode cX4_readRequestsIn 22 = .ok (.getfield 134, 3) := by decide +kernel
theorem dX4_readRequestsIn_25 : decode cX4_readRequestsIn 25 = .ok (.aload_n 0, 1) := by decide +kernel
theorem dX4_readRequestsIn_26 : decode cX4_readRequestsIn 26 = .ok (.getfield 17, 3) := by decide +kernel
theorem dX4_readRequestsIn_29 : decode cX4_readRequestsIn 29 = .ok (.iload_n 1, 1) := by decide +kernel
theorem dX4_readRequestsIn_30 : decode cX4_readRequestsIn 30 = .ok (.aaload, 1) := by decide +kernel
theorem dX4_readRequestsIn_31 : decode cX4_readRequestsIn 31 = .ok (.getfield 115, 3) := by decide +kernel
theorem dX4_readRequestsIn_34 : decode cX4_readRequestsIn 34 = .ok (.if_icmp .ne 22, 3) := by decide +kernel
theorem dX4_readRequestsIn_37 : decode cX4_readRequestsIn 37 = .ok (.aload_n 0, 1) := by decide +kernel
theorem dX4_readRequestsIn_38 : decode cX4_readRequestsIn 38 = .ok (.dup, 1) := by decide +kernel
theorem dX4_readRequestsIn_39 : decode cX4_readRequestsIn 39 = .ok (.getfield 77, 3) := by decide +kernel
theorem dX4_readRequestsIn_42 : decode cX4_readRequestsIn 42 = .ok (.aload_n 0, 1) := by decide +kernel
theorem dX4_readRequestsIn_43 : decode cX4_readRequestsIn 43 = .ok (.aload_n 3, 1) := by decide +kernel
theorem dX4_readRequestsIn_44 : decode cX4_readRequestsIn 44 = .ok (.invokevirtual 223, 3) := by decide +kernel
theorem dX4_readRequestsIn_47 : decode cX4_readRequestsIn 47 = .ok (.iadd, 1) := by decide +kernel
theorem dX4_readRequestsIn_48 : decode cX4_readRequestsIn 48 = .ok (.putfield 77, 3) := by decide +kernel
theorem dX4_readRequestsIn_51 : decode cX4_readRequestsIn 51 = .ok (.aload_n 0, 1) := by decide +kernel
theorem dX4_readRequestsIn_52 : decode cX4_readRequestsIn 52 = .ok (.iload_n 1, 1) := by decide +kernel
theorem dX4_readRequestsIn_53 : decode cX4_readRequestsIn 53 = .ok (.invokevirtual 214, 3) := by decide +kernel
theorem dX4_readRequestsIn_56 : decode cX4_readRequestsIn 56 = .ok (.iinc 2 1, 3) := by decide +kernel
theorem dX4_readRequestsIn_59 : decode cX4_readRequestsIn 59 = .ok (.goto (-57), 3) := by decide +kernel
theorem dX4_readRequestsIn_62 : decode cX4_readRequestsIn 62 = .ok (.return_, 1) := by decide +kernel
