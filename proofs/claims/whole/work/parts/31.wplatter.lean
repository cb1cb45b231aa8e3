theorem dX3_copyFrom_0 : decode cX3_copyFrom 0 = .ok (.aload_n 0, 1) := by decide +kernel
theorem dX3_copyFrom_1 : decode cX3_copyFrom 1 = .ok (.aload_n 1, 1) := by decide +kernel
theorem dX3_copyFrom_2 : decode cX3_copyFrom 2 = .ok (.getfield 21, 3) := by decide +kernel
theorem dX3_copyFrom_5 : decode cX3_copyFrom 5 = .ok (.putfield 21, 3) := by decide +kernel
theorem dX3_copyFrom_8 : decode cX3_copyFrom 8 = .ok (.aload_n 0, 1) := by decide +kernel
theorem dX3_copyFrom_9 : decode cX3_copyFrom 9 = .ok (.aload_n 1, 1) := by decide +kernel
theorem dX3_copyFrom_10 : decode cX3_copyFrom 10 = .ok (.getfield 25, 3) := by decide +kernel
theorem dX3_copyFrom_13 : decode cX3_copyFrom 13 = .ok (.putfield 25, 3) := by decide +kernel
theorem dX3_copyFrom_16 : decode cX3_copyFrom 16 = .ok (.aload_n 0, 1) := by decide +kernel
theorem dX3_copyFrom_17 : decode cX3_copyFrom 17 = .ok (.aload_n 1, 1) := by decide +kernel
theorem dX3_copyFrom_18 : decode cX3_copyFrom 18 = .ok (.getfield 28, 3) := by decide +kernel
theorem dX3_copyFrom_21 : decode cX3_copyFrom 21 = .ok (.putfield 28, 3) := by decide +kernel
theorem dX3_copyFrom_24 : decode cX3_copyFrom 24 = .ok (.aload_n 0, 1) := by decide +kernel
theorem dX3_copyFrom_25 : decode cX3_copyFrom 25 = .ok (.aload_n 1, 1) := by decide +kernel
theorem dX3_copyFrom_26 : decode cX3_copyFrom 26 = .ok (.getfield 31, 3) := by decide +kernel
theorem dX3_copyFrom_29 : decode cX3_copyFrom 29 = .ok (.putfield 31, 3) := by decide +kernel
theorem dX3_copyFrom_32 : decode cX3_copyFrom 32 = .ok (.aload_n 0, 1) := by decide +kernel
theorem dX3_copyFrom_33 : decode cX3_copyFrom 33 = .ok (.aload_n 1, 1) := by decide +kernel
theorem dX3_copyFrom_34 : decode cX3_copyFrom 34 = .ok (.getfield 34, 3) := by decide +kernel
theorem dX3_copyFrom_37 : decode cX3_copyFrom 37 = .ok (.putfield 34, 3) := by decide +kernel
theorem dX3_copyFrom_40 : decode cX3_copyFrom 40 = .ok (.aload_n 0, 1) := by decide +kernel
theorem dX3_copyFrom_41 : decode cX3_copyFrom 41 = .ok (.aload_n 1, 1) := by decide +kernel
theorem dX3_copyFrom_42 : decode cX3_copyFrom 42 = .ok (.getfield 37, 3) := by decide +kernel
theorem dX3_copyFrom_45 : decode cX3_copyFrom 45 = .ok (.putfield 37, 3) := by decide +kernel
theorem dX3_copyFrom_48 : decode cX3_copyFrom 48 = .ok (.aload_n 1, 1) := by decide +kernel
theorem dX3_copyFrom_49 : decode cX3_copyFrom 49 = .ok (.getfield 9, 3) := by decide +kernel
theorem dX3_copyFrom_52 : decode cX3_copyFrom 52 = .ok (.iconst 0, 1) := by decide +kernel
theorem dX3_copyFrom_53 : decode cX3_copyFrom 53 = .ok (.aload_n 0, 1) := by decide +kernel
theorem dX3_copyFrom_54 : decode cX3_copyFrom 54 = .ok (.getfield 9, 3) := by decide +kernel
theorem dX3_copyFrom_57 : decode cX3_copyFrom 57 = .ok (.iconst 0, 1) := by decide +kernel
theorem dX3_copyFrom_58 : decode cX3_copyFrom 58 = .ok (.bipush 8, 2) := by decide +kernel
theorem dX3_copyFrom_60 : decode cX3_copyFrom 60 = .ok (.invokestatic 47, 3) := by decide +kernel
theorem dX3_copyFrom_63 : decode cX3_copyFrom 63 = .ok (.aload_n 1, 1) := by decide +kernel
theorem dX3_copyFrom_64 : decode cX3_copyFrom 64 = .ok (.getfield 15, 3) := by decide +kernel
theorem dX3_copyFrom_67 : decode cX3_copyFrom 67 = .ok (.iconst 0, 1) := by decide +kernel
theorem dX3_copyFrom_68 : decode cX3_copyFrom 68 = .ok (.aload_n 0, 1) := by decide +kernel
theorem dX3_copyFrom_69 : decode cX3_copyFrom 69 = .ok (.getfield 15, 3) := by decide +kernel
theorem dX3_copyFrom_72 : decode cX3_copyFrom 72 = .ok (.iconst 0, 1) := by decide +kernel
theorem dX3_copyFrom_73 : decode cX3_copyFrom 73 = .ok (.bipush 8, 2) := by decide +kernel
theorem dX3_copyFrom_75 : decode cX3_copyFrom 75 = .ok (.invokestatic 47, 3) := by decide +kernel
theorem dX3_copyFrom_78 : decode cX3_copyFrom 78 = .ok (.aload_n 1, 1) := by decide +kernel
theorem dX3_copyFrom_79 : decode cX3_copyFrom 79 = .ok (.getfield 18, 3) := by decide +kernel
theorem dX3_copyFrom_82 : decode cX3_copyFrom 82 = .ok (.iconst 0, 1) := by decide +kernel
theorem dX3_copyFrom_83 : decode cX3_copyFrom 83 = .ok (.aload_n 0, 1) := by decide +kernel
theorem dX3_copyFrom_84 : decode cX3_copyFrom 84 = .ok (.getfield 18, 3) := by decide +kernel
theorem dX3_copyFrom_87 : decode cX3_copyFrom 87 = .ok (.iconst 0, 1) := by decide +kernel
theorem dX3_copyFrom_88 : decode cX3_copyFrom 88 = .ok (.aload_n 0, 1) := by decide +kernel
theorem dX3_copyFrom_89 : decode cX3_copyFrom 89 = .ok (.getfield 18, 3) := by decide +kernel
theorem dX3_copyFrom_92 : decode cX3_copyFrom 92 = .ok (.arraylength, 1) := by decide +kernel
theorem dX3_copyFrom_93 : decode cX3_copyFrom 93 = .ok (.invokestatic 47, 3) := by decide +kernel
theorem dX3_copyFrom_96 : decode cX3_copyFrom 96 = .ok (.return_, 1) := by decide +kernel
set_option maxRecDepth 20000 in
theorem ggX3_begin_J7_fill_53178 : GoodIn wsX3_begin wsJ7_fill_53178 := goodIn_r _ [11] (by decide +kernel) (by decide +kernel)
set_option maxRecDepth 20000 in
theorem gX3_begin_J7_fill_53178 : GoodIn wsX3_begin (va_wsS RX3 41 yJ7_fill_53178 wsJ7_fill_53178) := goodIn_app (goodIn_of _ (by decide +kernel)) ggX3_begin_J7_fill_53178
theorem dX3_begin_0 : decode cX3_begin 0 = .ok (.aload_n 0, 1) := by decide +kernel
theorem dX3_begin_1 : decode cX3_begin 1 = .ok (.iload_n 1, 1) := by decide +kernel
theorem dX3_begin_2 : decode cX3_begin 2 = .ok (.putfield 21, 3) := by decide +kernel
theorem dX3_begin_5 : decode cX3_begin 5 = .ok (.aload_n 0, 1) := by decide +kernel
theorem dX3_begin_6 : decode cX3_begin 6 = .ok (.iload_n 2, 1) := by decide +kernel
theorem dX3_begin_7 : decode cX3_begin 7 = .ok (.putfield 25, 3) := by decide +kernel
theorem dX3_begin_10 : decode cX3_begin 10 = .ok (.aload_n 0, 1) := by decide +kernel
theorem dX3_begin_11 : decode cX3_begin 11 = .ok (.iload_n 3, 1) := by decide +kernel
theorem dX3_begin_12 : decode cX3_begin 12 = .ok (.putfield 28, 3) := by decide +kernel
theorem dX3_begin_15 : decode cX3_begin 15 = .ok (.aload_n 0, 1) := by decide +kernel
theorem dX3_begin_16 : decode cX3_begin 16 = .ok (.iconst 0, 1) := by decide +kernel
theorem dX3_begin_17 : decode cX3_begin 17 = .ok (.putfield 31, 3) := by decide +kernel
theorem dX3_begin_20 : decode cX3_begin 20 = .ok (.aload_n 0, 1) := by decide +kernel
theorem dX3_begin_21 : decode cX3_begin 21 = .ok (.iconst 0, 1) := by decide +kernel
theorem dX3_begin_22 : decode cX3_begin 22 = .ok (.putfield 34, 3) := by decide +kernel
theorem dX3_begin_25 : decode cX3_begin 25 = .ok (.aload_n 0, 1) := by decide +kernel
theorem dX3_begin_26 : decode cX3_begin 26 = .ok (.iconst 0, 1) := by decide +kernel
theorem dX3_begin_27 : decode cX3_begin 27 = .ok (.putfield 37, 3) := by decide +kernel
theorem dX3_begin_30 : decode cX3_begin 30 = .ok (.aload_n 0, 1) := by decide +kernel
theorem dX3_begin_31 : decode cX3_begin 31 = .ok (.getfield 18, 3) := by decide +kernel
theorem dX3_begin_34 : decode cX3_begin 34 = .ok (.iconst 0, 1) := by decide +kernel
theorem dX3_begin_35 : decode cX3_begin 35 = .ok (.invokestatic 41, 3) := by decide +kernel
theorem dX3_begin_38 : decode cX3_begin 38 = .ok (.return_, 1) := by decide +kernel
theorem dX3_unused_0 : decode cX3_unused 0 = .ok (.aload_n 0, 1) := by decide +kernel
theorem dX3_unused_1 : decode cX3_unused 1 = .ok (.getfield 25, 3) := by decide +kernel
theorem dX3_unused_4 : decode cX3_unused 4 = .ok (.aload_n 0, 1) := by decide +kernel
theorem dX3_unused_5 : decode cX3_unused 5 = .ok (.getfield 31, 3) := by decide +kernel
theorem dX3_unused_8 : decode cX3_unused 8 = .ok (.isub, 1) := by decide +kernel
theorem dX3_unused_9 : decode cX3_unused 9 = .ok (.ireturn, 1) := by decide +kernel
theorem dX3_isBad_0 : decode cX3_isBad 0 = .ok (.iload_n 1, 1) := by decide +kernel
theorem dX3_isBad_1 : decode cX3_isBad 1 = .ok (.ifCond .lt 10, 3) := by decide +kernel
theorem dX3_isBad_4 : decode cX3_isBad 4 = .ok (.iload_n 1, 1) := by decide +kernel
theorem dX3_isBad_5 : decode cX3_isBad 5 = .ok (.sipush 300, 3) := by decide +kernel
theorem dX3_isBad_8 : decode cX3_isBad 8 = .ok (.if_icmp .lt 5, 3) := by decide +kernel
theorem dX3_isBad_11 : decode cX3_isBad 11 = .ok (.iconst 0, 1) := by decide +kernel
theorem dX3_isBad_12 : decode cX3_isBad 12 = .ok (.ireturn, 1) := by decide +kernel
theorem dX3_isBad_13 : decode cX3_isBad 13 = .ok (.aload_n 0, 1) := by decide +kernel
theorem dX3_isBad_14 : decode cX3_isBad 14 = .ok (.getfield 18, 3) := by decide +kernel
theorem dX3_isBad_17 : decode cX3_isBad 17 = .ok (.iload_n 1, 1) := by decide +kernel
theorem dX3_isBad_18 : decode cX3_isBad 18 = .ok (.bipush 32, 2) := by decide +kernel
theorem dX3_isBad_20 : decode cX3_isBad 20 = .ok (.idiv, 1) := by decide +kernel
theorem dX3_isBad_21 : decode cX3_isBad 21 = .ok (.iaload, 1) := by decide +kernel
theorem dX3_isBad_22 : decode cX3_isBad 22 = .ok (.iload_n 1, 1) := by decide +kernel
theorem dX3_isBad_23 : decode cX3_isBad 23 = .ok (.bipush 32, 2) := by decide +kernel
theorem dX3_isBad_25 : decode cX3_isBad 25 = .ok (.irem, 1) := by decide +kernel
theorem dX3_isBad_26 : decode cX3_isBad 26 = .ok (.iushr, 1) := by decide +kernel
theorem dX3_isBad_27 : decode cX3_isBad 27 = .ok (.iconst 1, 1) := by decide +kernel
theorem dX3_isBad_28 : decode cX3_isBad 28 = .ok (.iand, 1) := by decide +kernel
theorem dX3_isBad_29 : decode cX3_isBad 29 = .ok (.ifCond .eq 7, 3) := by decide +kernel
theorem dX3_isBad_32 : decode cX3_isBad 32 = .ok (.iconst 1, 1) := by decide +kernel
theorem dX3_isBad_33 : decode cX3_isBad 33 = .ok (.goto 4, 3) := by decide +kernel
theorem dX3_isBad_36 : decode cX3_isBad 36 = .ok (.iconst 0, 1) := by decide +kernel
theorem dX3_isBad_37 : decode cX3_isBad 37 = .ok (.ireturn, 1) := by decide +kernel
theorem dX3_setBad_0 : decode cX3_setBad 0 = .ok (.iload_n 1, 1) := by decide +kernel
theorem dX3_setBad_1 : decode cX3_setBad 1 = .ok (.ifCond .lt 28, 3) := by decide +kernel
theorem dX3_setBad_4 : decode cX3_setBad 4 = .ok (.iload_n 1, 1) := by decide +kernel
theorem dX3_setBad_5 : decode cX3_setBad 5 = .ok (.sipush 300, 3) := by decide +kernel
theorem dX3_setBad_8 : decode cX3_setBad 8 = .ok (.if_icmp .ge 21, 3) := by decide +kernel
theorem dX3_setBad_11 : decode cX3_setBad 11 = .ok (.aload_n 0, 1) := by decide +kernel
theorem dX3_setBad_12 : decode cX3_setBad 12 = .ok (.getfield 18, 3) := by decide +kernel
theorem dX3_setBad_15 : decode cX3_setBad 15 = .ok (.iload_n 1, 1) := by decide +kernel
theorem dX3_setBad_16 : decode cX3_setBad 16 = .ok (.bipush 32, 2) := by decide +kernel
theorem dX3_setBad_18 : decode cX3_setBad 18 = .ok (.idiv, 1) := by decide +kernel
theorem dX3_setBad_19 : decode cX3_setBad 19 = .ok (.dup2, 1) := by decide +kernel
theorem dX3_setBad_20 : decode cX3_setBad 20 = .ok (.iaload, 1) := by decide +kernel
theorem dX3_setBad_21 : decode cX3_setBad 21 = .ok (.iconst 1, 1) := by decide +kernel
theorem dX3_setBad_22 : decode cX3_setBad 22 = .ok (.iload_n 1, 1) := by decide +kernel
theorem dX3_setBad_23 : decode cX3_setBad 23 = .ok (.bipush 32, 2) := by decide +kernel
theorem dX3_setBad_25 : decode cX3_setBad 25 = .ok (.irem, 1) := by decide +kernel
theorem dX3_setBad_26 : decode cX3_setBad 26 = .ok (.ishl, 1) := by decide +kernel
theorem dX3_setBad_27 : decode cX3_setBad 27 = .ok (.ior, 1) := by decide +kernel
theorem dX3_setBad_28 : decode cX3_setBad 28 = .ok (.iastore, 1) := by decide +kernel
theorem dX3_setBad_29 : decode cX3_setBad 29 = .ok (.return_, 1) := by decide +kernel
set_option maxRecDepth 20000 in
theorem ggX3_badAmongNext_X3_isBad : GoodIn wsX3_badAmongNext wsX3_isBad := goodIn_r _ [6, 7, 8, 9, 10, 11, 12, 13, 14, 15, 16] (by decide +kernel) (by decide +kernel)
set_option maxRecDepth 20000 in
theorem gX3_badAmongNext_X3_isBad : GoodIn wsX3_badAmongNext (wsV RX3 53 RX3 yX3_isBad wsX3_isBad) := goodIn_app (goodIn_of _ (by decide +kernel)) ggX3_badAmongNext_X3_isBad
theorem dX3_badAmongNext_0 : decode cX3_badAmongNext 0 = .ok (.iconst 0, 1) := by decide +kernel
theorem dX3_badAmongNext_1 : decode cX3_badAmongNext 1 = .ok (.istore_n 2, 1) := by decide +kernel
theorem dX3_badAmongNext_2 : decode cX3_badAmongNext 2 = .ok (.aload_n 0, 1) := by decide +kernel
theorem dX3_badAmongNext_3 : decode cX3_badAmongNext 3 = .ok (.getfield 31, 3) := by decide +kernel
theorem dX3_badAmongNext_6 : decode cX3_badAmongNext 6 = .ok (.istore_n 3, 1) := by decide +kernel
theorem dX3_badAmongNext_7 : decode cX3_badAmongNext 7 = .ok (.iload_n 3, 1) := by decide +kernel
theorem dX3_badAmongNext_8 : decode cX3_badAmongNext 8 = .ok (.aload_n 0, 1) := by decide +kernel
theorem dX3_badAmongNext_9 : decode cX3_badAmongNext 9 = .ok (.getfield 31, 3) := by decide +kernel
theorem dX3_badAmongNext_12 : decode cX3_badAmongNext 12 = .ok (.iload_n 1, 1) := by decide +kernel
theorem dX3_badAmongNext_13 : decode cX3_badAmongNext 13 = .ok (.iadd, 1) := by decide +kernel
theorem dX3_badAmongNext_14 : decode cX3_badAmongNext 14 = .ok (.if_icmp .ge 20, 3) := by decide +kernel
theorem dX3_badAmongNext_17 : decode cX3_badAmongNext 17 = .ok (.aload_n 0, 1) := by decide +kernel
theorem dX3_badAmongNext_18 : decode cX3_badAmongNext 18 = .ok (.iload_n 3, 1) := by decide +kernel
theorem dX3_badAmongNext_19 : decode cX3_badAmongNext 19 = .ok (.invokevirtual 53, 3) := by decide +kernel
theorem dX3_badAmongNext_22 : decode cX3_badAmongNext 22 = .ok (.ifCond .eq 6, 3) := by decide +kernel
theorem dX3_badAmongNext_25 : decode cX3_badAmongNext 25 = .ok (.iinc 2 1, 3) := by decide +kernel
theorem dX3_badAmongNext_28 : decode cX3_badAmongNext 28 = .ok (.iinc 3 1, 3) := by decide +kernel
theorem dX3_badAmongNext_31 : decode cX3_badAmongNext 31 = .ok (.goto (-24), 3) := by decide +kernel
theorem dX3_badAmongNext_34 : decode cX3_badAmongNext 34 = .ok (.iload_n 2, 1) := by decide +kernel
theorem dX3_badAmongNext_35 : decode cX3_badAmongNext 35 = .ok (.ireturn, 1) := by decide +kernel
set_option maxRecDepth 20000 in
theorem ggX3_canTake_X3_unused : GoodIn wsX3_canTake wsX3_unused := goodIn_r _ [8, 9, 10, 20, 21, 22, 23, 24, 25, 26, 27, 28] (by decide +kernel) (by decide +kernel)
set_option maxRecDepth 20000 in
theorem gX3_canTake_X3_unused : GoodIn wsX3_canTake (wsV RX3 57 RX3 yX3_unused wsX3_unused) := goodIn_app (goodIn_of _ (by decide +kernel)) ggX3_canTake_X3_unused
set_option maxRecDepth 20000 in
theorem ggX3_canTake_X3_badAmongNext : GoodIn wsX3_canTake wsX3_badAmongNext := goodIn_r _ [14, 10, 15, 16, 17, 7, 18, 19, 20, 21, 22, 23, 24, 25, 26, 27, 28] (by decide +kernel) (by decide +kernel)
set_option maxRecDepth 20000 in
theorem gX3_canTake_X3_badAmongNext : GoodIn wsX3_canTake (wsV RX3 61 RX3 yX3_badAmongNext wsX3_badAmongNext) := goodIn_app (goodIn_of _ (by decide +kernel)) ggX3_canTake_X3_badAmongNext
theorem dX3_canTake_0 : decode cX3_canTake 0 = .ok (.aload_n 0, 1) := by decide +kernel
theorem dX3_canTake_1 : decode cX3_canTake 1 = .ok (.getfield 37, 3) := by decide +kernel
theorem dX3_canTake_4 : decode cX3_canTake 4 = .ok (.ifCond .ne 14, 3) := by decide +kernel
theorem dX3_canTake_7 : decode cX3_canTake 7 = .ok (.aload_n 0, 1) := by decide +kernel
theorem dX3_canTake_8 : decode cX3_canTake 8 = .ok (.getfield 34, 3) := by decide +kernel
theorem dX3_canTake_11 : decode cX3_canTake 11 = .ok (.bipush 8, 2) := by decide +kernel
theorem dX3_canTake_13 : decode cX3_canTake 13 = .ok (.if_icmp .lt 5, 3) := by decide +kernel
theorem dX3_canTake_16 : decode cX3_canTake 16 = .ok (.iconst 0, 1) := by decide +kernel
theorem dX3_canTake_17 : decode cX3_canTake 17 = .ok (.ireturn, 1) := by decide +kernel
theorem dX3_canTake_18 : decode cX3_canTake 18 = .ok (.iload_n 1, 1) := by decide +kernel
theorem dX3_canTake_19 : decode cX3_canTake 19 = .ok (.aload_n 0, 1) := by decide +kernel
theorem dX3_canTake_20 : decode cX3_canTake 20 = .ok (.invokevirtual 57, 3) := by decide +kernel
theorem dX3_canTake_23 : decode cX3_canTake 23 = .ok (.if_icmp .gt 19, 3) := by decide +kernel
theorem dX3_canTake_26 : decode cX3_canTake 26 = .ok (.aload_n 0, 1) := by decide +kernel
theorem dX3_canTake_27 : decode cX3_canTake 27 = .ok (.iload_n 1, 1) := by decide +kernel
theorem dX3_canTake_28 : decode cX3_canTake 28 = .ok (.invokevirtual 61, 3) := by decide +kernel
theorem dX3_canTake_31 : decode cX3_canTake 31 = .ok (.aload_n 0, 1) := by decide +kernel
theorem dX3_canTake_32 : decode cX3_canTake 32 = .ok (.getfield 28, 3) := by decide +kernel
theorem dX3_canTake_35 : decode cX3_canTake 35 = .ok (.if_icmp .gt 7, 3) := by decide +kernel
theorem dX3_canTake_38 : decode cX3_canTake 38 = .ok (.iconst 1, 1) := by decide +kernel
theorem dX3_canTake_39 : decode cX3_canTake 39 = .ok (.goto 4, 3) := by decide +kernel
theorem dX3_canTake_42 : decode cX3_canTake 42 = .ok (.iconst 0, 1) := by decide +kernel
theorem dX3_canTake_43 : decode cX3_canTake 43 = .ok (.ireturn, 1) := by decide +kernel
theorem dX3_extendLastSession_0 : decode cX3_extendLastSession 0 = .ok (.aload_n 0, 1) := by decide +kernel
theorem dX3_extendLastSession_1 : decode cX3_extendLastSession 1 = .ok (.getfield 34, 3) := by decide +kernel
theorem dX3_extendLastSession_4 : decode cX3_extendLastSession 4 = .ok (.ifCond .le 37, 3) := by decide +kernel
theorem dX3_extendLastSession_7 : decode cX3_extendLastSession 7 = .ok (.aload_n 0, 1) := by decide +kernel
theorem dX3_extendLastSession_8 : decode cX3_extendLastSession 8 = .ok (.getfield 34, 3) := by decide +kernel
theorem dX3_extendLastSession_11 : decode cX3_extendLastSession 11 = .ok (.bipush 8, 2) := by decide +kernel
theorem dX3_extendLastSession_13 : decode cX3_extendLastSession 13 = .ok (.if_icmp .gt 28, 3) := by decide +kernel
theorem dX3_extendLastSession_16 : decode cX3_extendLastSession 16 = .ok (.aload_n 0, 1) := by decide +kernel
theorem dX3_extendLastSession_17 : decode cX3_extendLastSession 17 = .ok (.getfield 15, 3) := by decide +kernel
theorem dX3_extendLastSession_20 : decode cX3_extendLastSession 20 = .ok (.aload_n 0, 1) := by decide +kernel
theorem dX3_extendLastSession_21 : decode cX3_extendLastSession 21 = .ok (.getfield 34, 3) := by decide +kernel
theorem dX3_extendLastSession_24 : decode cX3_extendLastSession 24 = .ok (.iconst 1, 1) := by decide +kernel
theorem dX3_extendLastSession_25 : decode cX3_extendLastSession 25 = .ok (.isub, 1) := by decide +kernel
theorem dX3_extendLastSession_26 : decode cX3_extendLastSession 26 = .ok (.dup2, 1) := by decide +kernel
theorem dX3_extendLastSession_27 : decode cX3_extendLastSession 27 = .ok (.iaload, 1) := by decide +kernel
theorem dX3_extendLastSession_28 : decode cX3_extendLastSession 28 = .ok (.iload_n 1, 1) := by decide +kernel
theorem dX3_extendLastSession_29 : decode cX3_extendLastSession 29 = .ok (.iadd, 1) := by decide +kernel
theorem dX3_extendLastSession_30 : decode cX3_extendLastSession 30 = .ok (.iastore, 1) := by decide +kernel
theorem dX3_extendLastSession_31 : decode cX3_extendLastSession 31 = .ok (.aload_n 0, 1) := by decide +kernel
theorem dX3_extendLastSession_32 : decode cX3_extendLastSession 32 = .ok (.dup, 1) := by decide +kernel
theorem dX3_extendLastSession_33 : decode cX3_extendLastSession 33 = .ok (.getfield 31, 3) := by decide +kernel
theorem dX3_extendLastSession_36 : decode cX3_extendLastSession 36 = .ok (.iload_n 1, 1) := by decide +kernel
theorem dX3_extendLastSession_37 : decode cX3_extendLastSession 37 = .ok (.iadd, 1) := by decide +kernel
theorem dX3_extendLastSession_38 : decode cX3_extendLastSession 38 = .ok (.putfield 31, 3) := by decide +kernel
theorem dX3_extendLastSession_41 : decode cX3_extendLastSession 41 = .ok (.return_, 1) := by decide +kernel
set_option maxRecDepth 20000 in
theorem ggX3_takeSectors_X3_extendLastSession : GoodIn wsX3_takeSectors wsX3_extendLastSession := goodIn_r _ [11, 2, 5, 4, 12, 13, 14, 15, 16, 17, 18, 19, 20] (by decide +kernel) (by decide +kernel)
set_option maxRecDepth 20000 in
theorem gX3_takeSectors_X3_extendLastSession : GoodIn wsX3_takeSectors (wsV RX3 65 RX3 yX3_extendLastSession wsX3_extendLastSession) := goodIn_app (goodIn_of _ (by decide +kernel)) ggX3_takeSectors_X3_extendLastSession
theorem dX3_takeSectors_0 : decode cX3_takeSectors 0 = .ok (.aload_n 0, 1) := by decide +kernel
theorem dX3_takeSectors_1 : decode cX3_takeSectors 1 = .ok (.getfield 37, 3) := by decide +kernel
theorem dX3_takeSectors_4 : decode cX3_takeSectors 4 = .ok (.ifCond .ne 50, 3) := by decide +kernel
theorem dX3_takeSectors_7 : decode cX3_takeSectors 7 = .ok (.aload_n 0, 1) := by decide +kernel
theorem dX3_takeSectors_8 : decode cX3_takeSectors 8 = .ok (.getfield 34, 3) := by decide +kernel
theorem dX3_takeSectors_11 : decode cX3_takeSectors 11 = .ok (.bipush 8, 2) := by decide +kernel
theorem dX3_takeSectors_13 : decode cX3_takeSectors 13 = .ok (.if_icmp .ge 41, 3) := by decide +kernel
theorem dX3_takeSectors_16 : decode cX3_takeSectors 16 = .ok (.aload_n 0, 1) := by decide +kernel
theorem dX3_takeSectors_17 : decode cX3_takeSectors 17 = .ok (.getfield 9, 3) := by decide +kernel
theorem dX3_takeSectors_20 : decode cX3_takeSectors 20 = .ok (.aload_n 0, 1) := by decide +kernel
theorem dX3_takeSectors_21 : decode cX3_takeSectors 21 = .ok (.getfield 34, 3) := by decide +kernel
theorem dX3_takeSectors_24 : decode cX3_takeSectors 24 = .ok (.aload_n 0, 1) := by decide +kernel
theorem dX3_takeSectors_25 : decode cX3_takeSectors 25 = .ok (.getfield 31, 3) := by decide +kernel
theorem dX3_takeSectors_28 : decode cX3_takeSectors 28 = .ok (.iastore, 1) := by decide +kernel
theorem dX3_takeSectors_29 : decode cX3_takeSectors 29 = .ok (.aload_n 0, 1) := by decide +kernel
theorem dX3_takeSectors_30 : decode cX3_takeSectors 30 = .ok (.getfield 15, 3) := by decide +kernel
theorem dX3_takeSectors_33 : decode cX3_takeSectors 33 = .ok (.aload_n 0, 1) := by decide +kernel
theorem dX3_takeSectors_34 : decode cX3_takeSectors 34 = .ok (.getfield 34, 3) := by decide +kernel
theorem dX3_takeSectors_37 : decode cX3_takeSectors 37 = .ok (.iconst 0, 1) := by decide +kernel
theorem dX3_takeSectors_38 : decode cX3_takeSectors 38 = .ok (.iastore, 1) := by decide +kernel
theorem dX3_takeSectors_39 : decode cX3_takeSectors 39 = .ok (.aload_n 0, 1) := by decide +kernel
theorem dX3_takeSectors_40 : decode cX3_takeSectors 40 = .ok (.dup, 1) := by decide +kernel
theorem dX3_takeSectors_41 : decode cX3_takeSectors 41 = .ok (.getfield 34, 3) := by decide +kernel
theorem dX3_takeSectors_44 : decode cX3_takeSectors 44 = .ok (.iconst 1, 1) := by decide +kernel
theorem dX3_takeSectors_45 : decode cX3_takeSectors 45 = .ok (.iadd, 1) := by decide +kernel
theorem dX3_takeSectors_46 : decode cX3_takeSectors 46 = .ok (.putfield 34, 3) := by decide +kernel
theorem dX3_takeSectors_49 : decode cX3_takeSectors 49 = .ok (.aload_n 0, 1) := by decide +kernel
theorem dX3_takeSectors_50 : decode cX3_takeSectors 50 = .ok (.iconst 1, 1) := by decide +kernel
theorem dX3_takeSectors_51 : decode cX3_takeSectors 51 = .ok (.putfield 37, 3) := by decide +kernel
theorem dX3_takeSectors_54 : decode cX3_takeSectors 54 = .ok (.aload_n 0, 1) := by decide +kernel
theorem dX3_takeSectors_55 : decode cX3_takeSectors 55 = .ok (.dup, 1) := by decide +kernel
theorem dX3_takeSectors_56 : decode cX3_takeSectors 56 = .ok (.getfield 28, 3) := by decide +kernel
theorem dX3_takeSectors_59 : decode cX3_takeSectors 59 = .ok (.iload_n 2, 1) := by decide +kernel
theorem dX3_takeSectors_60 : decode cX3_takeSectors 60 = .ok (.isub, 1) := by decide +kernel
theorem dX3_takeSectors_61 : decode cX3_takeSectors 61 = .ok (.putfield 28, 3) := by decide +kernel
theorem dX3_takeSectors_64 : decode cX3_takeSectors 64 = .ok (.aload_n 0, 1) := by decide +kernel
theorem dX3_takeSectors_65 : decode cX3_takeSectors 65 = .ok (.iload_n 1, 1) := by decide +kernel
theorem dX3_takeSectors_66 : decode cX3_takeSectors 66 = .ok (.invokevirtual 65, 3) := by decide +kernel
theorem dX3_takeSectors_69 : decode cX3_takeSectors 69 = .ok (.return_, 1) := by decide +kernel
set_option maxRecDepth 20000 in
theorem ggX3_addLeadOut_X3_unused : GoodIn wsX3_addLeadOut wsX3_unused := goodIn_r _ [10, 11, 12, 19, 20, 21, 22, 23, 24, 25, 26, 27] (by decide +kernel) (by decide +kernel)
set_option maxRecDepth 20000 in
theorem gX3_addLeadOut_X3_unused : GoodIn wsX3_addLeadOut (wsV RX3 57 RX3 yX3_unused wsX3_unused) := goodIn_app (goodIn_of _ (by decide +kernel)) ggX3_addLeadOut_X3_unused
set_option maxRecDepth 20000 in
theorem ggX3_addLeadOut_X3_extendLastSession : GoodIn wsX3_addLeadOut wsX3_extendLastSession := goodIn_r _ [16, 17, 18, 12, 19, 20, 21, 22, 23, 24, 25, 26, 27] (by decide +kernel) (by decide +kernel)
set_option maxRecDepth 20000 in
theorem gX3_addLeadOut_X3_extendLastSession : GoodIn wsX3_addLeadOut (wsV RX3 65 RX3 yX3_extendLastSession wsX3_extendLastSession) := goodIn_app (goodIn_of _ (by decide +kernel)) ggX3_addLeadOut_X3_extendLastSession
theorem dX3_addLeadOut_0 : decode cX3_addLeadOut 0 = .ok (.iconst 2, 1) := by decide +kernel
theorem dX3_addLeadOut_1 : decode cX3_addLeadOut 1 = .ok (.aload_n 0, 1) := by decide +kernel
theorem dX3_addLeadOut_2 : decode cX3_addLeadOut 2 = .ok (.invokevirtual 57, 3) := by decide +kernel
theorem dX3_addLeadOut_5 : decode cX3_addLeadOut 5 = .ok (.invokestatic 69, 3) := by decide +kernel
theorem dX3_addLeadOut_8 : decode cX3_addLeadOut 8 = .ok (.istore_n 1, 1) := by decide +kernel
theorem dX3_addLeadOut_9 : decode cX3_addLeadOut 9 = .ok (.aload_n 0, 1) := by decide +kernel
theorem dX3_addLeadOut_10 : decode cX3_addLeadOut 10 = .ok (.iload_n 1, 1) := by decide +kernel
theorem dX3_addLeadOut_11 : decode cX3_addLeadOut 11 = .ok (.invokevirtual 65, 3) := by decide +kernel
theorem dX3_addLeadOut_14 : decode cX3_addLeadOut 14 = .ok (.aload_n 0, 1) := by decide +kernel
theorem dX3_addLeadOut_15 : decode cX3_addLeadOut 15 = .ok (.iconst 0, 1) := by decide +kernel
theorem dX3_addLeadOut_16 : decode cX3_addLeadOut 16 = .ok (.putfield 37, 3) := by decide +kernel
theorem dX3_addLeadOut_19 : decode cX3_addLeadOut 19 = .ok (.iload_n 1, 1) := by decide +kernel
theorem dX3_addLeadOut_20 : decode cX3_addLeadOut 20 = .ok (.ireturn, 1) := by decide +kernel
theorem dX3_isClosed_0 : decode cX3_isClosed 0 = .ok (.aload_n 0, 1) := by decide +kernel
theorem dX3_isClosed_1 : decode cX3_isClosed 1 = .ok (.getfield 37, 3) := by decide +kernel
theorem dX3_isClosed_4 : decode cX3_isClosed 4 = .ok (.ifCond .eq 13, 3) := by decide +kernel
theorem dX3_isClosed_7 : decode cX3_isClosed 7 = .ok (.iload_n 1, 1) := by decide +kernel
theorem dX3_isClosed_8 : decode cX3_isClosed 8 = .ok (.aload_n 0, 1) := by decide +kernel
theorem dX3_isClosed_9 : decode cX3_isClosed 9 = .ok (.getfield 34, 3) := by decide +kernel
theorem dX3_isClosed_12 : decode cX3_isClosed 12 = .ok (.iconst 1, 1) := by decide +kernel
theorem dX3_isClosed_13 : decode cX3_isClosed 13 = .ok (.isub, 1) := by decide +kernel
theorem dX3_isClosed_14 : decode cX3_isClosed 14 = .ok (.if_icmp .eq 7, 3) := by decide +kernel
theorem dX3_isClosed_17 : decode cX3_isClosed 17 = .ok (.iconst 1, 1) := by decide +kernel
theorem dX3_isClosed_18 : decode cX3_isClosed 18 = .ok (.goto 4, 3) := by decide +kernel
theorem dX3_isClosed_21 : decode cX3_isClosed 21 = .ok (.iconst 0, 1) := by decide +kernel
theorem dX3_isClosed_22 : decode cX3_isClosed 22 = .ok (.ireturn, 1) := by decide +kernel
set_option maxRecDepth 20000 in
theorem ggX3_longestCleanRun_X3_isBad : GoodIn wsX3_longestCleanRun wsX3_isBad := goodIn_r _ [11, 12, 13, 14, 15, 16, 17, 18, 19, 20, 21] (by decide +kernel) (by decide +kernel)
set_option maxRecDepth 20000 in
theorem gX3_longestCleanRun_X3_isBad : GoodIn wsX3_longestCleanRun (wsV RX3 53 RX3 yX3_isBad wsX3_isBad) := goodIn_app (goodIn_of _ (by decide +kernel)) ggX3_longestCleanRun_X3_isBad
theorem dX3_longestCleanRun_0 : decode cX3_longestCleanRun 0 = .ok (.iconst 0, 1) := by decide +kernel
theorem dX3_longestCleanRun_1 : decode cX3_longestCleanRun 1 = .ok (.istore_n 1, 1) := by decide +kernel
theorem dX3_longestCleanRun_2 : decode cX3_longestCleanRun 2 = .ok (.iconst 0, 1) := by decide +kernel
theorem dX3_longestCleanRun_3 : decode cX3_longestCleanRun 3 = .ok (.istore_n 2, 1) := by decide +kernel
theorem dX3_longestCleanRun_4 : decode cX3_longestCleanRun 4 = .ok (.aload_n 0, 1) := by decide +kernel
theorem dX3_longestCleanRun_5 : decode cX3_longestCleanRun 5 = .ok (.getfield 31, 3) := by decide +kernel
theorem dX3_longestCleanRun_8 : decode cX3_longestCleanRun 8 = .ok (.istore_n 3, 1) := by decide +kernel
theorem dX3_longestCleanRun_9 : decode cX3_longestCleanRun 9 = .ok (.iload_n 3, 1) := by decide +kernel
theorem dX3_longestCleanRun_10 : decode cX3_longestCleanRun 10 = .ok (.aload_n 0, 1) := by decide +kernel
theorem dX3_longestCleanRun_11 : decode cX3_longestCleanRun 11 = .ok (.getfield 25, 3) := by decide +kernel
theorem dX3_longestCleanRun_14 : decode cX3_longestCleanRun 14 = .ok (.if_icmp .ge 31, 3) := by decide +kernel
theorem dX3_longestCleanRun_17 : decode cX3_longestCleanRun 17 = .ok (.aload_n 0, 1) := by decide +kernel
theorem dX3_longestCleanRun_18 : decode cX3_longestCleanRun 18 = .ok (.iload_n 3, 1) := by decide +kernel
theorem dX3_longestCleanRun_19 : decode cX3_longestCleanRun 19 = .ok (.invokevirtual 53, 3) := by decide +kernel
theorem dX3_longestCleanRun_22 : decode cX3_longestCleanRun 22 = .ok (.ifCond .eq 7, 3) := by decide +kernel
theorem dX3_longestCleanRun_25 : decode cX3_longestCleanRun 25 = .ok (.iconst 0, 1) := by decide +kernel
theorem dX3_longestCleanRun_26 : decode cX3_longestCleanRun 26 = .ok (.goto 6, 3) := by decide +kernel
theorem dX3_longestCleanRun_29 : decode cX3_longestCleanRun 29 = .ok (.iload_n 2, 1) := by decide +kernel
theorem dX3_longestCleanRun_30 : decode cX3_longestCleanRun 30 = .ok (.iconst 1, 1) := by decide +kernel
theorem dX3_longestCleanRun_31 : decode cX3_longestCleanRun 31 = .ok (.iadd, 1) := by decide +kernel
theorem dX3_longestCleanRun_32 : decode cX3_longestCleanRun 32 = .ok (.istore_n 2, 1) := by decide +kernel
theorem dX3_longestCleanRun_33 : decode cX3_longestCleanRun 33 = .ok (.iload_n 1, 1) := by decide +kernel
theorem dX3_longestCleanRun_34 : decode cX3_longestCleanRun 34 = .ok (.iload_n 2, 1) := by decide +kernel
theorem dX3_longestCleanRun_35 : decode cX3_longestCleanRun 35 = .ok (.invokestatic 75, 3) := by decide +kernel
theorem dX3_longestCleanRun_38 : decode cX3_longestCleanRun 38 = .ok (.istore_n 1, 1) := by decide +kernel
theorem dX3_longestCleanRun_39 : decode cX3_longestCleanRun 39 = .ok (.iinc 3 1, 3) := by decide +kernel
theorem dX3_longestCleanRun_42 : decode cX3_longestCleanRun 42 = .ok (.goto (-33), 3) := by decide +kernel
theorem dX3_longestCleanRun_45 : decode cX3_longestCleanRun 45 = .ok (.iload_n 1, 1) := by decide +kernel
theorem dX3_longestCleanRun_46 : decode cX3_longestCleanRun 46 = .ok (.ireturn, 1) := by decide +kernel
abbrev rm_X3_copyFrom : Room := { frames := 1, cells := 0, slots := 0, locals := 48 }
set_option maxRecDepth 100000 in
set_option maxHeartbeats 4000000 in
theorem ct_X3_copyFrom (l : Launch) (g : GT) (w : WT) (i : Nat) (hi : i ∈ k_S w.1) (i2 : Nat) (hi2 : i2 ∈ k_S w.1) (hne : i2 ≠ i) (sd : SD) (so : SD) (j : Nat) (hj : j < 10) (j2 : Nat) (hj2 : j2 < 10) {q : SD} (hf : f_X3_copyFrom sd so j j2 = some q) : Met l yX3_copyFrom wsX3_copyFrom rm_X3_copyFrom (cPre g (wS (wS w i2 so) i sd) [.ref (adr i 3 j), .ref (adr i2 3 j2)]) (cQv g (wS (wS w i2 so) i q)) 0 0 (gA g) := by
  have i_3 : ∀ w ∈ u_ws RX3 TX3 9, w ∈ wsX3_copyFrom := by decide +kernel
  refine x_met (by decide) rfl (Nat.le_of_ble_eq_true rfl) ?_
  intro p e s m below meth c hx hb hr hml hts hown hlocks hK hW hS ls hl
  have hown : s.vm.findClass RX3 = some m.cls := hown
  have hl : lv_has ls 2 [(0, .ref (adr i 3 j)), (1, .ref (adr i2 3 j2))] := hl
  rw [f_X3_copyFrom] at hf
  refine lv_aload_n hx hb dX3_copyFrom_0 rfl (lv_at hl 0 rfl) ?_
  refine lv_aload_n hx hb dX3_copyFrom_1 rfl (lv_at hl 1 rfl) ?_
  refine x_get (i := i2) (k := 3) (j := j2) (t := 0) hx hb hts i_3 hown hK hW ⟨hi2, hj2⟩ rfl ⟨by decide, by decide, rfl⟩ (hts (.fieldLink RX3 21 "OpticalJukebox$Platter" "home" "I") (by decide +kernel)) (sv_S2 hne rfl (fun _ => rfl) rfl) dX3_copyFrom_2 ?_
  obtain ⟨sd1, e_sd1, hf⟩ := x_letE hf
  refine x_put (i := i) (k := 3) (j := j) (t := 0) (w' := wS (wS w i2 so) i sd1) hx hb hts i_3 tyX3 tyX3_ok nmX3 hown hK hW ⟨hi, hj⟩ hS rfl ⟨by decide, by decide, rfl⟩ (hts (.fieldLink RX3 21 "OpticalJukebox$Platter" "home" "I") (by decide +kernel)) rfl (ty := .int) (by decide +kernel) rfl rfl ⟨rfl, rfl⟩ dX3_copyFrom_5 (fp_S e_sd1 rfl) (fun H locs hW hS => ?_)
  refine lv_aload_n hx hb dX3_copyFrom_8 rfl (lv_at hl 0 rfl) ?_
  refine lv_aload_n hx hb dX3_copyFrom_9 rfl (lv_at hl 1 rfl) ?_
  refine x_get (i := i2) (k := 3) (j := j2) (t := 1) hx hb hts i_3 hown hK hW ⟨hi2, hj2⟩ rfl ⟨by decide, by decide, rfl⟩ (hts (.fieldLink RX3 25 "OpticalJukebox$Platter" "capacity" "I") (by decide +kernel)) (sv_S2 hne rfl (fun _ => rfl) rfl) dX3_copyFrom_10 ?_
  obtain ⟨sd2, e_sd2, hf⟩ := x_letE hf
  refine x_put (i := i) (k := 3) (j := j) (t := 1) (w' := wS (wS w i2 so) i sd2) hx hb hts i_3 tyX3 tyX3_ok nmX3 hown hK hW ⟨hi, hj⟩ hS rfl ⟨by decide, by decide, rfl⟩ (hts (.fieldLink RX3 25 "OpticalJukebox$Platter" "capacity" "I") (by decide +kernel)) rfl (ty := .int) (by decide +kernel) rfl rfl ⟨rfl, rfl⟩ dX3_copyFrom_13 (fp_S e_sd2 rfl) (fun H locs hW hS => ?_)
  refine lv_aload_n hx hb dX3_copyFrom_16 rfl (lv_at hl 0 rfl) ?_
  refine lv_aload_n hx hb dX3_copyFrom_17 rfl (lv_at hl 1 rfl) ?_
  refine x_get (i := i2) (k := 3) (j := j2) (t := 2) hx hb hts i_3 hown hK hW ⟨hi2, hj2⟩ rfl ⟨by decide, by decide, rfl⟩ (hts (.fieldLink RX3 28 "OpticalJukebox$Platter" "spares" "I") (by decide +kernel)) (sv_S2 hne rfl (fun _ => rfl) rfl) dX3_copyFrom_18 ?_
  obtain ⟨sd3, e_sd3, hf⟩ := x_letE hf
  refine x_put (i := i) (k := 3) (j := j) (t := 2) (w' := wS (wS w i2 so) i sd3) hx hb hts i_3 tyX3 tyX3_ok nmX3 hown hK hW ⟨hi, hj⟩ hS rfl ⟨by decide, by decide, rfl⟩ (hts (.fieldLink RX3 28 "OpticalJukebox$Platter" "spares" "I") (by decide +kernel)) rfl (ty := .int) (by decide +kernel) rfl rfl ⟨rfl, rfl⟩ dX3_copyFrom_21 (fp_S e_sd3 rfl) (fun H locs hW hS => ?_)
  refine lv_aload_n hx hb dX3_copyFrom_24 rfl (lv_at hl 0 rfl) ?_
  refine lv_aload_n hx hb dX3_copyFrom_25 rfl (lv_at hl 1 rfl) ?_
  refine x_get (i := i2) (k := 3) (j := j2) (t := 3) hx hb hts i_3 hown hK hW ⟨hi2, hj2⟩ rfl ⟨by decide, by decide, rfl⟩ (hts (.fieldLink RX3 31 "OpticalJukebox$Platter" "end" "I") (by decide +kernel)) (sv_S2 hne rfl (fun _ => rfl) rfl) dX3_copyFrom_26 ?_
  obtain ⟨sd4, e_sd4, hf⟩ := x_letE hf
  refine x_put (i := i) (k := 3) (j := j) (t := 3) (w' := wS (wS w i2 so) i sd4) hx hb hts i_3 tyX3 tyX3_ok nmX3 hown hK hW ⟨hi, hj⟩ hS rfl ⟨by decide, by decide, rfl⟩ (hts (.fieldLink RX3 31 "OpticalJukebox$Platter" "end" "I") (by decide +kernel)) rfl (ty := .int) (by decide +kernel) rfl rfl ⟨rfl, rfl⟩ dX3_copyFrom_29 (fp_S e_sd4 rfl) (fun H locs hW hS => ?_)
  refine lv_aload_n hx hb dX3_copyFrom_32 rfl (lv_at hl 0 rfl) ?_
  refine lv_aload_n hx hb dX3_copyFrom_33 rfl (lv_at hl 1 rfl) ?_
  refine x_get (i := i2) (k := 3) (j := j2) (t := 4) hx hb hts i_3 hown hK hW ⟨hi2, hj2⟩ rfl ⟨by decide, by decide, rfl⟩ (hts (.fieldLink RX3 34 "OpticalJukebox$Platter" "sessions" "I") (by decide +kernel)) (sv_S2 hne rfl (fun _ => rfl) rfl) dX3_copyFrom_34 ?_
  obtain ⟨sd5, e_sd5, hf⟩ := x_letE hf
  refine x_put (i := i) (k := 3) (j := j) (t := 4) (w' := wS (wS w i2 so) i sd5) hx hb hts i_3 tyX3 tyX3_ok nmX3 hown hK hW ⟨hi, hj⟩ hS rfl ⟨by decide, by decide, rfl⟩ (hts (.fieldLink RX3 34 "OpticalJukebox$Platter" "sessions" "I") (by decide +kernel)) rfl (ty := .int) (by decide +kernel) rfl rfl ⟨rfl, rfl⟩ dX3_copyFrom_37 (fp_S e_sd5 rfl) (fun H locs hW hS => ?_)
  refine lv_aload_n hx hb dX3_copyFrom_40 rfl (lv_at hl 0 rfl) ?_
  refine lv_aload_n hx hb dX3_copyFrom_41 rfl (lv_at hl 1 rfl) ?_
  refine x_get (i := i2) (k := 3) (j := j2) (t := 5) hx hb hts i_3 hown hK hW ⟨hi2, hj2⟩ rfl ⟨by decide, by decide, rfl⟩ (hts (.fieldLink RX3 37 "OpticalJukebox$Platter" "open" "Z") (by decide +kernel)) (sv_S2 hne rfl (fun _ => rfl) rfl) dX3_copyFrom_42 ?_
  obtain ⟨hg6, hf⟩ := x_guardE hf
  obtain ⟨sd7, e_sd7, hf⟩ := x_letE hf
  refine x_put (i := i) (k := 3) (j := j) (t := 5) (w' := wS (wS w i2 so) i sd7) hx hb hts i_3 tyX3 tyX3_ok nmX3 hown hK hW ⟨hi, hj⟩ hS rfl ⟨by decide, by decide, rfl⟩ (hts (.fieldLink RX3 37 "OpticalJukebox$Platter" "open" "Z") (by decide +kernel)) rfl (ty := .boolean) (by decide +kernel) (nar_b hg6) (fit_b hg6) ⟨rfl, rfl⟩ dX3_copyFrom_45 (fp_S e_sd7 rfl) (fun H locs hW hS => ?_)
  refine lv_aload_n hx hb dX3_copyFrom_48 rfl (lv_at hl 1 rfl) ?_
  refine x_get (i := i2) (k := 3) (j := j2) (t := 6) hx hb hts i_3 hown hK hW ⟨hi2, hj2⟩ rfl ⟨by decide, by decide, rfl⟩ (hts (.fieldLink RX3 9 "OpticalJukebox$Platter" "sessionStarts" "[I") (by decide +kernel)) (v := .ref (adr i2 16 j2)) rfl dX3_copyFrom_49 ?_
  refine lv_iconst (v := 0) hx hb dX3_copyFrom_52 (by decide) ?_
  refine lv_aload_n hx hb dX3_copyFrom_53 rfl (lv_at hl 0 rfl) ?_
  refine x_get (i := i) (k := 3) (j := j) (t := 6) hx hb hts i_3 hown hK hW ⟨hi, hj⟩ rfl ⟨by decide, by decide, rfl⟩ (hts (.fieldLink RX3 9 "OpticalJukebox$Platter" "sessionStarts" "[I") (by decide +kernel)) (v := .ref (adr i 16 j)) rfl dX3_copyFrom_54 ?_
  refine lv_iconst (v := 0) hx hb dX3_copyFrom_57 (by decide) ?_
  refine lv_bipush (v := 8) hx hb dX3_copyFrom_58 (by decide) ?_
  obtain ⟨sd8, e_sd8, hf⟩ := x_letE hf
  refine x_cpy (i := i) (k := 16) (j := j) (i2 := i2) (j2 := j2) (w' := wS (wS w i2 so) i sd8) hx hb (hml.trans hl.1.symm) hown (hts (.methodLink RX3 47 arraycopyName) (by decide +kernel)) (hts (.native arraycopyName) (by decide +kernel)) (hts (.static arraycopyName) (by decide +kernel)) (hts (.initialized "java/lang/System") (by decide +kernel)) hK hW ⟨hi2, hj2⟩ ⟨hi, hj⟩ hS (by decide) rfl (ct_S2 hne rfl (fun _ => rfl)) (ct_S rfl (fun _ => rfl)) rfl (by decide) (Nat.le_of_ble_eq_true rfl) (Nat.le_of_ble_eq_true rfl) dX3_copyFrom_60 (fc_S e_sd8 rfl hW) (fun H locs hW hS => ?_)
  refine lv_aload_n hx hb dX3_copyFrom_63 rfl (lv_at hl 1 rfl) ?_
  refine x_get (i := i2) (k := 3) (j := j2) (t := 7) hx hb hts i_3 hown hK hW ⟨hi2, hj2⟩ rfl ⟨by decide, by decide, rfl⟩ (hts (.fieldLink RX3 15 "OpticalJukebox$Platter" "sessionSizes" "[I") (by decide +kernel)) (v := .ref (adr i2 17 j2)) rfl dX3_copyFrom_64 ?_
  refine lv_iconst (v := 0) hx hb dX3_copyFrom_67 (by decide) ?_
  refine lv_aload_n hx hb dX3_copyFrom_68 rfl (lv_at hl 0 rfl) ?_
  refine x_get (i := i) (k := 3) (j := j) (t := 7) hx hb hts i_3 hown hK hW ⟨hi, hj⟩ rfl ⟨by decide, by decide, rfl⟩ (hts (.fieldLink RX3 15 "OpticalJukebox$Platter" "sessionSizes" "[I") (by decide +kernel)) (v := .ref (adr i 17 j)) rfl dX3_copyFrom_69 ?_
  refine lv_iconst (v := 0) hx hb dX3_copyFrom_72 (by decide) ?_
  refine lv_bipush (v := 8) hx hb dX3_copyFrom_73 (by decide) ?_
  obtain ⟨sd9, e_sd9, hf⟩ := x_letE hf
  refine x_cpy (i := i) (k := 17) (j := j) (i2 := i2) (j2 := j2) (w' := wS (wS w i2 so) i sd9) hx hb (hml.trans hl.1.symm) hown (hts (.methodLink RX3 47 arraycopyName) (by decide +kernel)) (hts (.native arraycopyName) (by decide +kernel)) (hts (.static arraycopyName) (by decide +kernel)) (hts (.initialized "java/lang/System") (by decide +kernel)) hK hW ⟨hi2, hj2⟩ ⟨hi, hj⟩ hS (by decide) rfl (ct_S2 hne rfl (fun _ => rfl)) (ct_S rfl (fun _ => rfl)) rfl (by decide) (Nat.le_of_ble_eq_true rfl) (Nat.le_of_ble_eq_true rfl) dX3_copyFrom_75 (fc_S e_sd9 rfl hW) (fun H locs hW hS => ?_)
  refine lv_aload_n hx hb dX3_copyFrom_78 rfl (lv_at hl 1 rfl) ?_
  refine x_get (i := i2) (k := 3) (j := j2) (t := 8) hx hb hts i_3 hown hK hW ⟨hi2, hj2⟩ rfl ⟨by decide, by decide, rfl⟩ (hts (.fieldLink RX3 18 "OpticalJukebox$Platter" "badBits" "[I") (by decide +kernel)) (v := .ref (adr i2 18 j2)) rfl dX3_copyFrom_79 ?_
  refine lv_iconst (v := 0) hx hb dX3_copyFrom_82 (by decide) ?_
  refine lv_aload_n hx hb dX3_copyFrom_83 rfl (lv_at hl 0 rfl) ?_
  refine x_get (i := i) (k := 3) (j := j) (t := 8) hx hb hts i_3 hown hK hW ⟨hi, hj⟩ rfl ⟨by decide, by decide, rfl⟩ (hts (.fieldLink RX3 18 "OpticalJukebox$Platter" "badBits" "[I") (by decide +kernel)) (v := .ref (adr i 18 j)) rfl dX3_copyFrom_84 ?_
  refine lv_iconst (v := 0) hx hb dX3_copyFrom_87 (by decide) ?_
  refine lv_aload_n hx hb dX3_copyFrom_88 rfl (lv_at hl 0 rfl) ?_
  refine x_get (i := i) (k := 3) (j := j) (t := 8) hx hb hts i_3 hown hK hW ⟨hi, hj⟩ rfl ⟨by decide, by decide, rfl⟩ (hts (.fieldLink RX3 18 "OpticalJukebox$Platter" "badBits" "[I") (by decide +kernel)) (v := .ref (adr i 18 j)) rfl dX3_copyFrom_89 ?_
  refine x_alen (i := i) (k := 18) (j := j) hx hb hK hW ⟨hi, hj⟩ (by decide) (ty := .int) rfl (v := 10) rfl dX3_copyFrom_92 ?_
  obtain ⟨sd10, e_sd10, hf⟩ := x_letE hf
  refine x_cpy (i := i) (k := 18) (j := j) (i2 := i2) (j2 := j2) (w' := wS (wS w i2 so) i sd10) hx hb (hml.trans hl.1.symm) hown (hts (.methodLink RX3 47 arraycopyName) (by decide +kernel)) (hts (.native arraycopyName) (by decide +kernel)) (hts (.static arraycopyName) (by decide +kernel)) (hts (.initialized "java/lang/System") (by decide +kernel)) hK hW ⟨hi2, hj2⟩ ⟨hi, hj⟩ hS (by decide) rfl (ct_S2 hne rfl (fun _ => rfl)) (ct_S rfl (fun _ => rfl)) rfl (by decide) (Nat.le_of_ble_eq_true rfl) (Nat.le_of_ble_eq_true rfl) dX3_copyFrom_93 (fc_S e_sd10 rfl hW) (fun H locs hW hS => ?_)
  cases hf
  exact x_vret hx hb hr hlocks hK hW hS dX3_copyFrom_96
abbrev rm_X3_begin : Room := { frames := 1, cells := 0, slots := 0, locals := 23 }
set_option maxRecDepth 100000 in
set_option maxHeartbeats 4000000 in
theorem ct_X3_begin (l : Launch) (g : GT) (w : WT) (i : Nat) (hi : i ∈ k_S w.1) (sd : SD) (j : Nat) (hj : j < 10) (a1 : Int32) (a2 : Int32) (a3 : Int32) {q : SD} (hf : f_X3_begin sd j a1 a2 a3 = some q) : Met l yX3_begin wsX3_begin rm_X3_begin (cPre g (wS w i sd) [.ref (adr i 3 j), .int a1, .int a2, .int a3]) (cQv g (wS w i q)) 0 0 (gA g) := by
  have i_3 : ∀ w ∈ u_ws RX3 TX3 9, w ∈ wsX3_begin := by decide +kernel
  refine x_met (by decide) rfl (Nat.le_of_ble_eq_true rfl) ?_
  intro p e s m below meth c hx hb hr hml hts hown hlocks hK hW hS ls hl
  have hown : s.vm.findClass RX3 = some m.cls := hown
  have hl : lv_has ls 4 [(0, .ref (adr i 3 j)), (1, .int a1), (2, .int a2), (3, .int a3)] := hl
  rw [f_X3_begin] at hf
  refine lv_aload_n hx hb dX3_begin_0 rfl (lv_at hl 0 rfl) ?_
  refine lv_iload_n hx hb dX3_begin_1 rfl (lv_at hl 1 rfl) ?_
  obtain ⟨sd1, e_sd1, hf⟩ := x_letE hf
  refine x_put (i := i) (k := 3) (j := j) (t := 0) (w' := wS w i sd1) hx hb hts i_3 tyX3 tyX3_ok nmX3 hown hK hW ⟨hi, hj⟩ hS rfl ⟨by decide, by decide, rfl⟩ (hts (.fieldLink RX3 21 "OpticalJukebox$Platter" "home" "I") (by decide +kernel)) rfl (ty := .int) (by decide +kernel) rfl rfl ⟨rfl, rfl⟩ dX3_begin_2 (fp_S e_sd1 rfl) (fun H locs hW hS => ?_)
  refine lv_aload_n hx hb dX3_begin_5 rfl (lv_at hl 0 rfl) ?_
  refine lv_iload_n hx hb dX3_begin_6 rfl (lv_at hl 2 rfl) ?_
  obtain ⟨sd2, e_sd2, hf⟩ := x_letE hf
  refine x_put (i := i) (k := 3) (j := j) (t := 1) (w' := wS w i sd2) hx hb hts i_3 tyX3 tyX3_ok nmX3 hown hK hW ⟨hi, hj⟩ hS rfl ⟨by decide, by decide, rfl⟩ (hts (.fieldLink RX3 25 "OpticalJukebox$Platter" "capacity" "I") (by decide +kernel)) rfl (ty := .int) (by decide +kernel) rfl rfl ⟨rfl, rfl⟩ dX3_begin_7 (fp_S e_sd2 rfl) (fun H locs hW hS => ?_)
  refine lv_aload_n hx hb dX3_begin_10 rfl (lv_at hl 0 rfl) ?_
  refine lv_iload_n hx hb dX3_begin_11 rfl (lv_at hl 3 rfl) ?_
  obtain ⟨sd3, e_sd3, hf⟩ := x_letE hf
  refine x_put (i := i) (k := 3) (j := j) (t := 2) (w' := wS w i sd3) hx hb hts i_3 tyX3 tyX3_ok nmX3 hown hK hW ⟨hi, hj⟩ hS rfl ⟨by decide, by decide, rfl⟩ (hts (.fieldLink RX3 28 "OpticalJukebox$Platter" "spares" "I") (by decide +kernel)) rfl (ty := .int) (by decide +kernel) rfl rfl ⟨rfl, rfl⟩ dX3_begin_12 (fp_S e_sd3 rfl) (fun H locs hW hS => ?_)
  refine lv_aload_n hx hb dX3_begin_15 rfl (lv_at hl 0 rfl) ?_
  refine lv_iconst (v := 0) hx hb dX3_begin_16 (by decide) ?_
  obtain ⟨sd4, e_sd4, hf⟩ := x_letE hf
  refine x_put (i := i) (k := 3) (j := j) (t := 3) (w' := wS w i sd4) hx hb hts i_3 tyX3 tyX3_ok nmX3 hown hK hW ⟨hi, hj⟩ hS rfl ⟨by decide, by decide, rfl⟩ (hts (.fieldLink RX3 31 "OpticalJukebox$Platter" "end" "I") (by decide +kernel)) rfl (ty := .int) (by decide +kernel) rfl rfl ⟨rfl, rfl⟩ dX3_begin_17 (fp_S e_sd4 rfl) (fun H locs hW hS => ?_)
  refine lv_aload_n hx hb dX3_begin_20 rfl (lv_at hl 0 rfl) ?_
  refine lv_iconst (v := 0) hx hb dX3_begin_21 (by decide) ?_
  obtain ⟨sd5, e_sd5, hf⟩ := x_letE hf
  refine x_put (i := i) (k := 3) (j := j) (t := 4) (w' := wS w i sd5) hx hb hts i_3 tyX3 tyX3_ok nmX3 hown hK hW ⟨hi, hj⟩ hS rfl ⟨by decide, by decide, rfl⟩ (hts (.fieldLink RX3 34 "OpticalJukebox$Platter" "sessions" "I") (by decide +kernel)) rfl (ty := .int) (by decide +kernel) rfl rfl ⟨rfl, rfl⟩ dX3_begin_22 (fp_S e_sd5 rfl) (fun H locs hW hS => ?_)
  refine lv_aload_n hx hb dX3_begin_25 rfl (lv_at hl 0 rfl) ?_
  refine lv_iconst (v := 0) hx hb dX3_begin_26 (by decide) ?_
  obtain ⟨sd6, e_sd6, hf⟩ := x_letE hf
  refine x_put (i := i) (k := 3) (j := j) (t := 5) (w' := wS w i sd6) hx hb hts i_3 tyX3 tyX3_ok nmX3 hown hK hW ⟨hi, hj⟩ hS rfl ⟨by decide, by decide, rfl⟩ (hts (.fieldLink RX3 37 "OpticalJukebox$Platter" "open" "Z") (by decide +kernel)) rfl (ty := .boolean) (by decide +kernel) rfl rfl ⟨rfl, rfl⟩ dX3_begin_27 (fp_S e_sd6 rfl) (fun H locs hW hS => ?_)
  refine lv_aload_n hx hb dX3_begin_30 rfl (lv_at hl 0 rfl) ?_
  refine x_get (i := i) (k := 3) (j := j) (t := 8) hx hb hts i_3 hown hK hW ⟨hi, hj⟩ rfl ⟨by decide, by decide, rfl⟩ (hts (.fieldLink RX3 18 "OpticalJukebox$Platter" "badBits" "[I") (by decide +kernel)) (v := .ref (adr i 18 j)) rfl dX3_begin_31 ?_
  refine lv_iconst (v := 0) hx hb dX3_begin_34 (by decide) ?_
  obtain ⟨sd7, e_sd7, hf⟩ := x_letE hf
  refine x_cv0 (x_rS ⟨hx, hb, hml, hown, hts⟩ (ct_fill l g w i hi sd6 j hj (0 : Int32) e_sd7) (va_cwS 2 hts gX3_begin_J7_fill_53178 rfl rfl rfl (by decide +kernel) ⟨Nat.le_of_ble_eq_true rfl, Nat.le_of_ble_eq_true rfl⟩) hK hW hS rfl hl.1 (rest := []) rfl (Nat.le_of_ble_eq_true rfl) dX3_begin_35 ⟨Nat.le_of_ble_eq_true rfl, Nat.le_of_ble_eq_true rfl⟩) hS (fun H locs hW hS => ?_)
  cases hf
  exact x_vret hx hb hr hlocks hK hW hS dX3_begin_38
abbrev rm_X3_unused : Room := { frames := 0, cells := 0, slots := 0, locals := 0 }
set_option maxRecDepth 100000 in
set_option maxHeartbeats 4000000 in
theorem ct_X3_unused (l : Launch) (g : GT) (w : WT) (i : Nat) (hi : i ∈ k_S w.1) (sd : SD) (j : Nat) (hj : j < 10) {q : Int32} (hf : f_X3_unused sd j = some q) : Met l yX3_unused wsX3_unused rm_X3_unused (cPre g (wS w i sd) [.ref (adr i 3 j)]) (cQi g q (wS w i sd)) 0 0 (gA g) := by
  have i_3 : ∀ w ∈ u_ws RX3 TX3 9, w ∈ wsX3_unused := by decide +kernel
  refine x_met (by decide) rfl (Nat.le_of_ble_eq_true rfl) ?_
  intro p e s m below meth c hx hb hr hml hts hown hlocks hK hW hS ls hl
  have hown : s.vm.findClass RX3 = some m.cls := hown
  have hl : lv_has ls 1 [(0, .ref (adr i 3 j))] := hl
  rw [f_X3_unused] at hf
  refine lv_aload_n hx hb dX3_unused_0 rfl (lv_at hl 0 rfl) ?_
  refine x_get (i := i) (k := 3) (j := j) (t := 1) hx hb hts i_3 hown hK hW ⟨hi, hj⟩ rfl ⟨by decide, by decide, rfl⟩ (hts (.fieldLink RX3 25 "OpticalJukebox$Platter" "capacity" "I") (by decide +kernel)) (sv_S rfl (fun _ => rfl) rfl) dX3_unused_1 ?_
  refine lv_aload_n hx hb dX3_unused_4 rfl (lv_at hl 0 rfl) ?_
  refine x_get (i := i) (k := 3) (j := j) (t := 3) hx hb hts i_3 hown hK hW ⟨hi, hj⟩ rfl ⟨by decide, by decide, rfl⟩ (hts (.fieldLink RX3 31 "OpticalJukebox$Platter" "end" "I") (by decide +kernel)) (sv_S rfl (fun _ => rfl) rfl) dX3_unused_5 ?_
  refine lv_isub hx hb dX3_unused_8 ?_
  cases hf
  exact x_iret hx hb hr hlocks hK hW hS rfl dX3_unused_9
abbrev rm_X3_isBad : Room := { frames := 0, cells := 0, slots := 0, locals := 0 }
set_option maxRecDepth 100000 in
set_option maxHeartbeats 4000000 in
theorem ct_X3_isBad (l : Launch) (g : GT) (w : WT) (i : Nat) (hi : i ∈ k_S w.1) (sd : SD) (j : Nat) (hj : j < 10) (a1 : Int32) {q : Int32} (hf : f_X3_isBad sd j a1 = some q) : Met l yX3_isBad wsX3_isBad rm_X3_isBad (cPre g (wS w i sd) [.ref (adr i 3 j), .int a1]) (cQi g q (wS w i sd)) 0 0 (gA g) := by
  have i_3 : ∀ w ∈ u_ws RX3 TX3 9, w ∈ wsX3_isBad := by decide +kernel
  refine x_met (by decide) rfl (Nat.le_of_ble_eq_true rfl) ?_
  intro p e s m below meth c hx hb hr hml hts hown hlocks hK hW hS ls hl
  have hown : s.vm.findClass RX3 = some m.cls := hown
  have hl : lv_has ls 2 [(0, .ref (adr i 3 j)), (1, .int a1)] := hl
  rw [f_X3_isBad] at hf
  refine lv_iload_n hx hb dX3_isBad_0 rfl (lv_at hl 1 rfl) ?_
  refine lv_if_lt (tgt := 11) hx hb dX3_isBad_1 (by decide) (fun hc => ?_) (fun hc => ?_)
  · have hf := x_iteT hf hc
    refine lv_iconst (v := 0) hx hb dX3_isBad_11 (by decide) ?_
    cases hf
    exact x_zret hx hb hr hlocks hK hW hS (Or.inl rfl) rfl dX3_isBad_12
  · have hf := x_iteF hf hc
    refine lv_iload_n hx hb dX3_isBad_4 rfl (lv_at hl 1 rfl) ?_
    refine lv_sipush (v := 300) hx hb dX3_isBad_5 (by decide) ?_
    refine lv_icmp_lt (tgt := 13) hx hb dX3_isBad_8 (by decide) (fun hc => ?_) (fun hc => ?_)
    · have hf := x_iteT hf hc
      refine lv_aload_n hx hb dX3_isBad_13 rfl (lv_at hl 0 rfl) ?_
      refine x_get (i := i) (k := 3) (j := j) (t := 8) hx hb hts i_3 hown hK hW ⟨hi, hj⟩ rfl ⟨by decide, by decide, rfl⟩ (hts (.fieldLink RX3 18 "OpticalJukebox$Platter" "badBits" "[I") (by decide +kernel)) (v := .ref (adr i 18 j)) rfl dX3_isBad_14 ?_
      refine lv_iload_n hx hb dX3_isBad_17 rfl (lv_at hl 1 rfl) ?_
      refine lv_bipush (v := 32) hx hb dX3_isBad_18 (by decide) ?_
      refine lv_idiv hx hb dX3_isBad_20 (by decide) ?_
      obtain ⟨hg1, hf⟩ := x_guardE hf
      refine x_iald (i := i) (k := 18) (j := j) (f := sd 18 j) hx hb hK hW ⟨hi, hj⟩ (by decide) (ct_S rfl (fun _ => rfl)) rfl hg1 dX3_isBad_21 ?_
      refine lv_iload_n hx hb dX3_isBad_22 rfl (lv_at hl 1 rfl) ?_
      refine lv_bipush (v := 32) hx hb dX3_isBad_23 (by decide) ?_
      refine lv_irem hx hb dX3_isBad_25 (by decide) ?_
      refine lv_iushr hx hb dX3_isBad_26 rfl ?_
      refine lv_iconst (v := 1) hx hb dX3_isBad_27 (by decide) ?_
      refine lv_iand hx hb dX3_isBad_28 ?_
      refine lv_if_eq (tgt := 36) hx hb dX3_isBad_29 (by decide) (fun hc => ?_) (fun hc => ?_)
      · have hf := x_iteT hf hc
        refine lv_iconst (v := 0) hx hb dX3_isBad_36 (by decide) ?_
        cases hf
        exact x_zret hx hb hr hlocks hK hW hS (Or.inl rfl) rfl dX3_isBad_37
      · have hf := x_iteF hf hc
        refine lv_iconst (v := 1) hx hb dX3_isBad_32 (by decide) ?_
        refine lv_goto (tgt := 37) hx hb dX3_isBad_33 (by decide) ?_
        cases hf
        exact x_zret hx hb hr hlocks hK hW hS (Or.inr rfl) rfl dX3_isBad_37
    · have hf := x_iteF hf hc
      refine lv_iconst (v := 0) hx hb dX3_isBad_11 (by decide) ?_
      cases hf
      exact x_zret hx hb hr hlocks hK hW hS (Or.inl rfl) rfl dX3_isBad_12
abbrev rm_X3_setBad : Room := { frames := 0, cells := 0, slots := 0, locals := 0 }
set_option maxRecDepth 100000 in
set_option maxHeartbeats 4000000 in
theorem ct_X3_setBad (l : Launch) (g : GT) (w : WT) (i : Nat) (hi : i ∈ k_S w.1) (sd : SD) (j : Nat) (hj : j < 10) (a1 : Int32) {q : SD} (hf : f_X3_setBad sd j a1 = some q) : Met l yX3_setBad wsX3_setBad rm_X3_setBad (cPre g (wS w i sd) [.ref (adr i 3 j), .int a1]) (cQv g (wS w i q)) 0 0 (gA g) := by
  have i_3 : ∀ w ∈ u_ws RX3 TX3 9, w ∈ wsX3_setBad := by decide +kernel
  refine x_met (by decide) rfl (Nat.le_of_ble_eq_true rfl) ?_
  intro p e s m below meth c hx hb hr hml hts hown hlocks hK hW hS ls hl
  have hown : s.vm.findClass RX3 = some m.cls := hown
  have hl : lv_has ls 2 [(0, .ref (adr i 3 j)), (1, .int a1)] := hl
  rw [f_X3_setBad] at hf
  refine lv_iload_n hx hb dX3_setBad_0 rfl (lv_at hl 1 rfl) ?_
  refine lv_if_lt (tgt := 29) hx hb dX3_setBad_1 (by decide) (fun hc => ?_) (fun hc => ?_)
  · have hf := x_iteT hf hc
    cases hf
    exact x_vret hx hb hr hlocks hK hW hS dX3_setBad_29
  · have hf := x_iteF hf hc
    refine lv_iload_n hx hb dX3_setBad_4 rfl (lv_at hl 1 rfl) ?_
    refine lv_sipush (v := 300) hx hb dX3_setBad_5 (by decide) ?_
    refine lv_icmp_ge (tgt := 29) hx hb dX3_setBad_8 (by decide) (fun hc => ?_) (fun hc => ?_)
    · have hf := x_iteT hf hc
      cases hf
      exact x_vret hx hb hr hlocks hK hW hS dX3_setBad_29
    · have hf := x_iteF hf hc
      refine lv_aload_n hx hb dX3_setBad_11 rfl (lv_at hl 0 rfl) ?_
      refine x_get (i := i) (k := 3) (j := j) (t := 8) hx hb hts i_3 hown hK hW ⟨hi, hj⟩ rfl ⟨by decide, by decide, rfl⟩ (hts (.fieldLink RX3 18 "OpticalJukebox$Platter" "badBits" "[I") (by decide +kernel)) (v := .ref (adr i 18 j)) rfl dX3_setBad_12 ?_
      refine lv_iload_n hx hb dX3_setBad_15 rfl (lv_at hl 1 rfl) ?_
      refine lv_bipush (v := 32) hx hb dX3_setBad_16 (by decide) ?_
      refine lv_idiv hx hb dX3_setBad_18 (by decide) ?_
      refine lv_dup2_11 hx hb dX3_setBad_19 rfl rfl ?_
      obtain ⟨hg1, hf⟩ := x_guardE hf
      refine x_iald (i := i) (k := 18) (j := j) (f := sd 18 j) hx hb hK hW ⟨hi, hj⟩ (by decide) (ct_S rfl (fun _ => rfl)) rfl hg1 dX3_setBad_20 ?_
      refine lv_iconst (v := 1) hx hb dX3_setBad_21 (by decide) ?_
      refine lv_iload_n hx hb dX3_setBad_22 rfl (lv_at hl 1 rfl) ?_
      refine lv_bipush (v := 32) hx hb dX3_setBad_23 (by decide) ?_
      refine lv_irem hx hb dX3_setBad_25 (by decide) ?_
      refine lv_ishl hx hb dX3_setBad_26 ?_
      refine lv_ior hx hb dX3_setBad_27 ?_
      obtain ⟨hg2, hf⟩ := x_guardE hf
      obtain ⟨sd3, e_sd3, hf⟩ := x_letE hf
      refine x_iast (i := i) (k := 18) (j := j) (w' := wS w i sd3) hx hb hK hW ⟨hi, hj⟩ hS (by decide) rfl rfl rfl hg2 dX3_setBad_28 (fp_S e_sd3 rfl) (fun H locs hW hS => ?_)
      cases hf
      exact x_vret hx hb hr hlocks hK hW hS dX3_setBad_29
abbrev rm_X3_badAmongNext : Room := { frames := 1, cells := 0, slots := 0, locals := 21 }
set_option maxRecDepth 100000 in
set_option maxHeartbeats 4000000 in
theorem ct_X3_badAmongNext (l : Launch) (g : GT) (w : WT) (i : Nat) (hi : i ∈ k_S w.1) (sd : SD) (j : Nat) (hj : j < 10) (a1 : Int32) {q : Int32} (hf : f_X3_badAmongNext sd j a1 = some q) : Met l yX3_badAmongNext wsX3_badAmongNext rm_X3_badAmongNext (cPre g (wS w i sd) [.ref (adr i 3 j), .int a1]) (cQi g q (wS w i sd)) 0 0 (gA g) := by
  have i_3 : ∀ w ∈ u_ws RX3 TX3 9, w ∈ wsX3_badAmongNext := by decide +kernel
  refine x_met (by decide) rfl (Nat.le_of_ble_eq_true rfl) ?_
  intro p e s m below meth c hx hb hr hml hts hown hlocks hK hW hS ls hl
  have hown : s.vm.findClass RX3 = some m.cls := hown
  have hl : lv_has ls 4 [(0, .ref (adr i 3 j)), (1, .int a1)] := hl
  rw [f_X3_badAmongNext] at hf
  refine lv_iconst (v := 0) hx hb dX3_badAmongNext_0 (by decide) ?_
  refine lv_istore_n (lv' := [(2, .int (0 : Int32)), (0, .ref (adr i 3 j)), (1, .int a1)]) hx hb dX3_badAmongNext_1 rfl hl (by decide) rfl (fun ls hl => ?_)
  refine lv_aload_n hx hb dX3_badAmongNext_2 rfl (lv_at hl 1 rfl) ?_
  refine x_get (i := i) (k := 3) (j := j) (t := 3) hx hb hts i_3 hown hK hW ⟨hi, hj⟩ rfl ⟨by decide, by decide, rfl⟩ (hts (.fieldLink RX3 31 "OpticalJukebox$Platter" "end" "I") (by decide +kernel)) (sv_S rfl (fun _ => rfl) rfl) dX3_badAmongNext_3 ?_
  obtain ⟨x1, e_x1, hf⟩ := x_letE hf
  refine x_topi e_x1 ?_
  refine lv_istore_n (lv' := [(3, .int x1), (2, .int (0 : Int32)), (0, .ref (adr i 3 j)), (1, .int a1)]) hx hb dX3_badAmongNext_6 rfl hl (by decide) rfl (fun ls hl => ?_)
  have L7 : ∀ (n : Nat) (v2_7 : Int32) (v3_7 : Int32) (ls : Array Slot) (H : Heap) (locs : List Loc), lv_has ls 4 [(0, .ref (adr i 3 j)), (1, .int a1), (2, .int v2_7), (3, .int v3_7)] → World g (wS w i sd) H → va_S (gA g) s.heap H locs → f_X3_badAmongNext_L7 sd j a1 n v2_7 v3_7 = some q → W p l e rm_X3_badAmongNext s m [.ref (adr i 3 j), .int a1].toArray below meth c H locs 0 0 (MQ below (cQi g q (wS w i sd)) [.ref (adr i 3 j), .int a1].toArray s 0 0 (gA g)) (F0 m 7 ls []) := by
    clear hW hS hl
    intro n
    induction n with
    | zero => intro v2_7 v3_7 ls H locs hl hW hS hf; cases hf
    | succ n_7 ih =>
      intro v2_7 v3_7 ls H locs hl hW hS hf
      rw [f_X3_badAmongNext_L7] at hf
      refine lv_iload_n hx hb dX3_badAmongNext_7 rfl (lv_at hl 3 rfl) ?_
      refine lv_aload_n hx hb dX3_badAmongNext_8 rfl (lv_at hl 0 rfl) ?_
      refine x_get (i := i) (k := 3) (j := j) (t := 3) hx hb hts i_3 hown hK hW ⟨hi, hj⟩ rfl ⟨by decide, by decide, rfl⟩ (hts (.fieldLink RX3 31 "OpticalJukebox$Platter" "end" "I") (by decide +kernel)) (sv_S rfl (fun _ => rfl) rfl) dX3_badAmongNext_9 ?_
      refine lv_iload_n hx hb dX3_badAmongNext_12 rfl (lv_at hl 1 rfl) ?_
      refine lv_iadd hx hb dX3_badAmongNext_13 ?_
      refine lv_icmp_ge (tgt := 34) hx hb dX3_badAmongNext_14 (by decide) (fun hc => ?_) (fun hc => ?_)
      · have hf := x_iteT hf hc
        refine lv_iload_n hx hb dX3_badAmongNext_34 rfl (lv_at hl 2 rfl) ?_
        cases hf
        exact x_iret hx hb hr hlocks hK hW hS rfl dX3_badAmongNext_35
      · have hf := x_iteF hf hc
        refine lv_aload_n hx hb dX3_badAmongNext_17 rfl (lv_at hl 0 rfl) ?_
        refine lv_iload_n hx hb dX3_badAmongNext_18 rfl (lv_at hl 3 rfl) ?_
        obtain ⟨q2, h_q2, hf⟩ := x_bindE hf
        refine x_ci0 (x_rV ⟨hx, hb, hml, hown, hts⟩ (ct_X3_isBad l g w i hi sd (j) (hj) (v3_7) h_q2) (cwV 1 hts gX3_badAmongNext_X3_isBad rfl rfl rfl (by decide +kernel) ⟨Nat.le_of_ble_eq_true rfl, Nat.le_of_ble_eq_true rfl⟩) hK hW hS (x_recv (i := i) (k := 3) (j := j) hK hW ⟨hi, hj⟩ rfl (by decide)) rfl hl.1 (rest := []) rfl (Nat.le_of_ble_eq_true rfl) dX3_badAmongNext_19 ⟨Nat.le_of_ble_eq_true rfl, Nat.le_of_ble_eq_true rfl⟩) hS (fun H locs hW hS => ?_)
        have hW : World g (wS w i sd) H := hW
        refine W.eq (g2 := F0 m 22 ls [.int q2]) rfl ?_
        refine lv_if_eq (tgt := 28) hx hb dX3_badAmongNext_22 (by decide) (fun hc => ?_) (fun hc => ?_)
        · have hf := x_iteT hf hc
          obtain ⟨x3, e_x3, hf⟩ := x_letE hf
          refine lv_iinc (v := x3) (lv' := [(3, .int x3), (0, .ref (adr i 3 j)), (1, .int a1), (2, .int v2_7)]) hx hb dX3_badAmongNext_28 hl (k := 3) rfl (by rw [e_x3]; rfl) (by decide) rfl (fun ls hl => ?_)
          refine lv_goto (tgt := 7) hx hb dX3_badAmongNext_31 (by decide) ?_
          exact ih (v2_7) (x3) ls _ _ (lv_sub hl [1, 2, 3, 0] rfl) hW hS hf
        · have hf := x_iteF hf hc
          obtain ⟨x4, e_x4, hf⟩ := x_letE hf
          refine lv_iinc (v := x4) (lv' := [(2, .int x4), (0, .ref (adr i 3 j)), (1, .int a1), (3, .int v3_7)]) hx hb dX3_badAmongNext_25 hl (k := 2) rfl (by rw [e_x4]; rfl) (by decide) rfl (fun ls hl => ?_)
          obtain ⟨x5, e_x5, hf⟩ := x_letE hf
          refine lv_iinc (v := x5) (lv' := [(3, .int x5), (2, .int x4), (0, .ref (adr i 3 j)), (1, .int a1)]) hx hb dX3_badAmongNext_28 hl (k := 3) rfl (by rw [e_x5]; rfl) (by decide) rfl (fun ls hl => ?_)
          refine lv_goto (tgt := 7) hx hb dX3_badAmongNext_31 (by decide) ?_
          exact ih (x4) (x5) ls _ _ (lv_sub hl [2, 3, 1, 0] rfl) hW hS hf
  exact L7 fuel ((0 : Int32)) (x1) ls _ _ (lv_sub hl [2, 3, 1, 0] rfl) hW hS hf
abbrev rm_X3_canTake : Room := { frames := 2, cells := 0, slots := 0, locals := 44 }
set_option maxRecDepth 100000 in
set_option maxHeartbeats 4000000 in
theorem ct_X3_canTake (l : Launch) (g : GT) (w : WT) (i : Nat) (hi : i ∈ k_S w.1) (sd : SD) (j : Nat) (hj : j < 10) (a1 : Int32) {q : Int32} (hf : f_X3_canTake sd j a1 = some q) : Met l yX3_canTake wsX3_canTake rm_X3_canTake (cPre g (wS w i sd) [.ref (adr i 3 j), .int a1]) (cQi g q (wS w i sd)) 0 0 (gA g) := by
  have i_3 : ∀ w ∈ u_ws RX3 TX3 9, w ∈ wsX3_canTake := by decide +kernel
  refine x_met (by decide) rfl (Nat.le_of_ble_eq_true rfl) ?_
  intro p e s m below meth c hx hb hr hml hts hown hlocks hK hW hS ls hl
  have hown : s.vm.findClass RX3 = some m.cls := hown
  have hl : lv_has ls 2 [(0, .ref (adr i 3 j)), (1, .int a1)] := hl
  rw [f_X3_canTake] at hf
  refine lv_aload_n hx hb dX3_canTake_0 rfl (lv_at hl 0 rfl) ?_
  refine x_get (i := i) (k := 3) (j := j) (t := 5) hx hb hts i_3 hown hK hW ⟨hi, hj⟩ rfl ⟨by decide, by decide, rfl⟩ (hts (.fieldLink RX3 37 "OpticalJukebox$Platter" "open" "Z") (by decide +kernel)) (sv_S rfl (fun _ => rfl) rfl) dX3_canTake_1 ?_
  obtain ⟨K1, eK1, hf⟩ := x_letE hf
  have KK1 : ∀ (_u : Unit) (ls : Array Slot) (H : Heap) (locs : List Loc), lv_has ls 2 [(0, .ref (adr i 3 j)), (1, .int a1)] → World g (wS w i sd) H → va_S (gA g) s.heap H locs → K1 _u = some q → W p l e rm_X3_canTake s m [.ref (adr i 3 j), .int a1].toArray below meth c H locs 0 0 (MQ below (cQi g q (wS w i sd)) [.ref (adr i 3 j), .int a1].toArray s 0 0 (gA g)) (F0 m 18 ls []) := by
    intro _u ls H locs hl hW hS hf
    subst eK1
    refine lv_iload_n hx hb dX3_canTake_18 rfl (lv_at hl 1 rfl) ?_
    refine lv_aload_n hx hb dX3_canTake_19 rfl (lv_at hl 0 rfl) ?_
    obtain ⟨q2, h_q2, hf⟩ := x_bindE hf
    refine x_ci0 (x_rV ⟨hx, hb, hml, hown, hts⟩ (ct_X3_unused l g w i hi sd (j) (hj) h_q2) (cwV 0 hts gX3_canTake_X3_unused rfl rfl rfl (by decide +kernel) ⟨Nat.le_of_ble_eq_true rfl, Nat.le_of_ble_eq_true rfl⟩) hK hW hS (x_recv (i := i) (k := 3) (j := j) hK hW ⟨hi, hj⟩ rfl (by decide)) rfl hl.1 (rest := [.int a1]) rfl (Nat.le_of_ble_eq_true rfl) dX3_canTake_20 ⟨Nat.le_of_ble_eq_true rfl, Nat.le_of_ble_eq_true rfl⟩) hS (fun H locs hW hS => ?_)
    have hW : World g (wS w i sd) H := hW
    refine W.eq (g2 := F0 m 23 ls [.int q2, .int a1]) rfl ?_
    refine lv_icmp_gt (tgt := 42) hx hb dX3_canTake_23 (by decide) (fun hc => ?_) (fun hc => ?_)
    · have hf := x_iteT hf hc
      refine lv_iconst (v := 0) hx hb dX3_canTake_42 (by decide) ?_
      cases hf
      exact x_zret hx hb hr hlocks hK hW hS (Or.inl rfl) rfl dX3_canTake_43
    · have hf := x_iteF hf hc
      refine lv_aload_n hx hb dX3_canTake_26 rfl (lv_at hl 0 rfl) ?_
      refine lv_iload_n hx hb dX3_canTake_27 rfl (lv_at hl 1 rfl) ?_
      obtain ⟨q3, h_q3, hf⟩ := x_bindE hf
      refine x_ci0 (x_rV ⟨hx, hb, hml, hown, hts⟩ (ct_X3_badAmongNext l g w i hi sd (j) (hj) (a1) h_q3) (cwV 1 hts gX3_canTake_X3_badAmongNext rfl rfl rfl (by decide +kernel) ⟨Nat.le_of_ble_eq_true rfl, Nat.le_of_ble_eq_true rfl⟩) hK hW hS (x_recv (i := i) (k := 3) (j := j) hK hW ⟨hi, hj⟩ rfl (by decide)) rfl hl.1 (rest := []) rfl (Nat.le_of_ble_eq_true rfl) dX3_canTake_28 ⟨Nat.le_of_ble_eq_true rfl, Nat.le_of_ble_eq_true rfl⟩) hS (fun H locs hW hS => ?_)
      have hW : World g (wS w i sd) H := hW
      refine W.eq (g2 := F0 m 31 ls [.int q3]) rfl ?_
      refine lv_aload_n hx hb dX3_canTake_31 rfl (lv_at hl 0 rfl) ?_
      refine x_get (i := i) (k := 3) (j := j) (t := 2) hx hb hts i_3 hown hK hW ⟨hi, hj⟩ rfl ⟨by decide, by decide, rfl⟩ (hts (.fieldLink RX3 28 "OpticalJukebox$Platter" "spares" "I") (by decide +kernel)) (sv_S rfl (fun _ => rfl) rfl) dX3_canTake_32 ?_
      refine lv_icmp_gt (tgt := 42) hx hb dX3_canTake_35 (by decide) (fun hc => ?_) (fun hc => ?_)
      · have hf := x_iteT hf hc
        refine lv_iconst (v := 0) hx hb dX3_canTake_42 (by decide) ?_
        cases hf
        exact x_zret hx hb hr hlocks hK hW hS (Or.inl rfl) rfl dX3_canTake_43
      · have hf := x_iteF hf hc
        refine lv_iconst (v := 1) hx hb dX3_canTake_38 (by decide) ?_
        refine lv_goto (tgt := 43) hx hb dX3_canTake_39 (by decide) ?_
        cases hf
        exact x_zret hx hb hr hlocks hK hW hS (Or.inr rfl) rfl dX3_canTake_43
  clear eK1
  refine lv_if_ne (tgt := 18) hx hb dX3_canTake_4 (by decide) (fun hc => ?_) (fun hc => ?_)
  · have hf := x_iteF hf hc
    exact KK1 (()) ls _ _ hl hW hS hf
  · have hf := x_iteT hf hc
    refine lv_aload_n hx hb dX3_canTake_7 rfl (lv_at hl 0 rfl) ?_
    refine x_get (i := i) (k := 3) (j := j) (t := 4) hx hb hts i_3 hown hK hW ⟨hi, hj⟩ rfl ⟨by decide, by decide, rfl⟩ (hts (.fieldLink RX3 34 "OpticalJukebox$Platter" "sessions" "I") (by decide +kernel)) (sv_S rfl (fun _ => rfl) rfl) dX3_canTake_8 ?_
    refine lv_bipush (v := 8) hx hb dX3_canTake_11 (by decide) ?_
    refine lv_icmp_lt (tgt := 18) hx hb dX3_canTake_13 (by decide) (fun hc => ?_) (fun hc => ?_)
    · have hf := x_iteT hf hc
      exact KK1 (()) ls _ _ hl hW hS hf
    · have hf := x_iteF hf hc
      refine lv_iconst (v := 0) hx hb dX3_canTake_16 (by decide) ?_
      cases hf
      exact x_zret hx hb hr hlocks hK hW hS (Or.inl rfl) rfl dX3_canTake_17
abbrev rm_X3_extendLastSession : Room := { frames := 0, cells := 0, slots := 0, locals := 0 }
set_option maxRecDepth 100000 in
set_option maxHeartbeats 4000000 in
theorem ct_X3_extendLastSession (l : Launch) (g : GT) (w : WT) (i : Nat) (hi : i ∈ k_S w.1) (sd : SD) (j : Nat) (hj : j < 10) (a1 : Int32) {q : SD} (hf : f_X3_extendLastSession sd j a1 = some q) : Met l yX3_extendLastSession wsX3_extendLastSession rm_X3_extendLastSession (cPre g (wS w i sd) [.ref (adr i 3 j), .int a1]) (cQv g (wS w i q)) 0 0 (gA g) := by
  have i_3 : ∀ w ∈ u_ws RX3 TX3 9, w ∈ wsX3_extendLastSession := by decide +kernel
  refine x_met (by decide) rfl (Nat.le_of_ble_eq_true rfl) ?_
  intro p e s m below meth c hx hb hr hml hts hown hlocks hK hW hS ls hl
  have hown : s.vm.findClass RX3 = some m.cls := hown
  have hl : lv_has ls 2 [(0, .ref (adr i 3 j)), (1, .int a1)] := hl
  rw [f_X3_extendLastSession] at hf
  refine lv_aload_n hx hb dX3_extendLastSession_0 rfl (lv_at hl 0 rfl) ?_
  refine x_get (i := i) (k := 3) (j := j) (t := 4) hx hb hts i_3 hown hK hW ⟨hi, hj⟩ rfl ⟨by decide, by decide, rfl⟩ (hts (.fieldLink RX3 34 "OpticalJukebox$Platter" "sessions" "I") (by decide +kernel)) (sv_S rfl (fun _ => rfl) rfl) dX3_extendLastSession_1 ?_
  refine lv_if_le (tgt := 41) hx hb dX3_extendLastSession_4 (by decide) (fun hc => ?_) (fun hc => ?_)
  · have hf := x_iteT hf hc
    cases hf
    exact x_vret hx hb hr hlocks hK hW hS dX3_extendLastSession_41
  · have hf := x_iteF hf hc
    refine lv_aload_n hx hb dX3_extendLastSession_7 rfl (lv_at hl 0 rfl) ?_
    refine x_get (i := i) (k := 3) (j := j) (t := 4) hx hb hts i_3 hown hK hW ⟨hi, hj⟩ rfl ⟨by decide, by decide, rfl⟩ (hts (.fieldLink RX3 34 "OpticalJukebox$Platter" "sessions" "I") (by decide +kernel)) (sv_S rfl (fun _ => rfl) rfl) dX3_extendLastSession_8 ?_
    refine lv_bipush (v := 8) hx hb dX3_extendLastSession_11 (by decide) ?_
    refine lv_icmp_gt (tgt := 41) hx hb dX3_extendLastSession_13 (by decide) (fun hc => ?_) (fun hc => ?_)
    · have hf := x_iteT hf hc
      cases hf
      exact x_vret hx hb hr hlocks hK hW hS dX3_extendLastSession_41
    · have hf := x_iteF hf hc
      refine lv_aload_n hx hb dX3_extendLastSession_16 rfl (lv_at hl 0 rfl) ?_
      refine x_get (i := i) (k := 3) (j := j) (t := 7) hx hb hts i_3 hown hK hW ⟨hi, hj⟩ rfl ⟨by decide, by decide, rfl⟩ (hts (.fieldLink RX3 15 "OpticalJukebox$Platter" "sessionSizes" "[I") (by decide +kernel)) (v := .ref (adr i 17 j)) rfl dX3_extendLastSession_17 ?_
      refine lv_aload_n hx hb dX3_extendLastSession_20 rfl (lv_at hl 0 rfl) ?_
      refine x_get (i := i) (k := 3) (j := j) (t := 4) hx hb hts i_3 hown hK hW ⟨hi, hj⟩ rfl ⟨by decide, by decide, rfl⟩ (hts (.fieldLink RX3 34 "OpticalJukebox$Platter" "sessions" "I") (by decide +kernel)) (sv_S rfl (fun _ => rfl) rfl) dX3_extendLastSession_21 ?_
      refine lv_iconst (v := 1) hx hb dX3_extendLastSession_24 (by decide) ?_
      refine lv_isub hx hb dX3_extendLastSession_25 ?_
      refine lv_dup2_11 hx hb dX3_extendLastSession_26 rfl rfl ?_
      obtain ⟨hg1, hf⟩ := x_guardE hf
      refine x_iald (i := i) (k := 17) (j := j) (f := sd 17 j) hx hb hK hW ⟨hi, hj⟩ (by decide) (ct_S rfl (fun _ => rfl)) rfl hg1 dX3_extendLastSession_27 ?_
      refine lv_iload_n hx hb dX3_extendLastSession_28 rfl (lv_at hl 1 rfl) ?_
      refine lv_iadd hx hb dX3_extendLastSession_29 ?_
      obtain ⟨hg2, hf⟩ := x_guardE hf
      obtain ⟨sd3, e_sd3, hf⟩ := x_letE hf
      refine x_iast (i := i) (k := 17) (j := j) (w' := wS w i sd3) hx hb hK hW ⟨hi, hj⟩ hS (by decide) rfl rfl rfl hg2 dX3_extendLastSession_30 (fp_S e_sd3 rfl) (fun H locs hW hS => ?_)
      refine lv_aload_n hx hb dX3_extendLastSession_31 rfl (lv_at hl 0 rfl) ?_
      refine lv_dup hx hb dX3_extendLastSession_32 rfl ?_
      refine x_get (i := i) (k := 3) (j := j) (t := 3) hx hb hts i_3 hown hK hW ⟨hi, hj⟩ rfl ⟨by decide, by decide, rfl⟩ (hts (.fieldLink RX3 31 "OpticalJukebox$Platter" "end" "I") (by decide +kernel)) (sv_S rfl (fun _ => rfl) rfl) dX3_extendLastSession_33 ?_
      refine lv_iload_n hx hb dX3_extendLastSession_36 rfl (lv_at hl 1 rfl) ?_
      refine lv_iadd hx hb dX3_extendLastSession_37 ?_
      obtain ⟨sd4, e_sd4, hf⟩ := x_letE hf
      refine x_put (i := i) (k := 3) (j := j) (t := 3) (w' := wS w i sd4) hx hb hts i_3 tyX3 tyX3_ok nmX3 hown hK hW ⟨hi, hj⟩ hS rfl ⟨by decide, by decide, rfl⟩ (hts (.fieldLink RX3 31 "OpticalJukebox$Platter" "end" "I") (by decide +kernel)) rfl (ty := .int) (by decide +kernel) rfl rfl ⟨rfl, rfl⟩ dX3_extendLastSession_38 (fp_S e_sd4 rfl) (fun H locs hW hS => ?_)
      cases hf
      exact x_vret hx hb hr hlocks hK hW hS dX3_extendLastSession_41
abbrev rm_X3_takeSectors : Room := { frames := 1, cells := 0, slots := 0, locals := 21 }
set_option maxRecDepth 100000 in
set_option maxHeartbeats 4000000 in
theorem ct_X3_takeSectors (l : Launch) (g : GT) (w : WT) (i : Nat) (hi : i ∈ k_S w.1) (sd : SD) (j : Nat) (hj : j < 10) (a1 : Int32) (a2 : Int32) {q : SD} (hf : f_X3_takeSectors sd j a1 a2 = some q) : Met l yX3_takeSectors wsX3_takeSectors rm_X3_takeSectors (cPre g (wS w i sd) [.ref (adr i 3 j), .int a1, .int a2]) (cQv g (wS w i q)) 0 0 (gA g) := by
  have i_3 : ∀ w ∈ u_ws RX3 TX3 9, w ∈ wsX3_takeSectors := by decide +kernel
  refine x_met (by decide) rfl (Nat.le_of_ble_eq_true rfl) ?_
  intro p e s m below meth c hx hb hr hml hts hown hlocks hK hW hS ls hl
  have hown : s.vm.findClass RX3 = some m.cls := hown
  have hl : lv_has ls 3 [(0, .ref (adr i 3 j)), (1, .int a1), (2, .int a2)] := hl
  rw [f_X3_takeSectors] at hf
  refine lv_aload_n hx hb dX3_takeSectors_0 rfl (lv_at hl 0 rfl) ?_
  refine x_get (i := i) (k := 3) (j := j) (t := 5) hx hb hts i_3 hown hK hW ⟨hi, hj⟩ rfl ⟨by decide, by decide, rfl⟩ (hts (.fieldLink RX3 37 "OpticalJukebox$Platter" "open" "Z") (by decide +kernel)) (sv_S rfl (fun _ => rfl) rfl) dX3_takeSectors_1 ?_
  obtain ⟨K1, eK1, hf⟩ := x_letE hf
  have KK1 : ∀ (sd2 : SD) (ls : Array Slot) (H : Heap) (locs : List Loc), lv_has ls 3 [(0, .ref (adr i 3 j)), (1, .int a1), (2, .int a2)] → World g (wS w i sd2) H → va_S (gA g) s.heap H locs → K1 sd2 = some q → W p l e rm_X3_takeSectors s m [.ref (adr i 3 j), .int a1, .int a2].toArray below meth c H locs 0 0 (MQ below (cQv g (wS w i q)) [.ref (adr i 3 j), .int a1, .int a2].toArray s 0 0 (gA g)) (F0 m 54 ls []) := by
    intro sd2 ls H locs hl hW hS hf
    subst eK1
    refine lv_aload_n hx hb dX3_takeSectors_54 rfl (lv_at hl 0 rfl) ?_
    refine lv_dup hx hb dX3_takeSectors_55 rfl ?_
    refine x_get (i := i) (k := 3) (j := j) (t := 2) hx hb hts i_3 hown hK hW ⟨hi, hj⟩ rfl ⟨by decide, by decide, rfl⟩ (hts (.fieldLink RX3 28 "OpticalJukebox$Platter" "spares" "I") (by decide +kernel)) (sv_S rfl (fun _ => rfl) rfl) dX3_takeSectors_56 ?_
    refine lv_iload_n hx hb dX3_takeSectors_59 rfl (lv_at hl 2 rfl) ?_
    refine lv_isub hx hb dX3_takeSectors_60 ?_
    obtain ⟨sd3, e_sd3, hf⟩ := x_letE hf
    refine x_put (i := i) (k := 3) (j := j) (t := 2) (w' := wS w i sd3) hx hb hts i_3 tyX3 tyX3_ok nmX3 hown hK hW ⟨hi, hj⟩ hS rfl ⟨by decide, by decide, rfl⟩ (hts (.fieldLink RX3 28 "OpticalJukebox$Platter" "spares" "I") (by decide +kernel)) rfl (ty := .int) (by decide +kernel) rfl rfl ⟨rfl, rfl⟩ dX3_takeSectors_61 (fp_S e_sd3 rfl) (fun H locs hW hS => ?_)
    refine lv_aload_n hx hb dX3_takeSectors_64 rfl (lv_at hl 0 rfl) ?_
    refine lv_iload_n hx hb dX3_takeSectors_65 rfl (lv_at hl 1 rfl) ?_
    obtain ⟨q4, h_q4, hf⟩ := x_bindE hf
    refine x_cv0 (x_rV ⟨hx, hb, hml, hown, hts⟩ (ct_X3_extendLastSession l g w i hi sd3 (j) (hj) (a1) h_q4) (cwV 1 hts gX3_takeSectors_X3_extendLastSession rfl rfl rfl (by decide +kernel) ⟨Nat.le_of_ble_eq_true rfl, Nat.le_of_ble_eq_true rfl⟩) hK hW hS (x_recv (i := i) (k := 3) (j := j) hK hW ⟨hi, hj⟩ rfl (by decide)) rfl hl.1 (rest := []) rfl (Nat.le_of_ble_eq_true rfl) dX3_takeSectors_66 ⟨Nat.le_of_ble_eq_true rfl, Nat.le_of_ble_eq_true rfl⟩) hS (fun H locs hW hS => ?_)
    have hW : World g (wS w i q4) H := hW
    cases hf
    exact x_vret hx hb hr hlocks hK hW hS dX3_takeSectors_69
  clear eK1
  refine lv_if_ne (tgt := 54) hx hb dX3_takeSectors_4 (by decide) (fun hc => ?_) (fun hc => ?_)
  · have hf := x_iteF hf hc
    exact KK1 (sd) ls _ _ hl hW hS hf
  · have hf := x_iteT hf hc
    refine lv_aload_n hx hb dX3_takeSectors_7 rfl (lv_at hl 0 rfl) ?_
    refine x_get (i := i) (k := 3) (j := j) (t := 4) hx hb hts i_3 hown hK hW ⟨hi, hj⟩ rfl ⟨by decide, by decide, rfl⟩ (hts (.fieldLink RX3 34 "OpticalJukebox$Platter" "sessions" "I") (by decide +kernel)) (sv_S rfl (fun _ => rfl) rfl) dX3_takeSectors_8 ?_
    refine lv_bipush (v := 8) hx hb dX3_takeSectors_11 (by decide) ?_
    refine lv_icmp_ge (tgt := 54) hx hb dX3_takeSectors_13 (by decide) (fun hc => ?_) (fun hc => ?_)
    · have hf := x_iteT hf hc
      exact KK1 (sd) ls _ _ hl hW hS hf
    · have hf := x_iteF hf hc
      refine lv_aload_n hx hb dX3_takeSectors_16 rfl (lv_at hl 0 rfl) ?_
      refine x_get (i := i) (k := 3) (j := j) (t := 6) hx hb hts i_3 hown hK hW ⟨hi, hj⟩ rfl ⟨by decide, by decide, rfl⟩ (hts (.fieldLink RX3 9 "OpticalJukebox$Platter" "sessionStarts" "[I") (by decide +kernel)) (v := .ref (adr i 16 j)) rfl dX3_takeSectors_17 ?_
      refine lv_aload_n hx hb dX3_takeSectors_20 rfl (lv_at hl 0 rfl) ?_
      refine x_get (i := i) (k := 3) (j := j) (t := 4) hx hb hts i_3 hown hK hW ⟨hi, hj⟩ rfl ⟨by decide, by decide, rfl⟩ (hts (.fieldLink RX3 34 "OpticalJukebox$Platter" "sessions" "I") (by decide +kernel)) (sv_S rfl (fun _ => rfl) rfl) dX3_takeSectors_21 ?_
      refine lv_aload_n hx hb dX3_takeSectors_24 rfl (lv_at hl 0 rfl) ?_
      refine x_get (i := i) (k := 3) (j := j) (t := 3) hx hb hts i_3 hown hK hW ⟨hi, hj⟩ rfl ⟨by decide, by decide, rfl⟩ (hts (.fieldLink RX3 31 "OpticalJukebox$Platter" "end" "I") (by decide +kernel)) (sv_S rfl (fun _ => rfl) rfl) dX3_takeSectors_25 ?_
      obtain ⟨hg5, hf⟩ := x_guardE hf
      obtain ⟨sd6, e_sd6, hf⟩ := x_letE hf
      refine x_iast (i := i) (k := 16) (j := j) (w' := wS w i sd6) hx hb hK hW ⟨hi, hj⟩ hS (by decide) rfl rfl rfl hg5 dX3_takeSectors_28 (fp_S e_sd6 rfl) (fun H locs hW hS => ?_)
      refine lv_aload_n hx hb dX3_takeSectors_29 rfl (lv_at hl 0 rfl) ?_
      refine x_get (i := i) (k := 3) (j := j) (t := 7) hx hb hts i_3 hown hK hW ⟨hi, hj⟩ rfl ⟨by decide, by decide, rfl⟩ (hts (.fieldLink RX3 15 "OpticalJukebox$Platter" "sessionSizes" "[I") (by decide +kernel)) (v := .ref (adr i 17 j)) rfl dX3_takeSectors_30 ?_
      refine lv_aload_n hx hb dX3_takeSectors_33 rfl (lv_at hl 0 rfl) ?_
      refine x_get (i := i) (k := 3) (j := j) (t := 4) hx hb hts i_3 hown hK hW ⟨hi, hj⟩ rfl ⟨by decide, by decide, rfl⟩ (hts (.fieldLink RX3 34 "OpticalJukebox$Platter" "sessions" "I") (by decide +kernel)) (sv_S rfl (fun _ => rfl) rfl) dX3_takeSectors_34 ?_
      refine lv_iconst (v := 0) hx hb dX3_takeSectors_37 (by decide) ?_
      obtain ⟨hg7, hf⟩ := x_guardE hf
      obtain ⟨sd8, e_sd8, hf⟩ := x_letE hf
      refine x_iast (i := i) (k := 17) (j := j) (w' := wS w i sd8) hx hb hK hW ⟨hi, hj⟩ hS (by decide) rfl rfl rfl hg7 dX3_takeSectors_38 (fp_S e_sd8 rfl) (fun H locs hW hS => ?_)
      refine lv_aload_n hx hb dX3_takeSectors_39 rfl (lv_at hl 0 rfl) ?_
      refine lv_dup hx hb dX3_takeSectors_40 rfl ?_
      refine x_get (i := i) (k := 3) (j := j) (t := 4) hx hb hts i_3 hown hK hW ⟨hi, hj⟩ rfl ⟨by decide, by decide, rfl⟩ (hts (.fieldLink RX3 34 "OpticalJukebox$Platter" "sessions" "I") (by decide +kernel)) (sv_S rfl (fun _ => rfl) rfl) dX3_takeSectors_41 ?_
      refine lv_iconst (v := 1) hx hb dX3_takeSectors_44 (by decide) ?_
      refine lv_iadd hx hb dX3_takeSectors_45 ?_
      obtain ⟨sd9, e_sd9, hf⟩ := x_letE hf
      refine x_put (i := i) (k := 3) (j := j) (t := 4) (w' := wS w i sd9) hx hb hts i_3 tyX3 tyX3_ok nmX3 hown hK hW ⟨hi, hj⟩ hS rfl ⟨by decide, by decide, rfl⟩ (hts (.fieldLink RX3 34 "OpticalJukebox$Platter" "sessions" "I") (by decide +kernel)) rfl (ty := .int) (by decide +kernel) rfl rfl ⟨rfl, rfl⟩ dX3_takeSectors_46 (fp_S e_sd9 rfl) (fun H locs hW hS => ?_)
      refine lv_aload_n hx hb dX3_takeSectors_49 rfl (lv_at hl 0 rfl) ?_
      refine lv_iconst (v := 1) hx hb dX3_takeSectors_50 (by decide) ?_
      obtain ⟨sd10, e_sd10, hf⟩ := x_letE hf
      refine x_put (i := i) (k := 3) (j := j) (t := 5) (w' := wS w i sd10) hx hb hts i_3 tyX3 tyX3_ok nmX3 hown hK hW ⟨hi, hj⟩ hS rfl ⟨by decide, by decide, rfl⟩ (hts (.fieldLink RX3 37 "OpticalJukebox$Platter" "open" "Z") (by decide +kernel)) rfl (ty := .boolean) (by decide +kernel) rfl rfl ⟨rfl, rfl⟩ dX3_takeSectors_51 (fp_S e_sd10 rfl) (fun H locs hW hS => ?_)
      exact KK1 (sd10) ls _ _ hl hW hS hf
abbrev rm_X3_addLeadOut : Room := { frames := 1, cells := 0, slots := 0, locals := 21 }
set_option maxRecDepth 100000 in
set_option maxHeartbeats 4000000 in
theorem ct_X3_addLeadOut (l : Launch) (g : GT) (w : WT) (i : Nat) (hi : i ∈ k_S w.1) (sd : SD) (j : Nat) (hj : j < 10) {q : (Int32 × SD)} (hf : f_X3_addLeadOut sd j = some q) : Met l yX3_addLeadOut wsX3_addLeadOut rm_X3_addLeadOut (cPre g (wS w i sd) [.ref (adr i 3 j)]) (cQi g q.1 (wS w i q.2)) 0 0 (gA g) := by
  have i_3 : ∀ w ∈ u_ws RX3 TX3 9, w ∈ wsX3_addLeadOut := by decide +kernel
  refine x_met (by decide) rfl (Nat.le_of_ble_eq_true rfl) ?_
  intro p e s m below meth c hx hb hr hml hts hown hlocks hK hW hS ls hl
  have hown : s.vm.findClass RX3 = some m.cls := hown
  have hl : lv_has ls 2 [(0, .ref (adr i 3 j))] := hl
  rw [f_X3_addLeadOut] at hf
  refine lv_iconst (v := 2) hx hb dX3_addLeadOut_0 (by decide) ?_
  refine lv_aload_n hx hb dX3_addLeadOut_1 rfl (lv_at hl 0 rfl) ?_
  obtain ⟨q1, h_q1, hf⟩ := x_bindE hf
  refine x_ci0 (x_rV ⟨hx, hb, hml, hown, hts⟩ (ct_X3_unused l g w i hi sd (j) (hj) h_q1) (cwV 0 hts gX3_addLeadOut_X3_unused rfl rfl rfl (by decide +kernel) ⟨Nat.le_of_ble_eq_true rfl, Nat.le_of_ble_eq_true rfl⟩) hK hW hS (x_recv (i := i) (k := 3) (j := j) hK hW ⟨hi, hj⟩ rfl (by decide)) rfl hl.1 (rest := [.int (2 : Int32)]) rfl (Nat.le_of_ble_eq_true rfl) dX3_addLeadOut_2 ⟨Nat.le_of_ble_eq_true rfl, Nat.le_of_ble_eq_true rfl⟩) hS (fun H locs hW hS => ?_)
  have hW : World g (wS w i sd) H := hW
  refine W.eq (g2 := F0 m 5 ls [.int q1, .int (2 : Int32)]) rfl ?_
  refine va_mmin hx hb (hml.trans hl.1.symm) hown (hts (.methodLink RX3 69 Lib.Math.min.name) (by decide +kernel)) (hts (.static Lib.Math.min.name) (by decide +kernel)) (hts (.initialized "java/lang/Math") (by decide +kernel)) (hts (.code Lib.Math.min.name Lib.Math.min.code 2 (some .int)) (by decide +kernel)) (Nat.le_of_ble_eq_true rfl) (Nat.le_of_ble_eq_true rfl) (Nat.le_of_ble_eq_true rfl) (Nat.le_of_ble_eq_true rfl) dX3_addLeadOut_5 ?_
  obtain ⟨x2, e_x2, hf⟩ := x_letE hf
  refine x_topi e_x2 ?_
  refine lv_istore_n (lv' := [(1, .int x2), (0, .ref (adr i 3 j))]) hx hb dX3_addLeadOut_8 rfl hl (by decide) rfl (fun ls hl => ?_)
  refine lv_aload_n hx hb dX3_addLeadOut_9 rfl (lv_at hl 1 rfl) ?_
  refine lv_iload_n hx hb dX3_addLeadOut_10 rfl (lv_at hl 0 rfl) ?_
  obtain ⟨q3, h_q3, hf⟩ := x_bindE hf
  refine x_cv0 (x_rV ⟨hx, hb, hml, hown, hts⟩ (ct_X3_extendLastSession l g w i hi sd (j) (hj) (x2) h_q3) (cwV 1 hts gX3_addLeadOut_X3_extendLastSession rfl rfl rfl (by decide +kernel) ⟨Nat.le_of_ble_eq_true rfl, Nat.le_of_ble_eq_true rfl⟩) hK hW hS (x_recv (i := i) (k := 3) (j := j) hK hW ⟨hi, hj⟩ rfl (by decide)) rfl hl.1 (rest := []) rfl (Nat.le_of_ble_eq_true rfl) dX3_addLeadOut_11 ⟨Nat.le_of_ble_eq_true rfl, Nat.le_of_ble_eq_true rfl⟩) hS (fun H locs hW hS => ?_)
  have hW : World g (wS w i q3) H := hW
  refine lv_aload_n hx hb dX3_addLeadOut_14 rfl (lv_at hl 1 rfl) ?_
  refine lv_iconst (v := 0) hx hb dX3_addLeadOut_15 (by decide) ?_
  obtain ⟨sd4, e_sd4, hf⟩ := x_letE hf
  refine x_put (i := i) (k := 3) (j := j) (t := 5) (w' := wS w i sd4) hx hb hts i_3 tyX3 tyX3_ok nmX3 hown hK hW ⟨hi, hj⟩ hS rfl ⟨by decide, by decide, rfl⟩ (hts (.fieldLink RX3 37 "OpticalJukebox$Platter" "open" "Z") (by decide +kernel)) rfl (ty := .boolean) (by decide +kernel) rfl rfl ⟨rfl, rfl⟩ dX3_addLeadOut_16 (fp_S e_sd4 rfl) (fun H locs hW hS => ?_)
  refine lv_iload_n hx hb dX3_addLeadOut_19 rfl (lv_at hl 0 rfl) ?_
  cases hf
  exact x_iret hx hb hr hlocks hK hW hS rfl dX3_addLeadOut_20
abbrev rm_X3_isClosed : Room := { frames := 0, cells := 0, slots := 0, locals := 0 }
set_option maxRecDepth 100000 in
set_option maxHeartbeats 4000000 in
theorem ct_X3_isClosed (l : Launch) (g : GT) (w : WT) (i : Nat) (hi : i ∈ k_S w.1) (sd : SD) (j : Nat) (hj : j < 10) (a1 : Int32) {q : Int32} (hf : f_X3_isClosed sd j a1 = some q) : Met l yX3_isClosed wsX3_isClosed rm_X3_isClosed (cPre g (wS w i sd) [.ref (adr i 3 j), .int a1]) (cQi g q (wS w i sd)) 0 0 (gA g) := by
  have i_3 : ∀ w ∈ u_ws RX3 TX3 9, w ∈ wsX3_isClosed := by decide +kernel
  refine x_met (by decide) rfl (Nat.le_of_ble_eq_true rfl) ?_
  intro p e s m below meth c hx hb hr hml hts hown hlocks hK hW hS ls hl
  have hown : s.vm.findClass RX3 = some m.cls := hown
  have hl : lv_has ls 2 [(0, .ref (adr i 3 j)), (1, .int a1)] := hl
  rw [f_X3_isClosed] at hf
  refine lv_aload_n hx hb dX3_isClosed_0 rfl (lv_at hl 0 rfl) ?_
  refine x_get (i := i) (k := 3) (j := j) (t := 5) hx hb hts i_3 hown hK hW ⟨hi, hj⟩ rfl ⟨by decide, by decide, rfl⟩ (hts (.fieldLink RX3 37 "OpticalJukebox$Platter" "open" "Z") (by decide +kernel)) (sv_S rfl (fun _ => rfl) rfl) dX3_isClosed_1 ?_
  refine lv_if_eq (tgt := 17) hx hb dX3_isClosed_4 (by decide) (fun hc => ?_) (fun hc => ?_)
  · have hf := x_iteT hf hc
    refine lv_iconst (v := 1) hx hb dX3_isClosed_17 (by decide) ?_
    refine lv_goto (tgt := 22) hx hb dX3_isClosed_18 (by decide) ?_
    cases hf
    exact x_zret hx hb hr hlocks hK hW hS (Or.inr rfl) rfl dX3_isClosed_22
  · have hf := x_iteF hf hc
    refine lv_iload_n hx hb dX3_isClosed_7 rfl (lv_at hl 1 rfl) ?_
    refine lv_aload_n hx hb dX3_isClosed_8 rfl (lv_at hl 0 rfl) ?_
    refine x_get (i := i) (k := 3) (j := j) (t := 4) hx hb hts i_3 hown hK hW ⟨hi, hj⟩ rfl ⟨by decide, by decide, rfl⟩ (hts (.fieldLink RX3 34 "OpticalJukebox$Platter" "sessions" "I") (by decide +kernel)) (sv_S rfl (fun _ => rfl) rfl) dX3_isClosed_9 ?_
    refine lv_iconst (v := 1) hx hb dX3_isClosed_12 (by decide) ?_
    refine lv_isub hx hb dX3_isClosed_13 ?_
    refine lv_icmp_eq (tgt := 21) hx hb dX3_isClosed_14 (by decide) (fun hc => ?_) (fun hc => ?_)
    · have hf := x_iteT hf hc
      refine lv_iconst (v := 0) hx hb dX3_isClosed_21 (by decide) ?_
      cases hf
      exact x_zret hx hb hr hlocks hK hW hS (Or.inl rfl) rfl dX3_isClosed_22
    · have hf := x_iteF hf hc
      refine lv_iconst (v := 1) hx hb dX3_isClosed_17 (by decide) ?_
      refine lv_goto (tgt := 22) hx hb dX3_isClosed_18 (by decide) ?_
      cases hf
      exact x_zret hx hb hr hlocks hK hW hS (Or.inr rfl) rfl dX3_isClosed_22
abbrev rm_X3_longestCleanRun : Room := { frames := 1, cells := 0, slots := 0, locals := 21 }
set_option maxRecDepth 100000 in
set_option maxHeartbeats 4000000 in
theorem ct_X3_longestCleanRun (l : Launch) (g : GT) (w : WT) (i : Nat) (hi : i ∈ k_S w.1) (sd : SD) (j : Nat) (hj : j < 10) {q : Int32} (hf : f_X3_longestCleanRun sd j = some q) : Met l yX3_longestCleanRun wsX3_longestCleanRun rm_X3_longestCleanRun (cPre g (wS w i sd) [.ref (adr i 3 j)]) (cQi g q (wS w i sd)) 0 0 (gA g) := by
  have i_3 : ∀ w ∈ u_ws RX3 TX3 9, w ∈ wsX3_longestCleanRun := by decide +kernel
  refine x_met (by decide) rfl (Nat.le_of_ble_eq_true rfl) ?_
  intro p e s m below meth c hx hb hr hml hts hown hlocks hK hW hS ls hl
  have hown : s.vm.findClass RX3 = some m.cls := hown
  have hl : lv_has ls 4 [(0, .ref (adr i 3 j))] := hl
  rw [f_X3_longestCleanRun] at hf
  refine lv_iconst (v := 0) hx hb dX3_longestCleanRun_0 (by decide) ?_
  refine lv_istore_n (lv' := [(1, .int (0 : Int32)), (0, .ref (adr i 3 j))]) hx hb dX3_longestCleanRun_1 rfl hl (by decide) rfl (fun ls hl => ?_)
  refine lv_iconst (v := 0) hx hb dX3_longestCleanRun_2 (by decide) ?_
  refine lv_istore_n (lv' := [(2, .int (0 : Int32)), (1, .int (0 : Int32)), (0, .ref (adr i 3 j))]) hx hb dX3_longestCleanRun_3 rfl hl (by decide) rfl (fun ls hl => ?_)
  refine lv_aload_n hx hb dX3_longestCleanRun_4 rfl (lv_at hl 2 rfl) ?_
  refine x_get (i := i) (k := 3) (j := j) (t := 3) hx hb hts i_3 hown hK hW ⟨hi, hj⟩ rfl ⟨by decide, by decide, rfl⟩ (hts (.fieldLink RX3 31 "OpticalJukebox$Platter" "end" "I") (by decide +kernel)) (sv_S rfl (fun _ => rfl) rfl) dX3_longestCleanRun_5 ?_
  obtain ⟨x1, e_x1, hf⟩ := x_letE hf
  refine x_topi e_x1 ?_
  refine lv_istore_n (lv' := [(3, .int x1), (2, .int (0 : Int32)), (1, .int (0 : Int32)), (0, .ref (adr i 3 j))]) hx hb dX3_longestCleanRun_8 rfl hl (by decide) rfl (fun ls hl => ?_)
  have L9 : ∀ (n : Nat) (v1_9 : Int32) (v2_9 : Int32) (v3_9 : Int32) (ls : Array Slot) (H : Heap) (locs : List Loc), lv_has ls 4 [(0, .ref (adr i 3 j)), (1, .int v1_9), (2, .int v2_9), (3, .int v3_9)] → World g (wS w i sd) H → va_S (gA g) s.heap H locs → f_X3_longestCleanRun_L9 sd j n v1_9 v2_9 v3_9 = some q → W p l e rm_X3_longestCleanRun s m [.ref (adr i 3 j)].toArray below meth c H locs 0 0 (MQ below (cQi g q (wS w i sd)) [.ref (adr i 3 j)].toArray s 0 0 (gA g)) (F0 m 9 ls []) := by
    clear hW hS hl
    intro n
    induction n with
    | zero => intro v1_9 v2_9 v3_9 ls H locs hl hW hS hf; cases hf
    | succ n_9 ih =>
      intro v1_9 v2_9 v3_9 ls H locs hl hW hS hf
      rw [f_X3_longestCleanRun_L9] at hf
      refine lv_iload_n hx hb dX3_longestCleanRun_9 rfl (lv_at hl 3 rfl) ?_
      refine lv_aload_n hx hb dX3_longestCleanRun_10 rfl (lv_at hl 0 rfl) ?_
      refine x_get (i := i) (k := 3) (j := j) (t := 1) hx hb hts i_3 hown hK hW ⟨hi, hj⟩ rfl ⟨by decide, by decide, rfl⟩ (hts (.fieldLink RX3 25 "OpticalJukebox$Platter" "capacity" "I") (by decide +kernel)) (sv_S rfl (fun _ => rfl) rfl) dX3_longestCleanRun_11 ?_
      refine lv_icmp_ge (tgt := 45) hx hb dX3_longestCleanRun_14 (by decide) (fun hc => ?_) (fun hc => ?_)
      · have hf := x_iteT hf hc
        refine lv_iload_n hx hb dX3_longestCleanRun_45 rfl (lv_at hl 1 rfl) ?_
        cases hf
        exact x_iret hx hb hr hlocks hK hW hS rfl dX3_longestCleanRun_46
      · have hf := x_iteF hf hc
        refine lv_aload_n hx hb dX3_longestCleanRun_17 rfl (lv_at hl 0 rfl) ?_
        refine lv_iload_n hx hb dX3_longestCleanRun_18 rfl (lv_at hl 3 rfl) ?_
        obtain ⟨q2, h_q2, hf⟩ := x_bindE hf
        refine x_ci0 (x_rV ⟨hx, hb, hml, hown, hts⟩ (ct_X3_isBad l g w i hi sd (j) (hj) (v3_9) h_q2) (cwV 1 hts gX3_longestCleanRun_X3_isBad rfl rfl rfl (by decide +kernel) ⟨Nat.le_of_ble_eq_true rfl, Nat.le_of_ble_eq_true rfl⟩) hK hW hS (x_recv (i := i) (k := 3) (j := j) hK hW ⟨hi, hj⟩ rfl (by decide)) rfl hl.1 (rest := []) rfl (Nat.le_of_ble_eq_true rfl) dX3_longestCleanRun_19 ⟨Nat.le_of_ble_eq_true rfl, Nat.le_of_ble_eq_true rfl⟩) hS (fun H locs hW hS => ?_)
        have hW : World g (wS w i sd) H := hW
        refine W.eq (g2 := F0 m 22 ls [.int q2]) rfl ?_
        obtain ⟨K3, eK3, hf⟩ := x_letE hf
        have KK3 : ∀ (y4 : Int32) (ls : Array Slot) (H : Heap) (locs : List Loc), lv_has ls 4 [(0, .ref (adr i 3 j)), (1, .int v1_9), (2, .int v2_9), (3, .int v3_9)] → World g (wS w i sd) H → va_S (gA g) s.heap H locs → K3 y4 = some q → W p l e rm_X3_longestCleanRun s m [.ref (adr i 3 j)].toArray below meth c H locs 0 0 (MQ below (cQi g q (wS w i sd)) [.ref (adr i 3 j)].toArray s 0 0 (gA g)) (F0 m 32 ls [.int y4]) := by
          intro y4 ls H locs hl hW hS hf
          subst eK3
          refine lv_istore_n (lv' := [(2, .int y4), (0, .ref (adr i 3 j)), (1, .int v1_9), (3, .int v3_9)]) hx hb dX3_longestCleanRun_32 rfl hl (by decide) rfl (fun ls hl => ?_)
          refine lv_iload_n hx hb dX3_longestCleanRun_33 rfl (lv_at hl 2 rfl) ?_
          refine lv_iload_n hx hb dX3_longestCleanRun_34 rfl (lv_at hl 0 rfl) ?_
          refine va_mmax hx hb (hml.trans hl.1.symm) hown (hts (.methodLink RX3 75 Lib.Math.max.name) (by decide +kernel)) (hts (.static Lib.Math.max.name) (by decide +kernel)) (hts (.initialized "java/lang/Math") (by decide +kernel)) (hts (.code Lib.Math.max.name Lib.Math.max.code 2 (some .int)) (by decide +kernel)) (Nat.le_of_ble_eq_true rfl) (Nat.le_of_ble_eq_true rfl) (Nat.le_of_ble_eq_true rfl) (Nat.le_of_ble_eq_true rfl) dX3_longestCleanRun_35 ?_
          obtain ⟨x5, e_x5, hf⟩ := x_letE hf
          refine x_topi e_x5 ?_
          refine lv_istore_n (lv' := [(1, .int x5), (2, .int y4), (0, .ref (adr i 3 j)), (3, .int v3_9)]) hx hb dX3_longestCleanRun_38 rfl hl (by decide) rfl (fun ls hl => ?_)
          obtain ⟨x6, e_x6, hf⟩ := x_letE hf
          refine lv_iinc (v := x6) (lv' := [(3, .int x6), (1, .int x5), (2, .int y4), (0, .ref (adr i 3 j))]) hx hb dX3_longestCleanRun_39 hl (k := 3) rfl (by rw [e_x6]; rfl) (by decide) rfl (fun ls hl => ?_)
          refine lv_goto (tgt := 9) hx hb dX3_longestCleanRun_42 (by decide) ?_
          exact ih (x5) (y4) (x6) ls _ _ (lv_sub hl [3, 1, 2, 0] rfl) hW hS hf
        clear eK3
        refine lv_if_eq (tgt := 29) hx hb dX3_longestCleanRun_22 (by decide) (fun hc => ?_) (fun hc => ?_)
        · have hf := x_iteT hf hc
          refine lv_iload_n hx hb dX3_longestCleanRun_29 rfl (lv_at hl 2 rfl) ?_
          refine lv_iconst (v := 1) hx hb dX3_longestCleanRun_30 (by decide) ?_
          refine lv_iadd hx hb dX3_longestCleanRun_31 ?_
          exact KK3 ((v2_9 + (1 : Int32))) ls _ _ hl hW hS hf
        · have hf := x_iteF hf hc
          refine lv_iconst (v := 0) hx hb dX3_longestCleanRun_25 (by decide) ?_
          refine lv_goto (tgt := 32) hx hb dX3_longestCleanRun_26 (by decide) ?_
          exact KK3 ((0 : Int32)) ls _ _ hl hW hS hf
  exact L9 fuel ((0 : Int32)) ((0 : Int32)) (x1) ls _ _ (lv_sub hl [3, 2, 1, 0] rfl) hW hS hf
