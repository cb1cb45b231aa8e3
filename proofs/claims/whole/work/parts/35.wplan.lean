theorem dX2_forgetTable_0 : decode cX2_forgetTable 0 = .ok (.aload_n 0, 1) := by decide +kernel
theorem dX2_forgetTable_1 : decode cX2_forgetTable 1 = .ok (.iconst (-1), 1) := by decide +kernel
theorem dX2_forgetTable_2 : decode cX2_forgetTable 2 = .ok (.putfield 25, 3) := by decide +kernel
theorem dX2_forgetTable_5 : decode cX2_forgetTable 5 = .ok (.return_, 1) := by decide +kernel
theorem dX2_fillSwap_0 : decode cX2_fillSwap 0 = .ok (.aload_n 1, 1) := by decide +kernel
theorem dX2_fillSwap_1 : decode cX2_fillSwap 1 = .ok (.getfield 78, 3) := by decide +kernel
theorem dX2_fillSwap_4 : decode cX2_fillSwap 4 = .ok (.iload_n 2, 1) := by decide +kernel
theorem dX2_fillSwap_5 : decode cX2_fillSwap 5 = .ok (.aaload, 1) := by decide +kernel
theorem dX2_fillSwap_6 : decode cX2_fillSwap 6 = .ok (.getfield 82, 3) := by decide +kernel
theorem dX2_fillSwap_9 : decode cX2_fillSwap 9 = .ok (.istore_n 3, 1) := by decide +kernel
theorem dX2_fillSwap_10 : decode cX2_fillSwap 10 = .ok (.iconst 4, 1) := by decide +kernel
theorem dX2_fillSwap_11 : decode cX2_fillSwap 11 = .ok (.aload_n 1, 1) := by decide +kernel
theorem dX2_fillSwap_12 : decode cX2_fillSwap 12 = .ok (.getfield 87, 3) := by decide +kernel
theorem dX2_fillSwap_15 : decode cX2_fillSwap 15 = .ok (.iconst 1, 1) := by decide +kernel
theorem dX2_fillSwap_16 : decode cX2_fillSwap 16 = .ok (.iaload, 1) := by decide +kernel
theorem dX2_fillSwap_17 : decode cX2_fillSwap 17 = .ok (.imul, 1) := by decide +kernel
theorem dX2_fillSwap_18 : decode cX2_fillSwap 18 = .ok (.aload_n 1, 1) := by decide +kernel
theorem dX2_fillSwap_19 : decode cX2_fillSwap 19 = .ok (.getfield 87, 3) := by decide +kernel
theorem dX2_fillSwap_22 : decode cX2_fillSwap 22 = .ok (.iconst 2, 1) := by decide +kernel
theorem dX2_fillSwap_23 : decode cX2_fillSwap 23 = .ok (.iaload, 1) := by decide +kernel
theorem dX2_fillSwap_24 : decode cX2_fillSwap 24 = .ok (.iadd, 1) := by decide +kernel
theorem dX2_fillSwap_25 : decode cX2_fillSwap 25 = .ok (.istore 4, 2) := by decide +kernel
theorem dX2_fillSwap_27 : decode cX2_fillSwap 27 = .ok (.iconst 0, 1) := by decide +kernel
theorem dX2_fillSwap_28 : decode cX2_fillSwap 28 = .ok (.istore 5, 2) := by decide +kernel
theorem dX2_fillSwap_30 : decode cX2_fillSwap 30 = .ok (.iload 5, 2) := by decide +kernel
theorem dX2_fillSwap_32 : decode cX2_fillSwap 32 = .ok (.aload_n 1, 1) := by decide +kernel
theorem dX2_fillSwap_33 : decode cX2_fillSwap 33 = .ok (.getfield 90, 3) := by decide +kernel
theorem dX2_fillSwap_36 : decode cX2_fillSwap 36 = .ok (.if_icmp .ge 102, 3) := by decide +kernel
theorem dX2_fillSwap_39 : decode cX2_fillSwap 39 = .ok (.aload_n 1, 1) := by decide +kernel
theorem dX2_fillSwap_40 : decode cX2_fillSwap 40 = .ok (.getfield 93, 3) := by decide +kernel
theorem dX2_fillSwap_43 : decode cX2_fillSwap 43 = .ok (.iload 5, 2) := by decide +kernel
theorem dX2_fillSwap_45 : decode cX2_fillSwap 45 = .ok (.aaload, 1) := by decide +kernel
theorem dX2_fillSwap_46 : decode cX2_fillSwap 46 = .ok (.getfield 97, 3) := by decide +kernel
theorem dX2_fillSwap_49 : decode cX2_fillSwap 49 = .ok (.istore 6, 2) := by decide +kernel
theorem dX2_fillSwap_51 : decode cX2_fillSwap 51 = .ok (.iconst 0, 1) := by decide +kernel
theorem dX2_fillSwap_52 : decode cX2_fillSwap 52 = .ok (.istore 7, 2) := by decide +kernel
theorem dX2_fillSwap_54 : decode cX2_fillSwap 54 = .ok (.iload 7, 2) := by decide +kernel
theorem dX2_fillSwap_56 : decode cX2_fillSwap 56 = .ok (.aload_n 1, 1) := by decide +kernel
theorem dX2_fillSwap_57 : decode cX2_fillSwap 57 = .ok (.getfield 90, 3) := by decide +kernel
theorem dX2_fillSwap_60 : decode cX2_fillSwap 60 = .ok (.if_icmp .ge 72, 3) := by decide +kernel
theorem dX2_fillSwap_63 : decode cX2_fillSwap 63 = .ok (.aload_n 1, 1) := by decide +kernel
theorem dX2_fillSwap_64 : decode cX2_fillSwap 64 = .ok (.getfield 93, 3) := by decide +kernel
theorem dX2_fillSwap_67 : decode cX2_fillSwap 67 = .ok (.iload 7, 2) := by decide +kernel
theorem dX2_fillSwap_69 : decode cX2_fillSwap 69 = .ok (.aaload, 1) := by decide +kernel
theorem dX2_fillSwap_70 : decode cX2_fillSwap 70 = .ok (.getfield 97, 3) := by decide +kernel
theorem dX2_fillSwap_73 : decode cX2_fillSwap 73 = .ok (.istore 8, 2) := by decide +kernel
theorem dX2_fillSwap_75 : decode cX2_fillSwap 75 = .ok (.iload_n 3, 1) := by decide +kernel
theorem dX2_fillSwap_76 : decode cX2_fillSwap 76 = .ok (.iload 6, 2) := by decide +kernel
theorem dX2_fillSwap_78 : decode cX2_fillSwap 78 = .ok (.isub, 1) := by decide +kernel
theorem dX2_fillSwap_79 : decode cX2_fillSwap 79 = .ok (.invokestatic 102, 3) := by decide +kernel
theorem dX2_fillSwap_82 : decode cX2_fillSwap 82 = .ok (.iload 6, 2) := by decide +kernel
theorem dX2_fillSwap_84 : decode cX2_fillSwap 84 = .ok (.iload 8, 2) := by decide +kernel
theorem dX2_fillSwap_86 : decode cX2_fillSwap 86 = .ok (.isub, 1) := by decide +kernel
theorem dX2_fillSwap_87 : decode cX2_fillSwap 87 = .ok (.invokestatic 102, 3) := by decide +kernel
theorem dX2_fillSwap_90 : decode cX2_fillSwap 90 = .ok (.iadd, 1) := by decide +kernel
theorem dX2_fillSwap_91 : decode cX2_fillSwap 91 = .ok (.iload 8, 2) := by decide +kernel
theorem dX2_fillSwap_93 : decode cX2_fillSwap 93 = .ok (.iload_n 3, 1) := by decide +kernel
theorem dX2_fillSwap_94 : decode cX2_fillSwap 94 = .ok (.isub, 1) := by decide +kernel
theorem dX2_fillSwap_95 : decode cX2_fillSwap 95 = .ok (.invokestatic 102, 3) := by decide +kernel
theorem dX2_fillSwap_98 : decode cX2_fillSwap 98 = .ok (.iadd, 1) := by decide +kernel
theorem dX2_fillSwap_99 : decode cX2_fillSwap 99 = .ok (.istore 9, 2) := by decide +kernel
theorem dX2_fillSwap_101 : decode cX2_fillSwap 101 = .ok (.aload_n 0, 1) := by decide +kernel
theorem dX2_fillSwap_102 : decode cX2_fillSwap 102 = .ok (.getfield 15, 3) := by decide +kernel
theorem dX2_fillSwap_105 : decode cX2_fillSwap 105 = .ok (.iload 5, 2) := by decide +kernel
theorem dX2_fillSwap_107 : decode cX2_fillSwap 107 = .ok (.bipush 10, 2) := by decide +kernel
theorem dX2_fillSwap_109 : decode cX2_fillSwap 109 = .ok (.imul, 1) := by decide +kernel
theorem dX2_fillSwap_110 : decode cX2_fillSwap 110 = .ok (.iload 7, 2) := by decide +kernel
theorem dX2_fillSwap_112 : decode cX2_fillSwap 112 = .ok (.iadd, 1) := by decide +kernel
theorem dX2_fillSwap_113 : decode cX2_fillSwap 113 = .ok (.iload 9, 2) := by decide +kernel
theorem dX2_fillSwap_115 : decode cX2_fillSwap 115 = .ok (.aload_n 1, 1) := by decide +kernel
theorem dX2_fillSwap_116 : decode cX2_fillSwap 116 = .ok (.getfield 87, 3) := by decide +kernel
theorem dX2_fillSwap_119 : decode cX2_fillSwap 119 = .ok (.iconst 0, 1) := by decide +kernel
theorem dX2_fillSwap_120 : decode cX2_fillSwap 120 = .ok (.iaload, 1) := by decide +kernel
theorem dX2_fillSwap_121 : decode cX2_fillSwap 121 = .ok (.imul, 1) := by decide +kernel
theorem dX2_fillSwap_122 : decode cX2_fillSwap 122 = .ok (.iload 4, 2) := by decide +kernel
theorem dX2_fillSwap_124 : decode cX2_fillSwap 124 = .ok (.iadd, 1) := by decide +kernel
theorem dX2_fillSwap_125 : decode cX2_fillSwap 125 = .ok (.iastore, 1) := by decide +kernel
theorem dX2_fillSwap_126 : decode cX2_fillSwap 126 = .ok (.iinc 7 1, 3) := by decide +kernel
theorem dX2_fillSwap_129 : decode cX2_fillSwap 129 = .ok (.goto (-75), 3) := by decide +kernel
theorem dX2_fillSwap_132 : decode cX2_fillSwap 132 = .ok (.iinc 5 1, 3) := by decide +kernel
theorem dX2_fillSwap_135 : decode cX2_fillSwap 135 = .ok (.goto (-105), 3) := by decide +kernel
theorem dX2_fillSwap_138 : decode cX2_fillSwap 138 = .ok (.return_, 1) := by decide +kernel
theorem dX2_restAfter_0 : decode cX2_restAfter 0 = .ok (.iload_n 2, 1) := by decide +kernel
theorem dX2_restAfter_1 : decode cX2_restAfter 1 = .ok (.ifCond .ne 5, 3) := by decide +kernel
theorem dX2_restAfter_4 : decode cX2_restAfter 4 = .ok (.iconst 0, 1) := by decide +kernel
theorem dX2_restAfter_5 : decode cX2_restAfter 5 = .ok (.ireturn, 1) := by decide +kernel
theorem dX2_restAfter_6 : decode cX2_restAfter 6 = .ok (.ldc 72, 2) := by decide +kernel
theorem dX2_restAfter_8 : decode cX2_restAfter 8 = .ok (.istore_n 3, 1) := by decide +kernel
theorem dX2_restAfter_9 : decode cX2_restAfter 9 = .ok (.iconst 0, 1) := by decide +kernel
theorem dX2_restAfter_10 : decode cX2_restAfter 10 = .ok (.istore 4, 2) := by decide +kernel
theorem dX2_restAfter_12 : decode cX2_restAfter 12 = .ok (.iload 4, 2) := by decide +kernel
theorem dX2_restAfter_14 : decode cX2_restAfter 14 = .ok (.bipush 10, 2) := by decide +kernel
theorem dX2_restAfter_16 : decode cX2_restAfter 16 = .ok (.if_icmp .ge 57, 3) := by decide +kernel
theorem dX2_restAfter_19 : decode cX2_restAfter 19 = .ok (.iload_n 2, 1) := by decide +kernel
theorem dX2_restAfter_20 : decode cX2_restAfter 20 = .ok (.iload 4, 2) := by decide +kernel
theorem dX2_restAfter_22 : decode cX2_restAfter 22 = .ok (.ishr, 1) := by decide +kernel
theorem dX2_restAfter_23 : decode cX2_restAfter 23 = .ok (.iconst 1, 1) := by decide +kernel
theorem dX2_restAfter_24 : decode cX2_restAfter 24 = .ok (.iand, 1) := by decide +kernel
theorem dX2_restAfter_25 : decode cX2_restAfter 25 = .ok (.ifCond .eq 42, 3) := by decide +kernel
theorem dX2_restAfter_28 : decode cX2_restAfter 28 = .ok (.aload_n 0, 1) := by decide +kernel
theorem dX2_restAfter_29 : decode cX2_restAfter 29 = .ok (.getfield 9, 3) := by decide +kernel
theorem dX2_restAfter_32 : decode cX2_restAfter 32 = .ok (.iload_n 2, 1) := by decide +kernel
theorem dX2_restAfter_33 : decode cX2_restAfter 33 = .ok (.iconst 1, 1) := by decide +kernel
theorem dX2_restAfter_34 : decode cX2_restAfter 34 = .ok (.iload 4, 2) := by decide +kernel
theorem dX2_restAfter_36 : decode cX2_restAfter 36 = .ok (.ishl, 1) := by decide +kernel
theorem dX2_restAfter_37 : decode cX2_restAfter 37 = .ok (.ixor, 1) := by decide +kernel
theorem dX2_restAfter_38 : decode cX2_restAfter 38 = .ok (.bipush 10, 2) := by decide +kernel
theorem dX2_restAfter_40 : decode cX2_restAfter 40 = .ok (.imul, 1) := by decide +kernel
theorem dX2_restAfter_41 : decode cX2_restAfter 41 = .ok (.iload 4, 2) := by decide +kernel
theorem dX2_restAfter_43 : decode cX2_restAfter 43 = .ok (.iadd, 1) := by decide +kernel
theorem dX2_restAfter_44 : decode cX2_restAfter 44 = .ok (.iaload, 1) := by decide +kernel
theorem dX2_restAfter_45 : decode cX2_restAfter 45 = .ok (.istore 5, 2) := by decide +kernel
theorem dX2_restAfter_47 : decode cX2_restAfter 47 = .ok (.iload_n 3, 1) := by decide +kernel
theorem dX2_restAfter_48 : decode cX2_restAfter 48 = .ok (.aload_n 0, 1) := by decide +kernel
theorem dX2_restAfter_49 : decode cX2_restAfter 49 = .ok (.getfield 15, 3) := by decide +kernel
theorem dX2_restAfter_52 : decode cX2_restAfter 52 = .ok (.iload_n 1, 1) := by decide +kernel
theorem dX2_restAfter_53 : decode cX2_restAfter 53 = .ok (.bipush 10, 2) := by decide +kernel
theorem dX2_restAfter_55 : decode cX2_restAfter 55 = .ok (.imul, 1) := by decide +kernel
theorem dX2_restAfter_56 : decode cX2_restAfter 56 = .ok (.iload 4, 2) := by decide +kernel
theorem dX2_restAfter_58 : decode cX2_restAfter 58 = .ok (.iadd, 1) := by decide +kernel
theorem dX2_restAfter_59 : decode cX2_restAfter 59 = .ok (.iaload, 1) := by decide +kernel
theorem dX2_restAfter_60 : decode cX2_restAfter 60 = .ok (.iload 5, 2) := by decide +kernel
theorem dX2_restAfter_62 : decode cX2_restAfter 62 = .ok (.iadd, 1) := by decide +kernel
theorem dX2_restAfter_63 : decode cX2_restAfter 63 = .ok (.invokestatic 73, 3) := by decide +kernel
theorem dX2_restAfter_66 : decode cX2_restAfter 66 = .ok (.istore_n 3, 1) := by decide +kernel
theorem dX2_restAfter_67 : decode cX2_restAfter 67 = .ok (.iinc 4 1, 3) := by decide +kernel
theorem dX2_restAfter_70 : decode cX2_restAfter 70 = .ok (.goto (-58), 3) := by decide +kernel
theorem dX2_restAfter_73 : decode cX2_restAfter 73 = .ok (.iload_n 3, 1) := by decide +kernel
theorem dX2_restAfter_74 : decode cX2_restAfter 74 = .ok (.ireturn, 1) := by decide +kernel
set_option maxRecDepth 20000 in
theorem ggX2_fillRest_X2_restAfter : GoodIn wsX2_fillRest wsX2_restAfter := goodIn_r _ [6, 7, 1, 8, 9, 10, 11, 12, 13, 14, 15, 16, 17, 18] (by decide +kernel) (by decide +kernel)
set_option maxRecDepth 20000 in
theorem gX2_fillRest_X2_restAfter : GoodIn wsX2_fillRest (wsV RX2 105 RX2 yX2_restAfter wsX2_restAfter) := goodIn_app (goodIn_of _ (by decide +kernel)) ggX2_fillRest_X2_restAfter
theorem dX2_fillRest_0 : decode cX2_fillRest 0 = .ok (.iconst 0, 1) := by decide +kernel
theorem dX2_fillRest_1 : decode cX2_fillRest 1 = .ok (.istore_n 2, 1) := by decide +kernel
theorem dX2_fillRest_2 : decode cX2_fillRest 2 = .ok (.iload_n 2, 1) := by decide +kernel
theorem dX2_fillRest_3 : decode cX2_fillRest 3 = .ok (.iload_n 1, 1) := by decide +kernel
theorem dX2_fillRest_4 : decode cX2_fillRest 4 = .ok (.if_icmp .ge 64, 3) := by decide +kernel
theorem dX2_fillRest_7 : decode cX2_fillRest 7 = .ok (.iload_n 2, 1) := by decide +kernel
theorem dX2_fillRest_8 : decode cX2_fillRest 8 = .ok (.iload_n 1, 1) := by decide +kernel
theorem dX2_fillRest_9 : decode cX2_fillRest 9 = .ok (.iconst (-1), 1) := by decide +kernel
theorem dX2_fillRest_10 : decode cX2_fillRest 10 = .ok (.ixor, 1) := by decide +kernel
theorem dX2_fillRest_11 : decode cX2_fillRest 11 = .ok (.iand, 1) := by decide +kernel
theorem dX2_fillRest_12 : decode cX2_fillRest 12 = .ok (.ifCond .ne 50, 3) := by decide +kernel
theorem dX2_fillRest_15 : decode cX2_fillRest 15 = .ok (.iconst 0, 1) := by decide +kernel
theorem dX2_fillRest_16 : decode cX2_fillRest 16 = .ok (.istore_n 3, 1) := by decide +kernel
theorem dX2_fillRest_17 : decode cX2_fillRest 17 = .ok (.iload_n 3, 1) := by decide +kernel
theorem dX2_fillRest_18 : decode cX2_fillRest 18 = .ok (.bipush 10, 2) := by decide +kernel
theorem dX2_fillRest_20 : decode cX2_fillRest 20 = .ok (.if_icmp .ge 42, 3) := by decide +kernel
theorem dX2_fillRest_23 : decode cX2_fillRest 23 = .ok (.iload_n 1, 1) := by decide +kernel
theorem dX2_fillRest_24 : decode cX2_fillRest 24 = .ok (.iload_n 3, 1) := by decide +kernel
theorem dX2_fillRest_25 : decode cX2_fillRest 25 = .ok (.ishr, 1) := by decide +kernel
theorem dX2_fillRest_26 : decode cX2_fillRest 26 = .ok (.iconst 1, 1) := by decide +kernel
theorem dX2_fillRest_27 : decode cX2_fillRest 27 = .ok (.iand, 1) := by decide +kernel
theorem dX2_fillRest_28 : decode cX2_fillRest 28 = .ok (.ifCond .eq 28, 3) := by decide +kernel
theorem dX2_fillRest_31 : decode cX2_fillRest 31 = .ok (.iload_n 2, 1) := by decide +kernel
theorem dX2_fillRest_32 : decode cX2_fillRest 32 = .ok (.iload_n 3, 1) := by decide +kernel
theorem dX2_fillRest_33 : decode cX2_fillRest 33 = .ok (.ishr, 1) := by decide +kernel
theorem dX2_fillRest_34 : decode cX2_fillRest 34 = .ok (.iconst 1, 1) := by decide +kernel
theorem dX2_fillRest_35 : decode cX2_fillRest 35 = .ok (.iand, 1) := by decide +kernel
theorem dX2_fillRest_36 : decode cX2_fillRest 36 = .ok (.ifCond .ne 20, 3) := by decide +kernel
theorem dX2_fillRest_39 : decode cX2_fillRest 39 = .ok (.aload_n 0, 1) := by decide +kernel
theorem dX2_fillRest_40 : decode cX2_fillRest 40 = .ok (.getfield 9, 3) := by decide +kernel
theorem dX2_fillRest_43 : decode cX2_fillRest 43 = .ok (.iload_n 2, 1) := by decide +kernel
theorem dX2_fillRest_44 : decode cX2_fillRest 44 = .ok (.bipush 10, 2) := by decide +kernel
theorem dX2_fillRest_46 : decode cX2_fillRest 46 = .ok (.imul, 1) := by decide +kernel
theorem dX2_fillRest_47 : decode cX2_fillRest 47 = .ok (.iload_n 3, 1) := by decide +kernel
theorem dX2_fillRest_48 : decode cX2_fillRest 48 = .ok (.iadd, 1) := by decide +kernel
theorem dX2_fillRest_49 : decode cX2_fillRest 49 = .ok (.aload_n 0, 1) := by decide +kernel
theorem dX2_fillRest_50 : decode cX2_fillRest 50 = .ok (.iload_n 3, 1) := by decide +kernel
theorem dX2_fillRest_51 : decode cX2_fillRest 51 = .ok (.iload_n 2, 1) := by decide +kernel
theorem dX2_fillRest_52 : decode cX2_fillRest 52 = .ok (.invokevirtual 105, 3) := by decide +kernel
theorem dX2_fillRest_55 : decode cX2_fillRest 55 = .ok (.iastore, 1) := by decide +kernel
theorem dX2_fillRest_56 : decode cX2_fillRest 56 = .ok (.iinc 3 1, 3) := by decide +kernel
theorem dX2_fillRest_59 : decode cX2_fillRest 59 = .ok (.goto (-42), 3) := by decide +kernel
theorem dX2_fillRest_62 : decode cX2_fillRest 62 = .ok (.iinc 2 1, 3) := by decide +kernel
theorem dX2_fillRest_65 : decode cX2_fillRest 65 = .ok (.goto (-63), 3) := by decide +kernel
theorem dX2_fillRest_68 : decode cX2_fillRest 68 = .ok (.return_, 1) := by decide +kernel
set_option maxRecDepth 20000 in
theorem ggX2_leastTime_X4_hasDrive : GoodIn wsX2_leastTime wsX4_hasDrive := goodIn_r _ [12, 13, 76, 77, 78, 79, 80, 81, 82, 83, 84, 85, 86, 87, 88, 89, 90, 91, 92, 93] (by decide +kernel) (by decide +kernel)
set_option maxRecDepth 20000 in
theorem gX2_leastTime_X4_hasDrive : GoodIn wsX2_leastTime (wsV RX2 47 RX4 yX4_hasDrive wsX4_hasDrive) := goodIn_app (goodIn_of _ (by decide +kernel)) ggX2_leastTime_X4_hasDrive
set_option maxRecDepth 20000 in
theorem ggX2_leastTime_X2_fillSwap : GoodIn wsX2_leastTime wsX2_fillSwap := goodIn_r _ [18, 19, 20, 21, 22, 23, 24, 25, 26, 6, 27, 28, 76, 77, 78, 79, 80, 81, 82, 83, 84, 85, 86, 87, 88, 89, 90, 91, 92, 93, 94, 95, 96, 97, 98, 99, 100, 101, 102, 103, 104, 105, 70, 71, 72, 73, 74, 75] (by decide +kernel) (by decide +kernel)
set_option maxRecDepth 20000 in
theorem gX2_leastTime_X2_fillSwap : GoodIn wsX2_leastTime (wsV RX2 62 RX2 yX2_fillSwap wsX2_fillSwap) := goodIn_app (goodIn_of _ (by decide +kernel)) ggX2_leastTime_X2_fillSwap
set_option maxRecDepth 20000 in
theorem ggX2_leastTime_X4_awayPlatters : GoodIn wsX2_leastTime wsX4_awayPlatters := goodIn_r _ [32, 33, 34, 35, 36, 37, 38, 11, 39, 40, 41, 42, 43, 44, 45, 13, 46, 47, 76, 77, 78, 79, 80, 81, 82, 83, 84, 85, 86, 87, 88, 89, 90, 91, 92, 93, 106, 107, 108, 109, 110, 111, 112, 94, 95, 96] (by decide +kernel) (by decide +kernel)
set_option maxRecDepth 20000 in
theorem gX2_leastTime_X4_awayPlatters : GoodIn wsX2_leastTime (wsV RX2 28 RX4 yX4_awayPlatters wsX4_awayPlatters) := goodIn_app (goodIn_of _ (by decide +kernel)) ggX2_leastTime_X4_awayPlatters
set_option maxRecDepth 20000 in
theorem ggX2_leastTime_X2_fillRest : GoodIn wsX2_leastTime wsX2_fillRest := goodIn_r _ [51, 3, 52, 53, 54, 17, 55, 2, 28, 4, 5, 6, 7, 70, 71, 72, 73, 74, 75] (by decide +kernel) (by decide +kernel)
set_option maxRecDepth 20000 in
theorem gX2_leastTime_X2_fillRest : GoodIn wsX2_leastTime (wsV RX2 66 RX2 yX2_fillRest wsX2_fillRest) := goodIn_app (goodIn_of _ (by decide +kernel)) ggX2_leastTime_X2_fillRest
set_option maxRecDepth 20000 in
theorem ggX2_leastTime_X4_bringTime : GoodIn wsX2_leastTime wsX4_bringTime := goodIn_r _ [59, 46, 47, 60, 61, 62, 63, 11, 64, 65, 66, 67, 68, 69, 26, 6, 27, 76, 77, 78, 79, 80, 81, 82, 83, 84, 85, 86, 87, 88, 89, 90, 91, 92, 93, 94, 95, 96, 97, 98, 99, 100, 101, 102, 103, 104, 105] (by decide +kernel) (by decide +kernel)
set_option maxRecDepth 20000 in
theorem gX2_leastTime_X4_bringTime : GoodIn wsX2_leastTime (wsV RX2 58 RX4 yX4_bringTime wsX4_bringTime) := goodIn_app (goodIn_of _ (by decide +kernel)) ggX2_leastTime_X4_bringTime
theorem dX2_leastTime_0 : decode cX2_leastTime 0 = .ok (.iload_n 3, 1) := by decide +kernel
theorem dX2_leastTime_1 : decode cX2_leastTime 1 = .ok (.ifCond .eq 11, 3) := by decide +kernel
theorem dX2_leastTime_4 : decode cX2_leastTime 4 = .ok (.aload_n 1, 1) := by decide +kernel
theorem dX2_leastTime_5 : decode cX2_leastTime 5 = .ok (.iload_n 2, 1) := by decide +kernel
theorem dX2_leastTime_6 : decode cX2_leastTime 6 = .ok (.invokevirtual 47, 3) := by decide +kernel
theorem dX2_leastTime_9 : decode cX2_leastTime 9 = .ok (.ifCond .ne 5, 3) := by decide +kernel
theorem dX2_leastTime_12 : decode cX2_leastTime 12 = .ok (.iconst 0, 1) := by decide +kernel
theorem dX2_leastTime_13 : decode cX2_leastTime 13 = .ok (.ireturn, 1) := by decide +kernel
theorem dX2_leastTime_14 : decode cX2_leastTime 14 = .ok (.aload_n 0, 1) := by decide +kernel
theorem dX2_leastTime_15 : decode cX2_leastTime 15 = .ok (.getfield 25, 3) := by decide +kernel
theorem dX2_leastTime_18 : decode cX2_leastTime 18 = .ok (.iload_n 2, 1) := by decide +kernel
theorem dX2_leastTime_19 : decode cX2_leastTime 19 = .ok (.if_icmp .eq 23, 3) := by decide +kernel
theorem dX2_leastTime_22 : decode cX2_leastTime 22 = .ok (.aload_n 0, 1) := by decide +kernel
theorem dX2_leastTime_23 : decode cX2_leastTime 23 = .ok (.aload_n 1, 1) := by decide +kernel
theorem dX2_leastTime_24 : decode cX2_leastTime 24 = .ok (.iload_n 2, 1) := by decide +kernel
theorem dX2_leastTime_25 : decode cX2_leastTime 25 = .ok (.invokevirtual 62, 3) := by decide +kernel
theorem dX2_leastTime_28 : decode cX2_leastTime 28 = .ok (.aload_n 0, 1) := by decide +kernel
theorem dX2_leastTime_29 : decode cX2_leastTime 29 = .ok (.aload_n 1, 1) := by decide +kernel
theorem dX2_leastTime_30 : decode cX2_leastTime 30 = .ok (.iconst (-1), 1) := by decide +kernel
theorem dX2_leastTime_31 : decode cX2_leastTime 31 = .ok (.invokevirtual 28, 3) := by decide +kernel
theorem dX2_leastTime_34 : decode cX2_leastTime 34 = .ok (.invokevirtual 66, 3) := by decide +kernel
theorem dX2_leastTime_37 : decode cX2_leastTime 37 = .ok (.aload_n 0, 1) := by decide +kernel
theorem dX2_leastTime_38 : decode cX2_leastTime 38 = .ok (.iload_n 2, 1) := by decide +kernel
theorem dX2_leastTime_39 : decode cX2_leastTime 39 = .ok (.putfield 25, 3) := by decide +kernel
theorem dX2_leastTime_42 : decode cX2_leastTime 42 = .ok (.ldc 72, 2) := by decide +kernel
theorem dX2_leastTime_44 : decode cX2_leastTime 44 = .ok (.istore 4, 2) := by decide +kernel
theorem dX2_leastTime_46 : decode cX2_leastTime 46 = .ok (.iconst 0, 1) := by decide +kernel
theorem dX2_leastTime_47 : decode cX2_leastTime 47 = .ok (.istore 5, 2) := by decide +kernel
theorem dX2_leastTime_49 : decode cX2_leastTime 49 = .ok (.iload 5, 2) := by decide +kernel
theorem dX2_leastTime_51 : decode cX2_leastTime 51 = .ok (.bipush 10, 2) := by decide +kernel
theorem dX2_leastTime_53 : decode cX2_leastTime 53 = .ok (.if_icmp .ge 54, 3) := by decide +kernel
theorem dX2_leastTime_56 : decode cX2_leastTime 56 = .ok (.iload_n 3, 1) := by decide +kernel
theorem dX2_leastTime_57 : decode cX2_leastTime 57 = .ok (.iload 5, 2) := by decide +kernel
theorem dX2_leastTime_59 : decode cX2_leastTime 59 = .ok (.ishr, 1) := by decide +kernel
theorem dX2_leastTime_60 : decode cX2_leastTime 60 = .ok (.iconst 1, 1) := by decide +kernel
theorem dX2_leastTime_61 : decode cX2_leastTime 61 = .ok (.iand, 1) := by decide +kernel
theorem dX2_leastTime_62 : decode cX2_leastTime 62 = .ok (.ifCond .eq 39, 3) := by decide +kernel
theorem dX2_leastTime_65 : decode cX2_leastTime 65 = .ok (.aload_n 0, 1) := by decide +kernel
theorem dX2_leastTime_66 : decode cX2_leastTime 66 = .ok (.getfield 9, 3) := by decide +kernel
theorem dX2_leastTime_69 : decode cX2_leastTime 69 = .ok (.iload_n 3, 1) := by decide +kernel
theorem dX2_leastTime_70 : decode cX2_leastTime 70 = .ok (.iconst 1, 1) := by decide +kernel
theorem dX2_leastTime_71 : decode cX2_leastTime 71 = .ok (.iload 5, 2) := by decide +kernel
theorem dX2_leastTime_73 : decode cX2_leastTime 73 = .ok (.ishl, 1) := by decide +kernel
theorem dX2_leastTime_74 : decode cX2_leastTime 74 = .ok (.ixor, 1) := by decide +kernel
theorem dX2_leastTime_75 : decode cX2_leastTime 75 = .ok (.bipush 10, 2) := by decide +kernel
theorem dX2_leastTime_77 : decode cX2_leastTime 77 = .ok (.imul, 1) := by decide +kernel
theorem dX2_leastTime_78 : decode cX2_leastTime 78 = .ok (.iload 5, 2) := by decide +kernel
theorem dX2_leastTime_80 : decode cX2_leastTime 80 = .ok (.iadd, 1) := by decide +kernel
theorem dX2_leastTime_81 : decode cX2_leastTime 81 = .ok (.iaload, 1) := by decide +kernel
theorem dX2_leastTime_82 : decode cX2_leastTime 82 = .ok (.istore 6, 2) := by decide +kernel
theorem dX2_leastTime_84 : decode cX2_leastTime 84 = .ok (.iload 4, 2) := by decide +kernel
theorem dX2_leastTime_86 : decode cX2_leastTime 86 = .ok (.aload_n 1, 1) := by decide +kernel
theorem dX2_leastTime_87 : decode cX2_leastTime 87 = .ok (.iload 5, 2) := by decide +kernel
theorem dX2_leastTime_89 : decode cX2_leastTime 89 = .ok (.iload_n 2, 1) := by decide +kernel
theorem dX2_leastTime_90 : decode cX2_leastTime 90 = .ok (.invokevirtual 58, 3) := by decide +kernel
theorem dX2_leastTime_93 : decode cX2_leastTime 93 = .ok (.iload 6, 2) := by decide +kernel
theorem dX2_leastTime_95 : decode cX2_leastTime 95 = .ok (.iadd, 1) := by decide +kernel
theorem dX2_leastTime_96 : decode cX2_leastTime 96 = .ok (.invokestatic 73, 3) := by decide +kernel
theorem dX2_leastTime_99 : decode cX2_leastTime 99 = .ok (.istore 4, 2) := by decide +kernel
theorem dX2_leastTime_101 : decode cX2_leastTime 101 = .ok (.iinc 5 1, 3) := by decide +kernel
theorem dX2_leastTime_104 : decode cX2_leastTime 104 = .ok (.goto (-55), 3) := by decide +kernel
theorem dX2_leastTime_107 : decode cX2_leastTime 107 = .ok (.iload 4, 2) := by decide +kernel
theorem dX2_leastTime_109 : decode cX2_leastTime 109 = .ok (.ireturn, 1) := by decide +kernel
set_option maxRecDepth 20000 in
theorem ggX2_timeWithout_X4_awayPlatters : GoodIn wsX2_timeWithout wsX4_awayPlatters := goodIn_r _ [5, 6, 7, 8, 9, 10, 11, 4, 12, 13, 14, 15, 16, 17, 18, 19, 20, 21, 94, 95, 96, 97, 98, 99, 100, 101, 102, 103, 104, 105, 106, 107, 108, 109, 110, 111, 112, 113, 114, 115, 116, 117, 118, 119, 120, 121] (by decide +kernel) (by decide +kernel)
set_option maxRecDepth 20000 in
theorem gX2_timeWithout_X4_awayPlatters : GoodIn wsX2_timeWithout (wsV RX2 28 RX4 yX4_awayPlatters wsX4_awayPlatters) := goodIn_app (goodIn_of _ (by decide +kernel)) ggX2_timeWithout_X4_awayPlatters
set_option maxRecDepth 20000 in
theorem ggX2_timeWithout_X4_driveAfterReading : GoodIn wsX2_timeWithout wsX4_driveAfterReading := goodIn_r _ [25, 6, 7, 8, 9, 10, 11, 4, 12, 13, 14, 15, 16, 17, 18, 19, 20, 21, 26, 27, 28, 29, 30, 31, 94, 95, 96, 97, 98, 99, 100, 101, 102, 103, 104, 105, 106, 107, 108, 109, 110, 111, 112, 113, 114, 115, 116, 117, 118, 119, 120, 121] (by decide +kernel) (by decide +kernel)
set_option maxRecDepth 20000 in
theorem gX2_timeWithout_X4_driveAfterReading : GoodIn wsX2_timeWithout (wsV RX2 34 RX4 yX4_driveAfterReading wsX4_driveAfterReading) := goodIn_app (goodIn_of _ (by decide +kernel)) ggX2_timeWithout_X4_driveAfterReading
set_option maxRecDepth 20000 in
theorem ggX2_timeWithout_X2_leastTime : GoodIn wsX2_timeWithout wsX2_leastTime := goodIn_r _ [36, 37, 38, 39, 40, 41, 42, 43, 44, 45, 46, 4, 47, 19, 48, 49, 50, 35, 51, 52, 53, 54, 55, 56, 57, 58, 59, 60, 61, 1, 2, 3, 5, 6, 7, 8, 9, 10, 11, 12, 13, 14, 15, 16, 17, 18, 20, 21, 62, 63, 64, 65, 66, 67, 68, 69, 70, 71, 72, 73, 74, 75, 76, 77, 78, 79, 80, 81, 82, 83, 122, 123, 124, 125, 126, 127, 94, 95, 96, 97, 98, 99, 100, 101, 102, 103, 104, 105, 106, 107, 108, 109, 110, 111, 119, 120, 121, 128, 129, 130, 131, 132, 133, 134, 135, 136, 112, 113, 114, 115, 116, 117, 118] (by decide +kernel) (by decide +kernel)
set_option maxRecDepth 20000 in
theorem gX2_timeWithout_X2_leastTime : GoodIn wsX2_timeWithout (wsV RX2 37 RX2 yX2_leastTime wsX2_leastTime) := goodIn_app (goodIn_of _ (by decide +kernel)) ggX2_timeWithout_X2_leastTime
set_option maxRecDepth 20000 in
theorem ggX2_timeWithout_X4_requestsReadTime : GoodIn wsX2_timeWithout wsX4_requestsReadTime := goodIn_r _ [87, 6, 7, 9, 10, 11, 4, 12, 13, 14, 88, 89, 90, 91, 74, 92, 93, 94, 95, 96, 97, 98, 99, 100, 101, 102, 103, 104, 105, 106, 107, 108, 109, 110, 111, 112, 113, 114, 115, 116, 117, 118] (by decide +kernel) (by decide +kernel)
set_option maxRecDepth 20000 in
theorem gX2_timeWithout_X4_requestsReadTime : GoodIn wsX2_timeWithout (wsV RX2 41 RX4 yX4_requestsReadTime wsX4_requestsReadTime) := goodIn_app (goodIn_of _ (by decide +kernel)) ggX2_timeWithout_X4_requestsReadTime
theorem dX2_timeWithout_0 : decode cX2_timeWithout 0 = .ok (.aload_n 1, 1) := by decide +kernel
theorem dX2_timeWithout_1 : decode cX2_timeWithout 1 = .ok (.iload_n 2, 1) := by decide +kernel
theorem dX2_timeWithout_2 : decode cX2_timeWithout 2 = .ok (.invokevirtual 28, 3) := by decide +kernel
theorem dX2_timeWithout_5 : decode cX2_timeWithout 5 = .ok (.istore_n 3, 1) := by decide +kernel
theorem dX2_timeWithout_6 : decode cX2_timeWithout 6 = .ok (.aload_n 0, 1) := by decide +kernel
theorem dX2_timeWithout_7 : decode cX2_timeWithout 7 = .ok (.aload_n 1, 1) := by decide +kernel
theorem dX2_timeWithout_8 : decode cX2_timeWithout 8 = .ok (.aload_n 1, 1) := by decide +kernel
theorem dX2_timeWithout_9 : decode cX2_timeWithout 9 = .ok (.iload_n 2, 1) := by decide +kernel
theorem dX2_timeWithout_10 : decode cX2_timeWithout 10 = .ok (.invokevirtual 34, 3) := by decide +kernel
theorem dX2_timeWithout_13 : decode cX2_timeWithout 13 = .ok (.iload_n 3, 1) := by decide +kernel
theorem dX2_timeWithout_14 : decode cX2_timeWithout 14 = .ok (.invokevirtual 37, 3) := by decide +kernel
theorem dX2_timeWithout_17 : decode cX2_timeWithout 17 = .ok (.istore 4, 2) := by decide +kernel
theorem dX2_timeWithout_19 : decode cX2_timeWithout 19 = .ok (.aload_n 1, 1) := by decide +kernel
theorem dX2_timeWithout_20 : decode cX2_timeWithout 20 = .ok (.iload_n 2, 1) := by decide +kernel
theorem dX2_timeWithout_21 : decode cX2_timeWithout 21 = .ok (.invokevirtual 41, 3) := by decide +kernel
theorem dX2_timeWithout_24 : decode cX2_timeWithout 24 = .ok (.iload 4, 2) := by decide +kernel
theorem dX2_timeWithout_26 : decode cX2_timeWithout 26 = .ok (.iadd, 1) := by decide +kernel
theorem dX2_timeWithout_27 : decode cX2_timeWithout 27 = .ok (.ireturn, 1) := by decide +kernel
set_option maxRecDepth 20000 in
theorem ggX2_stepTime_X4_bringTime : GoodIn wsX2_stepTime wsX4_bringTime := goodIn_r _ [7, 8, 9, 10, 11, 12, 13, 6, 14, 15, 16, 17, 18, 19, 20, 21, 22, 29, 30, 31, 32, 33, 34, 35, 36, 37, 38, 39, 40, 41, 42, 43, 44, 45, 46, 47, 48, 49, 50, 51, 52, 53, 54, 55, 56, 57, 58] (by decide +kernel) (by decide +kernel)
set_option maxRecDepth 20000 in
theorem gX2_stepTime_X4_bringTime : GoodIn wsX2_stepTime (wsV RX2 58 RX4 yX4_bringTime wsX4_bringTime) := goodIn_app (goodIn_of _ (by decide +kernel)) ggX2_stepTime_X4_bringTime
theorem dX2_stepTime_0 : decode cX2_stepTime 0 = .ok (.iload_n 2, 1) := by decide +kernel
theorem dX2_stepTime_1 : decode cX2_stepTime 1 = .ok (.iconst (-1), 1) := by decide +kernel
theorem dX2_stepTime_2 : decode cX2_stepTime 2 = .ok (.if_icmp .ne 13, 3) := by decide +kernel
theorem dX2_stepTime_5 : decode cX2_stepTime 5 = .ok (.aload_n 1, 1) := by decide +kernel
theorem dX2_stepTime_6 : decode cX2_stepTime 6 = .ok (.iload_n 3, 1) := by decide +kernel
theorem dX2_stepTime_7 : decode cX2_stepTime 7 = .ok (.aload_n 0, 1) := by decide +kernel
theorem dX2_stepTime_8 : decode cX2_stepTime 8 = .ok (.getfield 21, 3) := by decide +kernel
theorem dX2_stepTime_11 : decode cX2_stepTime 11 = .ok (.invokevirtual 58, 3) := by decide +kernel
theorem dX2_stepTime_14 : decode cX2_stepTime 14 = .ok (.ireturn, 1) := by decide +kernel
theorem dX2_stepTime_15 : decode cX2_stepTime 15 = .ok (.aload_n 0, 1) := by decide +kernel
theorem dX2_stepTime_16 : decode cX2_stepTime 16 = .ok (.getfield 15, 3) := by decide +kernel
theorem dX2_stepTime_19 : decode cX2_stepTime 19 = .ok (.iload_n 2, 1) := by decide +kernel
theorem dX2_stepTime_20 : decode cX2_stepTime 20 = .ok (.bipush 10, 2) := by decide +kernel
theorem dX2_stepTime_22 : decode cX2_stepTime 22 = .ok (.imul, 1) := by decide +kernel
theorem dX2_stepTime_23 : decode cX2_stepTime 23 = .ok (.iload_n 3, 1) := by decide +kernel
theorem dX2_stepTime_24 : decode cX2_stepTime 24 = .ok (.iadd, 1) := by decide +kernel
theorem dX2_stepTime_25 : decode cX2_stepTime 25 = .ok (.iaload, 1) := by decide +kernel
theorem dX2_stepTime_26 : decode cX2_stepTime 26 = .ok (.ireturn, 1) := by decide +kernel
set_option maxRecDepth 20000 in
theorem ggX2_lowestNext_X2_stepTime : GoodIn wsX2_lowestNext wsX2_stepTime := goodIn_r _ [6, 7, 8, 9, 10, 11, 12, 13, 14, 15, 16, 17, 18, 19, 20, 21, 22, 23, 24, 25, 26, 27, 28, 29, 30, 31, 32, 33, 34, 35, 36, 37, 38, 39, 40, 41, 42, 43, 44, 45, 46, 47, 48, 49, 50, 51, 52, 53, 54, 55, 56, 57, 58, 59, 60, 61, 62, 63, 64] (by decide +kernel) (by decide +kernel)
set_option maxRecDepth 20000 in
theorem gX2_lowestNext_X2_stepTime : GoodIn wsX2_lowestNext (wsV RX2 55 RX2 yX2_stepTime wsX2_stepTime) := goodIn_app (goodIn_of _ (by decide +kernel)) ggX2_lowestNext_X2_stepTime
theorem dX2_lowestNext_0 : decode cX2_lowestNext 0 = .ok (.iconst 0, 1) := by decide +kernel
theorem dX2_lowestNext_1 : decode cX2_lowestNext 1 = .ok (.istore 5, 2) := by decide +kernel
theorem dX2_lowestNext_3 : decode cX2_lowestNext 3 = .ok (.iload 5, 2) := by decide +kernel
theorem dX2_lowestNext_5 : decode cX2_lowestNext 5 = .ok (.bipush 10, 2) := by decide +kernel
theorem dX2_lowestNext_7 : decode cX2_lowestNext 7 = .ok (.if_icmp .ge 52, 3) := by decide +kernel
theorem dX2_lowestNext_10 : decode cX2_lowestNext 10 = .ok (.iload_n 3, 1) := by decide +kernel
theorem dX2_lowestNext_11 : decode cX2_lowestNext 11 = .ok (.iload 5, 2) := by decide +kernel
theorem dX2_lowestNext_13 : decode cX2_lowestNext 13 = .ok (.ishr, 1) := by decide +kernel
theorem dX2_lowestNext_14 : decode cX2_lowestNext 14 = .ok (.iconst 1, 1) := by decide +kernel
theorem dX2_lowestNext_15 : decode cX2_lowestNext 15 = .ok (.iand, 1) := by decide +kernel
theorem dX2_lowestNext_16 : decode cX2_lowestNext 16 = .ok (.ifCond .eq 37, 3) := by decide +kernel
theorem dX2_lowestNext_19 : decode cX2_lowestNext 19 = .ok (.aload_n 0, 1) := by decide +kernel
theorem dX2_lowestNext_20 : decode cX2_lowestNext 20 = .ok (.aload_n 1, 1) := by decide +kernel
theorem dX2_lowestNext_21 : decode cX2_lowestNext 21 = .ok (.iload_n 2, 1) := by decide +kernel
theorem dX2_lowestNext_22 : decode cX2_lowestNext 22 = .ok (.iload 5, 2) := by decide +kernel
theorem dX2_lowestNext_24 : decode cX2_lowestNext 24 = .ok (.invokevirtual 55, 3) := by decide +kernel
theorem dX2_lowestNext_27 : decode cX2_lowestNext 27 = .ok (.aload_n 0, 1) := by decide +kernel
theorem dX2_lowestNext_28 : decode cX2_lowestNext 28 = .ok (.getfield 9, 3) := by decide +kernel
theorem dX2_lowestNext_31 : decode cX2_lowestNext 31 = .ok (.iload_n 3, 1) := by decide +kernel
theorem dX2_lowestNext_32 : decode cX2_lowestNext 32 = .ok (.iconst 1, 1) := by decide +kernel
theorem dX2_lowestNext_33 : decode cX2_lowestNext 33 = .ok (.iload 5, 2) := by decide +kernel
theorem dX2_lowestNext_35 : decode cX2_lowestNext 35 = .ok (.ishl, 1) := by decide +kernel
theorem dX2_lowestNext_36 : decode cX2_lowestNext 36 = .ok (.ixor, 1) := by decide +kernel
theorem dX2_lowestNext_37 : decode cX2_lowestNext 37 = .ok (.bipush 10, 2) := by decide +kernel
theorem dX2_lowestNext_39 : decode cX2_lowestNext 39 = .ok (.imul, 1) := by decide +kernel
theorem dX2_lowestNext_40 : decode cX2_lowestNext 40 = .ok (.iload 5, 2) := by decide +kernel
theorem dX2_lowestNext_42 : decode cX2_lowestNext 42 = .ok (.iadd, 1) := by decide +kernel
theorem dX2_lowestNext_43 : decode cX2_lowestNext 43 = .ok (.iaload, 1) := by decide +kernel
theorem dX2_lowestNext_44 : decode cX2_lowestNext 44 = .ok (.iadd, 1) := by decide +kernel
theorem dX2_lowestNext_45 : decode cX2_lowestNext 45 = .ok (.iload 4, 2) := by decide +kernel
theorem dX2_lowestNext_47 : decode cX2_lowestNext 47 = .ok (.if_icmp .ne 6, 3) := by decide +kernel
theorem dX2_lowestNext_50 : decode cX2_lowestNext 50 = .ok (.iload 5, 2) := by decide +kernel
theorem dX2_lowestNext_52 : decode cX2_lowestNext 52 = .ok (.ireturn, 1) := by decide +kernel
theorem dX2_lowestNext_53 : decode cX2_lowestNext 53 = .ok (.iinc 5 1, 3) := by decide +kernel
theorem dX2_lowestNext_56 : decode cX2_lowestNext 56 = .ok (.goto (-53), 3) := by decide +kernel
theorem dX2_lowestNext_59 : decode cX2_lowestNext 59 = .ok (.iconst (-1), 1) := by decide +kernel
theorem dX2_lowestNext_60 : decode cX2_lowestNext 60 = .ok (.ireturn, 1) := by decide +kernel
set_option maxRecDepth 20000 in
theorem ggX2_planOrder_X4_awayPlatters : GoodIn wsX2_planOrder wsX4_awayPlatters := goodIn_r _ [9, 10, 11, 12, 13, 14, 15, 8, 16, 17, 18, 19, 20, 21, 22, 23, 24, 25, 101, 102, 103, 104, 105, 106, 107, 108, 109, 110, 111, 112, 113, 114, 115, 116, 117, 118, 119, 120, 121, 122, 123, 124, 125, 126, 127, 128] (by decide +kernel) (by decide +kernel)
set_option maxRecDepth 20000 in
theorem gX2_planOrder_X4_awayPlatters : GoodIn wsX2_planOrder (wsV RX2 28 RX4 yX4_awayPlatters wsX4_awayPlatters) := goodIn_app (goodIn_of _ (by decide +kernel)) ggX2_planOrder_X4_awayPlatters
set_option maxRecDepth 20000 in
theorem ggX2_planOrder_X4_driveAfterReading : GoodIn wsX2_planOrder wsX4_driveAfterReading := goodIn_r _ [29, 10, 11, 12, 13, 14, 15, 8, 16, 17, 18, 19, 20, 21, 22, 23, 24, 25, 30, 31, 32, 33, 34, 35, 101, 102, 103, 104, 105, 106, 107, 108, 109, 110, 111, 112, 113, 114, 115, 116, 117, 118, 119, 120, 121, 122, 123, 124, 125, 126, 127, 128] (by decide +kernel) (by decide +kernel)
set_option maxRecDepth 20000 in
theorem gX2_planOrder_X4_driveAfterReading : GoodIn wsX2_planOrder (wsV RX2 34 RX4 yX4_driveAfterReading wsX4_driveAfterReading) := goodIn_app (goodIn_of _ (by decide +kernel)) ggX2_planOrder_X4_driveAfterReading
set_option maxRecDepth 20000 in
theorem ggX2_planOrder_X4_hasDrive : GoodIn wsX2_planOrder wsX4_hasDrive := goodIn_r _ [39, 23, 101, 102, 103, 104, 105, 106, 107, 108, 109, 110, 111, 112, 113, 114, 115, 116, 117, 118] (by decide +kernel) (by decide +kernel)
set_option maxRecDepth 20000 in
theorem gX2_planOrder_X4_hasDrive : GoodIn wsX2_planOrder (wsV RX2 47 RX4 yX4_hasDrive wsX4_hasDrive) := goodIn_app (goodIn_of _ (by decide +kernel)) ggX2_planOrder_X4_hasDrive
set_option maxRecDepth 20000 in
theorem ggX2_planOrder_X2_leastTime : GoodIn wsX2_planOrder wsX2_leastTime := goodIn_r _ [44, 45, 46, 3, 47, 48, 49, 50, 36, 37, 38, 8, 39, 23, 51, 52, 53, 43, 54, 55, 56, 57, 58, 59, 60, 61, 62, 63, 64, 5, 6, 7, 9, 10, 11, 12, 13, 14, 15, 16, 17, 18, 19, 20, 21, 22, 24, 25, 65, 66, 67, 68, 69, 70, 71, 72, 73, 74, 75, 76, 77, 78, 79, 80, 81, 82, 83, 84, 85, 86, 95, 96, 97, 98, 99, 100, 101, 102, 103, 104, 105, 106, 107, 108, 109, 110, 111, 112, 113, 114, 115, 116, 117, 118, 126, 127, 128, 129, 130, 131, 132, 133, 134, 135, 136, 137, 119, 120, 121, 122, 123, 124, 125] (by decide +kernel) (by decide +kernel)
set_option maxRecDepth 20000 in
theorem gX2_planOrder_X2_leastTime : GoodIn wsX2_planOrder (wsV RX2 37 RX2 yX2_leastTime wsX2_leastTime) := goodIn_app (goodIn_of _ (by decide +kernel)) ggX2_planOrder_X2_leastTime
set_option maxRecDepth 20000 in
theorem ggX2_planOrder_X2_lowestNext : GoodIn wsX2_planOrder wsX2_lowestNext := goodIn_r _ [90, 3, 91, 92, 93, 43, 94, 1, 64, 73, 74, 75, 8, 76, 24, 25, 77, 78, 79, 80, 81, 82, 83, 84, 85, 86, 62, 49, 63, 95, 96, 97, 98, 99, 100, 101, 102, 103, 104, 105, 106, 107, 108, 109, 110, 111, 112, 113, 114, 115, 116, 117, 118, 126, 127, 128, 129, 130, 131, 132, 133, 134, 135, 136, 137] (by decide +kernel) (by decide +kernel)
set_option maxRecDepth 20000 in
theorem gX2_planOrder_X2_lowestNext : GoodIn wsX2_planOrder (wsV RX2 51 RX2 yX2_lowestNext wsX2_lowestNext) := goodIn_app (goodIn_of _ (by decide +kernel)) ggX2_planOrder_X2_lowestNext
theorem dX2_planOrder_0 : decode cX2_planOrder 0 = .ok (.aload_n 1, 1) := by decide +kernel
theorem dX2_planOrder_1 : decode cX2_planOrder 1 = .ok (.iconst (-1), 1) := by decide +kernel
theorem dX2_planOrder_2 : decode cX2_planOrder 2 = .ok (.invokevirtual 28, 3) := by decide +kernel
theorem dX2_planOrder_5 : decode cX2_planOrder 5 = .ok (.istore_n 2, 1) := by decide +kernel
theorem dX2_planOrder_6 : decode cX2_planOrder 6 = .ok (.aload_n 0, 1) := by decide +kernel
theorem dX2_planOrder_7 : decode cX2_planOrder 7 = .ok (.aload_n 1, 1) := by decide +kernel
theorem dX2_planOrder_8 : decode cX2_planOrder 8 = .ok (.iconst (-1), 1) := by decide +kernel
theorem dX2_planOrder_9 : decode cX2_planOrder 9 = .ok (.invokevirtual 34, 3) := by decide +kernel
theorem dX2_planOrder_12 : decode cX2_planOrder 12 = .ok (.putfield 21, 3) := by decide +kernel
theorem dX2_planOrder_15 : decode cX2_planOrder 15 = .ok (.aload_n 0, 1) := by decide +kernel
theorem dX2_planOrder_16 : decode cX2_planOrder 16 = .ok (.iconst 0, 1) := by decide +kernel
theorem dX2_planOrder_17 : decode cX2_planOrder 17 = .ok (.putfield 44, 3) := by decide +kernel
theorem dX2_planOrder_20 : decode cX2_planOrder 20 = .ok (.aload_n 1, 1) := by decide +kernel
theorem dX2_planOrder_21 : decode cX2_planOrder 21 = .ok (.aload_n 0, 1) := by decide +kernel
theorem dX2_planOrder_22 : decode cX2_planOrder 22 = .ok (.getfield 21, 3) := by decide +kernel
theorem dX2_planOrder_25 : decode cX2_planOrder 25 = .ok (.invokevirtual 47, 3) := by decide +kernel
theorem dX2_planOrder_28 : decode cX2_planOrder 28 = .ok (.ifCond .ne 4, 3) := by decide +kernel
theorem dX2_planOrder_31 : decode cX2_planOrder 31 = .ok (.return_, 1) := by decide +kernel
theorem dX2_planOrder_32 : decode cX2_planOrder 32 = .ok (.aload_n 0, 1) := by decide +kernel
theorem dX2_planOrder_33 : decode cX2_planOrder 33 = .ok (.aload_n 1, 1) := by decide +kernel
theorem dX2_planOrder_34 : decode cX2_planOrder 34 = .ok (.aload_n 0, 1) := by decide +kernel
theorem dX2_planOrder_35 : decode cX2_planOrder 35 = .ok (.getfield 21, 3) := by decide +kernel
theorem dX2_planOrder_38 : decode cX2_planOrder 38 = .ok (.iload_n 2, 1) := by decide +kernel
theorem dX2_planOrder_39 : decode cX2_planOrder 39 = .ok (.invokevirtual 37, 3) := by decide +kernel
theorem dX2_planOrder_42 : decode cX2_planOrder 42 = .ok (.istore_n 3, 1) := by decide +kernel
theorem dX2_planOrder_43 : decode cX2_planOrder 43 = .ok (.iconst (-1), 1) := by decide +kernel
theorem dX2_planOrder_44 : decode cX2_planOrder 44 = .ok (.istore 4, 2) := by decide +kernel
theorem dX2_planOrder_46 : decode cX2_planOrder 46 = .ok (.iconst 0, 1) := by decide +kernel
theorem dX2_planOrder_47 : decode cX2_planOrder 47 = .ok (.istore 5, 2) := by decide +kernel
theorem dX2_planOrder_49 : decode cX2_planOrder 49 = .ok (.iload 5, 2) := by decide +kernel
theorem dX2_planOrder_51 : decode cX2_planOrder 51 = .ok (.bipush 10, 2) := by decide +kernel
theorem dX2_planOrder_53 : decode cX2_planOrder 53 = .ok (.if_icmp .ge 74, 3) := by decide +kernel
theorem dX2_planOrder_56 : decode cX2_planOrder 56 = .ok (.iload_n 2, 1) := by decide +kernel
theorem dX2_planOrder_57 : decode cX2_planOrder 57 = .ok (.ifCond .eq 70, 3) := by decide +kernel
theorem dX2_planOrder_60 : decode cX2_planOrder 60 = .ok (.aload_n 0, 1) := by decide +kernel
theorem dX2_planOrder_61 : decode cX2_planOrder 61 = .ok (.aload_n 1, 1) := by decide +kernel
theorem dX2_planOrder_62 : decode cX2_planOrder 62 = .ok (.iload 4, 2) := by decide +kernel
theorem dX2_planOrder_64 : decode cX2_planOrder 64 = .ok (.iload_n 2, 1) := by decide +kernel
theorem dX2_planOrder_65 : decode cX2_planOrder 65 = .ok (.iload_n 3, 1) := by decide +kernel
theorem dX2_planOrder_66 : decode cX2_planOrder 66 = .ok (.invokevirtual 51, 3) := by decide +kernel
theorem dX2_planOrder_69 : decode cX2_planOrder 69 = .ok (.istore 6, 2) := by decide +kernel
theorem dX2_planOrder_71 : decode cX2_planOrder 71 = .ok (.iload 6, 2) := by decide +kernel
theorem dX2_planOrder_73 : decode cX2_planOrder 73 = .ok (.iconst (-1), 1) := by decide +kernel
theorem dX2_planOrder_74 : decode cX2_planOrder 74 = .ok (.if_icmp .ne 4, 3) := by decide +kernel
theorem dX2_planOrder_77 : decode cX2_planOrder 77 = .ok (.return_, 1) := by decide +kernel
theorem dX2_planOrder_78 : decode cX2_planOrder 78 = .ok (.iload_n 2, 1) := by decide +kernel
theorem dX2_planOrder_79 : decode cX2_planOrder 79 = .ok (.iconst 1, 1) := by decide +kernel
theorem dX2_planOrder_80 : decode cX2_planOrder 80 = .ok (.iload 6, 2) := by decide +kernel
theorem dX2_planOrder_82 : decode cX2_planOrder 82 = .ok (.ishl, 1) := by decide +kernel
theorem dX2_planOrder_83 : decode cX2_planOrder 83 = .ok (.ixor, 1) := by decide +kernel
theorem dX2_planOrder_84 : decode cX2_planOrder 84 = .ok (.istore_n 2, 1) := by decide +kernel
theorem dX2_planOrder_85 : decode cX2_planOrder 85 = .ok (.aload_n 0, 1) := by decide +kernel
theorem dX2_planOrder_86 : decode cX2_planOrder 86 = .ok (.getfield 9, 3) := by decide +kernel
theorem dX2_planOrder_89 : decode cX2_planOrder 89 = .ok (.iload_n 2, 1) := by decide +kernel
theorem dX2_planOrder_90 : decode cX2_planOrder 90 = .ok (.bipush 10, 2) := by decide +kernel
theorem dX2_planOrder_92 : decode cX2_planOrder 92 = .ok (.imul, 1) := by decide +kernel
theorem dX2_planOrder_93 : decode cX2_planOrder 93 = .ok (.iload 6, 2) := by decide +kernel
theorem dX2_planOrder_95 : decode cX2_planOrder 95 = .ok (.iadd, 1) := by decide +kernel
theorem dX2_planOrder_96 : decode cX2_planOrder 96 = .ok (.iaload, 1) := by decide +kernel
theorem dX2_planOrder_97 : decode cX2_planOrder 97 = .ok (.istore_n 3, 1) := by decide +kernel
theorem dX2_planOrder_98 : decode cX2_planOrder 98 = .ok (.aload_n 0, 1) := by decide +kernel
theorem dX2_planOrder_99 : decode cX2_planOrder 99 = .ok (.getfield 18, 3) := by decide +kernel
theorem dX2_planOrder_102 : decode cX2_planOrder 102 = .ok (.iload 5, 2) := by decide +kernel
theorem dX2_planOrder_104 : decode cX2_planOrder 104 = .ok (.iload 6, 2) := by decide +kernel
theorem dX2_planOrder_106 : decode cX2_planOrder 106 = .ok (.iastore, 1) := by decide +kernel
theorem dX2_planOrder_107 : decode cX2_planOrder 107 = .ok (.aload_n 0, 1) := by decide +kernel
theorem dX2_planOrder_108 : decode cX2_planOrder 108 = .ok (.dup, 1) := by decide +kernel
theorem dX2_planOrder_109 : decode cX2_planOrder 109 = .ok (.getfield 44, 3) := by decide +kernel
theorem dX2_planOrder_112 : decode cX2_planOrder 112 = .ok (.iconst 1, 1) := by decide +kernel
theorem dX2_planOrder_113 : decode cX2_planOrder 113 = .ok (.iadd, 1) := by decide +kernel
theorem dX2_planOrder_114 : decode cX2_planOrder 114 = .ok (.putfield 44, 3) := by decide +kernel
theorem dX2_planOrder_117 : decode cX2_planOrder 117 = .ok (.iload 6, 2) := by decide +kernel
theorem dX2_planOrder_119 : decode cX2_planOrder 119 = .ok (.istore 4, 2) := by decide +kernel
theorem dX2_planOrder_121 : decode cX2_planOrder 121 = .ok (.iinc 5 1, 3) := by decide +kernel
theorem dX2_planOrder_124 : decode cX2_planOrder 124 = .ok (.goto (-75), 3) := by decide +kernel
theorem dX2_planOrder_127 : decode cX2_planOrder 127 = .ok (.return_, 1) := by decide +kernel
abbrev rm_X2_forgetTable : Room := { frames := 0, cells := 0, slots := 0, locals := 0 }
set_option maxRecDepth 100000 in
set_option maxHeartbeats 4000000 in
theorem ct_X2_forgetTable (l : Launch) (g : GT) (w : WT) (pi : Nat) (hp : k_pl w.1 = some pi) (pd : SD) {q : SD} (hf : f_X2_forgetTable pd  = some q) : Met l yX2_forgetTable wsX2_forgetTable rm_X2_forgetTable (cPre g (wP w pd) [.ref (adr pi 2 0)]) (cQv g (wP w q)) 0 0 (gA g) := by
  have i_2 : ∀ w ∈ u_ws RX2 TX2 6, w ∈ wsX2_forgetTable := by decide +kernel
  refine x_met (by decide) rfl (Nat.le_of_ble_eq_true rfl) ?_
  intro p e s m below meth c hx hb hr hml hts hown hlocks hK hW hS ls hl
  have hown : s.vm.findClass RX2 = some m.cls := hown
  have hl : lv_has ls 1 [(0, .ref (adr pi 2 0))] := hl
  rw [f_X2_forgetTable] at hf
  refine lv_aload_n hx hb dX2_forgetTable_0 rfl (lv_at hl 0 rfl) ?_
  refine lv_iconst (v := -1) hx hb dX2_forgetTable_1 (by decide) ?_
  obtain ⟨pd1, e_pd1, hf⟩ := x_letE hf
  refine x_put (i := pi) (k := 2) (j := 0) (t := 5) (w' := wP w pd1) hx hb hts i_2 tyX2 tyX2_ok nmX2 hown hK hW ⟨hp, by decide⟩ hS rfl ⟨by decide, by decide, rfl⟩ (hts (.fieldLink RX2 25 "OpticalJukebox$Planner" "tableDrive" "I") (by decide +kernel)) rfl (ty := .int) (by decide +kernel) rfl rfl ⟨rfl, rfl⟩ dX2_forgetTable_2 (fp_P hp e_pd1 rfl) (fun H locs hW hS => ?_)
  cases hf
  exact x_vret hx hb hr hlocks hK hW hS dX2_forgetTable_5
abbrev rm_X2_fillSwap : Room := { frames := 1, cells := 0, slots := 0, locals := 21 }
set_option maxRecDepth 100000 in
set_option maxHeartbeats 4000000 in
theorem ct_X2_fillSwap (l : Launch) (g : GT) (w : WT) (pi : Nat) (hp : k_pl w.1 = some pi) (pd : SD) (i : Nat) (hi : i ∈ k_S w.1) (sd : SD) (a2 : Int32) {q : SD} (hf : f_X2_fillSwap sd pd a2 = some q) : Met l yX2_fillSwap wsX2_fillSwap rm_X2_fillSwap (cPre g (wS (wP w pd) i sd) [.ref (adr pi 2 0), .ref (adr i 4 0), .int a2]) (cQv g (wS (wP w q) i sd)) 0 0 (gA g) := by
  have i_0 : ∀ w ∈ u_ws RX0 TX0 3, w ∈ wsX2_fillSwap := by decide +kernel
  have i_2 : ∀ w ∈ u_ws RX2 TX2 6, w ∈ wsX2_fillSwap := by decide +kernel
  have i_3 : ∀ w ∈ u_ws RX3 TX3 9, w ∈ wsX2_fillSwap := by decide +kernel
  have i_4 : ∀ w ∈ u_ws RX4 TX4 18, w ∈ wsX2_fillSwap := by decide +kernel
  refine x_met (by decide) rfl (Nat.le_of_ble_eq_true rfl) ?_
  intro p e s m below meth c hx hb hr hml hts hown hlocks hK hW hS ls hl
  have hown : s.vm.findClass RX2 = some m.cls := hown
  have hl : lv_has ls 10 [(0, .ref (adr pi 2 0)), (1, .ref (adr i 4 0)), (2, .int a2)] := hl
  rw [f_X2_fillSwap] at hf
  refine lv_aload_n hx hb dX2_fillSwap_0 rfl (lv_at hl 1 rfl) ?_
  refine x_get (i := i) (k := 4) (j := 0) (t := 2) hx hb hts i_4 hown hK hW ⟨hi, by decide⟩ rfl ⟨by decide, by decide, rfl⟩ (hts (.fieldLink RX2 78 "OpticalJukebox$State" "drives" "[LOpticalJukebox$Drive;") (by decide +kernel)) (v := .ref (adr i 11 0)) rfl dX2_fillSwap_1 ?_
  refine lv_iload_n hx hb dX2_fillSwap_4 rfl (lv_at hl 2 rfl) ?_
  obtain ⟨hg1, hf⟩ := x_guardE hf
  refine x_aald (i := i) (k := 11) (j := 0) hx hb hK hW ⟨hi, by decide⟩ (by decide) rfl rfl hg1 dX2_fillSwap_5 ?_
  refine W.eq (g2 := F0 m 6 ls [.ref (adr i 0 (a2).toNatClampNeg)]) rfl ?_
  refine x_get (i := i) (k := 0) (j := (a2).toNatClampNeg) (t := 0) hx hb hts i_0 hown hK hW ⟨hi, (x_lt hg1)⟩ rfl ⟨by decide, by decide, rfl⟩ (hts (.fieldLink RX2 82 "OpticalJukebox$Drive" "position" "I") (by decide +kernel)) (sv_S rfl (fun _ => rfl) rfl) dX2_fillSwap_6 ?_
  obtain ⟨x2, e_x2, hf⟩ := x_letE hf
  refine x_topi e_x2 ?_
  refine lv_istore_n (lv' := [(3, .int x2), (0, .ref (adr pi 2 0)), (1, .ref (adr i 4 0)), (2, .int a2)]) hx hb dX2_fillSwap_9 rfl hl (by decide) rfl (fun ls hl => ?_)
  refine lv_iconst (v := 4) hx hb dX2_fillSwap_10 (by decide) ?_
  refine lv_aload_n hx hb dX2_fillSwap_11 rfl (lv_at hl 2 rfl) ?_
  refine x_get (i := i) (k := 4) (j := 0) (t := 1) hx hb hts i_4 hown hK hW ⟨hi, by decide⟩ rfl ⟨by decide, by decide, rfl⟩ (hts (.fieldLink RX2 87 "OpticalJukebox$State" "times" "[I") (by decide +kernel)) (v := .ref (adr i 10 0)) rfl dX2_fillSwap_12 ?_
  refine lv_iconst (v := 1) hx hb dX2_fillSwap_15 (by decide) ?_
  refine x_iald (i := i) (k := 10) (j := 0) (f := sd 10 0) hx hb hK hW ⟨hi, by decide⟩ (by decide) (ct_S rfl (fun _ => rfl)) rfl (by unfold vp_in; decide) dX2_fillSwap_16 ?_
  refine W.eq (g2 := F0 m 17 ls [.int (sd 10 0 1), .int (4 : Int32)]) rfl ?_
  refine lv_imul hx hb dX2_fillSwap_17 ?_
  refine lv_aload_n hx hb dX2_fillSwap_18 rfl (lv_at hl 2 rfl) ?_
  refine x_get (i := i) (k := 4) (j := 0) (t := 1) hx hb hts i_4 hown hK hW ⟨hi, by decide⟩ rfl ⟨by decide, by decide, rfl⟩ (hts (.fieldLink RX2 87 "OpticalJukebox$State" "times" "[I") (by decide +kernel)) (v := .ref (adr i 10 0)) rfl dX2_fillSwap_19 ?_
  refine lv_iconst (v := 2) hx hb dX2_fillSwap_22 (by decide) ?_
  refine x_iald (i := i) (k := 10) (j := 0) (f := sd 10 0) hx hb hK hW ⟨hi, by decide⟩ (by decide) (ct_S rfl (fun _ => rfl)) rfl (by unfold vp_in; decide) dX2_fillSwap_23 ?_
  refine W.eq (g2 := F0 m 24 ls [.int (sd 10 0 2), .int ((4 : Int32) * (sd 10 0 1))]) rfl ?_
  refine lv_iadd hx hb dX2_fillSwap_24 ?_
  obtain ⟨x3, e_x3, hf⟩ := x_letE hf
  refine x_topi e_x3 ?_
  refine lv_istore (lv' := [(4, .int x3), (3, .int x2), (0, .ref (adr pi 2 0)), (1, .ref (adr i 4 0)), (2, .int a2)]) hx hb dX2_fillSwap_25 hl (by decide) rfl (fun ls hl => ?_)
  refine lv_iconst (v := 0) hx hb dX2_fillSwap_27 (by decide) ?_
  refine lv_istore (lv' := [(5, .int (0 : Int32)), (4, .int x3), (3, .int x2), (0, .ref (adr pi 2 0)), (1, .ref (adr i 4 0)), (2, .int a2)]) hx hb dX2_fillSwap_28 hl (by decide) rfl (fun ls hl => ?_)
  have L30 : ∀ (n : Nat) (v5_30 : Int32) (pd_30 : SD) (ls : Array Slot) (H : Heap) (locs : List Loc), lv_has ls 10 [(0, .ref (adr pi 2 0)), (1, .ref (adr i 4 0)), (2, .int a2), (3, .int x2), (4, .int x3), (5, .int v5_30)] → World g (wS (wP w pd_30) i sd) H → va_S (gA g) s.heap H locs → f_X2_fillSwap_L30 sd x2 x3 n v5_30 pd_30 = some q → W p l e rm_X2_fillSwap s m [.ref (adr pi 2 0), .ref (adr i 4 0), .int a2].toArray below meth c H locs 0 0 (MQ below (cQv g (wS (wP w q) i sd)) [.ref (adr pi 2 0), .ref (adr i 4 0), .int a2].toArray s 0 0 (gA g)) (F0 m 30 ls []) := by
    clear hW hS hl
    intro n
    induction n with
    | zero => intro v5_30 pd_30 ls H locs hl hW hS hf; cases hf
    | succ n_30 ih =>
      intro v5_30 pd_30 ls H locs hl hW hS hf
      rw [f_X2_fillSwap_L30] at hf
      refine lv_iload hx hb dX2_fillSwap_30 (lv_at hl 5 rfl) ?_
      refine lv_aload_n hx hb dX2_fillSwap_32 rfl (lv_at hl 1 rfl) ?_
      refine x_get (i := i) (k := 4) (j := 0) (t := 6) hx hb hts i_4 hown hK hW ⟨hi, by decide⟩ rfl ⟨by decide, by decide, rfl⟩ (hts (.fieldLink RX2 90 "OpticalJukebox$State" "platterCount" "I") (by decide +kernel)) (sv_S rfl (fun _ => rfl) rfl) dX2_fillSwap_33 ?_
      refine lv_icmp_ge (tgt := 138) hx hb dX2_fillSwap_36 (by decide) (fun hc => ?_) (fun hc => ?_)
      · have hf := x_iteT hf hc
        cases hf
        exact x_vret hx hb hr hlocks hK hW hS dX2_fillSwap_138
      · have hf := x_iteF hf hc
        refine lv_aload_n hx hb dX2_fillSwap_39 rfl (lv_at hl 1 rfl) ?_
        refine x_get (i := i) (k := 4) (j := 0) (t := 5) hx hb hts i_4 hown hK hW ⟨hi, by decide⟩ rfl ⟨by decide, by decide, rfl⟩ (hts (.fieldLink RX2 93 "OpticalJukebox$State" "platters" "[LOpticalJukebox$Platter;") (by decide +kernel)) (v := .ref (adr i 12 0)) rfl dX2_fillSwap_40 ?_
        refine lv_iload hx hb dX2_fillSwap_43 (lv_at hl 5 rfl) ?_
        obtain ⟨hg4, hf⟩ := x_guardE hf
        refine x_aald (i := i) (k := 12) (j := 0) hx hb hK hW ⟨hi, by decide⟩ (by decide) rfl rfl hg4 dX2_fillSwap_45 ?_
        refine W.eq (g2 := F0 m 46 ls [.ref (adr i 3 (v5_30).toNatClampNeg)]) rfl ?_
        refine x_get (i := i) (k := 3) (j := (v5_30).toNatClampNeg) (t := 0) hx hb hts i_3 hown hK hW ⟨hi, (x_lt hg4)⟩ rfl ⟨by decide, by decide, rfl⟩ (hts (.fieldLink RX2 97 "OpticalJukebox$Platter" "home" "I") (by decide +kernel)) (sv_S rfl (fun _ => rfl) rfl) dX2_fillSwap_46 ?_
        obtain ⟨x5, e_x5, hf⟩ := x_letE hf
        refine x_topi e_x5 ?_
        refine lv_istore (lv' := [(6, .int x5), (0, .ref (adr pi 2 0)), (1, .ref (adr i 4 0)), (2, .int a2), (3, .int x2), (4, .int x3), (5, .int v5_30)]) hx hb dX2_fillSwap_49 hl (by decide) rfl (fun ls hl => ?_)
        refine lv_iconst (v := 0) hx hb dX2_fillSwap_51 (by decide) ?_
        refine lv_istore (lv' := [(7, .int (0 : Int32)), (6, .int x5), (0, .ref (adr pi 2 0)), (1, .ref (adr i 4 0)), (2, .int a2), (3, .int x2), (4, .int x3), (5, .int v5_30)]) hx hb dX2_fillSwap_52 hl (by decide) rfl (fun ls hl => ?_)
        obtain ⟨q6, h_q6, hf⟩ := x_bindE hf
        have L54 : ∀ (QQ : State → Prop) (n : Nat) (v7_54 : Int32) (pd_54 : SD) (ls : Array Slot) (H : Heap) (locs : List Loc), lv_has ls 10 [(0, .ref (adr pi 2 0)), (1, .ref (adr i 4 0)), (2, .int a2), (3, .int x2), (4, .int x3), (5, .int v5_30), (6, .int x5), (7, .int v7_54)] → World g (wS (wP w pd_54) i sd) H → va_S (gA g) s.heap H locs → f_X2_fillSwap_L54 sd x2 x5 v5_30 x3 n v7_54 pd_54 = some q6 → (∀ (ls : Array Slot) (H : Heap) (locs : List Loc), lv_has ls 10 [(0, .ref (adr pi 2 0)), (1, .ref (adr i 4 0)), (2, .int a2), (3, .int x2), (4, .int x3), (5, .int v5_30), (6, .int x5), (7, .int q6.1)] → World g (wS (wP w q6.2) i sd) H → va_S (gA g) s.heap H locs → W p l e rm_X2_fillSwap s m [.ref (adr pi 2 0), .ref (adr i 4 0), .int a2].toArray below meth c H locs 0 0 QQ (F0 m 132 ls [])) → W p l e rm_X2_fillSwap s m [.ref (adr pi 2 0), .ref (adr i 4 0), .int a2].toArray below meth c H locs 0 0 QQ (F0 m 54 ls []) := by
          clear hW hS hl hf
          intro QQ n
          induction n with
          | zero => intro v7_54 pd_54 ls H locs hl hW hS hf kk; cases hf
          | succ n_54 ih =>
            intro v7_54 pd_54 ls H locs hl hW hS hf kk
            rw [f_X2_fillSwap_L54] at hf
            refine lv_iload hx hb dX2_fillSwap_54 (lv_at hl 7 rfl) ?_
            refine lv_aload_n hx hb dX2_fillSwap_56 rfl (lv_at hl 1 rfl) ?_
            refine x_get (i := i) (k := 4) (j := 0) (t := 6) hx hb hts i_4 hown hK hW ⟨hi, by decide⟩ rfl ⟨by decide, by decide, rfl⟩ (hts (.fieldLink RX2 90 "OpticalJukebox$State" "platterCount" "I") (by decide +kernel)) (sv_S rfl (fun _ => rfl) rfl) dX2_fillSwap_57 ?_
            refine lv_icmp_ge (tgt := 132) hx hb dX2_fillSwap_60 (by decide) (fun hc => ?_) (fun hc => ?_)
            · have hf := x_iteT hf hc
              cases hf
              exact kk ls _ _ hl hW hS
            · have hf := x_iteF hf hc
              refine lv_aload_n hx hb dX2_fillSwap_63 rfl (lv_at hl 1 rfl) ?_
              refine x_get (i := i) (k := 4) (j := 0) (t := 5) hx hb hts i_4 hown hK hW ⟨hi, by decide⟩ rfl ⟨by decide, by decide, rfl⟩ (hts (.fieldLink RX2 93 "OpticalJukebox$State" "platters" "[LOpticalJukebox$Platter;") (by decide +kernel)) (v := .ref (adr i 12 0)) rfl dX2_fillSwap_64 ?_
              refine lv_iload hx hb dX2_fillSwap_67 (lv_at hl 7 rfl) ?_
              obtain ⟨hg7, hf⟩ := x_guardE hf
              refine x_aald (i := i) (k := 12) (j := 0) hx hb hK hW ⟨hi, by decide⟩ (by decide) rfl rfl hg7 dX2_fillSwap_69 ?_
              refine W.eq (g2 := F0 m 70 ls [.ref (adr i 3 (v7_54).toNatClampNeg)]) rfl ?_
              refine x_get (i := i) (k := 3) (j := (v7_54).toNatClampNeg) (t := 0) hx hb hts i_3 hown hK hW ⟨hi, (x_lt hg7)⟩ rfl ⟨by decide, by decide, rfl⟩ (hts (.fieldLink RX2 97 "OpticalJukebox$Platter" "home" "I") (by decide +kernel)) (sv_S rfl (fun _ => rfl) rfl) dX2_fillSwap_70 ?_
              obtain ⟨x8, e_x8, hf⟩ := x_letE hf
              refine x_topi e_x8 ?_
              refine lv_istore (lv' := [(8, .int x8), (0, .ref (adr pi 2 0)), (1, .ref (adr i 4 0)), (2, .int a2), (3, .int x2), (4, .int x3), (5, .int v5_30), (6, .int x5), (7, .int v7_54)]) hx hb dX2_fillSwap_73 hl (by decide) rfl (fun ls hl => ?_)
              refine lv_iload_n hx hb dX2_fillSwap_75 rfl (lv_at hl 4 rfl) ?_
              refine lv_iload hx hb dX2_fillSwap_76 (lv_at hl 7 rfl) ?_
              refine lv_isub hx hb dX2_fillSwap_78 ?_
              refine va_mabs hx hb (hml.trans hl.1.symm) hown (hts (.methodLink RX2 102 Lib.Math.abs.name) (by decide +kernel)) (hts (.static Lib.Math.abs.name) (by decide +kernel)) (hts (.initialized "java/lang/Math") (by decide +kernel)) (hts (.code Lib.Math.abs.name Lib.Math.abs.code 1 (some .int)) (by decide +kernel)) (Nat.le_of_ble_eq_true rfl) (Nat.le_of_ble_eq_true rfl) (Nat.le_of_ble_eq_true rfl) (Nat.le_of_ble_eq_true rfl) dX2_fillSwap_79 ?_
              refine lv_iload hx hb dX2_fillSwap_82 (lv_at hl 7 rfl) ?_
              refine lv_iload hx hb dX2_fillSwap_84 (lv_at hl 0 rfl) ?_
              refine lv_isub hx hb dX2_fillSwap_86 ?_
              refine va_mabs hx hb (hml.trans hl.1.symm) hown (hts (.methodLink RX2 102 Lib.Math.abs.name) (by decide +kernel)) (hts (.static Lib.Math.abs.name) (by decide +kernel)) (hts (.initialized "java/lang/Math") (by decide +kernel)) (hts (.code Lib.Math.abs.name Lib.Math.abs.code 1 (some .int)) (by decide +kernel)) (Nat.le_of_ble_eq_true rfl) (Nat.le_of_ble_eq_true rfl) (Nat.le_of_ble_eq_true rfl) (Nat.le_of_ble_eq_true rfl) dX2_fillSwap_87 ?_
              refine lv_iadd hx hb dX2_fillSwap_90 ?_
              refine lv_iload hx hb dX2_fillSwap_91 (lv_at hl 0 rfl) ?_
              refine lv_iload_n hx hb dX2_fillSwap_93 rfl (lv_at hl 4 rfl) ?_
              refine lv_isub hx hb dX2_fillSwap_94 ?_
              refine va_mabs hx hb (hml.trans hl.1.symm) hown (hts (.methodLink RX2 102 Lib.Math.abs.name) (by decide +kernel)) (hts (.static Lib.Math.abs.name) (by decide +kernel)) (hts (.initialized "java/lang/Math") (by decide +kernel)) (hts (.code Lib.Math.abs.name Lib.Math.abs.code 1 (some .int)) (by decide +kernel)) (Nat.le_of_ble_eq_true rfl) (Nat.le_of_ble_eq_true rfl) (Nat.le_of_ble_eq_true rfl) (Nat.le_of_ble_eq_true rfl) dX2_fillSwap_95 ?_
              refine lv_iadd hx hb dX2_fillSwap_98 ?_
              obtain ⟨x9, e_x9, hf⟩ := x_letE hf
              refine x_topi e_x9 ?_
              refine lv_istore (lv' := [(9, .int x9), (8, .int x8), (0, .ref (adr pi 2 0)), (1, .ref (adr i 4 0)), (2, .int a2), (3, .int x2), (4, .int x3), (5, .int v5_30), (6, .int x5), (7, .int v7_54)]) hx hb dX2_fillSwap_99 hl (by decide) rfl (fun ls hl => ?_)
              refine lv_aload_n hx hb dX2_fillSwap_101 rfl (lv_at hl 2 rfl) ?_
              refine x_get (i := pi) (k := 2) (j := 0) (t := 1) hx hb hts i_2 hown hK hW ⟨hp, by decide⟩ rfl ⟨by decide, by decide, rfl⟩ (hts (.fieldLink RX2 15 "OpticalJukebox$Planner" "swap" "[I") (by decide +kernel)) (v := .ref (adr pi 24 0)) rfl dX2_fillSwap_102 ?_
              refine lv_iload hx hb dX2_fillSwap_105 (lv_at hl 7 rfl) ?_
              refine lv_bipush (v := 10) hx hb dX2_fillSwap_107 (by decide) ?_
              refine lv_imul hx hb dX2_fillSwap_109 ?_
              refine lv_iload hx hb dX2_fillSwap_110 (lv_at hl 9 rfl) ?_
              refine lv_iadd hx hb dX2_fillSwap_112 ?_
              refine lv_iload hx hb dX2_fillSwap_113 (lv_at hl 0 rfl) ?_
              refine lv_aload_n hx hb dX2_fillSwap_115 rfl (lv_at hl 3 rfl) ?_
              refine x_get (i := i) (k := 4) (j := 0) (t := 1) hx hb hts i_4 hown hK hW ⟨hi, by decide⟩ rfl ⟨by decide, by decide, rfl⟩ (hts (.fieldLink RX2 87 "OpticalJukebox$State" "times" "[I") (by decide +kernel)) (v := .ref (adr i 10 0)) rfl dX2_fillSwap_116 ?_
              refine lv_iconst (v := 0) hx hb dX2_fillSwap_119 (by decide) ?_
              refine x_iald (i := i) (k := 10) (j := 0) (f := sd 10 0) hx hb hK hW ⟨hi, by decide⟩ (by decide) (ct_S rfl (fun _ => rfl)) rfl (by unfold vp_in; decide) dX2_fillSwap_120 ?_
              refine W.eq (g2 := F0 m 121 ls [.int (sd 10 0 0), .int x9, .int ((v5_30 * (10 : Int32)) + v7_54), .ref (adr pi 24 0)]) rfl ?_
              refine lv_imul hx hb dX2_fillSwap_121 ?_
              refine lv_iload hx hb dX2_fillSwap_122 (lv_at hl 6 rfl) ?_
              refine lv_iadd hx hb dX2_fillSwap_124 ?_
              obtain ⟨hg10, hf⟩ := x_guardE hf
              obtain ⟨pd11, e_pd11, hf⟩ := x_letE hf
              refine x_iast (i := pi) (k := 24) (j := 0) (w' := wS (wP w pd11) i sd) hx hb hK hW ⟨hp, by decide⟩ hS (by decide) rfl rfl rfl hg10 dX2_fillSwap_125 (fp_P (w := wS w i sd) hp e_pd11 rfl) (fun H locs hW hS => ?_)
              obtain ⟨x12, e_x12, hf⟩ := x_letE hf
              refine lv_iinc (v := x12) (lv' := [(7, .int x12), (9, .int x9), (8, .int x8), (0, .ref (adr pi 2 0)), (1, .ref (adr i 4 0)), (2, .int a2), (3, .int x2), (4, .int x3), (5, .int v5_30), (6, .int x5)]) hx hb dX2_fillSwap_126 hl (k := 9) rfl (by rw [e_x12]; rfl) (by decide) rfl (fun ls hl => ?_)
              refine lv_goto (tgt := 54) hx hb dX2_fillSwap_129 (by decide) ?_
              exact ih (x12) (pd11) ls _ _ (lv_sub hl [3, 4, 5, 6, 7, 8, 9, 0] rfl) hW hS hf kk
        refine L54 _ fuel ((0 : Int32)) (pd_30) ls _ _ (lv_sub hl [2, 3, 4, 5, 6, 7, 1, 0] rfl) hW hS h_q6 (fun ls H locs hl hW hS => ?_)
        obtain ⟨x13, e_x13, hf⟩ := x_letE hf
        refine lv_iinc (v := x13) (lv' := [(5, .int x13), (0, .ref (adr pi 2 0)), (1, .ref (adr i 4 0)), (2, .int a2), (3, .int x2), (4, .int x3), (6, .int x5), (7, .int q6.1)]) hx hb dX2_fillSwap_132 hl (k := 5) rfl (by rw [e_x13]; rfl) (by decide) rfl (fun ls hl => ?_)
        refine lv_goto (tgt := 30) hx hb dX2_fillSwap_135 (by decide) ?_
        exact ih (x13) (q6.2) ls _ _ (lv_sub hl [1, 2, 3, 4, 5, 0] rfl) hW hS hf
  exact L30 fuel ((0 : Int32)) (pd) ls _ _ (lv_sub hl [3, 4, 5, 2, 1, 0] rfl) hW hS hf
abbrev rm_X2_restAfter : Room := { frames := 1, cells := 0, slots := 0, locals := 21 }
set_option maxRecDepth 100000 in
set_option maxHeartbeats 4000000 in
theorem ct_X2_restAfter (l : Launch) (g : GT) (w : WT) (pi : Nat) (hp : k_pl w.1 = some pi) (pd : SD) (a1 : Int32) (a2 : Int32) {q : Int32} (hf : f_X2_restAfter pd a1 a2 = some q) : Met l yX2_restAfter wsX2_restAfter rm_X2_restAfter (cPre g (wP w pd) [.ref (adr pi 2 0), .int a1, .int a2]) (cQi g q (wP w pd)) 0 0 (gA g) := by
  have i_2 : ∀ w ∈ u_ws RX2 TX2 6, w ∈ wsX2_restAfter := by decide +kernel
  refine x_met (by decide) rfl (Nat.le_of_ble_eq_true rfl) ?_
  intro p e s m below meth c hx hb hr hml hts hown hlocks hK hW hS ls hl
  have hown : s.vm.findClass RX2 = some m.cls := hown
  have hl : lv_has ls 6 [(0, .ref (adr pi 2 0)), (1, .int a1), (2, .int a2)] := hl
  rw [f_X2_restAfter] at hf
  refine lv_iload_n hx hb dX2_restAfter_0 rfl (lv_at hl 2 rfl) ?_
  refine lv_if_ne (tgt := 6) hx hb dX2_restAfter_1 (by decide) (fun hc => ?_) (fun hc => ?_)
  · have hf := x_iteF hf hc
    refine lv_ldc (v := 2147483647) hx hb hown (hts (.constant RX2 72 (2147483647)) (by decide +kernel)) dX2_restAfter_6 ?_
    refine lv_istore_n (lv' := [(3, .int (2147483647 : Int32)), (0, .ref (adr pi 2 0)), (1, .int a1), (2, .int a2)]) hx hb dX2_restAfter_8 rfl hl (by decide) rfl (fun ls hl => ?_)
    refine lv_iconst (v := 0) hx hb dX2_restAfter_9 (by decide) ?_
    refine lv_istore (lv' := [(4, .int (0 : Int32)), (3, .int (2147483647 : Int32)), (0, .ref (adr pi 2 0)), (1, .int a1), (2, .int a2)]) hx hb dX2_restAfter_10 hl (by decide) rfl (fun ls hl => ?_)
    have L12 : ∀ (n : Nat) (v3_12 : Int32) (v4_12 : Int32) (ls : Array Slot) (H : Heap) (locs : List Loc), lv_has ls 6 [(0, .ref (adr pi 2 0)), (1, .int a1), (2, .int a2), (3, .int v3_12), (4, .int v4_12)] → World g (wP w pd) H → va_S (gA g) s.heap H locs → f_X2_restAfter_L12 a2 pd a1 n v3_12 v4_12 = some q → W p l e rm_X2_restAfter s m [.ref (adr pi 2 0), .int a1, .int a2].toArray below meth c H locs 0 0 (MQ below (cQi g q (wP w pd)) [.ref (adr pi 2 0), .int a1, .int a2].toArray s 0 0 (gA g)) (F0 m 12 ls []) := by
      clear hW hS hl
      intro n
      induction n with
      | zero => intro v3_12 v4_12 ls H locs hl hW hS hf; cases hf
      | succ n_12 ih =>
        intro v3_12 v4_12 ls H locs hl hW hS hf
        rw [f_X2_restAfter_L12] at hf
        refine lv_iload hx hb dX2_restAfter_12 (lv_at hl 4 rfl) ?_
        refine lv_bipush (v := 10) hx hb dX2_restAfter_14 (by decide) ?_
        refine lv_icmp_ge (tgt := 73) hx hb dX2_restAfter_16 (by decide) (fun hc => ?_) (fun hc => ?_)
        · have hf := x_iteT hf hc
          refine lv_iload_n hx hb dX2_restAfter_73 rfl (lv_at hl 3 rfl) ?_
          cases hf
          exact x_iret hx hb hr hlocks hK hW hS rfl dX2_restAfter_74
        · have hf := x_iteF hf hc
          refine lv_iload_n hx hb dX2_restAfter_19 rfl (lv_at hl 2 rfl) ?_
          refine lv_iload hx hb dX2_restAfter_20 (lv_at hl 4 rfl) ?_
          refine lv_ishr hx hb dX2_restAfter_22 ?_
          refine lv_iconst (v := 1) hx hb dX2_restAfter_23 (by decide) ?_
          refine lv_iand hx hb dX2_restAfter_24 ?_
          refine lv_if_eq (tgt := 67) hx hb dX2_restAfter_25 (by decide) (fun hc => ?_) (fun hc => ?_)
          · have hf := x_iteT hf hc
            obtain ⟨x1, e_x1, hf⟩ := x_letE hf
            refine lv_iinc (v := x1) (lv' := [(4, .int x1), (0, .ref (adr pi 2 0)), (1, .int a1), (2, .int a2), (3, .int v3_12)]) hx hb dX2_restAfter_67 hl (k := 4) rfl (by rw [e_x1]; rfl) (by decide) rfl (fun ls hl => ?_)
            refine lv_goto (tgt := 12) hx hb dX2_restAfter_70 (by decide) ?_
            exact ih (v3_12) (x1) ls _ _ (lv_sub hl [1, 2, 3, 4, 0] rfl) hW hS hf
          · have hf := x_iteF hf hc
            refine lv_aload_n hx hb dX2_restAfter_28 rfl (lv_at hl 0 rfl) ?_
            refine x_get (i := pi) (k := 2) (j := 0) (t := 0) hx hb hts i_2 hown hK hW ⟨hp, by decide⟩ rfl ⟨by decide, by decide, rfl⟩ (hts (.fieldLink RX2 9 "OpticalJukebox$Planner" "rest" "[I") (by decide +kernel)) (v := .ref (adr pi 23 0)) rfl dX2_restAfter_29 ?_
            refine lv_iload_n hx hb dX2_restAfter_32 rfl (lv_at hl 2 rfl) ?_
            refine lv_iconst (v := 1) hx hb dX2_restAfter_33 (by decide) ?_
            refine lv_iload hx hb dX2_restAfter_34 (lv_at hl 4 rfl) ?_
            refine lv_ishl hx hb dX2_restAfter_36 ?_
            refine lv_ixor hx hb dX2_restAfter_37 ?_
            refine lv_bipush (v := 10) hx hb dX2_restAfter_38 (by decide) ?_
            refine lv_imul hx hb dX2_restAfter_40 ?_
            refine lv_iload hx hb dX2_restAfter_41 (lv_at hl 4 rfl) ?_
            refine lv_iadd hx hb dX2_restAfter_43 ?_
            obtain ⟨hg2, hf⟩ := x_guardE hf
            refine x_iald (i := pi) (k := 23) (j := 0) (f := pd 23 0) hx hb hK hW ⟨hp, by decide⟩ (by decide) (rfl) rfl hg2 dX2_restAfter_44 ?_
            obtain ⟨x3, e_x3, hf⟩ := x_letE hf
            refine x_topi e_x3 ?_
            refine lv_istore (lv' := [(5, .int x3), (0, .ref (adr pi 2 0)), (1, .int a1), (2, .int a2), (3, .int v3_12), (4, .int v4_12)]) hx hb dX2_restAfter_45 hl (by decide) rfl (fun ls hl => ?_)
            refine lv_iload_n hx hb dX2_restAfter_47 rfl (lv_at hl 4 rfl) ?_
            refine lv_aload_n hx hb dX2_restAfter_48 rfl (lv_at hl 1 rfl) ?_
            refine x_get (i := pi) (k := 2) (j := 0) (t := 1) hx hb hts i_2 hown hK hW ⟨hp, by decide⟩ rfl ⟨by decide, by decide, rfl⟩ (hts (.fieldLink RX2 15 "OpticalJukebox$Planner" "swap" "[I") (by decide +kernel)) (v := .ref (adr pi 24 0)) rfl dX2_restAfter_49 ?_
            refine lv_iload_n hx hb dX2_restAfter_52 rfl (lv_at hl 2 rfl) ?_
            refine lv_bipush (v := 10) hx hb dX2_restAfter_53 (by decide) ?_
            refine lv_imul hx hb dX2_restAfter_55 ?_
            refine lv_iload hx hb dX2_restAfter_56 (lv_at hl 5 rfl) ?_
            refine lv_iadd hx hb dX2_restAfter_58 ?_
            obtain ⟨hg4, hf⟩ := x_guardE hf
            refine x_iald (i := pi) (k := 24) (j := 0) (f := pd 24 0) hx hb hK hW ⟨hp, by decide⟩ (by decide) (rfl) rfl hg4 dX2_restAfter_59 ?_
            refine lv_iload hx hb dX2_restAfter_60 (lv_at hl 0 rfl) ?_
            refine lv_iadd hx hb dX2_restAfter_62 ?_
            refine va_mmin hx hb (hml.trans hl.1.symm) hown (hts (.methodLink RX2 73 Lib.Math.min.name) (by decide +kernel)) (hts (.static Lib.Math.min.name) (by decide +kernel)) (hts (.initialized "java/lang/Math") (by decide +kernel)) (hts (.code Lib.Math.min.name Lib.Math.min.code 2 (some .int)) (by decide +kernel)) (Nat.le_of_ble_eq_true rfl) (Nat.le_of_ble_eq_true rfl) (Nat.le_of_ble_eq_true rfl) (Nat.le_of_ble_eq_true rfl) dX2_restAfter_63 ?_
            obtain ⟨x5, e_x5, hf⟩ := x_letE hf
            refine x_topi e_x5 ?_
            refine lv_istore_n (lv' := [(3, .int x5), (5, .int x3), (0, .ref (adr pi 2 0)), (1, .int a1), (2, .int a2), (4, .int v4_12)]) hx hb dX2_restAfter_66 rfl hl (by decide) rfl (fun ls hl => ?_)
            obtain ⟨x6, e_x6, hf⟩ := x_letE hf
            refine lv_iinc (v := x6) (lv' := [(4, .int x6), (3, .int x5), (5, .int x3), (0, .ref (adr pi 2 0)), (1, .int a1), (2, .int a2)]) hx hb dX2_restAfter_67 hl (k := 5) rfl (by rw [e_x6]; rfl) (by decide) rfl (fun ls hl => ?_)
            refine lv_goto (tgt := 12) hx hb dX2_restAfter_70 (by decide) ?_
            exact ih (x5) (x6) ls _ _ (lv_sub hl [3, 4, 5, 1, 0] rfl) hW hS hf
    exact L12 fuel ((2147483647 : Int32)) ((0 : Int32)) ls _ _ (lv_sub hl [2, 3, 4, 1, 0] rfl) hW hS hf
  · have hf := x_iteT hf hc
    refine lv_iconst (v := 0) hx hb dX2_restAfter_4 (by decide) ?_
    cases hf
    exact x_iret hx hb hr hlocks hK hW hS rfl dX2_restAfter_5
abbrev rm_X2_fillRest : Room := { frames := 2, cells := 0, slots := 0, locals := 46 }
set_option maxRecDepth 100000 in
set_option maxHeartbeats 4000000 in
theorem ct_X2_fillRest (l : Launch) (g : GT) (w : WT) (pi : Nat) (hp : k_pl w.1 = some pi) (pd : SD) (a1 : Int32) {q : SD} (hf : f_X2_fillRest pd a1 = some q) : Met l yX2_fillRest wsX2_fillRest rm_X2_fillRest (cPre g (wP w pd) [.ref (adr pi 2 0), .int a1]) (cQv g (wP w q)) 0 0 (gA g) := by
  have i_2 : ∀ w ∈ u_ws RX2 TX2 6, w ∈ wsX2_fillRest := by decide +kernel
  refine x_met (by decide) rfl (Nat.le_of_ble_eq_true rfl) ?_
  intro p e s m below meth c hx hb hr hml hts hown hlocks hK hW hS ls hl
  have hown : s.vm.findClass RX2 = some m.cls := hown
  have hl : lv_has ls 4 [(0, .ref (adr pi 2 0)), (1, .int a1)] := hl
  rw [f_X2_fillRest] at hf
  refine lv_iconst (v := 0) hx hb dX2_fillRest_0 (by decide) ?_
  refine lv_istore_n (lv' := [(2, .int (0 : Int32)), (0, .ref (adr pi 2 0)), (1, .int a1)]) hx hb dX2_fillRest_1 rfl hl (by decide) rfl (fun ls hl => ?_)
  have L2 : ∀ (n : Nat) (v2_2 : Int32) (pd_2 : SD) (ls : Array Slot) (H : Heap) (locs : List Loc), lv_has ls 4 [(0, .ref (adr pi 2 0)), (1, .int a1), (2, .int v2_2)] → World g (wP w pd_2) H → va_S (gA g) s.heap H locs → f_X2_fillRest_L2 a1 n v2_2 pd_2 = some q → W p l e rm_X2_fillRest s m [.ref (adr pi 2 0), .int a1].toArray below meth c H locs 0 0 (MQ below (cQv g (wP w q)) [.ref (adr pi 2 0), .int a1].toArray s 0 0 (gA g)) (F0 m 2 ls []) := by
    clear hW hS hl
    intro n
    induction n with
    | zero => intro v2_2 pd_2 ls H locs hl hW hS hf; cases hf
    | succ n_2 ih =>
      intro v2_2 pd_2 ls H locs hl hW hS hf
      rw [f_X2_fillRest_L2] at hf
      refine lv_iload_n hx hb dX2_fillRest_2 rfl (lv_at hl 2 rfl) ?_
      refine lv_iload_n hx hb dX2_fillRest_3 rfl (lv_at hl 1 rfl) ?_
      refine lv_icmp_ge (tgt := 68) hx hb dX2_fillRest_4 (by decide) (fun hc => ?_) (fun hc => ?_)
      · have hf := x_iteT hf hc
        cases hf
        exact x_vret hx hb hr hlocks hK hW hS dX2_fillRest_68
      · have hf := x_iteF hf hc
        refine lv_iload_n hx hb dX2_fillRest_7 rfl (lv_at hl 2 rfl) ?_
        refine lv_iload_n hx hb dX2_fillRest_8 rfl (lv_at hl 1 rfl) ?_
        refine lv_iconst (v := -1) hx hb dX2_fillRest_9 (by decide) ?_
        refine lv_ixor hx hb dX2_fillRest_10 ?_
        refine lv_iand hx hb dX2_fillRest_11 ?_
        refine lv_if_ne (tgt := 62) hx hb dX2_fillRest_12 (by decide) (fun hc => ?_) (fun hc => ?_)
        · have hf := x_iteF hf hc
          obtain ⟨x1, e_x1, hf⟩ := x_letE hf
          refine lv_iinc (v := x1) (lv' := [(2, .int x1), (0, .ref (adr pi 2 0)), (1, .int a1)]) hx hb dX2_fillRest_62 hl (k := 2) rfl (by rw [e_x1]; rfl) (by decide) rfl (fun ls hl => ?_)
          refine lv_goto (tgt := 2) hx hb dX2_fillRest_65 (by decide) ?_
          exact ih (x1) (pd_2) ls _ _ (lv_sub hl [1, 2, 0] rfl) hW hS hf
        · have hf := x_iteT hf hc
          refine lv_iconst (v := 0) hx hb dX2_fillRest_15 (by decide) ?_
          refine lv_istore_n (lv' := [(3, .int (0 : Int32)), (0, .ref (adr pi 2 0)), (1, .int a1), (2, .int v2_2)]) hx hb dX2_fillRest_16 rfl hl (by decide) rfl (fun ls hl => ?_)
          obtain ⟨q2, h_q2, hf⟩ := x_bindE hf
          have L17 : ∀ (QQ : State → Prop) (n : Nat) (v3_17 : Int32) (pd_17 : SD) (ls : Array Slot) (H : Heap) (locs : List Loc), lv_has ls 4 [(0, .ref (adr pi 2 0)), (1, .int a1), (2, .int v2_2), (3, .int v3_17)] → World g (wP w pd_17) H → va_S (gA g) s.heap H locs → f_X2_fillRest_L17 a1 v2_2 n v3_17 pd_17 = some q2 → (∀ (ls : Array Slot) (H : Heap) (locs : List Loc), lv_has ls 4 [(0, .ref (adr pi 2 0)), (1, .int a1), (2, .int v2_2), (3, .int q2.1)] → World g (wP w q2.2) H → va_S (gA g) s.heap H locs → W p l e rm_X2_fillRest s m [.ref (adr pi 2 0), .int a1].toArray below meth c H locs 0 0 QQ (F0 m 62 ls [])) → W p l e rm_X2_fillRest s m [.ref (adr pi 2 0), .int a1].toArray below meth c H locs 0 0 QQ (F0 m 17 ls []) := by
            clear hW hS hl hf
            intro QQ n
            induction n with
            | zero => intro v3_17 pd_17 ls H locs hl hW hS hf kk; cases hf
            | succ n_17 ih =>
              intro v3_17 pd_17 ls H locs hl hW hS hf kk
              rw [f_X2_fillRest_L17] at hf
              refine lv_iload_n hx hb dX2_fillRest_17 rfl (lv_at hl 3 rfl) ?_
              refine lv_bipush (v := 10) hx hb dX2_fillRest_18 (by decide) ?_
              refine lv_icmp_ge (tgt := 62) hx hb dX2_fillRest_20 (by decide) (fun hc => ?_) (fun hc => ?_)
              · have hf := x_iteT hf hc
                cases hf
                exact kk ls _ _ hl hW hS
              · have hf := x_iteF hf hc
                refine lv_iload_n hx hb dX2_fillRest_23 rfl (lv_at hl 1 rfl) ?_
                refine lv_iload_n hx hb dX2_fillRest_24 rfl (lv_at hl 3 rfl) ?_
                refine lv_ishr hx hb dX2_fillRest_25 ?_
                refine lv_iconst (v := 1) hx hb dX2_fillRest_26 (by decide) ?_
                refine lv_iand hx hb dX2_fillRest_27 ?_
                refine lv_if_eq (tgt := 56) hx hb dX2_fillRest_28 (by decide) (fun hc => ?_) (fun hc => ?_)
                · have hf := x_iteT hf hc
                  obtain ⟨x3, e_x3, hf⟩ := x_letE hf
                  refine lv_iinc (v := x3) (lv' := [(3, .int x3), (0, .ref (adr pi 2 0)), (1, .int a1), (2, .int v2_2)]) hx hb dX2_fillRest_56 hl (k := 3) rfl (by rw [e_x3]; rfl) (by decide) rfl (fun ls hl => ?_)
                  refine lv_goto (tgt := 17) hx hb dX2_fillRest_59 (by decide) ?_
                  exact ih (x3) (pd_17) ls _ _ (lv_sub hl [1, 2, 3, 0] rfl) hW hS hf kk
                · have hf := x_iteF hf hc
                  refine lv_iload_n hx hb dX2_fillRest_31 rfl (lv_at hl 2 rfl) ?_
                  refine lv_iload_n hx hb dX2_fillRest_32 rfl (lv_at hl 3 rfl) ?_
                  refine lv_ishr hx hb dX2_fillRest_33 ?_
                  refine lv_iconst (v := 1) hx hb dX2_fillRest_34 (by decide) ?_
                  refine lv_iand hx hb dX2_fillRest_35 ?_
                  refine lv_if_ne (tgt := 56) hx hb dX2_fillRest_36 (by decide) (fun hc => ?_) (fun hc => ?_)
                  · have hf := x_iteF hf hc
                    obtain ⟨x4, e_x4, hf⟩ := x_letE hf
                    refine lv_iinc (v := x4) (lv' := [(3, .int x4), (0, .ref (adr pi 2 0)), (1, .int a1), (2, .int v2_2)]) hx hb dX2_fillRest_56 hl (k := 3) rfl (by rw [e_x4]; rfl) (by decide) rfl (fun ls hl => ?_)
                    refine lv_goto (tgt := 17) hx hb dX2_fillRest_59 (by decide) ?_
                    exact ih (x4) (pd_17) ls _ _ (lv_sub hl [1, 2, 3, 0] rfl) hW hS hf kk
                  · have hf := x_iteT hf hc
                    refine lv_aload_n hx hb dX2_fillRest_39 rfl (lv_at hl 0 rfl) ?_
                    refine x_get (i := pi) (k := 2) (j := 0) (t := 0) hx hb hts i_2 hown hK hW ⟨hp, by decide⟩ rfl ⟨by decide, by decide, rfl⟩ (hts (.fieldLink RX2 9 "OpticalJukebox$Planner" "rest" "[I") (by decide +kernel)) (v := .ref (adr pi 23 0)) rfl dX2_fillRest_40 ?_
                    refine lv_iload_n hx hb dX2_fillRest_43 rfl (lv_at hl 2 rfl) ?_
                    refine lv_bipush (v := 10) hx hb dX2_fillRest_44 (by decide) ?_
                    refine lv_imul hx hb dX2_fillRest_46 ?_
                    refine lv_iload_n hx hb dX2_fillRest_47 rfl (lv_at hl 3 rfl) ?_
                    refine lv_iadd hx hb dX2_fillRest_48 ?_
                    refine lv_aload_n hx hb dX2_fillRest_49 rfl (lv_at hl 0 rfl) ?_
                    refine lv_iload_n hx hb dX2_fillRest_50 rfl (lv_at hl 3 rfl) ?_
                    refine lv_iload_n hx hb dX2_fillRest_51 rfl (lv_at hl 2 rfl) ?_
                    obtain ⟨q5, h_q5, hf⟩ := x_bindE hf
                    refine x_ci0 (x_rV ⟨hx, hb, hml, hown, hts⟩ (ct_X2_restAfter l g w pi hp pd_17 (v3_17) (v2_2) h_q5) (cwV 2 hts gX2_fillRest_X2_restAfter rfl rfl rfl (by decide +kernel) ⟨Nat.le_of_ble_eq_true rfl, Nat.le_of_ble_eq_true rfl⟩) hK hW hS (x_recv (i := pi) (k := 2) (j := 0) hK hW ⟨hp, by decide⟩ rfl (by decide)) rfl hl.1 (rest := [.int ((v2_2 * (10 : Int32)) + v3_17), .ref (adr pi 23 0)]) rfl (Nat.le_of_ble_eq_true rfl) dX2_fillRest_52 ⟨Nat.le_of_ble_eq_true rfl, Nat.le_of_ble_eq_true rfl⟩) hS (fun H locs hW hS => ?_)
                    have hW : World g (wP w pd_17) H := hW
                    refine W.eq (g2 := F0 m 55 ls [.int q5, .int ((v2_2 * (10 : Int32)) + v3_17), .ref (adr pi 23 0)]) rfl ?_
                    obtain ⟨hg6, hf⟩ := x_guardE hf
                    obtain ⟨pd7, e_pd7, hf⟩ := x_letE hf
                    refine x_iast (i := pi) (k := 23) (j := 0) (w' := wP w pd7) hx hb hK hW ⟨hp, by decide⟩ hS (by decide) rfl rfl rfl hg6 dX2_fillRest_55 (fp_P hp e_pd7 rfl) (fun H locs hW hS => ?_)
                    obtain ⟨x8, e_x8, hf⟩ := x_letE hf
                    refine lv_iinc (v := x8) (lv' := [(3, .int x8), (0, .ref (adr pi 2 0)), (1, .int a1), (2, .int v2_2)]) hx hb dX2_fillRest_56 hl (k := 3) rfl (by rw [e_x8]; rfl) (by decide) rfl (fun ls hl => ?_)
                    refine lv_goto (tgt := 17) hx hb dX2_fillRest_59 (by decide) ?_
                    exact ih (x8) (pd7) ls _ _ (lv_sub hl [1, 2, 3, 0] rfl) hW hS hf kk
          refine L17 _ fuel ((0 : Int32)) (pd_2) ls _ _ (lv_sub hl [1, 2, 3, 0] rfl) hW hS h_q2 (fun ls H locs hl hW hS => ?_)
          obtain ⟨x9, e_x9, hf⟩ := x_letE hf
          refine lv_iinc (v := x9) (lv' := [(2, .int x9), (0, .ref (adr pi 2 0)), (1, .int a1), (3, .int q2.1)]) hx hb dX2_fillRest_62 hl (k := 2) rfl (by rw [e_x9]; rfl) (by decide) rfl (fun ls hl => ?_)
          refine lv_goto (tgt := 2) hx hb dX2_fillRest_65 (by decide) ?_
          exact ih (x9) (q2.2) ls _ _ (lv_sub hl [1, 2, 0] rfl) hW hS hf
  exact L2 fuel ((0 : Int32)) (pd) ls _ _ (lv_sub hl [1, 2, 0] rfl) hW hS hf
abbrev rm_X2_leastTime : Room := { frames := 3, cells := 0, slots := 0, locals := 72 }
set_option maxRecDepth 100000 in
set_option maxHeartbeats 4000000 in
theorem ct_X2_leastTime (l : Launch) (g : GT) (w : WT) (pi : Nat) (hp : k_pl w.1 = some pi) (pd : SD) (i : Nat) (hi : i ∈ k_S w.1) (sd : SD) (a2 : Int32) (a3 : Int32) {q : (Int32 × SD)} (hf : f_X2_leastTime sd pd a2 a3 = some q) : Met l yX2_leastTime wsX2_leastTime rm_X2_leastTime (cPre g (wS (wP w pd) i sd) [.ref (adr pi 2 0), .ref (adr i 4 0), .int a2, .int a3]) (cQi g q.1 (wS (wP w q.2) i sd)) 0 0 (gA g) := by
  have i_2 : ∀ w ∈ u_ws RX2 TX2 6, w ∈ wsX2_leastTime := by decide +kernel
  refine x_met (by decide) rfl (Nat.le_of_ble_eq_true rfl) ?_
  intro p e s m below meth c hx hb hr hml hts hown hlocks hK hW hS ls hl
  have hown : s.vm.findClass RX2 = some m.cls := hown
  have hl : lv_has ls 7 [(0, .ref (adr pi 2 0)), (1, .ref (adr i 4 0)), (2, .int a2), (3, .int a3)] := hl
  rw [f_X2_leastTime] at hf
  refine lv_iload_n hx hb dX2_leastTime_0 rfl (lv_at hl 3 rfl) ?_
  refine lv_if_eq (tgt := 12) hx hb dX2_leastTime_1 (by decide) (fun hc => ?_) (fun hc => ?_)
  · have hf := x_iteT hf hc
    refine lv_iconst (v := 0) hx hb dX2_leastTime_12 (by decide) ?_
    cases hf
    exact x_iret hx hb hr hlocks hK hW hS rfl dX2_leastTime_13
  · have hf := x_iteF hf hc
    refine lv_aload_n hx hb dX2_leastTime_4 rfl (lv_at hl 1 rfl) ?_
    refine lv_iload_n hx hb dX2_leastTime_5 rfl (lv_at hl 2 rfl) ?_
    obtain ⟨q1, h_q1, hf⟩ := x_bindE hf
    refine x_ci0 (x_rV ⟨hx, hb, hml, hown, hts⟩ (ct_X4_hasDrive l g (wP w pd) i hi sd (a2) h_q1) (cwV 1 hts gX2_leastTime_X4_hasDrive rfl rfl rfl (by decide +kernel) ⟨Nat.le_of_ble_eq_true rfl, Nat.le_of_ble_eq_true rfl⟩) hK hW hS (x_recv (i := i) (k := 4) (j := 0) hK hW ⟨hi, by decide⟩ rfl (by decide)) rfl hl.1 (rest := []) rfl (Nat.le_of_ble_eq_true rfl) dX2_leastTime_6 ⟨Nat.le_of_ble_eq_true rfl, Nat.le_of_ble_eq_true rfl⟩) hS (fun H locs hW hS => ?_)
    have hW : World g (wS (wP w pd) i sd) H := hW
    refine W.eq (g2 := F0 m 9 ls [.int q1]) rfl ?_
    refine lv_if_ne (tgt := 14) hx hb dX2_leastTime_9 (by decide) (fun hc => ?_) (fun hc => ?_)
    · have hf := x_iteF hf hc
      refine lv_aload_n hx hb dX2_leastTime_14 rfl (lv_at hl 0 rfl) ?_
      refine x_get (i := pi) (k := 2) (j := 0) (t := 5) hx hb hts i_2 hown hK hW ⟨hp, by decide⟩ rfl ⟨by decide, by decide, rfl⟩ (hts (.fieldLink RX2 25 "OpticalJukebox$Planner" "tableDrive" "I") (by decide +kernel)) (rfl) dX2_leastTime_15 ?_
      refine lv_iload_n hx hb dX2_leastTime_18 rfl (lv_at hl 2 rfl) ?_
      obtain ⟨K2, eK2, hf⟩ := x_letE hf
      have KK2 : ∀ (pd3 : SD) (ls : Array Slot) (H : Heap) (locs : List Loc), lv_has ls 7 [(0, .ref (adr pi 2 0)), (1, .ref (adr i 4 0)), (2, .int a2), (3, .int a3)] → World g (wS (wP w pd3) i sd) H → va_S (gA g) s.heap H locs → K2 pd3 = some q → W p l e rm_X2_leastTime s m [.ref (adr pi 2 0), .ref (adr i 4 0), .int a2, .int a3].toArray below meth c H locs 0 0 (MQ below (cQi g q.1 (wS (wP w q.2) i sd)) [.ref (adr pi 2 0), .ref (adr i 4 0), .int a2, .int a3].toArray s 0 0 (gA g)) (F0 m 42 ls []) := by
        intro pd3 ls H locs hl hW hS hf
        subst eK2
        refine lv_ldc (v := 2147483647) hx hb hown (hts (.constant RX2 72 (2147483647)) (by decide +kernel)) dX2_leastTime_42 ?_
        refine lv_istore (lv' := [(4, .int (2147483647 : Int32)), (0, .ref (adr pi 2 0)), (1, .ref (adr i 4 0)), (2, .int a2), (3, .int a3)]) hx hb dX2_leastTime_44 hl (by decide) rfl (fun ls hl => ?_)
        refine lv_iconst (v := 0) hx hb dX2_leastTime_46 (by decide) ?_
        refine lv_istore (lv' := [(5, .int (0 : Int32)), (4, .int (2147483647 : Int32)), (0, .ref (adr pi 2 0)), (1, .ref (adr i 4 0)), (2, .int a2), (3, .int a3)]) hx hb dX2_leastTime_47 hl (by decide) rfl (fun ls hl => ?_)
        have L49 : ∀ (n : Nat) (v4_49 : Int32) (v5_49 : Int32) (ls : Array Slot) (H : Heap) (locs : List Loc), lv_has ls 7 [(0, .ref (adr pi 2 0)), (1, .ref (adr i 4 0)), (2, .int a2), (3, .int a3), (4, .int v4_49), (5, .int v5_49)] → World g (wS (wP w pd3) i sd) H → va_S (gA g) s.heap H locs → f_X2_leastTime_L49 pd3 a3 sd a2 n v4_49 v5_49 = some q → W p l e rm_X2_leastTime s m [.ref (adr pi 2 0), .ref (adr i 4 0), .int a2, .int a3].toArray below meth c H locs 0 0 (MQ below (cQi g q.1 (wS (wP w q.2) i sd)) [.ref (adr pi 2 0), .ref (adr i 4 0), .int a2, .int a3].toArray s 0 0 (gA g)) (F0 m 49 ls []) := by
          clear hW hS hl
          intro n
          induction n with
          | zero => intro v4_49 v5_49 ls H locs hl hW hS hf; cases hf
          | succ n_49 ih =>
            intro v4_49 v5_49 ls H locs hl hW hS hf
            rw [f_X2_leastTime_L49] at hf
            refine lv_iload hx hb dX2_leastTime_49 (lv_at hl 5 rfl) ?_
            refine lv_bipush (v := 10) hx hb dX2_leastTime_51 (by decide) ?_
            refine lv_icmp_ge (tgt := 107) hx hb dX2_leastTime_53 (by decide) (fun hc => ?_) (fun hc => ?_)
            · have hf := x_iteT hf hc
              refine lv_iload hx hb dX2_leastTime_107 (lv_at hl 4 rfl) ?_
              cases hf
              exact x_iret hx hb hr hlocks hK hW hS rfl dX2_leastTime_109
            · have hf := x_iteF hf hc
              refine lv_iload_n hx hb dX2_leastTime_56 rfl (lv_at hl 3 rfl) ?_
              refine lv_iload hx hb dX2_leastTime_57 (lv_at hl 5 rfl) ?_
              refine lv_ishr hx hb dX2_leastTime_59 ?_
              refine lv_iconst (v := 1) hx hb dX2_leastTime_60 (by decide) ?_
              refine lv_iand hx hb dX2_leastTime_61 ?_
              refine lv_if_eq (tgt := 101) hx hb dX2_leastTime_62 (by decide) (fun hc => ?_) (fun hc => ?_)
              · have hf := x_iteT hf hc
                obtain ⟨x4, e_x4, hf⟩ := x_letE hf
                refine lv_iinc (v := x4) (lv' := [(5, .int x4), (0, .ref (adr pi 2 0)), (1, .ref (adr i 4 0)), (2, .int a2), (3, .int a3), (4, .int v4_49)]) hx hb dX2_leastTime_101 hl (k := 5) rfl (by rw [e_x4]; rfl) (by decide) rfl (fun ls hl => ?_)
                refine lv_goto (tgt := 49) hx hb dX2_leastTime_104 (by decide) ?_
                exact ih (v4_49) (x4) ls _ _ (lv_sub hl [1, 2, 3, 4, 5, 0] rfl) hW hS hf
              · have hf := x_iteF hf hc
                refine lv_aload_n hx hb dX2_leastTime_65 rfl (lv_at hl 0 rfl) ?_
                refine x_get (i := pi) (k := 2) (j := 0) (t := 0) hx hb hts i_2 hown hK hW ⟨hp, by decide⟩ rfl ⟨by decide, by decide, rfl⟩ (hts (.fieldLink RX2 9 "OpticalJukebox$Planner" "rest" "[I") (by decide +kernel)) (v := .ref (adr pi 23 0)) rfl dX2_leastTime_66 ?_
                refine lv_iload_n hx hb dX2_leastTime_69 rfl (lv_at hl 3 rfl) ?_
                refine lv_iconst (v := 1) hx hb dX2_leastTime_70 (by decide) ?_
                refine lv_iload hx hb dX2_leastTime_71 (lv_at hl 5 rfl) ?_
                refine lv_ishl hx hb dX2_leastTime_73 ?_
                refine lv_ixor hx hb dX2_leastTime_74 ?_
                refine lv_bipush (v := 10) hx hb dX2_leastTime_75 (by decide) ?_
                refine lv_imul hx hb dX2_leastTime_77 ?_
                refine lv_iload hx hb dX2_leastTime_78 (lv_at hl 5 rfl) ?_
                refine lv_iadd hx hb dX2_leastTime_80 ?_
                obtain ⟨hg5, hf⟩ := x_guardE hf
                refine x_iald (i := pi) (k := 23) (j := 0) (f := pd3 23 0) hx hb hK hW ⟨hp, by decide⟩ (by decide) (rfl) rfl hg5 dX2_leastTime_81 ?_
                obtain ⟨x6, e_x6, hf⟩ := x_letE hf
                refine x_topi e_x6 ?_
                refine lv_istore (lv' := [(6, .int x6), (0, .ref (adr pi 2 0)), (1, .ref (adr i 4 0)), (2, .int a2), (3, .int a3), (4, .int v4_49), (5, .int v5_49)]) hx hb dX2_leastTime_82 hl (by decide) rfl (fun ls hl => ?_)
                refine lv_iload hx hb dX2_leastTime_84 (lv_at hl 5 rfl) ?_
                refine lv_aload_n hx hb dX2_leastTime_86 rfl (lv_at hl 2 rfl) ?_
                refine lv_iload hx hb dX2_leastTime_87 (lv_at hl 6 rfl) ?_
                refine lv_iload_n hx hb dX2_leastTime_89 rfl (lv_at hl 3 rfl) ?_
                obtain ⟨q7, h_q7, hf⟩ := x_bindE hf
                refine x_ci0 (x_rV ⟨hx, hb, hml, hown, hts⟩ (ct_X4_bringTime l g (wP w pd3) i hi sd (v5_49) (a2) h_q7) (cwV 2 hts gX2_leastTime_X4_bringTime rfl rfl rfl (by decide +kernel) ⟨Nat.le_of_ble_eq_true rfl, Nat.le_of_ble_eq_true rfl⟩) hK hW hS (x_recv (i := i) (k := 4) (j := 0) hK hW ⟨hi, by decide⟩ rfl (by decide)) rfl hl.1 (rest := [.int v4_49]) rfl (Nat.le_of_ble_eq_true rfl) dX2_leastTime_90 ⟨Nat.le_of_ble_eq_true rfl, Nat.le_of_ble_eq_true rfl⟩) hS (fun H locs hW hS => ?_)
                have hW : World g (wS (wP w pd3) i sd) H := hW
                refine W.eq (g2 := F0 m 93 ls [.int q7, .int v4_49]) rfl ?_
                refine lv_iload hx hb dX2_leastTime_93 (lv_at hl 0 rfl) ?_
                refine lv_iadd hx hb dX2_leastTime_95 ?_
                refine va_mmin hx hb (hml.trans hl.1.symm) hown (hts (.methodLink RX2 73 Lib.Math.min.name) (by decide +kernel)) (hts (.static Lib.Math.min.name) (by decide +kernel)) (hts (.initialized "java/lang/Math") (by decide +kernel)) (hts (.code Lib.Math.min.name Lib.Math.min.code 2 (some .int)) (by decide +kernel)) (Nat.le_of_ble_eq_true rfl) (Nat.le_of_ble_eq_true rfl) (Nat.le_of_ble_eq_true rfl) (Nat.le_of_ble_eq_true rfl) dX2_leastTime_96 ?_
                obtain ⟨x8, e_x8, hf⟩ := x_letE hf
                refine x_topi e_x8 ?_
                refine lv_istore (lv' := [(4, .int x8), (6, .int x6), (0, .ref (adr pi 2 0)), (1, .ref (adr i 4 0)), (2, .int a2), (3, .int a3), (5, .int v5_49)]) hx hb dX2_leastTime_99 hl (by decide) rfl (fun ls hl => ?_)
                obtain ⟨x9, e_x9, hf⟩ := x_letE hf
                refine lv_iinc (v := x9) (lv' := [(5, .int x9), (4, .int x8), (6, .int x6), (0, .ref (adr pi 2 0)), (1, .ref (adr i 4 0)), (2, .int a2), (3, .int a3)]) hx hb dX2_leastTime_101 hl (k := 6) rfl (by rw [e_x9]; rfl) (by decide) rfl (fun ls hl => ?_)
                refine lv_goto (tgt := 49) hx hb dX2_leastTime_104 (by decide) ?_
                exact ih (x8) (x9) ls _ _ (lv_sub hl [3, 4, 5, 6, 1, 0] rfl) hW hS hf
        exact L49 fuel ((2147483647 : Int32)) ((0 : Int32)) ls _ _ (lv_sub hl [2, 3, 4, 5, 1, 0] rfl) hW hS hf
      clear eK2
      refine lv_icmp_eq (tgt := 42) hx hb dX2_leastTime_19 (by decide) (fun hc => ?_) (fun hc => ?_)
      · have hf := x_iteT hf hc
        exact KK2 (pd) ls _ _ hl hW hS hf
      · have hf := x_iteF hf hc
        refine lv_aload_n hx hb dX2_leastTime_22 rfl (lv_at hl 0 rfl) ?_
        refine lv_aload_n hx hb dX2_leastTime_23 rfl (lv_at hl 1 rfl) ?_
        refine lv_iload_n hx hb dX2_leastTime_24 rfl (lv_at hl 2 rfl) ?_
        obtain ⟨q10, h_q10, hf⟩ := x_bindE hf
        refine x_cv0 (x_rV ⟨hx, hb, hml, hown, hts⟩ (ct_X2_fillSwap l g w pi hp pd i hi sd (a2) h_q10) (cwV 2 hts gX2_leastTime_X2_fillSwap rfl rfl rfl (by decide +kernel) ⟨Nat.le_of_ble_eq_true rfl, Nat.le_of_ble_eq_true rfl⟩) hK hW hS (x_recv (i := pi) (k := 2) (j := 0) hK hW ⟨hp, by decide⟩ rfl (by decide)) rfl hl.1 (rest := []) rfl (Nat.le_of_ble_eq_true rfl) dX2_leastTime_25 ⟨Nat.le_of_ble_eq_true rfl, Nat.le_of_ble_eq_true rfl⟩) hS (fun H locs hW hS => ?_)
        have hW : World g (wS (wP w q10) i sd) H := hW
        refine lv_aload_n hx hb dX2_leastTime_28 rfl (lv_at hl 0 rfl) ?_
        refine lv_aload_n hx hb dX2_leastTime_29 rfl (lv_at hl 1 rfl) ?_
        refine lv_iconst (v := -1) hx hb dX2_leastTime_30 (by decide) ?_
        obtain ⟨q11, h_q11, hf⟩ := x_bindE hf
        refine x_ci0 (x_rV ⟨hx, hb, hml, hown, hts⟩ (ct_X4_awayPlatters l g (wP w q10) i hi sd ((-1 : Int32)) h_q11) (cwV 1 hts gX2_leastTime_X4_awayPlatters rfl rfl rfl (by decide +kernel) ⟨Nat.le_of_ble_eq_true rfl, Nat.le_of_ble_eq_true rfl⟩) hK hW hS (x_recv (i := i) (k := 4) (j := 0) hK hW ⟨hi, by decide⟩ rfl (by decide)) rfl hl.1 (rest := [.ref (adr pi 2 0)]) rfl (Nat.le_of_ble_eq_true rfl) dX2_leastTime_31 ⟨Nat.le_of_ble_eq_true rfl, Nat.le_of_ble_eq_true rfl⟩) hS (fun H locs hW hS => ?_)
        have hW : World g (wS (wP w q10) i sd) H := hW
        refine W.eq (g2 := F0 m 34 ls [.int q11, .ref (adr pi 2 0)]) rfl ?_
        obtain ⟨q12, h_q12, hf⟩ := x_bindE hf
        refine x_cv0 (x_rV ⟨hx, hb, hml, hown, hts⟩ (ct_X2_fillRest l g (wS w i sd) pi hp q10 (q11) h_q12) (cwV 1 hts gX2_leastTime_X2_fillRest rfl rfl rfl (by decide +kernel) ⟨Nat.le_of_ble_eq_true rfl, Nat.le_of_ble_eq_true rfl⟩) hK hW hS (x_recv (i := pi) (k := 2) (j := 0) hK hW ⟨hp, by decide⟩ rfl (by decide)) rfl hl.1 (rest := []) rfl (Nat.le_of_ble_eq_true rfl) dX2_leastTime_34 ⟨Nat.le_of_ble_eq_true rfl, Nat.le_of_ble_eq_true rfl⟩) hS (fun H locs hW hS => ?_)
        have hW : World g (wS (wP w q12) i sd) H := hW
        refine lv_aload_n hx hb dX2_leastTime_37 rfl (lv_at hl 0 rfl) ?_
        refine lv_iload_n hx hb dX2_leastTime_38 rfl (lv_at hl 2 rfl) ?_
        obtain ⟨pd13, e_pd13, hf⟩ := x_letE hf
        refine x_put (i := pi) (k := 2) (j := 0) (t := 5) (w' := wS (wP w pd13) i sd) hx hb hts i_2 tyX2 tyX2_ok nmX2 hown hK hW ⟨hp, by decide⟩ hS rfl ⟨by decide, by decide, rfl⟩ (hts (.fieldLink RX2 25 "OpticalJukebox$Planner" "tableDrive" "I") (by decide +kernel)) rfl (ty := .int) (by decide +kernel) rfl rfl ⟨rfl, rfl⟩ dX2_leastTime_39 (fp_P (w := wS w i sd) hp e_pd13 rfl) (fun H locs hW hS => ?_)
        exact KK2 (pd13) ls _ _ hl hW hS hf
    · have hf := x_iteT hf hc
      refine lv_iconst (v := 0) hx hb dX2_leastTime_12 (by decide) ?_
      cases hf
      exact x_iret hx hb hr hlocks hK hW hS rfl dX2_leastTime_13
abbrev rm_X2_timeWithout : Room := { frames := 4, cells := 0, slots := 0, locals := 98 }
set_option maxRecDepth 100000 in
set_option maxHeartbeats 4000000 in
theorem ct_X2_timeWithout (l : Launch) (g : GT) (w : WT) (pi : Nat) (hp : k_pl w.1 = some pi) (pd : SD) (i : Nat) (hi : i ∈ k_S w.1) (sd : SD) (a2 : Int32) {q : (Int32 × SD)} (hf : f_X2_timeWithout sd pd a2 = some q) : Met l yX2_timeWithout wsX2_timeWithout rm_X2_timeWithout (cPre g (wS (wP w pd) i sd) [.ref (adr pi 2 0), .ref (adr i 4 0), .int a2]) (cQi g q.1 (wS (wP w q.2) i sd)) 0 0 (gA g) := by
  refine x_met (by decide) rfl (Nat.le_of_ble_eq_true rfl) ?_
  intro p e s m below meth c hx hb hr hml hts hown hlocks hK hW hS ls hl
  have hown : s.vm.findClass RX2 = some m.cls := hown
  have hl : lv_has ls 5 [(0, .ref (adr pi 2 0)), (1, .ref (adr i 4 0)), (2, .int a2)] := hl
  rw [f_X2_timeWithout] at hf
  refine lv_aload_n hx hb dX2_timeWithout_0 rfl (lv_at hl 1 rfl) ?_
  refine lv_iload_n hx hb dX2_timeWithout_1 rfl (lv_at hl 2 rfl) ?_
  obtain ⟨q1, h_q1, hf⟩ := x_bindE hf
  refine x_ci0 (x_rV ⟨hx, hb, hml, hown, hts⟩ (ct_X4_awayPlatters l g (wP w pd) i hi sd (a2) h_q1) (cwV 1 hts gX2_timeWithout_X4_awayPlatters rfl rfl rfl (by decide +kernel) ⟨Nat.le_of_ble_eq_true rfl, Nat.le_of_ble_eq_true rfl⟩) hK hW hS (x_recv (i := i) (k := 4) (j := 0) hK hW ⟨hi, by decide⟩ rfl (by decide)) rfl hl.1 (rest := []) rfl (Nat.le_of_ble_eq_true rfl) dX2_timeWithout_2 ⟨Nat.le_of_ble_eq_true rfl, Nat.le_of_ble_eq_true rfl⟩) hS (fun H locs hW hS => ?_)
  have hW : World g (wS (wP w pd) i sd) H := hW
  refine W.eq (g2 := F0 m 5 ls [.int q1]) rfl ?_
  refine lv_istore_n (lv' := [(3, .int q1), (0, .ref (adr pi 2 0)), (1, .ref (adr i 4 0)), (2, .int a2)]) hx hb dX2_timeWithout_5 rfl hl (by decide) rfl (fun ls hl => ?_)
  refine lv_aload_n hx hb dX2_timeWithout_6 rfl (lv_at hl 1 rfl) ?_
  refine lv_aload_n hx hb dX2_timeWithout_7 rfl (lv_at hl 2 rfl) ?_
  refine lv_aload_n hx hb dX2_timeWithout_8 rfl (lv_at hl 2 rfl) ?_
  refine lv_iload_n hx hb dX2_timeWithout_9 rfl (lv_at hl 3 rfl) ?_
  obtain ⟨q2, h_q2, hf⟩ := x_bindE hf
  refine x_ci0 (x_rV ⟨hx, hb, hml, hown, hts⟩ (ct_X4_driveAfterReading l g (wP w pd) i hi sd (a2) h_q2) (cwV 1 hts gX2_timeWithout_X4_driveAfterReading rfl rfl rfl (by decide +kernel) ⟨Nat.le_of_ble_eq_true rfl, Nat.le_of_ble_eq_true rfl⟩) hK hW hS (x_recv (i := i) (k := 4) (j := 0) hK hW ⟨hi, by decide⟩ rfl (by decide)) rfl hl.1 (rest := [.ref (adr i 4 0), .ref (adr pi 2 0)]) rfl (Nat.le_of_ble_eq_true rfl) dX2_timeWithout_10 ⟨Nat.le_of_ble_eq_true rfl, Nat.le_of_ble_eq_true rfl⟩) hS (fun H locs hW hS => ?_)
  have hW : World g (wS (wP w pd) i sd) H := hW
  refine W.eq (g2 := F0 m 13 ls [.int q2, .ref (adr i 4 0), .ref (adr pi 2 0)]) rfl ?_
  refine lv_iload_n hx hb dX2_timeWithout_13 rfl (lv_at hl 0 rfl) ?_
  obtain ⟨q3, h_q3, hf⟩ := x_bindE hf
  refine x_ci0 (x_rV ⟨hx, hb, hml, hown, hts⟩ (ct_X2_leastTime l g w pi hp pd i hi sd (q2) (q1) h_q3) (cwV 3 hts gX2_timeWithout_X2_leastTime rfl rfl rfl (by decide +kernel) ⟨Nat.le_of_ble_eq_true rfl, Nat.le_of_ble_eq_true rfl⟩) hK hW hS (x_recv (i := pi) (k := 2) (j := 0) hK hW ⟨hp, by decide⟩ rfl (by decide)) rfl hl.1 (rest := []) rfl (Nat.le_of_ble_eq_true rfl) dX2_timeWithout_14 ⟨Nat.le_of_ble_eq_true rfl, Nat.le_of_ble_eq_true rfl⟩) hS (fun H locs hW hS => ?_)
  have hW : World g (wS (wP w q3.2) i sd) H := hW
  refine W.eq (g2 := F0 m 17 ls [.int q3.1]) rfl ?_
  obtain ⟨x4, e_x4, hf⟩ := x_letE hf
  refine x_topi e_x4 ?_
  refine lv_istore (lv' := [(4, .int x4), (3, .int q1), (0, .ref (adr pi 2 0)), (1, .ref (adr i 4 0)), (2, .int a2)]) hx hb dX2_timeWithout_17 hl (by decide) rfl (fun ls hl => ?_)
  refine lv_aload_n hx hb dX2_timeWithout_19 rfl (lv_at hl 3 rfl) ?_
  refine lv_iload_n hx hb dX2_timeWithout_20 rfl (lv_at hl 4 rfl) ?_
  obtain ⟨q5, h_q5, hf⟩ := x_bindE hf
  refine x_ci0 (x_rV ⟨hx, hb, hml, hown, hts⟩ (ct_X4_requestsReadTime l g (wP w q3.2) i hi sd (a2) h_q5) (cwV 1 hts gX2_timeWithout_X4_requestsReadTime rfl rfl rfl (by decide +kernel) ⟨Nat.le_of_ble_eq_true rfl, Nat.le_of_ble_eq_true rfl⟩) hK hW hS (x_recv (i := i) (k := 4) (j := 0) hK hW ⟨hi, by decide⟩ rfl (by decide)) rfl hl.1 (rest := []) rfl (Nat.le_of_ble_eq_true rfl) dX2_timeWithout_21 ⟨Nat.le_of_ble_eq_true rfl, Nat.le_of_ble_eq_true rfl⟩) hS (fun H locs hW hS => ?_)
  have hW : World g (wS (wP w q3.2) i sd) H := hW
  refine W.eq (g2 := F0 m 24 ls [.int q5]) rfl ?_
  refine lv_iload hx hb dX2_timeWithout_24 (lv_at hl 0 rfl) ?_
  refine lv_iadd hx hb dX2_timeWithout_26 ?_
  cases hf
  exact x_iret hx hb hr hlocks hK hW hS rfl dX2_timeWithout_27
abbrev rm_X2_stepTime : Room := { frames := 3, cells := 0, slots := 0, locals := 72 }
set_option maxRecDepth 100000 in
set_option maxHeartbeats 4000000 in
theorem ct_X2_stepTime (l : Launch) (g : GT) (w : WT) (pi : Nat) (hp : k_pl w.1 = some pi) (pd : SD) (i : Nat) (hi : i ∈ k_S w.1) (sd : SD) (a2 : Int32) (a3 : Int32) {q : Int32} (hf : f_X2_stepTime sd pd a2 a3 = some q) : Met l yX2_stepTime wsX2_stepTime rm_X2_stepTime (cPre g (wS (wP w pd) i sd) [.ref (adr pi 2 0), .ref (adr i 4 0), .int a2, .int a3]) (cQi g q (wS (wP w pd) i sd)) 0 0 (gA g) := by
  have i_2 : ∀ w ∈ u_ws RX2 TX2 6, w ∈ wsX2_stepTime := by decide +kernel
  refine x_met (by decide) rfl (Nat.le_of_ble_eq_true rfl) ?_
  intro p e s m below meth c hx hb hr hml hts hown hlocks hK hW hS ls hl
  have hown : s.vm.findClass RX2 = some m.cls := hown
  have hl : lv_has ls 4 [(0, .ref (adr pi 2 0)), (1, .ref (adr i 4 0)), (2, .int a2), (3, .int a3)] := hl
  rw [f_X2_stepTime] at hf
  refine lv_iload_n hx hb dX2_stepTime_0 rfl (lv_at hl 2 rfl) ?_
  refine lv_iconst (v := -1) hx hb dX2_stepTime_1 (by decide) ?_
  refine lv_icmp_ne (tgt := 15) hx hb dX2_stepTime_2 (by decide) (fun hc => ?_) (fun hc => ?_)
  · have hf := x_iteF hf hc
    refine lv_aload_n hx hb dX2_stepTime_15 rfl (lv_at hl 0 rfl) ?_
    refine x_get (i := pi) (k := 2) (j := 0) (t := 1) hx hb hts i_2 hown hK hW ⟨hp, by decide⟩ rfl ⟨by decide, by decide, rfl⟩ (hts (.fieldLink RX2 15 "OpticalJukebox$Planner" "swap" "[I") (by decide +kernel)) (v := .ref (adr pi 24 0)) rfl dX2_stepTime_16 ?_
    refine lv_iload_n hx hb dX2_stepTime_19 rfl (lv_at hl 2 rfl) ?_
    refine lv_bipush (v := 10) hx hb dX2_stepTime_20 (by decide) ?_
    refine lv_imul hx hb dX2_stepTime_22 ?_
    refine lv_iload_n hx hb dX2_stepTime_23 rfl (lv_at hl 3 rfl) ?_
    refine lv_iadd hx hb dX2_stepTime_24 ?_
    obtain ⟨hg1, hf⟩ := x_guardE hf
    refine x_iald (i := pi) (k := 24) (j := 0) (f := pd 24 0) hx hb hK hW ⟨hp, by decide⟩ (by decide) (rfl) rfl hg1 dX2_stepTime_25 ?_
    cases hf
    exact x_iret hx hb hr hlocks hK hW hS rfl dX2_stepTime_26
  · have hf := x_iteT hf hc
    refine lv_aload_n hx hb dX2_stepTime_5 rfl (lv_at hl 1 rfl) ?_
    refine lv_iload_n hx hb dX2_stepTime_6 rfl (lv_at hl 3 rfl) ?_
    refine lv_aload_n hx hb dX2_stepTime_7 rfl (lv_at hl 0 rfl) ?_
    refine x_get (i := pi) (k := 2) (j := 0) (t := 4) hx hb hts i_2 hown hK hW ⟨hp, by decide⟩ rfl ⟨by decide, by decide, rfl⟩ (hts (.fieldLink RX2 21 "OpticalJukebox$Planner" "drive" "I") (by decide +kernel)) (rfl) dX2_stepTime_8 ?_
    obtain ⟨q2, h_q2, hf⟩ := x_bindE hf
    refine x_ci0 (x_rV ⟨hx, hb, hml, hown, hts⟩ (ct_X4_bringTime l g (wP w pd) i hi sd (a3) ((pd 2 0 4)) h_q2) (cwV 2 hts gX2_stepTime_X4_bringTime rfl rfl rfl (by decide +kernel) ⟨Nat.le_of_ble_eq_true rfl, Nat.le_of_ble_eq_true rfl⟩) hK hW hS (x_recv (i := i) (k := 4) (j := 0) hK hW ⟨hi, by decide⟩ rfl (by decide)) rfl hl.1 (rest := []) rfl (Nat.le_of_ble_eq_true rfl) dX2_stepTime_11 ⟨Nat.le_of_ble_eq_true rfl, Nat.le_of_ble_eq_true rfl⟩) hS (fun H locs hW hS => ?_)
    have hW : World g (wS (wP w pd) i sd) H := hW
    refine W.eq (g2 := F0 m 14 ls [.int q2]) rfl ?_
    cases hf
    exact x_iret hx hb hr hlocks hK hW hS rfl dX2_stepTime_14
abbrev rm_X2_lowestNext : Room := { frames := 4, cells := 0, slots := 0, locals := 95 }
set_option maxRecDepth 100000 in
set_option maxHeartbeats 4000000 in
theorem ct_X2_lowestNext (l : Launch) (g : GT) (w : WT) (pi : Nat) (hp : k_pl w.1 = some pi) (pd : SD) (i : Nat) (hi : i ∈ k_S w.1) (sd : SD) (a2 : Int32) (a3 : Int32) (a4 : Int32) {q : Int32} (hf : f_X2_lowestNext sd pd a2 a3 a4 = some q) : Met l yX2_lowestNext wsX2_lowestNext rm_X2_lowestNext (cPre g (wS (wP w pd) i sd) [.ref (adr pi 2 0), .ref (adr i 4 0), .int a2, .int a3, .int a4]) (cQi g q (wS (wP w pd) i sd)) 0 0 (gA g) := by
  have i_2 : ∀ w ∈ u_ws RX2 TX2 6, w ∈ wsX2_lowestNext := by decide +kernel
  refine x_met (by decide) rfl (Nat.le_of_ble_eq_true rfl) ?_
  intro p e s m below meth c hx hb hr hml hts hown hlocks hK hW hS ls hl
  have hown : s.vm.findClass RX2 = some m.cls := hown
  have hl : lv_has ls 6 [(0, .ref (adr pi 2 0)), (1, .ref (adr i 4 0)), (2, .int a2), (3, .int a3), (4, .int a4)] := hl
  rw [f_X2_lowestNext] at hf
  refine lv_iconst (v := 0) hx hb dX2_lowestNext_0 (by decide) ?_
  refine lv_istore (lv' := [(5, .int (0 : Int32)), (0, .ref (adr pi 2 0)), (1, .ref (adr i 4 0)), (2, .int a2), (3, .int a3), (4, .int a4)]) hx hb dX2_lowestNext_1 hl (by decide) rfl (fun ls hl => ?_)
  have L3 : ∀ (n : Nat) (v5_3 : Int32) (ls : Array Slot) (H : Heap) (locs : List Loc), lv_has ls 6 [(0, .ref (adr pi 2 0)), (1, .ref (adr i 4 0)), (2, .int a2), (3, .int a3), (4, .int a4), (5, .int v5_3)] → World g (wS (wP w pd) i sd) H → va_S (gA g) s.heap H locs → f_X2_lowestNext_L3 a3 sd pd a2 a4 n v5_3 = some q → W p l e rm_X2_lowestNext s m [.ref (adr pi 2 0), .ref (adr i 4 0), .int a2, .int a3, .int a4].toArray below meth c H locs 0 0 (MQ below (cQi g q (wS (wP w pd) i sd)) [.ref (adr pi 2 0), .ref (adr i 4 0), .int a2, .int a3, .int a4].toArray s 0 0 (gA g)) (F0 m 3 ls []) := by
    clear hW hS hl
    intro n
    induction n with
    | zero => intro v5_3 ls H locs hl hW hS hf; cases hf
    | succ n_3 ih =>
      intro v5_3 ls H locs hl hW hS hf
      rw [f_X2_lowestNext_L3] at hf
      refine lv_iload hx hb dX2_lowestNext_3 (lv_at hl 5 rfl) ?_
      refine lv_bipush (v := 10) hx hb dX2_lowestNext_5 (by decide) ?_
      refine lv_icmp_ge (tgt := 59) hx hb dX2_lowestNext_7 (by decide) (fun hc => ?_) (fun hc => ?_)
      · have hf := x_iteT hf hc
        refine lv_iconst (v := -1) hx hb dX2_lowestNext_59 (by decide) ?_
        cases hf
        exact x_iret hx hb hr hlocks hK hW hS rfl dX2_lowestNext_60
      · have hf := x_iteF hf hc
        refine lv_iload_n hx hb dX2_lowestNext_10 rfl (lv_at hl 3 rfl) ?_
        refine lv_iload hx hb dX2_lowestNext_11 (lv_at hl 5 rfl) ?_
        refine lv_ishr hx hb dX2_lowestNext_13 ?_
        refine lv_iconst (v := 1) hx hb dX2_lowestNext_14 (by decide) ?_
        refine lv_iand hx hb dX2_lowestNext_15 ?_
        refine lv_if_eq (tgt := 53) hx hb dX2_lowestNext_16 (by decide) (fun hc => ?_) (fun hc => ?_)
        · have hf := x_iteT hf hc
          obtain ⟨x1, e_x1, hf⟩ := x_letE hf
          refine lv_iinc (v := x1) (lv' := [(5, .int x1), (0, .ref (adr pi 2 0)), (1, .ref (adr i 4 0)), (2, .int a2), (3, .int a3), (4, .int a4)]) hx hb dX2_lowestNext_53 hl (k := 5) rfl (by rw [e_x1]; rfl) (by decide) rfl (fun ls hl => ?_)
          refine lv_goto (tgt := 3) hx hb dX2_lowestNext_56 (by decide) ?_
          exact ih (x1) ls _ _ (lv_sub hl [1, 2, 3, 4, 5, 0] rfl) hW hS hf
        · have hf := x_iteF hf hc
          refine lv_aload_n hx hb dX2_lowestNext_19 rfl (lv_at hl 0 rfl) ?_
          refine lv_aload_n hx hb dX2_lowestNext_20 rfl (lv_at hl 1 rfl) ?_
          refine lv_iload_n hx hb dX2_lowestNext_21 rfl (lv_at hl 2 rfl) ?_
          refine lv_iload hx hb dX2_lowestNext_22 (lv_at hl 5 rfl) ?_
          obtain ⟨q2, h_q2, hf⟩ := x_bindE hf
          refine x_ci0 (x_rV ⟨hx, hb, hml, hown, hts⟩ (ct_X2_stepTime l g w pi hp pd i hi sd (a2) (v5_3) h_q2) (cwV 3 hts gX2_lowestNext_X2_stepTime rfl rfl rfl (by decide +kernel) ⟨Nat.le_of_ble_eq_true rfl, Nat.le_of_ble_eq_true rfl⟩) hK hW hS (x_recv (i := pi) (k := 2) (j := 0) hK hW ⟨hp, by decide⟩ rfl (by decide)) rfl hl.1 (rest := []) rfl (Nat.le_of_ble_eq_true rfl) dX2_lowestNext_24 ⟨Nat.le_of_ble_eq_true rfl, Nat.le_of_ble_eq_true rfl⟩) hS (fun H locs hW hS => ?_)
          have hW : World g (wS (wP w pd) i sd) H := hW
          refine W.eq (g2 := F0 m 27 ls [.int q2]) rfl ?_
          refine lv_aload_n hx hb dX2_lowestNext_27 rfl (lv_at hl 0 rfl) ?_
          refine x_get (i := pi) (k := 2) (j := 0) (t := 0) hx hb hts i_2 hown hK hW ⟨hp, by decide⟩ rfl ⟨by decide, by decide, rfl⟩ (hts (.fieldLink RX2 9 "OpticalJukebox$Planner" "rest" "[I") (by decide +kernel)) (v := .ref (adr pi 23 0)) rfl dX2_lowestNext_28 ?_
          refine lv_iload_n hx hb dX2_lowestNext_31 rfl (lv_at hl 3 rfl) ?_
          refine lv_iconst (v := 1) hx hb dX2_lowestNext_32 (by decide) ?_
          refine lv_iload hx hb dX2_lowestNext_33 (lv_at hl 5 rfl) ?_
          refine lv_ishl hx hb dX2_lowestNext_35 ?_
          refine lv_ixor hx hb dX2_lowestNext_36 ?_
          refine lv_bipush (v := 10) hx hb dX2_lowestNext_37 (by decide) ?_
          refine lv_imul hx hb dX2_lowestNext_39 ?_
          refine lv_iload hx hb dX2_lowestNext_40 (lv_at hl 5 rfl) ?_
          refine lv_iadd hx hb dX2_lowestNext_42 ?_
          obtain ⟨hg3, hf⟩ := x_guardE hf
          refine x_iald (i := pi) (k := 23) (j := 0) (f := pd 23 0) hx hb hK hW ⟨hp, by decide⟩ (by decide) (rfl) rfl hg3 dX2_lowestNext_43 ?_
          refine lv_iadd hx hb dX2_lowestNext_44 ?_
          refine lv_iload hx hb dX2_lowestNext_45 (lv_at hl 4 rfl) ?_
          refine lv_icmp_ne (tgt := 53) hx hb dX2_lowestNext_47 (by decide) (fun hc => ?_) (fun hc => ?_)
          · have hf := x_iteF hf hc
            obtain ⟨x4, e_x4, hf⟩ := x_letE hf
            refine lv_iinc (v := x4) (lv' := [(5, .int x4), (0, .ref (adr pi 2 0)), (1, .ref (adr i 4 0)), (2, .int a2), (3, .int a3), (4, .int a4)]) hx hb dX2_lowestNext_53 hl (k := 5) rfl (by rw [e_x4]; rfl) (by decide) rfl (fun ls hl => ?_)
            refine lv_goto (tgt := 3) hx hb dX2_lowestNext_56 (by decide) ?_
            exact ih (x4) ls _ _ (lv_sub hl [1, 2, 3, 4, 5, 0] rfl) hW hS hf
          · have hf := x_iteT hf hc
            refine lv_iload hx hb dX2_lowestNext_50 (lv_at hl 5 rfl) ?_
            cases hf
            exact x_iret hx hb hr hlocks hK hW hS rfl dX2_lowestNext_52
  exact L3 fuel ((0 : Int32)) ls _ _ (lv_sub hl [1, 2, 3, 4, 5, 0] rfl) hW hS hf
abbrev rm_X2_planOrder : Room := { frames := 5, cells := 0, slots := 0, locals := 120 }
set_option maxRecDepth 100000 in
set_option maxHeartbeats 4000000 in
theorem ct_X2_planOrder (l : Launch) (g : GT) (w : WT) (pi : Nat) (hp : k_pl w.1 = some pi) (pd : SD) (i : Nat) (hi : i ∈ k_S w.1) (sd : SD) {q : SD} (hf : f_X2_planOrder sd pd  = some q) : Met l yX2_planOrder wsX2_planOrder rm_X2_planOrder (cPre g (wS (wP w pd) i sd) [.ref (adr pi 2 0), .ref (adr i 4 0)]) (cQv g (wS (wP w q) i sd)) 0 0 (gA g) := by
  have i_2 : ∀ w ∈ u_ws RX2 TX2 6, w ∈ wsX2_planOrder := by decide +kernel
  refine x_met (by decide) rfl (Nat.le_of_ble_eq_true rfl) ?_
  intro p e s m below meth c hx hb hr hml hts hown hlocks hK hW hS ls hl
  have hown : s.vm.findClass RX2 = some m.cls := hown
  have hl : lv_has ls 7 [(0, .ref (adr pi 2 0)), (1, .ref (adr i 4 0))] := hl
  rw [f_X2_planOrder] at hf
  refine lv_aload_n hx hb dX2_planOrder_0 rfl (lv_at hl 1 rfl) ?_
  refine lv_iconst (v := -1) hx hb dX2_planOrder_1 (by decide) ?_
  obtain ⟨q1, h_q1, hf⟩ := x_bindE hf
  refine x_ci0 (x_rV ⟨hx, hb, hml, hown, hts⟩ (ct_X4_awayPlatters l g (wP w pd) i hi sd ((-1 : Int32)) h_q1) (cwV 1 hts gX2_planOrder_X4_awayPlatters rfl rfl rfl (by decide +kernel) ⟨Nat.le_of_ble_eq_true rfl, Nat.le_of_ble_eq_true rfl⟩) hK hW hS (x_recv (i := i) (k := 4) (j := 0) hK hW ⟨hi, by decide⟩ rfl (by decide)) rfl hl.1 (rest := []) rfl (Nat.le_of_ble_eq_true rfl) dX2_planOrder_2 ⟨Nat.le_of_ble_eq_true rfl, Nat.le_of_ble_eq_true rfl⟩) hS (fun H locs hW hS => ?_)
  have hW : World g (wS (wP w pd) i sd) H := hW
  refine W.eq (g2 := F0 m 5 ls [.int q1]) rfl ?_
  refine lv_istore_n (lv' := [(2, .int q1), (0, .ref (adr pi 2 0)), (1, .ref (adr i 4 0))]) hx hb dX2_planOrder_5 rfl hl (by decide) rfl (fun ls hl => ?_)
  refine lv_aload_n hx hb dX2_planOrder_6 rfl (lv_at hl 1 rfl) ?_
  refine lv_aload_n hx hb dX2_planOrder_7 rfl (lv_at hl 2 rfl) ?_
  refine lv_iconst (v := -1) hx hb dX2_planOrder_8 (by decide) ?_
  obtain ⟨q2, h_q2, hf⟩ := x_bindE hf
  refine x_ci0 (x_rV ⟨hx, hb, hml, hown, hts⟩ (ct_X4_driveAfterReading l g (wP w pd) i hi sd ((-1 : Int32)) h_q2) (cwV 1 hts gX2_planOrder_X4_driveAfterReading rfl rfl rfl (by decide +kernel) ⟨Nat.le_of_ble_eq_true rfl, Nat.le_of_ble_eq_true rfl⟩) hK hW hS (x_recv (i := i) (k := 4) (j := 0) hK hW ⟨hi, by decide⟩ rfl (by decide)) rfl hl.1 (rest := [.ref (adr pi 2 0)]) rfl (Nat.le_of_ble_eq_true rfl) dX2_planOrder_9 ⟨Nat.le_of_ble_eq_true rfl, Nat.le_of_ble_eq_true rfl⟩) hS (fun H locs hW hS => ?_)
  have hW : World g (wS (wP w pd) i sd) H := hW
  refine W.eq (g2 := F0 m 12 ls [.int q2, .ref (adr pi 2 0)]) rfl ?_
  obtain ⟨pd3, e_pd3, hf⟩ := x_letE hf
  refine x_put (i := pi) (k := 2) (j := 0) (t := 4) (w' := wS (wP w pd3) i sd) hx hb hts i_2 tyX2 tyX2_ok nmX2 hown hK hW ⟨hp, by decide⟩ hS rfl ⟨by decide, by decide, rfl⟩ (hts (.fieldLink RX2 21 "OpticalJukebox$Planner" "drive" "I") (by decide +kernel)) rfl (ty := .int) (by decide +kernel) rfl rfl ⟨rfl, rfl⟩ dX2_planOrder_12 (fp_P (w := wS w i sd) hp e_pd3 rfl) (fun H locs hW hS => ?_)
  refine lv_aload_n hx hb dX2_planOrder_15 rfl (lv_at hl 1 rfl) ?_
  refine lv_iconst (v := 0) hx hb dX2_planOrder_16 (by decide) ?_
  obtain ⟨pd4, e_pd4, hf⟩ := x_letE hf
  refine x_put (i := pi) (k := 2) (j := 0) (t := 3) (w' := wS (wP w pd4) i sd) hx hb hts i_2 tyX2 tyX2_ok nmX2 hown hK hW ⟨hp, by decide⟩ hS rfl ⟨by decide, by decide, rfl⟩ (hts (.fieldLink RX2 44 "OpticalJukebox$Planner" "orderLength" "I") (by decide +kernel)) rfl (ty := .int) (by decide +kernel) rfl rfl ⟨rfl, rfl⟩ dX2_planOrder_17 (fp_P (w := wS w i sd) hp e_pd4 rfl) (fun H locs hW hS => ?_)
  refine lv_aload_n hx hb dX2_planOrder_20 rfl (lv_at hl 2 rfl) ?_
  refine lv_aload_n hx hb dX2_planOrder_21 rfl (lv_at hl 1 rfl) ?_
  refine x_get (i := pi) (k := 2) (j := 0) (t := 4) hx hb hts i_2 hown hK hW ⟨hp, by decide⟩ rfl ⟨by decide, by decide, rfl⟩ (hts (.fieldLink RX2 21 "OpticalJukebox$Planner" "drive" "I") (by decide +kernel)) (rfl) dX2_planOrder_22 ?_
  obtain ⟨q5, h_q5, hf⟩ := x_bindE hf
  refine x_ci0 (x_rV ⟨hx, hb, hml, hown, hts⟩ (ct_X4_hasDrive l g (wP w pd4) i hi sd ((pd4 2 0 4)) h_q5) (cwV 1 hts gX2_planOrder_X4_hasDrive rfl rfl rfl (by decide +kernel) ⟨Nat.le_of_ble_eq_true rfl, Nat.le_of_ble_eq_true rfl⟩) hK hW hS (x_recv (i := i) (k := 4) (j := 0) hK hW ⟨hi, by decide⟩ rfl (by decide)) rfl hl.1 (rest := []) rfl (Nat.le_of_ble_eq_true rfl) dX2_planOrder_25 ⟨Nat.le_of_ble_eq_true rfl, Nat.le_of_ble_eq_true rfl⟩) hS (fun H locs hW hS => ?_)
  have hW : World g (wS (wP w pd4) i sd) H := hW
  refine W.eq (g2 := F0 m 28 ls [.int q5]) rfl ?_
  refine lv_if_ne (tgt := 32) hx hb dX2_planOrder_28 (by decide) (fun hc => ?_) (fun hc => ?_)
  · have hf := x_iteF hf hc
    refine lv_aload_n hx hb dX2_planOrder_32 rfl (lv_at hl 1 rfl) ?_
    refine lv_aload_n hx hb dX2_planOrder_33 rfl (lv_at hl 2 rfl) ?_
    refine lv_aload_n hx hb dX2_planOrder_34 rfl (lv_at hl 1 rfl) ?_
    refine x_get (i := pi) (k := 2) (j := 0) (t := 4) hx hb hts i_2 hown hK hW ⟨hp, by decide⟩ rfl ⟨by decide, by decide, rfl⟩ (hts (.fieldLink RX2 21 "OpticalJukebox$Planner" "drive" "I") (by decide +kernel)) (rfl) dX2_planOrder_35 ?_
    refine lv_iload_n hx hb dX2_planOrder_38 rfl (lv_at hl 0 rfl) ?_
    obtain ⟨q6, h_q6, hf⟩ := x_bindE hf
    refine x_ci0 (x_rV ⟨hx, hb, hml, hown, hts⟩ (ct_X2_leastTime l g w pi hp pd4 i hi sd ((pd4 2 0 4)) (q1) h_q6) (cwV 3 hts gX2_planOrder_X2_leastTime rfl rfl rfl (by decide +kernel) ⟨Nat.le_of_ble_eq_true rfl, Nat.le_of_ble_eq_true rfl⟩) hK hW hS (x_recv (i := pi) (k := 2) (j := 0) hK hW ⟨hp, by decide⟩ rfl (by decide)) rfl hl.1 (rest := []) rfl (Nat.le_of_ble_eq_true rfl) dX2_planOrder_39 ⟨Nat.le_of_ble_eq_true rfl, Nat.le_of_ble_eq_true rfl⟩) hS (fun H locs hW hS => ?_)
    have hW : World g (wS (wP w q6.2) i sd) H := hW
    refine W.eq (g2 := F0 m 42 ls [.int q6.1]) rfl ?_
    obtain ⟨x7, e_x7, hf⟩ := x_letE hf
    refine x_topi e_x7 ?_
    refine lv_istore_n (lv' := [(3, .int x7), (2, .int q1), (0, .ref (adr pi 2 0)), (1, .ref (adr i 4 0))]) hx hb dX2_planOrder_42 rfl hl (by decide) rfl (fun ls hl => ?_)
    refine lv_iconst (v := -1) hx hb dX2_planOrder_43 (by decide) ?_
    refine lv_istore (lv' := [(4, .int (-1 : Int32)), (3, .int x7), (2, .int q1), (0, .ref (adr pi 2 0)), (1, .ref (adr i 4 0))]) hx hb dX2_planOrder_44 hl (by decide) rfl (fun ls hl => ?_)
    refine lv_iconst (v := 0) hx hb dX2_planOrder_46 (by decide) ?_
    refine lv_istore (lv' := [(5, .int (0 : Int32)), (4, .int (-1 : Int32)), (3, .int x7), (2, .int q1), (0, .ref (adr pi 2 0)), (1, .ref (adr i 4 0))]) hx hb dX2_planOrder_47 hl (by decide) rfl (fun ls hl => ?_)
    have L49 : ∀ (n : Nat) (v2_49 : Int32) (v3_49 : Int32) (v4_49 : Int32) (v5_49 : Int32) (pd_49 : SD) (ls : Array Slot) (H : Heap) (locs : List Loc), lv_has ls 7 [(0, .ref (adr pi 2 0)), (1, .ref (adr i 4 0)), (2, .int v2_49), (3, .int v3_49), (4, .int v4_49), (5, .int v5_49)] → World g (wS (wP w pd_49) i sd) H → va_S (gA g) s.heap H locs → f_X2_planOrder_L49 sd n v2_49 v3_49 v4_49 v5_49 pd_49 = some q → W p l e rm_X2_planOrder s m [.ref (adr pi 2 0), .ref (adr i 4 0)].toArray below meth c H locs 0 0 (MQ below (cQv g (wS (wP w q) i sd)) [.ref (adr pi 2 0), .ref (adr i 4 0)].toArray s 0 0 (gA g)) (F0 m 49 ls []) := by
      clear hW hS hl
      intro n
      induction n with
      | zero => intro v2_49 v3_49 v4_49 v5_49 pd_49 ls H locs hl hW hS hf; cases hf
      | succ n_49 ih =>
        intro v2_49 v3_49 v4_49 v5_49 pd_49 ls H locs hl hW hS hf
        rw [f_X2_planOrder_L49] at hf
        refine lv_iload hx hb dX2_planOrder_49 (lv_at hl 5 rfl) ?_
        refine lv_bipush (v := 10) hx hb dX2_planOrder_51 (by decide) ?_
        refine lv_icmp_ge (tgt := 127) hx hb dX2_planOrder_53 (by decide) (fun hc => ?_) (fun hc => ?_)
        · have hf := x_iteT hf hc
          cases hf
          exact x_vret hx hb hr hlocks hK hW hS dX2_planOrder_127
        · have hf := x_iteF hf hc
          refine lv_iload_n hx hb dX2_planOrder_56 rfl (lv_at hl 2 rfl) ?_
          refine lv_if_eq (tgt := 127) hx hb dX2_planOrder_57 (by decide) (fun hc => ?_) (fun hc => ?_)
          · have hf := x_iteT hf hc
            cases hf
            exact x_vret hx hb hr hlocks hK hW hS dX2_planOrder_127
          · have hf := x_iteF hf hc
            refine lv_aload_n hx hb dX2_planOrder_60 rfl (lv_at hl 0 rfl) ?_
            refine lv_aload_n hx hb dX2_planOrder_61 rfl (lv_at hl 1 rfl) ?_
            refine lv_iload hx hb dX2_planOrder_62 (lv_at hl 4 rfl) ?_
            refine lv_iload_n hx hb dX2_planOrder_64 rfl (lv_at hl 2 rfl) ?_
            refine lv_iload_n hx hb dX2_planOrder_65 rfl (lv_at hl 3 rfl) ?_
            obtain ⟨q8, h_q8, hf⟩ := x_bindE hf
            refine x_ci0 (x_rV ⟨hx, hb, hml, hown, hts⟩ (ct_X2_lowestNext l g w pi hp pd_49 i hi sd (v4_49) (v2_49) (v3_49) h_q8) (cwV 4 hts gX2_planOrder_X2_lowestNext rfl rfl rfl (by decide +kernel) ⟨Nat.le_of_ble_eq_true rfl, Nat.le_of_ble_eq_true rfl⟩) hK hW hS (x_recv (i := pi) (k := 2) (j := 0) hK hW ⟨hp, by decide⟩ rfl (by decide)) rfl hl.1 (rest := []) rfl (Nat.le_of_ble_eq_true rfl) dX2_planOrder_66 ⟨Nat.le_of_ble_eq_true rfl, Nat.le_of_ble_eq_true rfl⟩) hS (fun H locs hW hS => ?_)
            have hW : World g (wS (wP w pd_49) i sd) H := hW
            refine W.eq (g2 := F0 m 69 ls [.int q8]) rfl ?_
            refine lv_istore (lv' := [(6, .int q8), (0, .ref (adr pi 2 0)), (1, .ref (adr i 4 0)), (2, .int v2_49), (3, .int v3_49), (4, .int v4_49), (5, .int v5_49)]) hx hb dX2_planOrder_69 hl (by decide) rfl (fun ls hl => ?_)
            refine lv_iload hx hb dX2_planOrder_71 (lv_at hl 0 rfl) ?_
            refine lv_iconst (v := -1) hx hb dX2_planOrder_73 (by decide) ?_
            refine lv_icmp_ne (tgt := 78) hx hb dX2_planOrder_74 (by decide) (fun hc => ?_) (fun hc => ?_)
            · have hf := x_iteF hf hc
              refine lv_iload_n hx hb dX2_planOrder_78 rfl (lv_at hl 3 rfl) ?_
              refine lv_iconst (v := 1) hx hb dX2_planOrder_79 (by decide) ?_
              refine lv_iload hx hb dX2_planOrder_80 (lv_at hl 0 rfl) ?_
              refine lv_ishl hx hb dX2_planOrder_82 ?_
              refine lv_ixor hx hb dX2_planOrder_83 ?_
              obtain ⟨x9, e_x9, hf⟩ := x_letE hf
              refine x_topi e_x9 ?_
              refine lv_istore_n (lv' := [(2, .int x9), (6, .int q8), (0, .ref (adr pi 2 0)), (1, .ref (adr i 4 0)), (3, .int v3_49), (4, .int v4_49), (5, .int v5_49)]) hx hb dX2_planOrder_84 rfl hl (by decide) rfl (fun ls hl => ?_)
              refine lv_aload_n hx hb dX2_planOrder_85 rfl (lv_at hl 2 rfl) ?_
              refine x_get (i := pi) (k := 2) (j := 0) (t := 0) hx hb hts i_2 hown hK hW ⟨hp, by decide⟩ rfl ⟨by decide, by decide, rfl⟩ (hts (.fieldLink RX2 9 "OpticalJukebox$Planner" "rest" "[I") (by decide +kernel)) (v := .ref (adr pi 23 0)) rfl dX2_planOrder_86 ?_
              refine lv_iload_n hx hb dX2_planOrder_89 rfl (lv_at hl 0 rfl) ?_
              refine lv_bipush (v := 10) hx hb dX2_planOrder_90 (by decide) ?_
              refine lv_imul hx hb dX2_planOrder_92 ?_
              refine lv_iload hx hb dX2_planOrder_93 (lv_at hl 1 rfl) ?_
              refine lv_iadd hx hb dX2_planOrder_95 ?_
              obtain ⟨hg10, hf⟩ := x_guardE hf
              refine x_iald (i := pi) (k := 23) (j := 0) (f := pd_49 23 0) hx hb hK hW ⟨hp, by decide⟩ (by decide) (rfl) rfl hg10 dX2_planOrder_96 ?_
              obtain ⟨x11, e_x11, hf⟩ := x_letE hf
              refine x_topi e_x11 ?_
              refine lv_istore_n (lv' := [(3, .int x11), (2, .int x9), (6, .int q8), (0, .ref (adr pi 2 0)), (1, .ref (adr i 4 0)), (4, .int v4_49), (5, .int v5_49)]) hx hb dX2_planOrder_97 rfl hl (by decide) rfl (fun ls hl => ?_)
              refine lv_aload_n hx hb dX2_planOrder_98 rfl (lv_at hl 3 rfl) ?_
              refine x_get (i := pi) (k := 2) (j := 0) (t := 2) hx hb hts i_2 hown hK hW ⟨hp, by decide⟩ rfl ⟨by decide, by decide, rfl⟩ (hts (.fieldLink RX2 18 "OpticalJukebox$Planner" "order" "[I") (by decide +kernel)) (v := .ref (adr pi 25 0)) rfl dX2_planOrder_99 ?_
              refine lv_iload hx hb dX2_planOrder_102 (lv_at hl 6 rfl) ?_
              refine lv_iload hx hb dX2_planOrder_104 (lv_at hl 2 rfl) ?_
              obtain ⟨hg12, hf⟩ := x_guardE hf
              obtain ⟨pd13, e_pd13, hf⟩ := x_letE hf
              refine x_iast (i := pi) (k := 25) (j := 0) (w' := wS (wP w pd13) i sd) hx hb hK hW ⟨hp, by decide⟩ hS (by decide) rfl rfl rfl hg12 dX2_planOrder_106 (fp_P (w := wS w i sd) hp e_pd13 rfl) (fun H locs hW hS => ?_)
              refine lv_aload_n hx hb dX2_planOrder_107 rfl (lv_at hl 3 rfl) ?_
              refine lv_dup hx hb dX2_planOrder_108 rfl ?_
              refine x_get (i := pi) (k := 2) (j := 0) (t := 3) hx hb hts i_2 hown hK hW ⟨hp, by decide⟩ rfl ⟨by decide, by decide, rfl⟩ (hts (.fieldLink RX2 44 "OpticalJukebox$Planner" "orderLength" "I") (by decide +kernel)) (rfl) dX2_planOrder_109 ?_
              refine lv_iconst (v := 1) hx hb dX2_planOrder_112 (by decide) ?_
              refine lv_iadd hx hb dX2_planOrder_113 ?_
              obtain ⟨pd14, e_pd14, hf⟩ := x_letE hf
              refine x_put (i := pi) (k := 2) (j := 0) (t := 3) (w' := wS (wP w pd14) i sd) hx hb hts i_2 tyX2 tyX2_ok nmX2 hown hK hW ⟨hp, by decide⟩ hS rfl ⟨by decide, by decide, rfl⟩ (hts (.fieldLink RX2 44 "OpticalJukebox$Planner" "orderLength" "I") (by decide +kernel)) rfl (ty := .int) (by decide +kernel) rfl rfl ⟨rfl, rfl⟩ dX2_planOrder_114 (fp_P (w := wS w i sd) hp e_pd14 rfl) (fun H locs hW hS => ?_)
              refine lv_iload hx hb dX2_planOrder_117 (lv_at hl 2 rfl) ?_
              refine lv_istore (lv' := [(4, .int q8), (3, .int x11), (2, .int x9), (6, .int q8), (0, .ref (adr pi 2 0)), (1, .ref (adr i 4 0)), (5, .int v5_49)]) hx hb dX2_planOrder_119 hl (by decide) rfl (fun ls hl => ?_)
              obtain ⟨x15, e_x15, hf⟩ := x_letE hf
              refine lv_iinc (v := x15) (lv' := [(5, .int x15), (4, .int q8), (3, .int x11), (2, .int x9), (6, .int q8), (0, .ref (adr pi 2 0)), (1, .ref (adr i 4 0))]) hx hb dX2_planOrder_121 hl (k := 6) rfl (by rw [e_x15]; rfl) (by decide) rfl (fun ls hl => ?_)
              refine lv_goto (tgt := 49) hx hb dX2_planOrder_124 (by decide) ?_
              exact ih (x9) (x11) (q8) (x15) (pd14) ls _ _ (lv_sub hl [5, 6, 3, 2, 1, 0] rfl) hW hS hf
            · have hf := x_iteT hf hc
              cases hf
              exact x_vret hx hb hr hlocks hK hW hS dX2_planOrder_77
    exact L49 fuel (q1) (x7) ((-1 : Int32)) ((0 : Int32)) (q6.2) ls _ _ (lv_sub hl [4, 5, 3, 2, 1, 0] rfl) hW hS hf
  · have hf := x_iteT hf hc
    cases hf
    exact x_vret hx hb hr hlocks hK hW hS dX2_planOrder_31
