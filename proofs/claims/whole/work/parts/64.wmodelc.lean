set_option maxRecDepth 20000 in
theorem ggX8_fillBits_X8_isPlatter : GoodIn wsX8_fillBits wsX8_isPlatter := goodIn_r _ [8, 2, 9, 10, 7, 11, 24, 25, 26, 27, 28, 29, 30, 31, 32, 33, 34, 35, 36, 37, 38, 39, 40, 41, 42, 43, 44, 45, 46, 47, 48, 49, 50] (by decide +kernel) (by decide +kernel)
set_option maxRecDepth 20000 in
theorem gX8_fillBits_X8_isPlatter : GoodIn wsX8_fillBits (wsV RX8 61 RX8 yX8_isPlatter wsX8_isPlatter) := goodIn_app (goodIn_of _ (by decide +kernel)) ggX8_fillBits_X8_isPlatter
set_option maxRecDepth 20000 in
theorem ggX8_fillBits_Jxf58ca_floatToIntBits_5c35a : GoodIn wsX8_fillBits wsJxf58ca_floatToIntBits_5c35a := goodIn_r _ [15, 16, 17, 18, 19, 20, 21, 22, 14, 23] (by decide +kernel) (by decide +kernel)
set_option maxRecDepth 20000 in
theorem gX8_fillBits_Jxf58ca_floatToIntBits_5c35a : GoodIn wsX8_fillBits (va_wsS RX8 216 yJxf58ca_floatToIntBits_5c35a wsJxf58ca_floatToIntBits_5c35a) := goodIn_app (goodIn_of _ (by decide +kernel)) ggX8_fillBits_Jxf58ca_floatToIntBits_5c35a
theorem dX8_fillBits_0 : decode cX8_fillBits 0 = .ok (.aload_n 0, 1) := by decide +kernel
theorem dX8_fillBits_1 : decode cX8_fillBits 1 = .ok (.iconst 0, 1) := by decide +kernel
theorem dX8_fillBits_2 : decode cX8_fillBits 2 = .ok (.putfield 51, 3) := by decide +kernel
theorem dX8_fillBits_5 : decode cX8_fillBits 5 = .ok (.aload_n 0, 1) := by decide +kernel
theorem dX8_fillBits_6 : decode cX8_fillBits 6 = .ok (.iload_n 1, 1) := by decide +kernel
theorem dX8_fillBits_7 : decode cX8_fillBits 7 = .ok (.invokevirtual 61, 3) := by decide +kernel
theorem dX8_fillBits_10 : decode cX8_fillBits 10 = .ok (.ifCond .eq 30, 3) := by decide +kernel
theorem dX8_fillBits_13 : decode cX8_fillBits 13 = .ok (.aload_n 0, 1) := by decide +kernel
theorem dX8_fillBits_14 : decode cX8_fillBits 14 = .ok (.getfield 7, 3) := by decide +kernel
theorem dX8_fillBits_17 : decode cX8_fillBits 17 = .ok (.bipush 59, 2) := by decide +kernel
theorem dX8_fillBits_19 : decode cX8_fillBits 19 = .ok (.iload_n 1, 1) := by decide +kernel
theorem dX8_fillBits_20 : decode cX8_fillBits 20 = .ok (.iadd, 1) := by decide +kernel
theorem dX8_fillBits_21 : decode cX8_fillBits 21 = .ok (.iaload, 1) := by decide +kernel
theorem dX8_fillBits_22 : decode cX8_fillBits 22 = .ok (.i2f, 1) := by decide +kernel
theorem dX8_fillBits_23 : decode cX8_fillBits 23 = .ok (.aload_n 0, 1) := by decide +kernel
theorem dX8_fillBits_24 : decode cX8_fillBits 24 = .ok (.getfield 7, 3) := by decide +kernel
theorem dX8_fillBits_27 : decode cX8_fillBits 27 = .ok (.bipush 39, 2) := by decide +kernel
theorem dX8_fillBits_29 : decode cX8_fillBits 29 = .ok (.iload_n 1, 1) := by decide +kernel
theorem dX8_fillBits_30 : decode cX8_fillBits 30 = .ok (.iadd, 1) := by decide +kernel
theorem dX8_fillBits_31 : decode cX8_fillBits 31 = .ok (.iaload, 1) := by decide +kernel
theorem dX8_fillBits_32 : decode cX8_fillBits 32 = .ok (.i2f, 1) := by decide +kernel
theorem dX8_fillBits_33 : decode cX8_fillBits 33 = .ok (.fdiv, 1) := by decide +kernel
theorem dX8_fillBits_34 : decode cX8_fillBits 34 = .ok (.invokestatic 216, 3) := by decide +kernel
theorem dX8_fillBits_37 : decode cX8_fillBits 37 = .ok (.goto 5, 3) := by decide +kernel
theorem dX8_fillBits_40 : decode cX8_fillBits 40 = .ok (.ldc 186, 2) := by decide +kernel
theorem dX8_fillBits_42 : decode cX8_fillBits 42 = .ok (.ireturn, 1) := by decide +kernel
set_option maxRecDepth 20000 in
theorem ggX8_cleanRun_X8_isPlatter : GoodIn wsX8_cleanRun wsX8_isPlatter := goodIn_r _ [8, 3, 9, 10, 7, 11, 15, 16, 17, 18, 19, 20, 21, 22, 23, 24, 25, 26, 27, 28, 29, 30, 31, 32, 33, 34, 35, 36, 37, 38, 39, 40, 41] (by decide +kernel) (by decide +kernel)
set_option maxRecDepth 20000 in
theorem gX8_cleanRun_X8_isPlatter : GoodIn wsX8_cleanRun (wsV RX8 61 RX8 yX8_isPlatter wsX8_isPlatter) := goodIn_app (goodIn_of _ (by decide +kernel)) ggX8_cleanRun_X8_isPlatter
set_option maxRecDepth 20000 in
theorem ggX8_cleanRun_X8_isBad : GoodIn wsX8_cleanRun wsX8_isBad := goodIn_r _ [14] (by decide +kernel) (by decide +kernel)
set_option maxRecDepth 20000 in
theorem gX8_cleanRun_X8_isBad : GoodIn wsX8_cleanRun (va_wsS RX8 212 yX8_isBad wsX8_isBad) := goodIn_app (goodIn_of _ (by decide +kernel)) ggX8_cleanRun_X8_isBad
theorem dX8_cleanRun_0 : decode cX8_cleanRun 0 = .ok (.aload_n 0, 1) := by decide +kernel
theorem dX8_cleanRun_1 : decode cX8_cleanRun 1 = .ok (.iconst 0, 1) := by decide +kernel
theorem dX8_cleanRun_2 : decode cX8_cleanRun 2 = .ok (.putfield 51, 3) := by decide +kernel
theorem dX8_cleanRun_5 : decode cX8_cleanRun 5 = .ok (.aload_n 0, 1) := by decide +kernel
theorem dX8_cleanRun_6 : decode cX8_cleanRun 6 = .ok (.iload_n 1, 1) := by decide +kernel
theorem dX8_cleanRun_7 : decode cX8_cleanRun 7 = .ok (.invokevirtual 61, 3) := by decide +kernel
theorem dX8_cleanRun_10 : decode cX8_cleanRun 10 = .ok (.ifCond .ne 6, 3) := by decide +kernel
theorem dX8_cleanRun_13 : decode cX8_cleanRun 13 = .ok (.ldc 186, 2) := by decide +kernel
theorem dX8_cleanRun_15 : decode cX8_cleanRun 15 = .ok (.ireturn, 1) := by decide +kernel
theorem dX8_cleanRun_16 : decode cX8_cleanRun 16 = .ok (.iconst 0, 1) := by decide +kernel
theorem dX8_cleanRun_17 : decode cX8_cleanRun 17 = .ok (.istore_n 2, 1) := by decide +kernel
theorem dX8_cleanRun_18 : decode cX8_cleanRun 18 = .ok (.iconst 0, 1) := by decide +kernel
theorem dX8_cleanRun_19 : decode cX8_cleanRun 19 = .ok (.istore_n 3, 1) := by decide +kernel
theorem dX8_cleanRun_20 : decode cX8_cleanRun 20 = .ok (.aload_n 0, 1) := by decide +kernel
theorem dX8_cleanRun_21 : decode cX8_cleanRun 21 = .ok (.getfield 7, 3) := by decide +kernel
theorem dX8_cleanRun_24 : decode cX8_cleanRun 24 = .ok (.bipush 59, 2) := by decide +kernel
theorem dX8_cleanRun_26 : decode cX8_cleanRun 26 = .ok (.iload_n 1, 1) := by decide +kernel
theorem dX8_cleanRun_27 : decode cX8_cleanRun 27 = .ok (.iadd, 1) := by decide +kernel
theorem dX8_cleanRun_28 : decode cX8_cleanRun 28 = .ok (.iaload, 1) := by decide +kernel
theorem dX8_cleanRun_29 : decode cX8_cleanRun 29 = .ok (.istore 4, 2) := by decide +kernel
theorem dX8_cleanRun_31 : decode cX8_cleanRun 31 = .ok (.iload 4, 2) := by decide +kernel
theorem dX8_cleanRun_33 : decode cX8_cleanRun 33 = .ok (.aload_n 0, 1) := by decide +kernel
theorem dX8_cleanRun_34 : decode cX8_cleanRun 34 = .ok (.getfield 7, 3) := by decide +kernel
theorem dX8_cleanRun_37 : decode cX8_cleanRun 37 = .ok (.bipush 39, 2) := by decide +kernel
theorem dX8_cleanRun_39 : decode cX8_cleanRun 39 = .ok (.iload_n 1, 1) := by decide +kernel
theorem dX8_cleanRun_40 : decode cX8_cleanRun 40 = .ok (.iadd, 1) := by decide +kernel
theorem dX8_cleanRun_41 : decode cX8_cleanRun 41 = .ok (.iaload, 1) := by decide +kernel
theorem dX8_cleanRun_42 : decode cX8_cleanRun 42 = .ok (.if_icmp .ge 41, 3) := by decide +kernel
theorem dX8_cleanRun_45 : decode cX8_cleanRun 45 = .ok (.aload_n 0, 1) := by decide +kernel
theorem dX8_cleanRun_46 : decode cX8_cleanRun 46 = .ok (.getfield 7, 3) := by decide +kernel
theorem dX8_cleanRun_49 : decode cX8_cleanRun 49 = .ok (.iload_n 1, 1) := by decide +kernel
theorem dX8_cleanRun_50 : decode cX8_cleanRun 50 = .ok (.iload 4, 2) := by decide +kernel
theorem dX8_cleanRun_52 : decode cX8_cleanRun 52 = .ok (.invokestatic 212, 3) := by decide +kernel
theorem dX8_cleanRun_55 : decode cX8_cleanRun 55 = .ok (.ifCond .eq 7, 3) := by decide +kernel
theorem dX8_cleanRun_58 : decode cX8_cleanRun 58 = .ok (.iconst 0, 1) := by decide +kernel
theorem dX8_cleanRun_59 : decode cX8_cleanRun 59 = .ok (.goto 6, 3) := by decide +kernel
theorem dX8_cleanRun_62 : decode cX8_cleanRun 62 = .ok (.iload_n 3, 1) := by decide +kernel
theorem dX8_cleanRun_63 : decode cX8_cleanRun 63 = .ok (.iconst 1, 1) := by decide +kernel
theorem dX8_cleanRun_64 : decode cX8_cleanRun 64 = .ok (.iadd, 1) := by decide +kernel
theorem dX8_cleanRun_65 : decode cX8_cleanRun 65 = .ok (.istore_n 3, 1) := by decide +kernel
theorem dX8_cleanRun_66 : decode cX8_cleanRun 66 = .ok (.iload_n 3, 1) := by decide +kernel
theorem dX8_cleanRun_67 : decode cX8_cleanRun 67 = .ok (.iload_n 2, 1) := by decide +kernel
theorem dX8_cleanRun_68 : decode cX8_cleanRun 68 = .ok (.if_icmp .le 7, 3) := by decide +kernel
theorem dX8_cleanRun_71 : decode cX8_cleanRun 71 = .ok (.iload_n 3, 1) := by decide +kernel
theorem dX8_cleanRun_72 : decode cX8_cleanRun 72 = .ok (.goto 4, 3) := by decide +kernel
theorem dX8_cleanRun_75 : decode cX8_cleanRun 75 = .ok (.iload_n 2, 1) := by decide +kernel
theorem dX8_cleanRun_76 : decode cX8_cleanRun 76 = .ok (.istore_n 2, 1) := by decide +kernel
theorem dX8_cleanRun_77 : decode cX8_cleanRun 77 = .ok (.iinc 4 1, 3) := by decide +kernel
theorem dX8_cleanRun_80 : decode cX8_cleanRun 80 = .ok (.goto (-49), 3) := by decide +kernel
theorem dX8_cleanRun_83 : decode cX8_cleanRun 83 = .ok (.iload_n 2, 1) := by decide +kernel
theorem dX8_cleanRun_84 : decode cX8_cleanRun 84 = .ok (.ireturn, 1) := by decide +kernel
set_option maxRecDepth 20000 in
theorem ggX8_bestPlatter_X8_isIn : GoodIn wsX8_bestPlatter wsX8_isIn := goodIn_r _ [10] (by decide +kernel) (by decide +kernel)
set_option maxRecDepth 20000 in
theorem gX8_bestPlatter_X8_isIn : GoodIn wsX8_bestPlatter (va_wsS RX8 57 yX8_isIn wsX8_isIn) := goodIn_app (goodIn_of _ (by decide +kernel)) ggX8_bestPlatter_X8_isIn
set_option maxRecDepth 20000 in
theorem ggX8_bestPlatter_X8_canWrite : GoodIn wsX8_bestPlatter wsX8_canWrite := goodIn_r _ [13, 14, 15, 9, 16, 7, 8, 10] (by decide +kernel) (by decide +kernel)
set_option maxRecDepth 20000 in
theorem gX8_bestPlatter_X8_canWrite : GoodIn wsX8_bestPlatter (va_wsS RX8 225 yX8_canWrite wsX8_canWrite) := goodIn_app (goodIn_of _ (by decide +kernel)) ggX8_bestPlatter_X8_canWrite
set_option maxRecDepth 20000 in
theorem ggX8_bestPlatter_X8_timeFor : GoodIn wsX8_bestPlatter wsX8_timeFor := goodIn_r _ [20, 21, 22, 23, 9, 24, 4, 25, 26, 27, 28, 29, 30, 31, 32, 33, 34, 35, 36, 37, 38, 39, 40, 41, 42, 43, 44, 45, 46, 47, 48, 49, 50, 51, 52, 53, 54, 55, 56, 57, 58, 59, 60, 61, 62, 63, 64, 65, 66, 67, 68, 73, 74, 75, 76, 77, 78, 79, 80, 81, 82, 83, 84, 85, 86, 87, 88, 89, 90, 91, 92, 93, 94, 95, 96, 97, 98, 99] (by decide +kernel) (by decide +kernel)
set_option maxRecDepth 20000 in
theorem gX8_bestPlatter_X8_timeFor : GoodIn wsX8_bestPlatter (wsV RX8 196 RX8 yX8_timeFor wsX8_timeFor) := goodIn_app (goodIn_of _ (by decide +kernel)) ggX8_bestPlatter_X8_timeFor
set_option maxRecDepth 20000 in
theorem ggX8_bestPlatter_X8_free : GoodIn wsX8_bestPlatter wsX8_free := goodIn_r _ [72, 4, 73, 74, 75, 76, 77, 78, 79, 80, 81, 82, 83, 84, 85, 86, 87, 88, 89, 90, 91, 92, 93, 94, 95, 96, 97, 98, 99] (by decide +kernel) (by decide +kernel)
set_option maxRecDepth 20000 in
theorem gX8_bestPlatter_X8_free : GoodIn wsX8_bestPlatter (wsV RX8 199 RX8 yX8_free wsX8_free) := goodIn_app (goodIn_of _ (by decide +kernel)) ggX8_bestPlatter_X8_free
theorem dX8_bestPlatter_0 : decode cX8_bestPlatter 0 = .ok (.aload_n 0, 1) := by decide +kernel
theorem dX8_bestPlatter_1 : decode cX8_bestPlatter 1 = .ok (.iconst 0, 1) := by decide +kernel
theorem dX8_bestPlatter_2 : decode cX8_bestPlatter 2 = .ok (.putfield 51, 3) := by decide +kernel
theorem dX8_bestPlatter_5 : decode cX8_bestPlatter 5 = .ok (.iload_n 1, 1) := by decide +kernel
theorem dX8_bestPlatter_6 : decode cX8_bestPlatter 6 = .ok (.i2l, 1) := by decide +kernel
theorem dX8_bestPlatter_7 : decode cX8_bestPlatter 7 = .ok (.lconst 1, 1) := by decide +kernel
theorem dX8_bestPlatter_8 : decode cX8_bestPlatter 8 = .ok (.ldc2_w 222, 3) := by decide +kernel
theorem dX8_bestPlatter_11 : decode cX8_bestPlatter 11 = .ok (.invokestatic 57, 3) := by decide +kernel
theorem dX8_bestPlatter_14 : decode cX8_bestPlatter 14 = .ok (.ifCond .ne 6, 3) := by decide +kernel
theorem dX8_bestPlatter_17 : decode cX8_bestPlatter 17 = .ok (.ldc 224, 2) := by decide +kernel
theorem dX8_bestPlatter_19 : decode cX8_bestPlatter 19 = .ok (.ireturn, 1) := by decide +kernel
theorem dX8_bestPlatter_20 : decode cX8_bestPlatter 20 = .ok (.aload_n 0, 1) := by decide +kernel
theorem dX8_bestPlatter_21 : decode cX8_bestPlatter 21 = .ok (.getfield 7, 3) := by decide +kernel
theorem dX8_bestPlatter_24 : decode cX8_bestPlatter 24 = .ok (.bipush 6, 2) := by decide +kernel
theorem dX8_bestPlatter_26 : decode cX8_bestPlatter 26 = .ok (.iaload, 1) := by decide +kernel
theorem dX8_bestPlatter_27 : decode cX8_bestPlatter 27 = .ok (.ifCond .ne 6, 3) := by decide +kernel
theorem dX8_bestPlatter_30 : decode cX8_bestPlatter 30 = .ok (.ldc 177, 2) := by decide +kernel
theorem dX8_bestPlatter_32 : decode cX8_bestPlatter 32 = .ok (.ireturn, 1) := by decide +kernel
theorem dX8_bestPlatter_33 : decode cX8_bestPlatter 33 = .ok (.ldc 42, 2) := by decide +kernel
theorem dX8_bestPlatter_35 : decode cX8_bestPlatter 35 = .ok (.istore_n 2, 1) := by decide +kernel
theorem dX8_bestPlatter_36 : decode cX8_bestPlatter 36 = .ok (.iconst 0, 1) := by decide +kernel
theorem dX8_bestPlatter_37 : decode cX8_bestPlatter 37 = .ok (.istore_n 3, 1) := by decide +kernel
theorem dX8_bestPlatter_38 : decode cX8_bestPlatter 38 = .ok (.iconst 0, 1) := by decide +kernel
theorem dX8_bestPlatter_39 : decode cX8_bestPlatter 39 = .ok (.istore 4, 2) := by decide +kernel
theorem dX8_bestPlatter_41 : decode cX8_bestPlatter 41 = .ok (.iload 4, 2) := by decide +kernel
theorem dX8_bestPlatter_43 : decode cX8_bestPlatter 43 = .ok (.aload_n 0, 1) := by decide +kernel
theorem dX8_bestPlatter_44 : decode cX8_bestPlatter 44 = .ok (.getfield 7, 3) := by decide +kernel
theorem dX8_bestPlatter_47 : decode cX8_bestPlatter 47 = .ok (.bipush 7, 2) := by decide +kernel
theorem dX8_bestPlatter_49 : decode cX8_bestPlatter 49 = .ok (.iaload, 1) := by decide +kernel
theorem dX8_bestPlatter_50 : decode cX8_bestPlatter 50 = .ok (.if_icmp .ge 84, 3) := by decide +kernel
theorem dX8_bestPlatter_53 : decode cX8_bestPlatter 53 = .ok (.aload_n 0, 1) := by decide +kernel
theorem dX8_bestPlatter_54 : decode cX8_bestPlatter 54 = .ok (.getfield 7, 3) := by decide +kernel
theorem dX8_bestPlatter_57 : decode cX8_bestPlatter 57 = .ok (.iload 4, 2) := by decide +kernel
theorem dX8_bestPlatter_59 : decode cX8_bestPlatter 59 = .ok (.iload_n 1, 1) := by decide +kernel
theorem dX8_bestPlatter_60 : decode cX8_bestPlatter 60 = .ok (.invokestatic 225, 3) := by decide +kernel
theorem dX8_bestPlatter_63 : decode cX8_bestPlatter 63 = .ok (.ifCond .ne 6, 3) := by decide +kernel
theorem dX8_bestPlatter_66 : decode cX8_bestPlatter 66 = .ok (.goto 62, 3) := by decide +kernel
theorem dX8_bestPlatter_69 : decode cX8_bestPlatter 69 = .ok (.aload_n 0, 1) := by decide +kernel
theorem dX8_bestPlatter_70 : decode cX8_bestPlatter 70 = .ok (.iload 4, 2) := by decide +kernel
theorem dX8_bestPlatter_72 : decode cX8_bestPlatter 72 = .ok (.invokevirtual 196, 3) := by decide +kernel
theorem dX8_bestPlatter_75 : decode cX8_bestPlatter 75 = .ok (.istore 5, 2) := by decide +kernel
theorem dX8_bestPlatter_77 : decode cX8_bestPlatter 77 = .ok (.iload_n 2, 1) := by decide +kernel
theorem dX8_bestPlatter_78 : decode cX8_bestPlatter 78 = .ok (.ifCond .lt 29, 3) := by decide +kernel
theorem dX8_bestPlatter_81 : decode cX8_bestPlatter 81 = .ok (.iload 5, 2) := by decide +kernel
theorem dX8_bestPlatter_83 : decode cX8_bestPlatter 83 = .ok (.iload_n 3, 1) := by decide +kernel
theorem dX8_bestPlatter_84 : decode cX8_bestPlatter 84 = .ok (.if_icmp .lt 23, 3) := by decide +kernel
theorem dX8_bestPlatter_87 : decode cX8_bestPlatter 87 = .ok (.iload 5, 2) := by decide +kernel
theorem dX8_bestPlatter_89 : decode cX8_bestPlatter 89 = .ok (.iload_n 3, 1) := by decide +kernel
theorem dX8_bestPlatter_90 : decode cX8_bestPlatter 90 = .ok (.if_icmp .ne 21, 3) := by decide +kernel
theorem dX8_bestPlatter_93 : decode cX8_bestPlatter 93 = .ok (.aload_n 0, 1) := by decide +kernel
theorem dX8_bestPlatter_94 : decode cX8_bestPlatter 94 = .ok (.iload 4, 2) := by decide +kernel
theorem dX8_bestPlatter_96 : decode cX8_bestPlatter 96 = .ok (.invokevirtual 199, 3) := by decide +kernel
theorem dX8_bestPlatter_99 : decode cX8_bestPlatter 99 = .ok (.aload_n 0, 1) := by decide +kernel
theorem dX8_bestPlatter_100 : decode cX8_bestPlatter 100 = .ok (.iload_n 2, 1) := by decide +kernel
theorem dX8_bestPlatter_101 : decode cX8_bestPlatter 101 = .ok (.invokevirtual 199, 3) := by decide +kernel
theorem dX8_bestPlatter_104 : decode cX8_bestPlatter 104 = .ok (.if_icmp .ge 7, 3) := by decide +kernel
theorem dX8_bestPlatter_107 : decode cX8_bestPlatter 107 = .ok (.iconst 1, 1) := by decide +kernel
theorem dX8_bestPlatter_108 : decode cX8_bestPlatter 108 = .ok (.goto 4, 3) := by decide +kernel
theorem dX8_bestPlatter_111 : decode cX8_bestPlatter 111 = .ok (.iconst 0, 1) := by decide +kernel
theorem dX8_bestPlatter_112 : decode cX8_bestPlatter 112 = .ok (.istore 6, 2) := by decide +kernel
theorem dX8_bestPlatter_114 : decode cX8_bestPlatter 114 = .ok (.iload 6, 2) := by decide +kernel
theorem dX8_bestPlatter_116 : decode cX8_bestPlatter 116 = .ok (.ifCond .ne 6, 3) := by decide +kernel
theorem dX8_bestPlatter_119 : decode cX8_bestPlatter 119 = .ok (.goto 9, 3) := by decide +kernel
theorem dX8_bestPlatter_122 : decode cX8_bestPlatter 122 = .ok (.iload 4, 2) := by decide +kernel
theorem dX8_bestPlatter_124 : decode cX8_bestPlatter 124 = .ok (.istore_n 2, 1) := by decide +kernel
theorem dX8_bestPlatter_125 : decode cX8_bestPlatter 125 = .ok (.iload 5, 2) := by decide +kernel
theorem dX8_bestPlatter_127 : decode cX8_bestPlatter 127 = .ok (.istore_n 3, 1) := by decide +kernel
theorem dX8_bestPlatter_128 : decode cX8_bestPlatter 128 = .ok (.iinc 4 1, 3) := by decide +kernel
theorem dX8_bestPlatter_131 : decode cX8_bestPlatter 131 = .ok (.goto (-90), 3) := by decide +kernel
theorem dX8_bestPlatter_134 : decode cX8_bestPlatter 134 = .ok (.iload_n 2, 1) := by decide +kernel
theorem dX8_bestPlatter_135 : decode cX8_bestPlatter 135 = .ok (.ireturn, 1) := by decide +kernel
set_option maxRecDepth 20000 in
theorem ggX8_versionCount_X8_isFile : GoodIn wsX8_versionCount wsX8_isFile := goodIn_r _ [8, 3, 9, 10, 7, 11, 12, 13, 14, 15, 16, 17, 18, 19, 20, 21, 22, 23, 24, 25, 26, 27, 28, 29, 30, 31, 32, 33, 34, 35, 36, 37, 38] (by decide +kernel) (by decide +kernel)
set_option maxRecDepth 20000 in
theorem gX8_versionCount_X8_isFile : GoodIn wsX8_versionCount (wsV RX8 228 RX8 yX8_isFile wsX8_isFile) := goodIn_app (goodIn_of _ (by decide +kernel)) ggX8_versionCount_X8_isFile
theorem dX8_versionCount_0 : decode cX8_versionCount 0 = .ok (.aload_n 0, 1) := by decide +kernel
theorem dX8_versionCount_1 : decode cX8_versionCount 1 = .ok (.iconst 0, 1) := by decide +kernel
theorem dX8_versionCount_2 : decode cX8_versionCount 2 = .ok (.putfield 51, 3) := by decide +kernel
theorem dX8_versionCount_5 : decode cX8_versionCount 5 = .ok (.aload_n 0, 1) := by decide +kernel
theorem dX8_versionCount_6 : decode cX8_versionCount 6 = .ok (.iload_n 1, 1) := by decide +kernel
theorem dX8_versionCount_7 : decode cX8_versionCount 7 = .ok (.invokevirtual 228, 3) := by decide +kernel
theorem dX8_versionCount_10 : decode cX8_versionCount 10 = .ok (.ifCond .ne 6, 3) := by decide +kernel
theorem dX8_versionCount_13 : decode cX8_versionCount 13 = .ok (.ldc 186, 2) := by decide +kernel
theorem dX8_versionCount_15 : decode cX8_versionCount 15 = .ok (.ireturn, 1) := by decide +kernel
theorem dX8_versionCount_16 : decode cX8_versionCount 16 = .ok (.iconst 0, 1) := by decide +kernel
theorem dX8_versionCount_17 : decode cX8_versionCount 17 = .ok (.istore_n 2, 1) := by decide +kernel
theorem dX8_versionCount_18 : decode cX8_versionCount 18 = .ok (.iconst 0, 1) := by decide +kernel
theorem dX8_versionCount_19 : decode cX8_versionCount 19 = .ok (.istore_n 3, 1) := by decide +kernel
theorem dX8_versionCount_20 : decode cX8_versionCount 20 = .ok (.iload_n 3, 1) := by decide +kernel
theorem dX8_versionCount_21 : decode cX8_versionCount 21 = .ok (.aload_n 0, 1) := by decide +kernel
theorem dX8_versionCount_22 : decode cX8_versionCount 22 = .ok (.getfield 7, 3) := by decide +kernel
theorem dX8_versionCount_25 : decode cX8_versionCount 25 = .ok (.bipush 10, 2) := by decide +kernel
theorem dX8_versionCount_27 : decode cX8_versionCount 27 = .ok (.iaload, 1) := by decide +kernel
theorem dX8_versionCount_28 : decode cX8_versionCount 28 = .ok (.if_icmp .ge 31, 3) := by decide +kernel
theorem dX8_versionCount_31 : decode cX8_versionCount 31 = .ok (.iload_n 2, 1) := by decide +kernel
theorem dX8_versionCount_32 : decode cX8_versionCount 32 = .ok (.aload_n 0, 1) := by decide +kernel
theorem dX8_versionCount_33 : decode cX8_versionCount 33 = .ok (.getfield 7, 3) := by decide +kernel
theorem dX8_versionCount_36 : decode cX8_versionCount 36 = .ok (.sipush 309, 3) := by decide +kernel
theorem dX8_versionCount_39 : decode cX8_versionCount 39 = .ok (.iload_n 3, 1) := by decide +kernel
theorem dX8_versionCount_40 : decode cX8_versionCount 40 = .ok (.iadd, 1) := by decide +kernel
theorem dX8_versionCount_41 : decode cX8_versionCount 41 = .ok (.iaload, 1) := by decide +kernel
theorem dX8_versionCount_42 : decode cX8_versionCount 42 = .ok (.iload_n 1, 1) := by decide +kernel
theorem dX8_versionCount_43 : decode cX8_versionCount 43 = .ok (.if_icmp .ne 7, 3) := by decide +kernel
theorem dX8_versionCount_46 : decode cX8_versionCount 46 = .ok (.iconst 1, 1) := by decide +kernel
theorem dX8_versionCount_47 : decode cX8_versionCount 47 = .ok (.goto 4, 3) := by decide +kernel
theorem dX8_versionCount_50 : decode cX8_versionCount 50 = .ok (.iconst 0, 1) := by decide +kernel
theorem dX8_versionCount_51 : decode cX8_versionCount 51 = .ok (.iadd, 1) := by decide +kernel
theorem dX8_versionCount_52 : decode cX8_versionCount 52 = .ok (.istore_n 2, 1) := by decide +kernel
theorem dX8_versionCount_53 : decode cX8_versionCount 53 = .ok (.iinc 3 1, 3) := by decide +kernel
theorem dX8_versionCount_56 : decode cX8_versionCount 56 = .ok (.goto (-36), 3) := by decide +kernel
theorem dX8_versionCount_59 : decode cX8_versionCount 59 = .ok (.iload_n 2, 1) := by decide +kernel
theorem dX8_versionCount_60 : decode cX8_versionCount 60 = .ok (.ireturn, 1) := by decide +kernel
set_option maxRecDepth 20000 in
theorem ggX8_ofVersion_X8_isFile : GoodIn wsX8_ofVersion wsX8_isFile := goodIn_r _ [8, 2, 9, 10, 7, 11, 16, 17, 18, 19, 20, 21, 22, 23, 24, 25, 26, 27, 28, 29, 30, 31, 32, 33, 34, 35, 36, 37, 38, 39, 40, 41, 42] (by decide +kernel) (by decide +kernel)
set_option maxRecDepth 20000 in
theorem gX8_ofVersion_X8_isFile : GoodIn wsX8_ofVersion (wsV RX8 228 RX8 yX8_isFile wsX8_isFile) := goodIn_app (goodIn_of _ (by decide +kernel)) ggX8_ofVersion_X8_isFile
set_option maxRecDepth 20000 in
theorem ggX8_ofVersion_X8_version : GoodIn wsX8_ofVersion wsX8_version := goodIn_r _ [15, 2, 16, 17, 18, 19, 20, 21, 22, 23, 24, 25, 26, 27, 28, 29, 30, 31, 32, 33, 34, 35, 36, 37, 38, 39, 40, 41, 42] (by decide +kernel) (by decide +kernel)
set_option maxRecDepth 20000 in
theorem gX8_ofVersion_X8_version : GoodIn wsX8_ofVersion (wsV RX8 86 RX8 yX8_version wsX8_version) := goodIn_app (goodIn_of _ (by decide +kernel)) ggX8_ofVersion_X8_version
theorem dX8_ofVersion_0 : decode cX8_ofVersion 0 = .ok (.aload_n 0, 1) := by decide +kernel
theorem dX8_ofVersion_1 : decode cX8_ofVersion 1 = .ok (.iconst 0, 1) := by decide +kernel
theorem dX8_ofVersion_2 : decode cX8_ofVersion 2 = .ok (.putfield 51, 3) := by decide +kernel
theorem dX8_ofVersion_5 : decode cX8_ofVersion 5 = .ok (.aload_n 0, 1) := by decide +kernel
theorem dX8_ofVersion_6 : decode cX8_ofVersion 6 = .ok (.iload_n 1, 1) := by decide +kernel
theorem dX8_ofVersion_7 : decode cX8_ofVersion 7 = .ok (.invokevirtual 228, 3) := by decide +kernel
theorem dX8_ofVersion_10 : decode cX8_ofVersion 10 = .ok (.ifCond .eq 18, 3) := by decide +kernel
theorem dX8_ofVersion_13 : decode cX8_ofVersion 13 = .ok (.aload_n 0, 1) := by decide +kernel
theorem dX8_ofVersion_14 : decode cX8_ofVersion 14 = .ok (.getfield 7, 3) := by decide +kernel
theorem dX8_ofVersion_17 : decode cX8_ofVersion 17 = .ok (.iload_n 2, 1) := by decide +kernel
theorem dX8_ofVersion_18 : decode cX8_ofVersion 18 = .ok (.aload_n 0, 1) := by decide +kernel
theorem dX8_ofVersion_19 : decode cX8_ofVersion 19 = .ok (.iload_n 1, 1) := by decide +kernel
theorem dX8_ofVersion_20 : decode cX8_ofVersion 20 = .ok (.invokevirtual 86, 3) := by decide +kernel
theorem dX8_ofVersion_23 : decode cX8_ofVersion 23 = .ok (.iadd, 1) := by decide +kernel
theorem dX8_ofVersion_24 : decode cX8_ofVersion 24 = .ok (.iaload, 1) := by decide +kernel
theorem dX8_ofVersion_25 : decode cX8_ofVersion 25 = .ok (.goto 5, 3) := by decide +kernel
theorem dX8_ofVersion_28 : decode cX8_ofVersion 28 = .ok (.ldc 186, 2) := by decide +kernel
theorem dX8_ofVersion_30 : decode cX8_ofVersion 30 = .ok (.ireturn, 1) := by decide +kernel
set_option maxRecDepth 20000 in
theorem ggX8_filePlatter_X8_ofVersion : GoodIn wsX8_filePlatter wsX8_ofVersion := goodIn_r _ [5, 6, 7, 8, 9, 10, 11, 4, 12, 13, 14, 15, 16, 17, 18, 19, 20, 21, 22, 23, 24, 25, 26, 27, 28, 29, 30, 31, 32, 33, 34, 35, 36, 37, 38, 39, 40, 41, 42, 43, 44, 45, 46] (by decide +kernel) (by decide +kernel)
set_option maxRecDepth 20000 in
theorem gX8_filePlatter_X8_ofVersion : GoodIn wsX8_filePlatter (wsV RX8 231 RX8 yX8_ofVersion wsX8_ofVersion) := goodIn_app (goodIn_of _ (by decide +kernel)) ggX8_filePlatter_X8_ofVersion
theorem dX8_filePlatter_0 : decode cX8_filePlatter 0 = .ok (.aload_n 0, 1) := by decide +kernel
theorem dX8_filePlatter_1 : decode cX8_filePlatter 1 = .ok (.iload_n 1, 1) := by decide +kernel
theorem dX8_filePlatter_2 : decode cX8_filePlatter 2 = .ok (.sipush 349, 3) := by decide +kernel
theorem dX8_filePlatter_5 : decode cX8_filePlatter 5 = .ok (.invokevirtual 231, 3) := by decide +kernel
theorem dX8_filePlatter_8 : decode cX8_filePlatter 8 = .ok (.ireturn, 1) := by decide +kernel
set_option maxRecDepth 20000 in
theorem ggX8_fileStart_X8_ofVersion : GoodIn wsX8_fileStart wsX8_ofVersion := goodIn_r _ [5, 6, 7, 8, 9, 10, 11, 4, 12, 13, 14, 15, 16, 17, 18, 19, 20, 21, 22, 23, 24, 25, 26, 27, 28, 29, 30, 31, 32, 33, 34, 35, 36, 37, 38, 39, 40, 41, 42, 43, 44, 45, 46] (by decide +kernel) (by decide +kernel)
set_option maxRecDepth 20000 in
theorem gX8_fileStart_X8_ofVersion : GoodIn wsX8_fileStart (wsV RX8 231 RX8 yX8_ofVersion wsX8_ofVersion) := goodIn_app (goodIn_of _ (by decide +kernel)) ggX8_fileStart_X8_ofVersion
theorem dX8_fileStart_0 : decode cX8_fileStart 0 = .ok (.aload_n 0, 1) := by decide +kernel
theorem dX8_fileStart_1 : decode cX8_fileStart 1 = .ok (.iload_n 1, 1) := by decide +kernel
theorem dX8_fileStart_2 : decode cX8_fileStart 2 = .ok (.sipush 389, 3) := by decide +kernel
theorem dX8_fileStart_5 : decode cX8_fileStart 5 = .ok (.invokevirtual 231, 3) := by decide +kernel
theorem dX8_fileStart_8 : decode cX8_fileStart 8 = .ok (.ireturn, 1) := by decide +kernel
set_option maxRecDepth 20000 in
theorem ggX8_fileSize_X8_ofVersion : GoodIn wsX8_fileSize wsX8_ofVersion := goodIn_r _ [5, 6, 7, 8, 9, 10, 11, 4, 12, 13, 14, 15, 16, 17, 18, 19, 20, 21, 22, 23, 24, 25, 26, 27, 28, 29, 30, 31, 32, 33, 34, 35, 36, 37, 38, 39, 40, 41, 42, 43, 44, 45, 46] (by decide +kernel) (by decide +kernel)
set_option maxRecDepth 20000 in
theorem gX8_fileSize_X8_ofVersion : GoodIn wsX8_fileSize (wsV RX8 231 RX8 yX8_ofVersion wsX8_ofVersion) := goodIn_app (goodIn_of _ (by decide +kernel)) ggX8_fileSize_X8_ofVersion
theorem dX8_fileSize_0 : decode cX8_fileSize 0 = .ok (.aload_n 0, 1) := by decide +kernel
theorem dX8_fileSize_1 : decode cX8_fileSize 1 = .ok (.iload_n 1, 1) := by decide +kernel
theorem dX8_fileSize_2 : decode cX8_fileSize 2 = .ok (.sipush 429, 3) := by decide +kernel
theorem dX8_fileSize_5 : decode cX8_fileSize 5 = .ok (.invokevirtual 231, 3) := by decide +kernel
theorem dX8_fileSize_8 : decode cX8_fileSize 8 = .ok (.ireturn, 1) := by decide +kernel
set_option maxRecDepth 20000 in
theorem ggX8_fileSession_X8_ofVersion : GoodIn wsX8_fileSession wsX8_ofVersion := goodIn_r _ [5, 6, 7, 8, 9, 10, 11, 4, 12, 13, 14, 15, 16, 17, 18, 19, 20, 21, 22, 23, 24, 25, 26, 27, 28, 29, 30, 31, 32, 33, 34, 35, 36, 37, 38, 39, 40, 41, 42, 43, 44, 45, 46] (by decide +kernel) (by decide +kernel)
set_option maxRecDepth 20000 in
theorem gX8_fileSession_X8_ofVersion : GoodIn wsX8_fileSession (wsV RX8 231 RX8 yX8_ofVersion wsX8_ofVersion) := goodIn_app (goodIn_of _ (by decide +kernel)) ggX8_fileSession_X8_ofVersion
theorem dX8_fileSession_0 : decode cX8_fileSession 0 = .ok (.aload_n 0, 1) := by decide +kernel
theorem dX8_fileSession_1 : decode cX8_fileSession 1 = .ok (.iload_n 1, 1) := by decide +kernel
theorem dX8_fileSession_2 : decode cX8_fileSession 2 = .ok (.sipush 469, 3) := by decide +kernel
theorem dX8_fileSession_5 : decode cX8_fileSession 5 = .ok (.invokevirtual 231, 3) := by decide +kernel
theorem dX8_fileSession_8 : decode cX8_fileSession 8 = .ok (.ireturn, 1) := by decide +kernel
set_option maxRecDepth 20000 in
theorem ggX8_remappedSectors_X8_ofVersion : GoodIn wsX8_remappedSectors wsX8_ofVersion := goodIn_r _ [5, 6, 7, 8, 9, 10, 11, 4, 12, 13, 14, 15, 16, 17, 18, 19, 20, 21, 22, 23, 24, 25, 26, 27, 28, 29, 30, 31, 32, 33, 34, 35, 36, 37, 38, 39, 40, 41, 42, 43, 44, 45, 46] (by decide +kernel) (by decide +kernel)
set_option maxRecDepth 20000 in
theorem gX8_remappedSectors_X8_ofVersion : GoodIn wsX8_remappedSectors (wsV RX8 231 RX8 yX8_ofVersion wsX8_ofVersion) := goodIn_app (goodIn_of _ (by decide +kernel)) ggX8_remappedSectors_X8_ofVersion
theorem dX8_remappedSectors_0 : decode cX8_remappedSectors 0 = .ok (.aload_n 0, 1) := by decide +kernel
theorem dX8_remappedSectors_1 : decode cX8_remappedSectors 1 = .ok (.iload_n 1, 1) := by decide +kernel
theorem dX8_remappedSectors_2 : decode cX8_remappedSectors 2 = .ok (.sipush 509, 3) := by decide +kernel
theorem dX8_remappedSectors_5 : decode cX8_remappedSectors 5 = .ok (.invokevirtual 231, 3) := by decide +kernel
theorem dX8_remappedSectors_8 : decode cX8_remappedSectors 8 = .ok (.ireturn, 1) := by decide +kernel
set_option maxRecDepth 20000 in
theorem ggX8_fileState_X8_isFile : GoodIn wsX8_fileState wsX8_isFile := goodIn_r _ [8, 3, 9, 10, 7, 11, 20, 21, 22, 23, 24, 25, 26, 27, 28, 29, 30, 31, 32, 33, 34, 35, 36, 37, 38, 39, 40, 41, 42, 43, 44, 45, 46] (by decide +kernel) (by decide +kernel)
set_option maxRecDepth 20000 in
theorem gX8_fileState_X8_isFile : GoodIn wsX8_fileState (wsV RX8 228 RX8 yX8_isFile wsX8_isFile) := goodIn_app (goodIn_of _ (by decide +kernel)) ggX8_fileState_X8_isFile
set_option maxRecDepth 20000 in
theorem ggX8_fileState_X8_version : GoodIn wsX8_fileState wsX8_version := goodIn_r _ [15, 3, 20, 21, 22, 23, 24, 25, 26, 27, 28, 29, 30, 31, 32, 33, 34, 35, 36, 37, 38, 39, 40, 41, 42, 43, 44, 45, 46] (by decide +kernel) (by decide +kernel)
set_option maxRecDepth 20000 in
theorem gX8_fileState_X8_version : GoodIn wsX8_fileState (wsV RX8 86 RX8 yX8_version wsX8_version) := goodIn_app (goodIn_of _ (by decide +kernel)) ggX8_fileState_X8_version
set_option maxRecDepth 20000 in
theorem ggX8_fileState_X8_isClosed : GoodIn wsX8_fileState wsX8_isClosed := goodIn_r _ [19, 3, 20, 21, 22, 23, 24, 25, 26, 27, 28, 29, 30, 31, 32, 33, 34, 35, 36, 37, 38, 39, 40, 41, 42, 43, 44, 45, 46] (by decide +kernel) (by decide +kernel)
set_option maxRecDepth 20000 in
theorem gX8_fileState_X8_isClosed : GoodIn wsX8_fileState (wsV RX8 83 RX8 yX8_isClosed wsX8_isClosed) := goodIn_app (goodIn_of _ (by decide +kernel)) ggX8_fileState_X8_isClosed
theorem dX8_fileState_0 : decode cX8_fileState 0 = .ok (.aload_n 0, 1) := by decide +kernel
theorem dX8_fileState_1 : decode cX8_fileState 1 = .ok (.iconst 0, 1) := by decide +kernel
theorem dX8_fileState_2 : decode cX8_fileState 2 = .ok (.putfield 51, 3) := by decide +kernel
theorem dX8_fileState_5 : decode cX8_fileState 5 = .ok (.aload_n 0, 1) := by decide +kernel
theorem dX8_fileState_6 : decode cX8_fileState 6 = .ok (.iload_n 1, 1) := by decide +kernel
theorem dX8_fileState_7 : decode cX8_fileState 7 = .ok (.invokevirtual 228, 3) := by decide +kernel
theorem dX8_fileState_10 : decode cX8_fileState 10 = .ok (.ifCond .ne 6, 3) := by decide +kernel
theorem dX8_fileState_13 : decode cX8_fileState 13 = .ok (.ldc 186, 2) := by decide +kernel
theorem dX8_fileState_15 : decode cX8_fileState 15 = .ok (.ireturn, 1) := by decide +kernel
theorem dX8_fileState_16 : decode cX8_fileState 16 = .ok (.aload_n 0, 1) := by decide +kernel
theorem dX8_fileState_17 : decode cX8_fileState 17 = .ok (.getfield 7, 3) := by decide +kernel
theorem dX8_fileState_20 : decode cX8_fileState 20 = .ok (.sipush 549, 3) := by decide +kernel
theorem dX8_fileState_23 : decode cX8_fileState 23 = .ok (.aload_n 0, 1) := by decide +kernel
theorem dX8_fileState_24 : decode cX8_fileState 24 = .ok (.iload_n 1, 1) := by decide +kernel
theorem dX8_fileState_25 : decode cX8_fileState 25 = .ok (.invokevirtual 86, 3) := by decide +kernel
theorem dX8_fileState_28 : decode cX8_fileState 28 = .ok (.iadd, 1) := by decide +kernel
theorem dX8_fileState_29 : decode cX8_fileState 29 = .ok (.iaload, 1) := by decide +kernel
theorem dX8_fileState_30 : decode cX8_fileState 30 = .ok (.iconst 1, 1) := by decide +kernel
theorem dX8_fileState_31 : decode cX8_fileState 31 = .ok (.if_icmp .ne 7, 3) := by decide +kernel
theorem dX8_fileState_34 : decode cX8_fileState 34 = .ok (.iconst 1, 1) := by decide +kernel
theorem dX8_fileState_35 : decode cX8_fileState 35 = .ok (.goto 20, 3) := by decide +kernel
theorem dX8_fileState_38 : decode cX8_fileState 38 = .ok (.aload_n 0, 1) := by decide +kernel
theorem dX8_fileState_39 : decode cX8_fileState 39 = .ok (.aload_n 0, 1) := by decide +kernel
theorem dX8_fileState_40 : decode cX8_fileState 40 = .ok (.iload_n 1, 1) := by decide +kernel
theorem dX8_fileState_41 : decode cX8_fileState 41 = .ok (.invokevirtual 86, 3) := by decide +kernel
theorem dX8_fileState_44 : decode cX8_fileState 44 = .ok (.invokevirtual 83, 3) := by decide +kernel
theorem dX8_fileState_47 : decode cX8_fileState 47 = .ok (.ifCond .eq 7, 3) := by decide +kernel
theorem dX8_fileState_50 : decode cX8_fileState 50 = .ok (.iconst 0, 1) := by decide +kernel
theorem dX8_fileState_51 : decode cX8_fileState 51 = .ok (.goto 4, 3) := by decide +kernel
theorem dX8_fileState_54 : decode cX8_fileState 54 = .ok (.iconst 2, 1) := by decide +kernel
theorem dX8_fileState_55 : decode cX8_fileState 55 = .ok (.ireturn, 1) := by decide +kernel
set_option maxRecDepth 20000 in
theorem ggX8_whyNotRead_X8_isFile : GoodIn wsX8_whyNotRead wsX8_isFile := goodIn_r _ [9, 2, 10, 11, 8, 12, 29, 30, 31, 32, 33, 34, 35, 36, 37, 38, 39, 40, 41, 42, 43, 44, 45, 46, 47, 48, 49, 50, 51, 52, 53, 54, 55] (by decide +kernel) (by decide +kernel)
set_option maxRecDepth 20000 in
theorem gX8_whyNotRead_X8_isFile : GoodIn wsX8_whyNotRead (wsV RX8 228 RX8 yX8_isFile wsX8_isFile) := goodIn_app (goodIn_of _ (by decide +kernel)) ggX8_whyNotRead_X8_isFile
set_option maxRecDepth 20000 in
theorem ggX8_whyNotRead_X8_isReadable : GoodIn wsX8_whyNotRead wsX8_isReadable := goodIn_r _ [16, 17, 18, 19, 8, 20, 2, 21, 22, 23, 24, 25, 26, 27, 28, 29, 30, 31, 32, 33, 34, 35, 36, 37, 38, 39, 40, 41, 42, 43, 44, 45, 46, 47, 48, 49, 50, 51, 52, 53, 54, 55] (by decide +kernel) (by decide +kernel)
set_option maxRecDepth 20000 in
theorem gX8_whyNotRead_X8_isReadable : GoodIn wsX8_whyNotRead (wsV RX8 174 RX8 yX8_isReadable wsX8_isReadable) := goodIn_app (goodIn_of _ (by decide +kernel)) ggX8_whyNotRead_X8_isReadable
theorem dX8_whyNotRead_0 : decode cX8_whyNotRead 0 = .ok (.aload_n 0, 1) := by decide +kernel
theorem dX8_whyNotRead_1 : decode cX8_whyNotRead 1 = .ok (.iload_n 1, 1) := by decide +kernel
theorem dX8_whyNotRead_2 : decode cX8_whyNotRead 2 = .ok (.invokevirtual 228, 3) := by decide +kernel
theorem dX8_whyNotRead_5 : decode cX8_whyNotRead 5 = .ok (.ifCond .ne 8, 3) := by decide +kernel
theorem dX8_whyNotRead_8 : decode cX8_whyNotRead 8 = .ok (.ldc 186, 2) := by decide +kernel
theorem dX8_whyNotRead_10 : decode cX8_whyNotRead 10 = .ok (.goto 32, 3) := by decide +kernel
theorem dX8_whyNotRead_13 : decode cX8_whyNotRead 13 = .ok (.aload_n 0, 1) := by decide +kernel
theorem dX8_whyNotRead_14 : decode cX8_whyNotRead 14 = .ok (.getfield 7, 3) := by decide +kernel
theorem dX8_whyNotRead_17 : decode cX8_whyNotRead 17 = .ok (.bipush 6, 2) := by decide +kernel
theorem dX8_whyNotRead_19 : decode cX8_whyNotRead 19 = .ok (.iaload, 1) := by decide +kernel
theorem dX8_whyNotRead_20 : decode cX8_whyNotRead 20 = .ok (.ifCond .ne 8, 3) := by decide +kernel
theorem dX8_whyNotRead_23 : decode cX8_whyNotRead 23 = .ok (.ldc 177, 2) := by decide +kernel
theorem dX8_whyNotRead_25 : decode cX8_whyNotRead 25 = .ok (.goto 17, 3) := by decide +kernel
theorem dX8_whyNotRead_28 : decode cX8_whyNotRead 28 = .ok (.aload_n 0, 1) := by decide +kernel
theorem dX8_whyNotRead_29 : decode cX8_whyNotRead 29 = .ok (.iload_n 1, 1) := by decide +kernel
theorem dX8_whyNotRead_30 : decode cX8_whyNotRead 30 = .ok (.invokevirtual 174, 3) := by decide +kernel
theorem dX8_whyNotRead_33 : decode cX8_whyNotRead 33 = .ok (.ifCond .eq 7, 3) := by decide +kernel
theorem dX8_whyNotRead_36 : decode cX8_whyNotRead 36 = .ok (.iconst 0, 1) := by decide +kernel
theorem dX8_whyNotRead_37 : decode cX8_whyNotRead 37 = .ok (.goto 5, 3) := by decide +kernel
theorem dX8_whyNotRead_40 : decode cX8_whyNotRead 40 = .ok (.ldc 182, 2) := by decide +kernel
theorem dX8_whyNotRead_42 : decode cX8_whyNotRead 42 = .ok (.ireturn, 1) := by decide +kernel
set_option maxRecDepth 20000 in
theorem ggX8_readTime_X8_whyNotRead : GoodIn wsX8_readTime wsX8_whyNotRead := goodIn_r _ [6, 7, 8, 9, 10, 11, 12, 13, 5, 14, 15, 16, 17, 18, 19, 20, 21, 22, 23, 24, 25, 26, 27, 28, 29, 30, 31, 32, 33, 94, 95, 96, 97, 98, 99, 100, 101, 102, 103, 104, 105, 106, 107, 108, 109, 110, 111, 112, 113, 114, 115, 116, 117, 118, 119, 120] (by decide +kernel) (by decide +kernel)
set_option maxRecDepth 20000 in
theorem gX8_readTime_X8_whyNotRead : GoodIn wsX8_readTime (wsV RX8 234 RX8 yX8_whyNotRead wsX8_whyNotRead) := goodIn_app (goodIn_of _ (by decide +kernel)) ggX8_readTime_X8_whyNotRead
set_option maxRecDepth 20000 in
theorem ggX8_readTime_X8_tries : GoodIn wsX8_readTime wsX8_tries := goodIn_r _ [37, 8, 38, 39, 40, 41, 5, 42, 94, 95, 96, 97, 98, 99, 100, 101, 102, 103, 104, 105, 106, 107, 108, 109, 110, 111, 112, 113, 114, 115, 116, 117, 118, 119, 120] (by decide +kernel) (by decide +kernel)
set_option maxRecDepth 20000 in
theorem gX8_readTime_X8_tries : GoodIn wsX8_readTime (wsV RX8 136 RX8 yX8_tries wsX8_tries) := goodIn_app (goodIn_of _ (by decide +kernel)) ggX8_readTime_X8_tries
set_option maxRecDepth 20000 in
theorem ggX8_readTime_X8_reads : GoodIn wsX8_readTime wsX8_reads := goodIn_r _ [46, 8, 47, 48, 49, 5, 50, 22, 23, 24, 25, 51, 52, 53, 54, 55, 56, 57, 58, 59, 60, 61, 62, 63, 64, 65, 66, 67, 68, 69, 70, 71, 72, 73, 74, 75, 76, 77, 78, 79, 80, 81, 82, 83, 84, 85, 86, 87, 88, 89, 94, 95, 96, 97, 98, 99, 100, 101, 102, 103, 104, 105, 106, 107, 108, 109, 110, 111, 112, 113, 114, 115, 116, 117, 118, 119, 120] (by decide +kernel) (by decide +kernel)
set_option maxRecDepth 20000 in
theorem gX8_readTime_X8_reads : GoodIn wsX8_readTime (wsV RX8 162 RX8 yX8_reads wsX8_reads) := goodIn_app (goodIn_of _ (by decide +kernel)) ggX8_readTime_X8_reads
set_option maxRecDepth 20000 in
theorem ggX8_readTime_X8_takesBack : GoodIn wsX8_readTime wsX8_takesBack := goodIn_r _ [93, 8, 39, 38, 40, 41, 5, 42, 94, 95, 96, 97, 98, 99, 100, 101, 102, 103, 104, 105, 106, 107, 108, 109, 110, 111, 112, 113, 114, 115, 116, 117, 118, 119, 120] (by decide +kernel) (by decide +kernel)
set_option maxRecDepth 20000 in
theorem gX8_readTime_X8_takesBack : GoodIn wsX8_readTime (wsV RX8 139 RX8 yX8_takesBack wsX8_takesBack) := goodIn_app (goodIn_of _ (by decide +kernel)) ggX8_readTime_X8_takesBack
theorem dX8_readTime_0 : decode cX8_readTime 0 = .ok (.aload_n 0, 1) := by decide +kernel
theorem dX8_readTime_1 : decode cX8_readTime 1 = .ok (.iconst 0, 1) := by decide +kernel
theorem dX8_readTime_2 : decode cX8_readTime 2 = .ok (.putfield 51, 3) := by decide +kernel
theorem dX8_readTime_5 : decode cX8_readTime 5 = .ok (.aload_n 0, 1) := by decide +kernel
theorem dX8_readTime_6 : decode cX8_readTime 6 = .ok (.iload_n 1, 1) := by decide +kernel
theorem dX8_readTime_7 : decode cX8_readTime 7 = .ok (.invokevirtual 234, 3) := by decide +kernel
theorem dX8_readTime_10 : decode cX8_readTime 10 = .ok (.istore_n 2, 1) := by decide +kernel
theorem dX8_readTime_11 : decode cX8_readTime 11 = .ok (.iload_n 2, 1) := by decide +kernel
theorem dX8_readTime_12 : decode cX8_readTime 12 = .ok (.ifCond .eq 5, 3) := by decide +kernel
theorem dX8_readTime_15 : decode cX8_readTime 15 = .ok (.iload_n 2, 1) := by decide +kernel
theorem dX8_readTime_16 : decode cX8_readTime 16 = .ok (.ireturn, 1) := by decide +kernel
theorem dX8_readTime_17 : decode cX8_readTime 17 = .ok (.aload_n 0, 1) := by decide +kernel
theorem dX8_readTime_18 : decode cX8_readTime 18 = .ok (.invokevirtual 136, 3) := by decide +kernel
theorem dX8_readTime_21 : decode cX8_readTime 21 = .ok (.aload_n 0, 1) := by decide +kernel
theorem dX8_readTime_22 : decode cX8_readTime 22 = .ok (.iload_n 1, 1) := by decide +kernel
theorem dX8_readTime_23 : decode cX8_readTime 23 = .ok (.invokevirtual 162, 3) := by decide +kernel
theorem dX8_readTime_26 : decode cX8_readTime 26 = .ok (.aload_n 0, 1) := by decide +kernel
theorem dX8_readTime_27 : decode cX8_readTime 27 = .ok (.invokevirtual 139, 3) := by decide +kernel
theorem dX8_readTime_30 : decode cX8_readTime 30 = .ok (.ireturn, 1) := by decide +kernel
set_option maxRecDepth 20000 in
theorem ggX8_lastGoodVersion_X8_isFile : GoodIn wsX8_lastGoodVersion wsX8_isFile := goodIn_r _ [9, 4, 10, 11, 8, 12, 21, 22, 23, 24, 25, 26, 27, 28, 29, 30, 31, 32, 33, 34, 35, 36, 37, 38, 39, 40, 41, 42, 43, 44, 45, 46, 47] (by decide +kernel) (by decide +kernel)
set_option maxRecDepth 20000 in
theorem gX8_lastGoodVersion_X8_isFile : GoodIn wsX8_lastGoodVersion (wsV RX8 228 RX8 yX8_isFile wsX8_isFile) := goodIn_app (goodIn_of _ (by decide +kernel)) ggX8_lastGoodVersion_X8_isFile
set_option maxRecDepth 20000 in
theorem ggX8_lastGoodVersion_X8_isGood : GoodIn wsX8_lastGoodVersion wsX8_isGood := goodIn_r _ [16, 4, 17, 18, 19, 8, 20, 21, 22, 23, 24, 25, 26, 27, 28, 29, 30, 31, 32, 33, 34, 35, 36, 37, 38, 39, 40, 41, 42, 43, 44, 45, 46, 47] (by decide +kernel) (by decide +kernel)
set_option maxRecDepth 20000 in
theorem gX8_lastGoodVersion_X8_isGood : GoodIn wsX8_lastGoodVersion (wsV RX8 90 RX8 yX8_isGood wsX8_isGood) := goodIn_app (goodIn_of _ (by decide +kernel)) ggX8_lastGoodVersion_X8_isGood
theorem dX8_lastGoodVersion_0 : decode cX8_lastGoodVersion 0 = .ok (.aload_n 0, 1) := by decide +kernel
theorem dX8_lastGoodVersion_1 : decode cX8_lastGoodVersion 1 = .ok (.iconst 0, 1) := by decide +kernel
theorem dX8_lastGoodVersion_2 : decode cX8_lastGoodVersion 2 = .ok (.putfield 51, 3) := by decide +kernel
theorem dX8_lastGoodVersion_5 : decode cX8_lastGoodVersion 5 = .ok (.aload_n 0, 1) := by decide +kernel
theorem dX8_lastGoodVersion_6 : decode cX8_lastGoodVersion 6 = .ok (.iload_n 1, 1) := by decide +kernel
theorem dX8_lastGoodVersion_7 : decode cX8_lastGoodVersion 7 = .ok (.invokevirtual 228, 3) := by decide +kernel
theorem dX8_lastGoodVersion_10 : decode cX8_lastGoodVersion 10 = .ok (.ifCond .ne 6, 3) := by decide +kernel
theorem dX8_lastGoodVersion_13 : decode cX8_lastGoodVersion 13 = .ok (.ldc 186, 2) := by decide +kernel
theorem dX8_lastGoodVersion_15 : decode cX8_lastGoodVersion 15 = .ok (.ireturn, 1) := by decide +kernel
theorem dX8_lastGoodVersion_16 : decode cX8_lastGoodVersion 16 = .ok (.ldc 42, 2) := by decide +kernel
theorem dX8_lastGoodVersion_18 : decode cX8_lastGoodVersion 18 = .ok (.istore_n 2, 1) := by decide +kernel
theorem dX8_lastGoodVersion_19 : decode cX8_lastGoodVersion 19 = .ok (.iconst 0, 1) := by decide +kernel
theorem dX8_lastGoodVersion_20 : decode cX8_lastGoodVersion 20 = .ok (.istore_n 3, 1) := by decide +kernel
theorem dX8_lastGoodVersion_21 : decode cX8_lastGoodVersion 21 = .ok (.iconst 0, 1) := by decide +kernel
theorem dX8_lastGoodVersion_22 : decode cX8_lastGoodVersion 22 = .ok (.istore 4, 2) := by decide +kernel
theorem dX8_lastGoodVersion_24 : decode cX8_lastGoodVersion 24 = .ok (.iload 4, 2) := by decide +kernel
theorem dX8_lastGoodVersion_26 : decode cX8_lastGoodVersion 26 = .ok (.aload_n 0, 1) := by decide +kernel
theorem dX8_lastGoodVersion_27 : decode cX8_lastGoodVersion 27 = .ok (.getfield 7, 3) := by decide +kernel
theorem dX8_lastGoodVersion_30 : decode cX8_lastGoodVersion 30 = .ok (.bipush 10, 2) := by decide +kernel
theorem dX8_lastGoodVersion_32 : decode cX8_lastGoodVersion 32 = .ok (.iaload, 1) := by decide +kernel
theorem dX8_lastGoodVersion_33 : decode cX8_lastGoodVersion 33 = .ok (.if_icmp .ge 45, 3) := by decide +kernel
theorem dX8_lastGoodVersion_36 : decode cX8_lastGoodVersion 36 = .ok (.aload_n 0, 1) := by decide +kernel
theorem dX8_lastGoodVersion_37 : decode cX8_lastGoodVersion 37 = .ok (.getfield 7, 3) := by decide +kernel
theorem dX8_lastGoodVersion_40 : decode cX8_lastGoodVersion 40 = .ok (.sipush 309, 3) := by decide +kernel
theorem dX8_lastGoodVersion_43 : decode cX8_lastGoodVersion 43 = .ok (.iload 4, 2) := by decide +kernel
theorem dX8_lastGoodVersion_45 : decode cX8_lastGoodVersion 45 = .ok (.iadd, 1) := by decide +kernel
theorem dX8_lastGoodVersion_46 : decode cX8_lastGoodVersion 46 = .ok (.iaload, 1) := by decide +kernel
theorem dX8_lastGoodVersion_47 : decode cX8_lastGoodVersion 47 = .ok (.iload_n 1, 1) := by decide +kernel
theorem dX8_lastGoodVersion_48 : decode cX8_lastGoodVersion 48 = .ok (.if_icmp .eq 6, 3) := by decide +kernel
theorem dX8_lastGoodVersion_51 : decode cX8_lastGoodVersion 51 = .ok (.goto 21, 3) := by decide +kernel
theorem dX8_lastGoodVersion_54 : decode cX8_lastGoodVersion 54 = .ok (.aload_n 0, 1) := by decide +kernel
theorem dX8_lastGoodVersion_55 : decode cX8_lastGoodVersion 55 = .ok (.iload 4, 2) := by decide +kernel
theorem dX8_lastGoodVersion_57 : decode cX8_lastGoodVersion 57 = .ok (.invokevirtual 90, 3) := by decide +kernel
theorem dX8_lastGoodVersion_60 : decode cX8_lastGoodVersion 60 = .ok (.ifCond .eq 7, 3) := by decide +kernel
theorem dX8_lastGoodVersion_63 : decode cX8_lastGoodVersion 63 = .ok (.iload_n 3, 1) := by decide +kernel
theorem dX8_lastGoodVersion_64 : decode cX8_lastGoodVersion 64 = .ok (.goto 4, 3) := by decide +kernel
theorem dX8_lastGoodVersion_67 : decode cX8_lastGoodVersion 67 = .ok (.iload_n 2, 1) := by decide +kernel
theorem dX8_lastGoodVersion_68 : decode cX8_lastGoodVersion 68 = .ok (.istore_n 2, 1) := by decide +kernel
theorem dX8_lastGoodVersion_69 : decode cX8_lastGoodVersion 69 = .ok (.iinc 3 1, 3) := by decide +kernel
theorem dX8_lastGoodVersion_72 : decode cX8_lastGoodVersion 72 = .ok (.iinc 4 1, 3) := by decide +kernel
theorem dX8_lastGoodVersion_75 : decode cX8_lastGoodVersion 75 = .ok (.goto (-51), 3) := by decide +kernel
theorem dX8_lastGoodVersion_78 : decode cX8_lastGoodVersion 78 = .ok (.iload_n 2, 1) := by decide +kernel
theorem dX8_lastGoodVersion_79 : decode cX8_lastGoodVersion 79 = .ok (.ireturn, 1) := by decide +kernel
set_option maxRecDepth 20000 in
theorem ggX8_fileOfSector_X8_isSector : GoodIn wsX8_fileOfSector wsX8_isSector := goodIn_r _ [9, 3, 10, 11, 12, 8, 13, 14, 15, 16, 20, 21, 22, 23, 24, 25, 26, 27, 28, 29, 30, 31, 32, 33, 34, 35, 36, 37, 38, 39, 40, 41, 42, 43, 44, 45, 46] (by decide +kernel) (by decide +kernel)
set_option maxRecDepth 20000 in
theorem gX8_fileOfSector_X8_isSector : GoodIn wsX8_fileOfSector (wsV RX8 209 RX8 yX8_isSector wsX8_isSector) := goodIn_app (goodIn_of _ (by decide +kernel)) ggX8_fileOfSector_X8_isSector
set_option maxRecDepth 20000 in
theorem ggX8_fileOfSector_X8_versionAt : GoodIn wsX8_fileOfSector wsX8_versionAt := goodIn_r _ [19, 14, 15, 8, 16] (by decide +kernel) (by decide +kernel)
set_option maxRecDepth 20000 in
theorem gX8_fileOfSector_X8_versionAt : GoodIn wsX8_fileOfSector (va_wsS RX8 79 yX8_versionAt wsX8_versionAt) := goodIn_app (goodIn_of _ (by decide +kernel)) ggX8_fileOfSector_X8_versionAt
theorem dX8_fileOfSector_0 : decode cX8_fileOfSector 0 = .ok (.aload_n 0, 1) := by decide +kernel
theorem dX8_fileOfSector_1 : decode cX8_fileOfSector 1 = .ok (.iconst 0, 1) := by decide +kernel
theorem dX8_fileOfSector_2 : decode cX8_fileOfSector 2 = .ok (.putfield 51, 3) := by decide +kernel
theorem dX8_fileOfSector_5 : decode cX8_fileOfSector 5 = .ok (.aload_n 0, 1) := by decide +kernel
theorem dX8_fileOfSector_6 : decode cX8_fileOfSector 6 = .ok (.iload_n 1, 1) := by decide +kernel
theorem dX8_fileOfSector_7 : decode cX8_fileOfSector 7 = .ok (.iload_n 2, 1) := by decide +kernel
theorem dX8_fileOfSector_8 : decode cX8_fileOfSector 8 = .ok (.invokevirtual 209, 3) := by decide +kernel
theorem dX8_fileOfSector_11 : decode cX8_fileOfSector 11 = .ok (.ifCond .ne 6, 3) := by decide +kernel
theorem dX8_fileOfSector_14 : decode cX8_fileOfSector 14 = .ok (.ldc 186, 2) := by decide +kernel
theorem dX8_fileOfSector_16 : decode cX8_fileOfSector 16 = .ok (.ireturn, 1) := by decide +kernel
theorem dX8_fileOfSector_17 : decode cX8_fileOfSector 17 = .ok (.aload_n 0, 1) := by decide +kernel
theorem dX8_fileOfSector_18 : decode cX8_fileOfSector 18 = .ok (.getfield 7, 3) := by decide +kernel
theorem dX8_fileOfSector_21 : decode cX8_fileOfSector 21 = .ok (.iload_n 1, 1) := by decide +kernel
theorem dX8_fileOfSector_22 : decode cX8_fileOfSector 22 = .ok (.iload_n 2, 1) := by decide +kernel
theorem dX8_fileOfSector_23 : decode cX8_fileOfSector 23 = .ok (.invokestatic 79, 3) := by decide +kernel
theorem dX8_fileOfSector_26 : decode cX8_fileOfSector 26 = .ok (.istore_n 3, 1) := by decide +kernel
theorem dX8_fileOfSector_27 : decode cX8_fileOfSector 27 = .ok (.iload_n 3, 1) := by decide +kernel
theorem dX8_fileOfSector_28 : decode cX8_fileOfSector 28 = .ok (.iconst (-1), 1) := by decide +kernel
theorem dX8_fileOfSector_29 : decode cX8_fileOfSector 29 = .ok (.if_icmp .ne 8, 3) := by decide +kernel
theorem dX8_fileOfSector_32 : decode cX8_fileOfSector 32 = .ok (.ldc 42, 2) := by decide +kernel
theorem dX8_fileOfSector_34 : decode cX8_fileOfSector 34 = .ok (.goto 13, 3) := by decide +kernel
theorem dX8_fileOfSector_37 : decode cX8_fileOfSector 37 = .ok (.aload_n 0, 1) := by decide +kernel
theorem dX8_fileOfSector_38 : decode cX8_fileOfSector 38 = .ok (.getfield 7, 3) := by decide +kernel
theorem dX8_fileOfSector_41 : decode cX8_fileOfSector 41 = .ok (.sipush 309, 3) := by decide +kernel
theorem dX8_fileOfSector_44 : decode cX8_fileOfSector 44 = .ok (.iload_n 3, 1) := by decide +kernel
theorem dX8_fileOfSector_45 : decode cX8_fileOfSector 45 = .ok (.iadd, 1) := by decide +kernel
theorem dX8_fileOfSector_46 : decode cX8_fileOfSector 46 = .ok (.iaload, 1) := by decide +kernel
theorem dX8_fileOfSector_47 : decode cX8_fileOfSector 47 = .ok (.ireturn, 1) := by decide +kernel
set_option maxRecDepth 20000 in
theorem ggX8_filesOn_X8_isPlatter : GoodIn wsX8_filesOn wsX8_isPlatter := goodIn_r _ [8, 3, 9, 10, 7, 11, 20, 21, 22, 23, 24, 25, 26, 27, 28, 29, 30, 31, 32, 33, 34, 35, 36, 37, 38, 39, 40, 41, 42, 43, 44, 45, 46] (by decide +kernel) (by decide +kernel)
set_option maxRecDepth 20000 in
theorem gX8_filesOn_X8_isPlatter : GoodIn wsX8_filesOn (wsV RX8 61 RX8 yX8_isPlatter wsX8_isPlatter) := goodIn_app (goodIn_of _ (by decide +kernel)) ggX8_filesOn_X8_isPlatter
set_option maxRecDepth 20000 in
theorem ggX8_filesOn_X8_platterOf : GoodIn wsX8_filesOn wsX8_platterOf := goodIn_r _ [15, 3, 16, 17, 18, 7, 19, 20, 21, 22, 23, 24, 25, 26, 27, 28, 29, 30, 31, 32, 33, 34, 35, 36, 37, 38, 39, 40, 41, 42, 43, 44, 45, 46] (by decide +kernel) (by decide +kernel)
set_option maxRecDepth 20000 in
theorem gX8_filesOn_X8_platterOf : GoodIn wsX8_filesOn (wsV RX8 123 RX8 yX8_platterOf wsX8_platterOf) := goodIn_app (goodIn_of _ (by decide +kernel)) ggX8_filesOn_X8_platterOf
theorem dX8_filesOn_0 : decode cX8_filesOn 0 = .ok (.aload_n 0, 1) := by decide +kernel
theorem dX8_filesOn_1 : decode cX8_filesOn 1 = .ok (.iconst 0, 1) := by decide +kernel
theorem dX8_filesOn_2 : decode cX8_filesOn 2 = .ok (.putfield 51, 3) := by decide +kernel
theorem dX8_filesOn_5 : decode cX8_filesOn 5 = .ok (.aload_n 0, 1) := by decide +kernel
theorem dX8_filesOn_6 : decode cX8_filesOn 6 = .ok (.iload_n 1, 1) := by decide +kernel
theorem dX8_filesOn_7 : decode cX8_filesOn 7 = .ok (.invokevirtual 61, 3) := by decide +kernel
theorem dX8_filesOn_10 : decode cX8_filesOn 10 = .ok (.ifCond .ne 6, 3) := by decide +kernel
theorem dX8_filesOn_13 : decode cX8_filesOn 13 = .ok (.ldc 186, 2) := by decide +kernel
theorem dX8_filesOn_15 : decode cX8_filesOn 15 = .ok (.ireturn, 1) := by decide +kernel
theorem dX8_filesOn_16 : decode cX8_filesOn 16 = .ok (.iconst 0, 1) := by decide +kernel
theorem dX8_filesOn_17 : decode cX8_filesOn 17 = .ok (.istore_n 2, 1) := by decide +kernel
theorem dX8_filesOn_18 : decode cX8_filesOn 18 = .ok (.iconst 0, 1) := by decide +kernel
theorem dX8_filesOn_19 : decode cX8_filesOn 19 = .ok (.istore_n 3, 1) := by decide +kernel
theorem dX8_filesOn_20 : decode cX8_filesOn 20 = .ok (.iload_n 3, 1) := by decide +kernel
theorem dX8_filesOn_21 : decode cX8_filesOn 21 = .ok (.aload_n 0, 1) := by decide +kernel
theorem dX8_filesOn_22 : decode cX8_filesOn 22 = .ok (.getfield 7, 3) := by decide +kernel
theorem dX8_filesOn_25 : decode cX8_filesOn 25 = .ok (.bipush 9, 2) := by decide +kernel
theorem dX8_filesOn_27 : decode cX8_filesOn 27 = .ok (.iaload, 1) := by decide +kernel
theorem dX8_filesOn_28 : decode cX8_filesOn 28 = .ok (.if_icmp .ge 26, 3) := by decide +kernel
theorem dX8_filesOn_31 : decode cX8_filesOn 31 = .ok (.iload_n 2, 1) := by decide +kernel
theorem dX8_filesOn_32 : decode cX8_filesOn 32 = .ok (.aload_n 0, 1) := by decide +kernel
theorem dX8_filesOn_33 : decode cX8_filesOn 33 = .ok (.iload_n 3, 1) := by decide +kernel
theorem dX8_filesOn_34 : decode cX8_filesOn 34 = .ok (.invokevirtual 123, 3) := by decide +kernel
theorem dX8_filesOn_37 : decode cX8_filesOn 37 = .ok (.iload_n 1, 1) := by decide +kernel
theorem dX8_filesOn_38 : decode cX8_filesOn 38 = .ok (.if_icmp .ne 7, 3) := by decide +kernel
theorem dX8_filesOn_41 : decode cX8_filesOn 41 = .ok (.iconst 1, 1) := by decide +kernel
theorem dX8_filesOn_42 : decode cX8_filesOn 42 = .ok (.goto 4, 3) := by decide +kernel
theorem dX8_filesOn_45 : decode cX8_filesOn 45 = .ok (.iconst 0, 1) := by decide +kernel
theorem dX8_filesOn_46 : decode cX8_filesOn 46 = .ok (.iadd, 1) := by decide +kernel
theorem dX8_filesOn_47 : decode cX8_filesOn 47 = .ok (.istore_n 2, 1) := by decide +kernel
theorem dX8_filesOn_48 : decode cX8_filesOn 48 = .ok (.iinc 3 1, 3) := by decide +kernel
theorem dX8_filesOn_51 : decode cX8_filesOn 51 = .ok (.goto (-31), 3) := by decide +kernel
theorem dX8_filesOn_54 : decode cX8_filesOn 54 = .ok (.iload_n 2, 1) := by decide +kernel
theorem dX8_filesOn_55 : decode cX8_filesOn 55 = .ok (.ireturn, 1) := by decide +kernel
theorem dX8_took_0 : decode cX8_took 0 = .ok (.aload_n 0, 1) := by decide +kernel
theorem dX8_took_1 : decode cX8_took 1 = .ok (.getfield 7, 3) := by decide +kernel
theorem dX8_took_4 : decode cX8_took 4 = .ok (.bipush 12, 2) := by decide +kernel
theorem dX8_took_6 : decode cX8_took 6 = .ok (.iaload, 1) := by decide +kernel
theorem dX8_took_7 : decode cX8_took 7 = .ok (.iload_n 1, 1) := by decide +kernel
theorem dX8_took_8 : decode cX8_took 8 = .ok (.isub, 1) := by decide +kernel
theorem dX8_took_9 : decode cX8_took 9 = .ok (.ireturn, 1) := by decide +kernel
set_option maxRecDepth 20000 in
theorem ggX8_mount_X8_isPlatter : GoodIn wsX8_mount wsX8_isPlatter := goodIn_r _ [9, 3, 10, 11, 8, 12, 62, 63, 64, 65, 66, 67, 68, 69, 70, 71, 72, 73, 74, 75, 76, 77, 78, 79, 80, 81, 82, 83, 84, 85, 86, 87, 88] (by decide +kernel) (by decide +kernel)
set_option maxRecDepth 20000 in
theorem gX8_mount_X8_isPlatter : GoodIn wsX8_mount (wsV RX8 61 RX8 yX8_isPlatter wsX8_isPlatter) := goodIn_app (goodIn_of _ (by decide +kernel)) ggX8_mount_X8_isPlatter
set_option maxRecDepth 20000 in
theorem ggX8_mount_X8_remembers : GoodIn wsX8_mount wsX8_remembers := goodIn_r _ [16, 17, 18, 3, 62, 63, 64, 65, 66, 67, 68, 69, 70, 71, 72, 73, 74, 75, 76, 77, 78, 79, 80, 81, 82, 83, 84, 85, 86, 87, 88] (by decide +kernel) (by decide +kernel)
set_option maxRecDepth 20000 in
theorem gX8_mount_X8_remembers : GoodIn wsX8_mount (wsV RX8 237 RX8 yX8_remembers wsX8_remembers) := goodIn_app (goodIn_of _ (by decide +kernel)) ggX8_mount_X8_remembers
set_option maxRecDepth 20000 in
theorem ggX8_mount_X8_mounts : GoodIn wsX8_mount wsX8_mounts := goodIn_r _ [22, 23, 24, 25, 8, 26, 27, 28, 29, 30, 3, 31, 32, 33, 34, 35, 36, 37, 38, 39, 40, 41, 42, 43, 44, 45, 46, 47, 48, 49, 50, 51, 52, 53, 54, 55, 56, 57, 62, 63, 64, 65, 66, 67, 68, 69, 70, 71, 72, 73, 74, 75, 76, 77, 78, 79, 80, 81, 82, 83, 84, 85, 86, 87, 88] (by decide +kernel) (by decide +kernel)
set_option maxRecDepth 20000 in
theorem gX8_mount_X8_mounts : GoodIn wsX8_mount (wsV RX8 126 RX8 yX8_mounts wsX8_mounts) := goodIn_app (goodIn_of _ (by decide +kernel)) ggX8_mount_X8_mounts
set_option maxRecDepth 20000 in
theorem ggX8_mount_X8_took : GoodIn wsX8_mount wsX8_took := goodIn_r _ [61, 3, 62, 63, 64, 65, 66, 67, 68, 69, 70, 71, 72, 73, 74, 75, 76, 77, 78, 79, 80, 81, 82, 83, 84, 85, 86, 87, 88] (by decide +kernel) (by decide +kernel)
set_option maxRecDepth 20000 in
theorem gX8_mount_X8_took : GoodIn wsX8_mount (wsV RX8 240 RX8 yX8_took wsX8_took) := goodIn_app (goodIn_of _ (by decide +kernel)) ggX8_mount_X8_took
theorem dX8_mount_0 : decode cX8_mount 0 = .ok (.aload_n 0, 1) := by decide +kernel
theorem dX8_mount_1 : decode cX8_mount 1 = .ok (.iconst 0, 1) := by decide +kernel
theorem dX8_mount_2 : decode cX8_mount 2 = .ok (.putfield 51, 3) := by decide +kernel
theorem dX8_mount_5 : decode cX8_mount 5 = .ok (.aload_n 0, 1) := by decide +kernel
theorem dX8_mount_6 : decode cX8_mount 6 = .ok (.iload_n 1, 1) := by decide +kernel
theorem dX8_mount_7 : decode cX8_mount 7 = .ok (.invokevirtual 61, 3) := by decide +kernel
theorem dX8_mount_10 : decode cX8_mount 10 = .ok (.ifCond .ne 6, 3) := by decide +kernel
theorem dX8_mount_13 : decode cX8_mount 13 = .ok (.ldc 186, 2) := by decide +kernel
theorem dX8_mount_15 : decode cX8_mount 15 = .ok (.ireturn, 1) := by decide +kernel
theorem dX8_mount_16 : decode cX8_mount 16 = .ok (.aload_n 0, 1) := by decide +kernel
theorem dX8_mount_17 : decode cX8_mount 17 = .ok (.getfield 7, 3) := by decide +kernel
theorem dX8_mount_20 : decode cX8_mount 20 = .ok (.bipush 6, 2) := by decide +kernel
theorem dX8_mount_22 : decode cX8_mount 22 = .ok (.iaload, 1) := by decide +kernel
theorem dX8_mount_23 : decode cX8_mount 23 = .ok (.ifCond .ne 6, 3) := by decide +kernel
theorem dX8_mount_26 : decode cX8_mount 26 = .ok (.ldc 177, 2) := by decide +kernel
theorem dX8_mount_28 : decode cX8_mount 28 = .ok (.ireturn, 1) := by decide +kernel
theorem dX8_mount_29 : decode cX8_mount 29 = .ok (.aload_n 0, 1) := by decide +kernel
theorem dX8_mount_30 : decode cX8_mount 30 = .ok (.invokevirtual 237, 3) := by decide +kernel
theorem dX8_mount_33 : decode cX8_mount 33 = .ok (.aload_n 0, 1) := by decide +kernel
theorem dX8_mount_34 : decode cX8_mount 34 = .ok (.getfield 7, 3) := by decide +kernel
theorem dX8_mount_37 : decode cX8_mount 37 = .ok (.bipush 12, 2) := by decide +kernel
theorem dX8_mount_39 : decode cX8_mount 39 = .ok (.iaload, 1) := by decide +kernel
theorem dX8_mount_40 : decode cX8_mount 40 = .ok (.istore_n 2, 1) := by decide +kernel
theorem dX8_mount_41 : decode cX8_mount 41 = .ok (.aload_n 0, 1) := by decide +kernel
theorem dX8_mount_42 : decode cX8_mount 42 = .ok (.iload_n 1, 1) := by decide +kernel
theorem dX8_mount_43 : decode cX8_mount 43 = .ok (.invokevirtual 126, 3) := by decide +kernel
theorem dX8_mount_46 : decode cX8_mount 46 = .ok (.pop, 1) := by decide +kernel
theorem dX8_mount_47 : decode cX8_mount 47 = .ok (.aload_n 0, 1) := by decide +kernel
theorem dX8_mount_48 : decode cX8_mount 48 = .ok (.iload_n 2, 1) := by decide +kernel
theorem dX8_mount_49 : decode cX8_mount 49 = .ok (.invokevirtual 240, 3) := by decide +kernel
theorem dX8_mount_52 : decode cX8_mount 52 = .ok (.ireturn, 1) := by decide +kernel
set_option maxRecDepth 20000 in
theorem ggX8_eject_X8_isDrive : GoodIn wsX8_eject wsX8_isDrive := goodIn_r _ [9, 3, 10, 11, 8, 12, 38, 39, 40, 41, 42, 43, 44, 45, 46, 47, 48, 49, 50, 51, 52, 53, 54, 55, 56, 57, 58, 59, 60, 61, 62, 63, 64] (by decide +kernel) (by decide +kernel)
set_option maxRecDepth 20000 in
theorem gX8_eject_X8_isDrive : GoodIn wsX8_eject (wsV RX8 193 RX8 yX8_isDrive wsX8_isDrive) := goodIn_app (goodIn_of _ (by decide +kernel)) ggX8_eject_X8_isDrive
set_option maxRecDepth 20000 in
theorem ggX8_eject_X8_remembers : GoodIn wsX8_eject wsX8_remembers := goodIn_r _ [16, 17, 18, 3, 38, 39, 40, 41, 42, 43, 44, 45, 46, 47, 48, 49, 50, 51, 52, 53, 54, 55, 56, 57, 58, 59, 60, 61, 62, 63, 64] (by decide +kernel) (by decide +kernel)
set_option maxRecDepth 20000 in
theorem gX8_eject_X8_remembers : GoodIn wsX8_eject (wsV RX8 237 RX8 yX8_remembers wsX8_remembers) := goodIn_app (goodIn_of _ (by decide +kernel)) ggX8_eject_X8_remembers
set_option maxRecDepth 20000 in
theorem ggX8_eject_X8_empties : GoodIn wsX8_eject wsX8_empties := goodIn_r _ [22, 3, 23, 24, 25, 8, 26, 27, 28, 29, 30, 31, 32, 33, 38, 39, 40, 41, 42, 43, 44, 45, 46, 47, 48, 49, 50, 51, 52, 53, 54, 55, 56, 57, 58, 59, 60, 61, 62, 63, 64] (by decide +kernel) (by decide +kernel)
set_option maxRecDepth 20000 in
theorem gX8_eject_X8_empties : GoodIn wsX8_eject (wsV RX8 103 RX8 yX8_empties wsX8_empties) := goodIn_app (goodIn_of _ (by decide +kernel)) ggX8_eject_X8_empties
set_option maxRecDepth 20000 in
theorem ggX8_eject_X8_took : GoodIn wsX8_eject wsX8_took := goodIn_r _ [37, 3, 38, 39, 40, 41, 42, 43, 44, 45, 46, 47, 48, 49, 50, 51, 52, 53, 54, 55, 56, 57, 58, 59, 60, 61, 62, 63, 64] (by decide +kernel) (by decide +kernel)
set_option maxRecDepth 20000 in
theorem gX8_eject_X8_took : GoodIn wsX8_eject (wsV RX8 240 RX8 yX8_took wsX8_took) := goodIn_app (goodIn_of _ (by decide +kernel)) ggX8_eject_X8_took
theorem dX8_eject_0 : decode cX8_eject 0 = .ok (.aload_n 0, 1) := by decide +kernel
theorem dX8_eject_1 : decode cX8_eject 1 = .ok (.iconst 0, 1) := by decide +kernel
theorem dX8_eject_2 : decode cX8_eject 2 = .ok (.putfield 51, 3) := by decide +kernel
theorem dX8_eject_5 : decode cX8_eject 5 = .ok (.aload_n 0, 1) := by decide +kernel
theorem dX8_eject_6 : decode cX8_eject 6 = .ok (.iload_n 1, 1) := by decide +kernel
theorem dX8_eject_7 : decode cX8_eject 7 = .ok (.invokevirtual 193, 3) := by decide +kernel
theorem dX8_eject_10 : decode cX8_eject 10 = .ok (.ifCond .ne 6, 3) := by decide +kernel
theorem dX8_eject_13 : decode cX8_eject 13 = .ok (.ldc 186, 2) := by decide +kernel
theorem dX8_eject_15 : decode cX8_eject 15 = .ok (.ireturn, 1) := by decide +kernel
theorem dX8_eject_16 : decode cX8_eject 16 = .ok (.aload_n 0, 1) := by decide +kernel
theorem dX8_eject_17 : decode cX8_eject 17 = .ok (.getfield 7, 3) := by decide +kernel
theorem dX8_eject_20 : decode cX8_eject 20 = .ok (.bipush 21, 2) := by decide +kernel
theorem dX8_eject_22 : decode cX8_eject 22 = .ok (.iload_n 1, 1) := by decide +kernel
theorem dX8_eject_23 : decode cX8_eject 23 = .ok (.iadd, 1) := by decide +kernel
theorem dX8_eject_24 : decode cX8_eject 24 = .ok (.iaload, 1) := by decide +kernel
theorem dX8_eject_25 : decode cX8_eject 25 = .ok (.iconst (-1), 1) := by decide +kernel
theorem dX8_eject_26 : decode cX8_eject 26 = .ok (.if_icmp .ne 6, 3) := by decide +kernel
theorem dX8_eject_29 : decode cX8_eject 29 = .ok (.ldc 42, 2) := by decide +kernel
theorem dX8_eject_31 : decode cX8_eject 31 = .ok (.ireturn, 1) := by decide +kernel
theorem dX8_eject_32 : decode cX8_eject 32 = .ok (.aload_n 0, 1) := by decide +kernel
theorem dX8_eject_33 : decode cX8_eject 33 = .ok (.invokevirtual 237, 3) := by decide +kernel
theorem dX8_eject_36 : decode cX8_eject 36 = .ok (.aload_n 0, 1) := by decide +kernel
theorem dX8_eject_37 : decode cX8_eject 37 = .ok (.getfield 7, 3) := by decide +kernel
theorem dX8_eject_40 : decode cX8_eject 40 = .ok (.bipush 12, 2) := by decide +kernel
theorem dX8_eject_42 : decode cX8_eject 42 = .ok (.iaload, 1) := by decide +kernel
theorem dX8_eject_43 : decode cX8_eject 43 = .ok (.istore_n 2, 1) := by decide +kernel
theorem dX8_eject_44 : decode cX8_eject 44 = .ok (.aload_n 0, 1) := by decide +kernel
theorem dX8_eject_45 : decode cX8_eject 45 = .ok (.iload_n 1, 1) := by decide +kernel
theorem dX8_eject_46 : decode cX8_eject 46 = .ok (.invokevirtual 103, 3) := by decide +kernel
theorem dX8_eject_49 : decode cX8_eject 49 = .ok (.aload_n 0, 1) := by decide +kernel
theorem dX8_eject_50 : decode cX8_eject 50 = .ok (.iload_n 2, 1) := by decide +kernel
theorem dX8_eject_51 : decode cX8_eject 51 = .ok (.invokevirtual 240, 3) := by decide +kernel
theorem dX8_eject_54 : decode cX8_eject 54 = .ok (.ireturn, 1) := by decide +kernel
set_option maxRecDepth 20000 in
theorem ggX8_read_X8_whyNotRead : GoodIn wsX8_read wsX8_whyNotRead := goodIn_r _ [7, 8, 2, 9, 10, 11, 12, 13, 6, 14, 15, 16, 17, 18, 19, 20, 21, 22, 23, 24, 25, 26, 27, 28, 29, 30, 31, 32, 33, 91, 92, 93, 94, 95, 96, 97, 98, 99, 100, 101, 102, 103, 104, 105, 106, 107, 108, 109, 110, 111, 112, 113, 114, 115, 116, 117] (by decide +kernel) (by decide +kernel)
set_option maxRecDepth 20000 in
theorem gX8_read_X8_whyNotRead : GoodIn wsX8_read (wsV RX8 234 RX8 yX8_whyNotRead wsX8_whyNotRead) := goodIn_app (goodIn_of _ (by decide +kernel)) ggX8_read_X8_whyNotRead
set_option maxRecDepth 20000 in
theorem ggX8_read_X8_remembers : GoodIn wsX8_read wsX8_remembers := goodIn_r _ [37, 38, 39, 2, 91, 92, 93, 94, 95, 96, 97, 98, 99, 100, 101, 102, 103, 104, 105, 106, 107, 108, 109, 110, 111, 112, 113, 114, 115, 116, 117] (by decide +kernel) (by decide +kernel)
set_option maxRecDepth 20000 in
theorem gX8_read_X8_remembers : GoodIn wsX8_read (wsV RX8 237 RX8 yX8_remembers wsX8_remembers) := goodIn_app (goodIn_of _ (by decide +kernel)) ggX8_read_X8_remembers
set_option maxRecDepth 20000 in
theorem ggX8_read_X8_reads : GoodIn wsX8_read wsX8_reads := goodIn_r _ [43, 2, 44, 45, 46, 6, 47, 22, 23, 24, 25, 48, 49, 50, 51, 52, 53, 54, 55, 56, 57, 58, 59, 60, 61, 62, 63, 64, 65, 66, 67, 68, 69, 70, 71, 72, 73, 74, 75, 76, 77, 78, 79, 80, 81, 82, 83, 84, 85, 86, 91, 92, 93, 94, 95, 96, 97, 98, 99, 100, 101, 102, 103, 104, 105, 106, 107, 108, 109, 110, 111, 112, 113, 114, 115, 116, 117] (by decide +kernel) (by decide +kernel)
set_option maxRecDepth 20000 in
theorem gX8_read_X8_reads : GoodIn wsX8_read (wsV RX8 162 RX8 yX8_reads wsX8_reads) := goodIn_app (goodIn_of _ (by decide +kernel)) ggX8_read_X8_reads
set_option maxRecDepth 20000 in
theorem ggX8_read_X8_took : GoodIn wsX8_read wsX8_took := goodIn_r _ [90, 2, 91, 92, 93, 94, 95, 96, 97, 98, 99, 100, 101, 102, 103, 104, 105, 106, 107, 108, 109, 110, 111, 112, 113, 114, 115, 116, 117] (by decide +kernel) (by decide +kernel)
set_option maxRecDepth 20000 in
theorem gX8_read_X8_took : GoodIn wsX8_read (wsV RX8 240 RX8 yX8_took wsX8_took) := goodIn_app (goodIn_of _ (by decide +kernel)) ggX8_read_X8_took
theorem dX8_read_0 : decode cX8_read 0 = .ok (.aload_n 0, 1) := by decide +kernel
theorem dX8_read_1 : decode cX8_read 1 = .ok (.iconst 0, 1) := by decide +kernel
theorem dX8_read_2 : decode cX8_read 2 = .ok (.putfield 51, 3) := by decide +kernel
theorem dX8_read_5 : decode cX8_read 5 = .ok (.aload_n 0, 1) := by decide +kernel
theorem dX8_read_6 : decode cX8_read 6 = .ok (.iload_n 1, 1) := by decide +kernel
theorem dX8_read_7 : decode cX8_read 7 = .ok (.invokevirtual 234, 3) := by decide +kernel
theorem dX8_read_10 : decode cX8_read 10 = .ok (.istore_n 2, 1) := by decide +kernel
theorem dX8_read_11 : decode cX8_read 11 = .ok (.iload_n 2, 1) := by decide +kernel
theorem dX8_read_12 : decode cX8_read 12 = .ok (.ifCond .eq 5, 3) := by decide +kernel
theorem dX8_read_15 : decode cX8_read 15 = .ok (.iload_n 2, 1) := by decide +kernel
theorem dX8_read_16 : decode cX8_read 16 = .ok (.ireturn, 1) := by decide +kernel
theorem dX8_read_17 : decode cX8_read 17 = .ok (.aload_n 0, 1) := by decide +kernel
theorem dX8_read_18 : decode cX8_read 18 = .ok (.invokevirtual 237, 3) := by decide +kernel
theorem dX8_read_21 : decode cX8_read 21 = .ok (.aload_n 0, 1) := by decide +kernel
theorem dX8_read_22 : decode cX8_read 22 = .ok (.getfield 7, 3) := by decide +kernel
theorem dX8_read_25 : decode cX8_read 25 = .ok (.bipush 12, 2) := by decide +kernel
theorem dX8_read_27 : decode cX8_read 27 = .ok (.iaload, 1) := by decide +kernel
theorem dX8_read_28 : decode cX8_read 28 = .ok (.istore_n 3, 1) := by decide +kernel
theorem dX8_read_29 : decode cX8_read 29 = .ok (.aload_n 0, 1) := by decide +kernel
theorem dX8_read_30 : decode cX8_read 30 = .ok (.iload_n 1, 1) := by decide +kernel
theorem dX8_read_31 : decode cX8_read 31 = .ok (.invokevirtual 162, 3) := by decide +kernel
theorem dX8_read_34 : decode cX8_read 34 = .ok (.aload_n 0, 1) := by decide +kernel
theorem dX8_read_35 : decode cX8_read 35 = .ok (.iload_n 3, 1) := by decide +kernel
theorem dX8_read_36 : decode cX8_read 36 = .ok (.invokevirtual 240, 3) := by decide +kernel
theorem dX8_read_39 : decode cX8_read 39 = .ok (.ireturn, 1) := by decide +kernel
set_option maxRecDepth 20000 in
theorem ggX8_whyNotWritten_X8_isPlatter : GoodIn wsX8_whyNotWritten wsX8_isPlatter := goodIn_r _ [12, 5, 13, 14, 11, 15, 22, 23, 24, 25, 26, 27, 28, 29, 30, 31, 32, 33, 34, 35, 36, 37, 38, 39, 40, 41, 42, 43, 44, 45, 46, 47, 48] (by decide +kernel) (by decide +kernel)
set_option maxRecDepth 20000 in
theorem gX8_whyNotWritten_X8_isPlatter : GoodIn wsX8_whyNotWritten (wsV RX8 61 RX8 yX8_isPlatter wsX8_isPlatter) := goodIn_app (goodIn_of _ (by decide +kernel)) ggX8_whyNotWritten_X8_isPlatter
set_option maxRecDepth 20000 in
theorem ggX8_whyNotWritten_X8_isIn : GoodIn wsX8_whyNotWritten wsX8_isIn := goodIn_r _ [15] (by decide +kernel) (by decide +kernel)
set_option maxRecDepth 20000 in
theorem gX8_whyNotWritten_X8_isIn : GoodIn wsX8_whyNotWritten (va_wsS RX8 57 yX8_isIn wsX8_isIn) := goodIn_app (goodIn_of _ (by decide +kernel)) ggX8_whyNotWritten_X8_isIn
set_option maxRecDepth 20000 in
theorem ggX8_whyNotWritten_X8_canWrite : GoodIn wsX8_whyNotWritten wsX8_canWrite := goodIn_r _ [18, 19, 20, 11, 21, 13, 14, 15] (by decide +kernel) (by decide +kernel)
set_option maxRecDepth 20000 in
theorem gX8_whyNotWritten_X8_canWrite : GoodIn wsX8_whyNotWritten (va_wsS RX8 225 yX8_canWrite wsX8_canWrite) := goodIn_app (goodIn_of _ (by decide +kernel)) ggX8_whyNotWritten_X8_canWrite
theorem dX8_whyNotWritten_0 : decode cX8_whyNotWritten 0 = .ok (.aload_n 0, 1) := by decide +kernel
theorem dX8_whyNotWritten_1 : decode cX8_whyNotWritten 1 = .ok (.iload_n 2, 1) := by decide +kernel
theorem dX8_whyNotWritten_2 : decode cX8_whyNotWritten 2 = .ok (.invokevirtual 61, 3) := by decide +kernel
theorem dX8_whyNotWritten_5 : decode cX8_whyNotWritten 5 = .ok (.ifCond .ne 6, 3) := by decide +kernel
theorem dX8_whyNotWritten_8 : decode cX8_whyNotWritten 8 = .ok (.ldc 186, 2) := by decide +kernel
theorem dX8_whyNotWritten_10 : decode cX8_whyNotWritten 10 = .ok (.ireturn, 1) := by decide +kernel
theorem dX8_whyNotWritten_11 : decode cX8_whyNotWritten 11 = .ok (.iload_n 1, 1) := by decide +kernel
theorem dX8_whyNotWritten_12 : decode cX8_whyNotWritten 12 = .ok (.i2l, 1) := by decide +kernel
theorem dX8_whyNotWritten_13 : decode cX8_whyNotWritten 13 = .ok (.lconst 1, 1) := by decide +kernel
theorem dX8_whyNotWritten_14 : decode cX8_whyNotWritten 14 = .ok (.ldc2_w 222, 3) := by decide +kernel
theorem dX8_whyNotWritten_17 : decode cX8_whyNotWritten 17 = .ok (.invokestatic 57, 3) := by decide +kernel
theorem dX8_whyNotWritten_20 : decode cX8_whyNotWritten 20 = .ok (.ifCond .ne 6, 3) := by decide +kernel
theorem dX8_whyNotWritten_23 : decode cX8_whyNotWritten 23 = .ok (.ldc 224, 2) := by decide +kernel
theorem dX8_whyNotWritten_25 : decode cX8_whyNotWritten 25 = .ok (.ireturn, 1) := by decide +kernel
theorem dX8_whyNotWritten_26 : decode cX8_whyNotWritten 26 = .ok (.iload_n 3, 1) := by decide +kernel
theorem dX8_whyNotWritten_27 : decode cX8_whyNotWritten 27 = .ok (.ifCond .eq 6, 3) := by decide +kernel
theorem dX8_whyNotWritten_30 : decode cX8_whyNotWritten 30 = .ok (.ldc 243, 2) := by decide +kernel
theorem dX8_whyNotWritten_32 : decode cX8_whyNotWritten 32 = .ok (.ireturn, 1) := by decide +kernel
theorem dX8_whyNotWritten_33 : decode cX8_whyNotWritten 33 = .ok (.aload_n 0, 1) := by decide +kernel
theorem dX8_whyNotWritten_34 : decode cX8_whyNotWritten 34 = .ok (.getfield 7, 3) := by decide +kernel
theorem dX8_whyNotWritten_37 : decode cX8_whyNotWritten 37 = .ok (.bipush 6, 2) := by decide +kernel
theorem dX8_whyNotWritten_39 : decode cX8_whyNotWritten 39 = .ok (.iaload, 1) := by decide +kernel
theorem dX8_whyNotWritten_40 : decode cX8_whyNotWritten 40 = .ok (.ifCond .ne 8, 3) := by decide +kernel
theorem dX8_whyNotWritten_43 : decode cX8_whyNotWritten 43 = .ok (.ldc 177, 2) := by decide +kernel
theorem dX8_whyNotWritten_45 : decode cX8_whyNotWritten 45 = .ok (.goto 21, 3) := by decide +kernel
theorem dX8_whyNotWritten_48 : decode cX8_whyNotWritten 48 = .ok (.aload_n 0, 1) := by decide +kernel
theorem dX8_whyNotWritten_49 : decode cX8_whyNotWritten 49 = .ok (.getfield 7, 3) := by decide +kernel
theorem dX8_whyNotWritten_52 : decode cX8_whyNotWritten 52 = .ok (.iload_n 2, 1) := by decide +kernel
theorem dX8_whyNotWritten_53 : decode cX8_whyNotWritten 53 = .ok (.iload_n 1, 1) := by decide +kernel
theorem dX8_whyNotWritten_54 : decode cX8_whyNotWritten 54 = .ok (.invokestatic 225, 3) := by decide +kernel
theorem dX8_whyNotWritten_57 : decode cX8_whyNotWritten 57 = .ok (.ifCond .eq 7, 3) := by decide +kernel
theorem dX8_whyNotWritten_60 : decode cX8_whyNotWritten 60 = .ok (.iconst 0, 1) := by decide +kernel
theorem dX8_whyNotWritten_61 : decode cX8_whyNotWritten 61 = .ok (.goto 5, 3) := by decide +kernel
theorem dX8_whyNotWritten_64 : decode cX8_whyNotWritten 64 = .ok (.ldc 182, 2) := by decide +kernel
theorem dX8_whyNotWritten_66 : decode cX8_whyNotWritten 66 = .ok (.ireturn, 1) := by decide +kernel
set_option maxRecDepth 20000 in
theorem ggX8_writesOn_X8_mounts : GoodIn wsX8_writesOn wsX8_mounts := goodIn_r _ [6, 7, 8, 9, 5, 10, 11, 12, 13, 14, 1, 15, 16, 17, 18, 19, 20, 21, 22, 23, 24, 25, 26, 27, 28, 29, 30, 31, 32, 33, 34, 35, 36, 37, 38, 39, 40, 41, 51, 52, 53, 54, 55, 56, 57, 58, 59, 60, 61, 62, 63, 64, 65, 66, 67, 68, 69, 70, 71, 72, 73, 74, 75, 76, 77] (by decide +kernel) (by decide +kernel)
set_option maxRecDepth 20000 in
theorem gX8_writesOn_X8_mounts : GoodIn wsX8_writesOn (wsV RX8 126 RX8 yX8_mounts wsX8_mounts) := goodIn_app (goodIn_of _ (by decide +kernel)) ggX8_writesOn_X8_mounts
set_option maxRecDepth 20000 in
theorem ggX8_writesOn_X8_writesVersion : GoodIn wsX8_writesOn wsX8_writesVersion := goodIn_r _ [44, 45, 46, 5, 47, 48, 49, 50] (by decide +kernel) (by decide +kernel)
set_option maxRecDepth 20000 in
theorem gX8_writesOn_X8_writesVersion : GoodIn wsX8_writesOn (va_wsS RX8 244 yX8_writesVersion wsX8_writesVersion) := goodIn_app (goodIn_of _ (by decide +kernel)) ggX8_writesOn_X8_writesVersion
theorem dX8_writesOn_0 : decode cX8_writesOn 0 = .ok (.aload_n 0, 1) := by decide +kernel
theorem dX8_writesOn_1 : decode cX8_writesOn 1 = .ok (.iload_n 3, 1) := by decide +kernel
theorem dX8_writesOn_2 : decode cX8_writesOn 2 = .ok (.invokevirtual 126, 3) := by decide +kernel
theorem dX8_writesOn_5 : decode cX8_writesOn 5 = .ok (.pop, 1) := by decide +kernel
theorem dX8_writesOn_6 : decode cX8_writesOn 6 = .ok (.aload_n 0, 1) := by decide +kernel
theorem dX8_writesOn_7 : decode cX8_writesOn 7 = .ok (.getfield 7, 3) := by decide +kernel
theorem dX8_writesOn_10 : decode cX8_writesOn 10 = .ok (.bipush 12, 2) := by decide +kernel
theorem dX8_writesOn_12 : decode cX8_writesOn 12 = .ok (.dup2, 1) := by decide +kernel
theorem dX8_writesOn_13 : decode cX8_writesOn 13 = .ok (.iaload, 1) := by decide +kernel
theorem dX8_writesOn_14 : decode cX8_writesOn 14 = .ok (.aload_n 0, 1) := by decide +kernel
theorem dX8_writesOn_15 : decode cX8_writesOn 15 = .ok (.getfield 7, 3) := by decide +kernel
theorem dX8_writesOn_18 : decode cX8_writesOn 18 = .ok (.iconst 5, 1) := by decide +kernel
theorem dX8_writesOn_19 : decode cX8_writesOn 19 = .ok (.iaload, 1) := by decide +kernel
theorem dX8_writesOn_20 : decode cX8_writesOn 20 = .ok (.iload_n 2, 1) := by decide +kernel
theorem dX8_writesOn_21 : decode cX8_writesOn 21 = .ok (.imul, 1) := by decide +kernel
theorem dX8_writesOn_22 : decode cX8_writesOn 22 = .ok (.iadd, 1) := by decide +kernel
theorem dX8_writesOn_23 : decode cX8_writesOn 23 = .ok (.iastore, 1) := by decide +kernel
theorem dX8_writesOn_24 : decode cX8_writesOn 24 = .ok (.aload_n 0, 1) := by decide +kernel
theorem dX8_writesOn_25 : decode cX8_writesOn 25 = .ok (.getfield 7, 3) := by decide +kernel
theorem dX8_writesOn_28 : decode cX8_writesOn 28 = .ok (.iload_n 1, 1) := by decide +kernel
theorem dX8_writesOn_29 : decode cX8_writesOn 29 = .ok (.iload_n 3, 1) := by decide +kernel
theorem dX8_writesOn_30 : decode cX8_writesOn 30 = .ok (.iload_n 2, 1) := by decide +kernel
theorem dX8_writesOn_31 : decode cX8_writesOn 31 = .ok (.invokestatic 244, 3) := by decide +kernel
theorem dX8_writesOn_34 : decode cX8_writesOn 34 = .ok (.return_, 1) := by decide +kernel
set_option maxRecDepth 20000 in
theorem ggX8_write_X8_isFile : GoodIn wsX8_write wsX8_isFile := goodIn_r _ [8, 3, 9, 10, 7, 11, 87, 88, 89, 90, 91, 92, 93, 94, 95, 96, 97, 98, 99, 100, 101, 102, 103, 104, 105, 106, 107, 108, 109, 110, 111, 112, 113] (by decide +kernel) (by decide +kernel)
set_option maxRecDepth 20000 in
theorem gX8_write_X8_isFile : GoodIn wsX8_write (wsV RX8 228 RX8 yX8_isFile wsX8_isFile) := goodIn_app (goodIn_of _ (by decide +kernel)) ggX8_write_X8_isFile
set_option maxRecDepth 20000 in
theorem ggX8_write_X8_whyNotWritten : GoodIn wsX8_write wsX8_whyNotWritten := goodIn_r _ [15, 2, 16, 17, 18, 3, 19, 20, 21, 22, 23, 7, 24, 9, 10, 11, 25, 26, 27, 28, 29, 30, 87, 88, 89, 90, 91, 92, 93, 94, 95, 96, 97, 98, 99, 100, 101, 102, 103, 104, 105, 106, 107, 108, 109, 110, 111, 112, 113] (by decide +kernel) (by decide +kernel)
set_option maxRecDepth 20000 in
theorem gX8_write_X8_whyNotWritten : GoodIn wsX8_write (wsV RX8 248 RX8 yX8_whyNotWritten wsX8_whyNotWritten) := goodIn_app (goodIn_of _ (by decide +kernel)) ggX8_write_X8_whyNotWritten
set_option maxRecDepth 20000 in
theorem ggX8_write_X8_remembers : GoodIn wsX8_write wsX8_remembers := goodIn_r _ [34, 35, 36, 3, 87, 88, 89, 90, 91, 92, 93, 94, 95, 96, 97, 98, 99, 100, 101, 102, 103, 104, 105, 106, 107, 108, 109, 110, 111, 112, 113] (by decide +kernel) (by decide +kernel)
set_option maxRecDepth 20000 in
theorem gX8_write_X8_remembers : GoodIn wsX8_write (wsV RX8 237 RX8 yX8_remembers wsX8_remembers) := goodIn_app (goodIn_of _ (by decide +kernel)) ggX8_write_X8_remembers
set_option maxRecDepth 20000 in
theorem ggX8_write_X8_writesOn : GoodIn wsX8_write wsX8_writesOn := goodIn_r _ [40, 3, 41, 42, 43, 7, 44, 45, 46, 47, 48, 49, 50, 51, 52, 53, 54, 55, 56, 57, 58, 59, 60, 61, 62, 63, 64, 65, 66, 67, 68, 69, 70, 71, 72, 73, 74, 75, 76, 77, 78, 79, 80, 81, 82, 28, 29, 30, 9, 10, 11, 87, 88, 89, 90, 91, 92, 93, 94, 95, 96, 97, 98, 99, 100, 101, 102, 103, 104, 105, 106, 107, 108, 109, 110, 111, 112, 113] (by decide +kernel) (by decide +kernel)
set_option maxRecDepth 20000 in
theorem gX8_write_X8_writesOn : GoodIn wsX8_write (wsV RX8 252 RX8 yX8_writesOn wsX8_writesOn) := goodIn_app (goodIn_of _ (by decide +kernel)) ggX8_write_X8_writesOn
set_option maxRecDepth 20000 in
theorem ggX8_write_X8_took : GoodIn wsX8_write wsX8_took := goodIn_r _ [86, 3, 87, 88, 89, 90, 91, 92, 93, 94, 95, 96, 97, 98, 99, 100, 101, 102, 103, 104, 105, 106, 107, 108, 109, 110, 111, 112, 113] (by decide +kernel) (by decide +kernel)
set_option maxRecDepth 20000 in
theorem gX8_write_X8_took : GoodIn wsX8_write (wsV RX8 240 RX8 yX8_took wsX8_took) := goodIn_app (goodIn_of _ (by decide +kernel)) ggX8_write_X8_took
theorem dX8_write_0 : decode cX8_write 0 = .ok (.aload_n 0, 1) := by decide +kernel
theorem dX8_write_1 : decode cX8_write 1 = .ok (.iconst 0, 1) := by decide +kernel
theorem dX8_write_2 : decode cX8_write 2 = .ok (.putfield 51, 3) := by decide +kernel
theorem dX8_write_5 : decode cX8_write 5 = .ok (.aload_n 0, 1) := by decide +kernel
theorem dX8_write_6 : decode cX8_write 6 = .ok (.iload_n 1, 1) := by decide +kernel
theorem dX8_write_7 : decode cX8_write 7 = .ok (.invokevirtual 228, 3) := by decide +kernel
theorem dX8_write_10 : decode cX8_write 10 = .ok (.ifCond .ne 6, 3) := by decide +kernel
theorem dX8_write_13 : decode cX8_write 13 = .ok (.ldc 186, 2) := by decide +kernel
theorem dX8_write_15 : decode cX8_write 15 = .ok (.ireturn, 1) := by decide +kernel
theorem dX8_write_16 : decode cX8_write 16 = .ok (.aload_n 0, 1) := by decide +kernel
theorem dX8_write_17 : decode cX8_write 17 = .ok (.iload_n 2, 1) := by decide +kernel
theorem dX8_write_18 : decode cX8_write 18 = .ok (.iload_n 3, 1) := by decide +kernel
theorem dX8_write_19 : decode cX8_write 19 = .ok (.aload_n 0, 1) := by decide +kernel
theorem dX8_write_20 : decode cX8_write 20 = .ok (.getfield 7, 3) := by decide +kernel
theorem dX8_write_23 : decode cX8_write 23 = .ok (.bipush 10, 2) := by decide +kernel
theorem dX8_write_25 : decode cX8_write 25 = .ok (.iaload, 1) := by decide +kernel
theorem dX8_write_26 : decode cX8_write 26 = .ok (.bipush 40, 2) := by decide +kernel
theorem dX8_write_28 : decode cX8_write 28 = .ok (.if_icmp .ne 7, 3) := by decide +kernel
theorem dX8_write_31 : decode cX8_write 31 = .ok (.iconst 1, 1) := by decide +kernel
theorem dX8_write_32 : decode cX8_write 32 = .ok (.goto 4, 3) := by decide +kernel
theorem dX8_write_35 : decode cX8_write 35 = .ok (.iconst 0, 1) := by decide +kernel
theorem dX8_write_36 : decode cX8_write 36 = .ok (.invokevirtual 248, 3) := by decide +kernel
theorem dX8_write_39 : decode cX8_write 39 = .ok (.istore 4, 2) := by decide +kernel
theorem dX8_write_41 : decode cX8_write 41 = .ok (.iload 4, 2) := by decide +kernel
theorem dX8_write_43 : decode cX8_write 43 = .ok (.ifCond .eq 6, 3) := by decide +kernel
theorem dX8_write_46 : decode cX8_write 46 = .ok (.iload 4, 2) := by decide +kernel
theorem dX8_write_48 : decode cX8_write 48 = .ok (.ireturn, 1) := by decide +kernel
theorem dX8_write_49 : decode cX8_write 49 = .ok (.aload_n 0, 1) := by decide +kernel
theorem dX8_write_50 : decode cX8_write 50 = .ok (.invokevirtual 237, 3) := by decide +kernel
theorem dX8_write_53 : decode cX8_write 53 = .ok (.aload_n 0, 1) := by decide +kernel
theorem dX8_write_54 : decode cX8_write 54 = .ok (.getfield 7, 3) := by decide +kernel
theorem dX8_write_57 : decode cX8_write 57 = .ok (.bipush 12, 2) := by decide +kernel
theorem dX8_write_59 : decode cX8_write 59 = .ok (.iaload, 1) := by decide +kernel
theorem dX8_write_60 : decode cX8_write 60 = .ok (.istore 5, 2) := by decide +kernel
theorem dX8_write_62 : decode cX8_write 62 = .ok (.aload_n 0, 1) := by decide +kernel
theorem dX8_write_63 : decode cX8_write 63 = .ok (.iload_n 1, 1) := by decide +kernel
theorem dX8_write_64 : decode cX8_write 64 = .ok (.iload_n 2, 1) := by decide +kernel
theorem dX8_write_65 : decode cX8_write 65 = .ok (.iload_n 3, 1) := by decide +kernel
theorem dX8_write_66 : decode cX8_write 66 = .ok (.invokevirtual 252, 3) := by decide +kernel
theorem dX8_write_69 : decode cX8_write 69 = .ok (.aload_n 0, 1) := by decide +kernel
theorem dX8_write_70 : decode cX8_write 70 = .ok (.iload 5, 2) := by decide +kernel
theorem dX8_write_72 : decode cX8_write 72 = .ok (.invokevirtual 240, 3) := by decide +kernel
theorem dX8_write_75 : decode cX8_write 75 = .ok (.ireturn, 1) := by decide +kernel
set_option maxRecDepth 20000 in
theorem ggX8_create_X8_whyNotWritten : GoodIn wsX8_create wsX8_whyNotWritten := goodIn_r _ [7, 8, 9, 10, 11, 2, 12, 13, 14, 15, 16, 6, 17, 18, 19, 20, 21, 22, 23, 24, 25, 26, 79, 80, 81, 82, 83, 84, 85, 86, 87, 88, 89, 90, 91, 92, 93, 94, 95, 96, 97, 98, 99, 100, 101, 102, 103, 104, 105] (by decide +kernel) (by decide +kernel)
set_option maxRecDepth 20000 in
theorem gX8_create_X8_whyNotWritten : GoodIn wsX8_create (wsV RX8 248 RX8 yX8_whyNotWritten wsX8_whyNotWritten) := goodIn_app (goodIn_of _ (by decide +kernel)) ggX8_create_X8_whyNotWritten
set_option maxRecDepth 20000 in
theorem ggX8_create_X8_remembers : GoodIn wsX8_create wsX8_remembers := goodIn_r _ [30, 31, 32, 2, 79, 80, 81, 82, 83, 84, 85, 86, 87, 88, 89, 90, 91, 92, 93, 94, 95, 96, 97, 98, 99, 100, 101, 102, 103, 104, 105] (by decide +kernel) (by decide +kernel)
set_option maxRecDepth 20000 in
theorem gX8_create_X8_remembers : GoodIn wsX8_create (wsV RX8 237 RX8 yX8_remembers wsX8_remembers) := goodIn_app (goodIn_of _ (by decide +kernel)) ggX8_create_X8_remembers
set_option maxRecDepth 20000 in
theorem ggX8_create_X8_writesOn : GoodIn wsX8_create wsX8_writesOn := goodIn_r _ [36, 2, 37, 38, 39, 6, 40, 41, 42, 43, 44, 45, 46, 47, 48, 49, 50, 51, 52, 53, 54, 55, 56, 57, 58, 59, 60, 61, 62, 63, 64, 65, 66, 67, 68, 69, 70, 71, 72, 73, 74, 75, 76, 77, 78, 24, 25, 26, 18, 19, 20, 79, 80, 81, 82, 83, 84, 85, 86, 87, 88, 89, 90, 91, 92, 93, 94, 95, 96, 97, 98, 99, 100, 101, 102, 103, 104, 105] (by decide +kernel) (by decide +kernel)
set_option maxRecDepth 20000 in
theorem gX8_create_X8_writesOn : GoodIn wsX8_create (wsV RX8 252 RX8 yX8_writesOn wsX8_writesOn) := goodIn_app (goodIn_of _ (by decide +kernel)) ggX8_create_X8_writesOn
theorem dX8_create_0 : decode cX8_create 0 = .ok (.aload_n 0, 1) := by decide +kernel
theorem dX8_create_1 : decode cX8_create 1 = .ok (.iconst 0, 1) := by decide +kernel
theorem dX8_create_2 : decode cX8_create 2 = .ok (.putfield 51, 3) := by decide +kernel
theorem dX8_create_5 : decode cX8_create 5 = .ok (.aload_n 0, 1) := by decide +kernel
theorem dX8_create_6 : decode cX8_create 6 = .ok (.iload_n 1, 1) := by decide +kernel
theorem dX8_create_7 : decode cX8_create 7 = .ok (.iload_n 2, 1) := by decide +kernel
theorem dX8_create_8 : decode cX8_create 8 = .ok (.aload_n 0, 1) := by decide +kernel
theorem dX8_create_9 : decode cX8_create 9 = .ok (.getfield 7, 3) := by decide +kernel
theorem dX8_create_12 : decode cX8_create 12 = .ok (.bipush 9, 2) := by decide +kernel
theorem dX8_create_14 : decode cX8_create 14 = .ok (.iaload, 1) := by decide +kernel
theorem dX8_create_15 : decode cX8_create 15 = .ok (.bipush 20, 2) := by decide +kernel
theorem dX8_create_17 : decode cX8_create 17 = .ok (.if_icmp .eq 15, 3) := by decide +kernel
theorem dX8_create_20 : decode cX8_create 20 = .ok (.aload_n 0, 1) := by decide +kernel
theorem dX8_create_21 : decode cX8_create 21 = .ok (.getfield 7, 3) := by decide +kernel
theorem dX8_create_24 : decode cX8_create 24 = .ok (.bipush 10, 2) := by decide +kernel
theorem dX8_create_26 : decode cX8_create 26 = .ok (.iaload, 1) := by decide +kernel
theorem dX8_create_27 : decode cX8_create 27 = .ok (.bipush 40, 2) := by decide +kernel
theorem dX8_create_29 : decode cX8_create 29 = .ok (.if_icmp .ne 7, 3) := by decide +kernel
theorem dX8_create_32 : decode cX8_create 32 = .ok (.iconst 1, 1) := by decide +kernel
theorem dX8_create_33 : decode cX8_create 33 = .ok (.goto 4, 3) := by decide +kernel
theorem dX8_create_36 : decode cX8_create 36 = .ok (.iconst 0, 1) := by decide +kernel
theorem dX8_create_37 : decode cX8_create 37 = .ok (.invokevirtual 248, 3) := by decide +kernel
theorem dX8_create_40 : decode cX8_create 40 = .ok (.istore_n 3, 1) := by decide +kernel
theorem dX8_create_41 : decode cX8_create 41 = .ok (.iload_n 3, 1) := by decide +kernel
theorem dX8_create_42 : decode cX8_create 42 = .ok (.ifCond .eq 5, 3) := by decide +kernel
theorem dX8_create_45 : decode cX8_create 45 = .ok (.iload_n 3, 1) := by decide +kernel
theorem dX8_create_46 : decode cX8_create 46 = .ok (.ireturn, 1) := by decide +kernel
theorem dX8_create_47 : decode cX8_create 47 = .ok (.aload_n 0, 1) := by decide +kernel
theorem dX8_create_48 : decode cX8_create 48 = .ok (.invokevirtual 237, 3) := by decide +kernel
theorem dX8_create_51 : decode cX8_create 51 = .ok (.aload_n 0, 1) := by decide +kernel
theorem dX8_create_52 : decode cX8_create 52 = .ok (.getfield 7, 3) := by decide +kernel
theorem dX8_create_55 : decode cX8_create 55 = .ok (.bipush 9, 2) := by decide +kernel
theorem dX8_create_57 : decode cX8_create 57 = .ok (.iaload, 1) := by decide +kernel
theorem dX8_create_58 : decode cX8_create 58 = .ok (.istore 4, 2) := by decide +kernel
theorem dX8_create_60 : decode cX8_create 60 = .ok (.aload_n 0, 1) := by decide +kernel
theorem dX8_create_61 : decode cX8_create 61 = .ok (.getfield 7, 3) := by decide +kernel
theorem dX8_create_64 : decode cX8_create 64 = .ok (.bipush 9, 2) := by decide +kernel
theorem dX8_create_66 : decode cX8_create 66 = .ok (.dup2, 1) := by decide +kernel
theorem dX8_create_67 : decode cX8_create 67 = .ok (.iaload, 1) := by decide +kernel
theorem dX8_create_68 : decode cX8_create 68 = .ok (.iconst 1, 1) := by decide +kernel
theorem dX8_create_69 : decode cX8_create 69 = .ok (.iadd, 1) := by decide +kernel
theorem dX8_create_70 : decode cX8_create 70 = .ok (.iastore, 1) := by decide +kernel
theorem dX8_create_71 : decode cX8_create 71 = .ok (.aload_n 0, 1) := by decide +kernel
theorem dX8_create_72 : decode cX8_create 72 = .ok (.iload 4, 2) := by decide +kernel
theorem dX8_create_74 : decode cX8_create 74 = .ok (.iload_n 1, 1) := by decide +kernel
theorem dX8_create_75 : decode cX8_create 75 = .ok (.iload_n 2, 1) := by decide +kernel
theorem dX8_create_76 : decode cX8_create 76 = .ok (.invokevirtual 252, 3) := by decide +kernel
theorem dX8_create_79 : decode cX8_create 79 = .ok (.iload 4, 2) := by decide +kernel
theorem dX8_create_81 : decode cX8_create 81 = .ok (.ireturn, 1) := by decide +kernel
set_option maxRecDepth 20000 in
theorem ggX8_closeSession_X8_isPlatter : GoodIn wsX8_closeSession wsX8_isPlatter := goodIn_r _ [10, 3, 11, 12, 9, 13, 69, 70, 71, 72, 73, 74, 75, 76, 77, 78, 79, 80, 81, 82, 83, 84, 85, 86, 87, 88, 89, 90, 91, 92, 93, 94, 95] (by decide +kernel) (by decide +kernel)
set_option maxRecDepth 20000 in
theorem gX8_closeSession_X8_isPlatter : GoodIn wsX8_closeSession (wsV RX8 61 RX8 yX8_isPlatter wsX8_isPlatter) := goodIn_app (goodIn_of _ (by decide +kernel)) ggX8_closeSession_X8_isPlatter
set_option maxRecDepth 20000 in
theorem ggX8_closeSession_X8_remembers : GoodIn wsX8_closeSession wsX8_remembers := goodIn_r _ [17, 18, 19, 3, 69, 70, 71, 72, 73, 74, 75, 76, 77, 78, 79, 80, 81, 82, 83, 84, 85, 86, 87, 88, 89, 90, 91, 92, 93, 94, 95] (by decide +kernel) (by decide +kernel)
set_option maxRecDepth 20000 in
theorem gX8_closeSession_X8_remembers : GoodIn wsX8_closeSession (wsV RX8 237 RX8 yX8_remembers wsX8_remembers) := goodIn_app (goodIn_of _ (by decide +kernel)) ggX8_closeSession_X8_remembers
set_option maxRecDepth 20000 in
theorem ggX8_closeSession_X8_mounts : GoodIn wsX8_closeSession wsX8_mounts := goodIn_r _ [23, 24, 25, 26, 9, 27, 28, 29, 30, 31, 3, 32, 33, 34, 35, 36, 37, 38, 39, 40, 41, 42, 43, 44, 45, 46, 47, 48, 49, 50, 51, 52, 53, 54, 55, 56, 57, 58, 69, 70, 71, 72, 73, 74, 75, 76, 77, 78, 79, 80, 81, 82, 83, 84, 85, 86, 87, 88, 89, 90, 91, 92, 93, 94, 95] (by decide +kernel) (by decide +kernel)
set_option maxRecDepth 20000 in
theorem gX8_closeSession_X8_mounts : GoodIn wsX8_closeSession (wsV RX8 126 RX8 yX8_mounts wsX8_mounts) := goodIn_app (goodIn_of _ (by decide +kernel)) ggX8_closeSession_X8_mounts
set_option maxRecDepth 20000 in
theorem ggX8_closeSession_X8_leadOut : GoodIn wsX8_closeSession wsX8_leadOut := goodIn_r _ [61, 62, 63, 64, 65] (by decide +kernel) (by decide +kernel)
set_option maxRecDepth 20000 in
theorem gX8_closeSession_X8_leadOut : GoodIn wsX8_closeSession (va_wsS RX8 75 yX8_leadOut wsX8_leadOut) := goodIn_app (goodIn_of _ (by decide +kernel)) ggX8_closeSession_X8_leadOut
set_option maxRecDepth 20000 in
theorem ggX8_closeSession_X8_closes : GoodIn wsX8_closeSession wsX8_closes := goodIn_r _ [68, 59, 60, 9, 61, 62, 63, 64, 65] (by decide +kernel) (by decide +kernel)
set_option maxRecDepth 20000 in
theorem gX8_closeSession_X8_closes : GoodIn wsX8_closeSession (va_wsS RX8 256 yX8_closes wsX8_closes) := goodIn_app (goodIn_of _ (by decide +kernel)) ggX8_closeSession_X8_closes
theorem dX8_closeSession_0 : decode cX8_closeSession 0 = .ok (.aload_n 0, 1) := by decide +kernel
theorem dX8_closeSession_1 : decode cX8_closeSession 1 = .ok (.iconst 0, 1) := by decide +kernel
theorem dX8_closeSession_2 : decode cX8_closeSession 2 = .ok (.putfield 51, 3) := by decide +kernel
theorem dX8_closeSession_5 : decode cX8_closeSession 5 = .ok (.aload_n 0, 1) := by decide +kernel
theorem dX8_closeSession_6 : decode cX8_closeSession 6 = .ok (.iload_n 1, 1) := by decide +kernel
theorem dX8_closeSession_7 : decode cX8_closeSession 7 = .ok (.invokevirtual 61, 3) := by decide +kernel
theorem dX8_closeSession_10 : decode cX8_closeSession 10 = .ok (.ifCond .ne 6, 3) := by decide +kernel
theorem dX8_closeSession_13 : decode cX8_closeSession 13 = .ok (.ldc 186, 2) := by decide +kernel
theorem dX8_closeSession_15 : decode cX8_closeSession 15 = .ok (.ireturn, 1) := by decide +kernel
theorem dX8_closeSession_16 : decode cX8_closeSession 16 = .ok (.aload_n 0, 1) := by decide +kernel
theorem dX8_closeSession_17 : decode cX8_closeSession 17 = .ok (.getfield 7, 3) := by decide +kernel
theorem dX8_closeSession_20 : decode cX8_closeSession 20 = .ok (.bipush 79, 2) := by decide +kernel
theorem dX8_closeSession_22 : decode cX8_closeSession 22 = .ok (.iload_n 1, 1) := by decide +kernel
theorem dX8_closeSession_23 : decode cX8_closeSession 23 = .ok (.iadd, 1) := by decide +kernel
theorem dX8_closeSession_24 : decode cX8_closeSession 24 = .ok (.iaload, 1) := by decide +kernel
theorem dX8_closeSession_25 : decode cX8_closeSession 25 = .ok (.ifCond .ne 6, 3) := by decide +kernel
theorem dX8_closeSession_28 : decode cX8_closeSession 28 = .ok (.ldc 42, 2) := by decide +kernel
theorem dX8_closeSession_30 : decode cX8_closeSession 30 = .ok (.ireturn, 1) := by decide +kernel
theorem dX8_closeSession_31 : decode cX8_closeSession 31 = .ok (.aload_n 0, 1) := by decide +kernel
theorem dX8_closeSession_32 : decode cX8_closeSession 32 = .ok (.getfield 7, 3) := by decide +kernel
theorem dX8_closeSession_35 : decode cX8_closeSession 35 = .ok (.bipush 6, 2) := by decide +kernel
theorem dX8_closeSession_37 : decode cX8_closeSession 37 = .ok (.iaload, 1) := by decide +kernel
theorem dX8_closeSession_38 : decode cX8_closeSession 38 = .ok (.ifCond .ne 6, 3) := by decide +kernel
theorem dX8_closeSession_41 : decode cX8_closeSession 41 = .ok (.ldc 177, 2) := by decide +kernel
theorem dX8_closeSession_43 : decode cX8_closeSession 43 = .ok (.ireturn, 1) := by decide +kernel
theorem dX8_closeSession_44 : decode cX8_closeSession 44 = .ok (.aload_n 0, 1) := by decide +kernel
theorem dX8_closeSession_45 : decode cX8_closeSession 45 = .ok (.invokevirtual 237, 3) := by decide +kernel
theorem dX8_closeSession_48 : decode cX8_closeSession 48 = .ok (.aload_n 0, 1) := by decide +kernel
theorem dX8_closeSession_49 : decode cX8_closeSession 49 = .ok (.iload_n 1, 1) := by decide +kernel
theorem dX8_closeSession_50 : decode cX8_closeSession 50 = .ok (.invokevirtual 126, 3) := by decide +kernel
theorem dX8_closeSession_53 : decode cX8_closeSession 53 = .ok (.pop, 1) := by decide +kernel
theorem dX8_closeSession_54 : decode cX8_closeSession 54 = .ok (.aload_n 0, 1) := by decide +kernel
theorem dX8_closeSession_55 : decode cX8_closeSession 55 = .ok (.getfield 7, 3) := by decide +kernel
theorem dX8_closeSession_58 : decode cX8_closeSession 58 = .ok (.iload_n 1, 1) := by decide +kernel
theorem dX8_closeSession_59 : decode cX8_closeSession 59 = .ok (.invokestatic 75, 3) := by decide +kernel
theorem dX8_closeSession_62 : decode cX8_closeSession 62 = .ok (.istore_n 2, 1) := by decide +kernel
theorem dX8_closeSession_63 : decode cX8_closeSession 63 = .ok (.aload_n 0, 1) := by decide +kernel
theorem dX8_closeSession_64 : decode cX8_closeSession 64 = .ok (.getfield 7, 3) := by decide +kernel
theorem dX8_closeSession_67 : decode cX8_closeSession 67 = .ok (.bipush 12, 2) := by decide +kernel
theorem dX8_closeSession_69 : decode cX8_closeSession 69 = .ok (.dup2, 1) := by decide +kernel
theorem dX8_closeSession_70 : decode cX8_closeSession 70 = .ok (.iaload, 1) := by decide +kernel
theorem dX8_closeSession_71 : decode cX8_closeSession 71 = .ok (.aload_n 0, 1) := by decide +kernel
theorem dX8_closeSession_72 : decode cX8_closeSession 72 = .ok (.getfield 7, 3) := by decide +kernel
theorem dX8_closeSession_75 : decode cX8_closeSession 75 = .ok (.iconst 5, 1) := by decide +kernel
theorem dX8_closeSession_76 : decode cX8_closeSession 76 = .ok (.iaload, 1) := by decide +kernel
theorem dX8_closeSession_77 : decode cX8_closeSession 77 = .ok (.iload_n 2, 1) := by decide +kernel
theorem dX8_closeSession_78 : decode cX8_closeSession 78 = .ok (.imul, 1) := by decide +kernel
theorem dX8_closeSession_79 : decode cX8_closeSession 79 = .ok (.iadd, 1) := by decide +kernel
theorem dX8_closeSession_80 : decode cX8_closeSession 80 = .ok (.iastore, 1) := by decide +kernel
theorem dX8_closeSession_81 : decode cX8_closeSession 81 = .ok (.aload_n 0, 1) := by decide +kernel
theorem dX8_closeSession_82 : decode cX8_closeSession 82 = .ok (.getfield 7, 3) := by decide +kernel
theorem dX8_closeSession_85 : decode cX8_closeSession 85 = .ok (.iload_n 1, 1) := by decide +kernel
theorem dX8_closeSession_86 : decode cX8_closeSession 86 = .ok (.invokestatic 256, 3) := by decide +kernel
theorem dX8_closeSession_89 : decode cX8_closeSession 89 = .ok (.iload_n 2, 1) := by decide +kernel
theorem dX8_closeSession_90 : decode cX8_closeSession 90 = .ok (.ireturn, 1) := by decide +kernel
set_option maxRecDepth 20000 in
theorem ggX8_markBad_X8_isSector : GoodIn wsX8_markBad wsX8_isSector := goodIn_r _ [10, 3, 11, 12, 13, 9, 14, 15, 16, 17, 33, 34, 35, 36, 37, 38, 39, 40, 41, 42, 43, 44, 45, 46, 47, 48, 49, 50, 51, 52, 53, 54, 55, 56, 57, 58, 59] (by decide +kernel) (by decide +kernel)
set_option maxRecDepth 20000 in
theorem gX8_markBad_X8_isSector : GoodIn wsX8_markBad (wsV RX8 209 RX8 yX8_isSector wsX8_isSector) := goodIn_app (goodIn_of _ (by decide +kernel)) ggX8_markBad_X8_isSector
set_option maxRecDepth 20000 in
theorem ggX8_markBad_X8_isBad : GoodIn wsX8_markBad wsX8_isBad := goodIn_r _ [20] (by decide +kernel) (by decide +kernel)
set_option maxRecDepth 20000 in
theorem gX8_markBad_X8_isBad : GoodIn wsX8_markBad (va_wsS RX8 212 yX8_isBad wsX8_isBad) := goodIn_app (goodIn_of _ (by decide +kernel)) ggX8_markBad_X8_isBad
set_option maxRecDepth 20000 in
theorem ggX8_markBad_X8_remembers : GoodIn wsX8_markBad wsX8_remembers := goodIn_r _ [24, 25, 26, 3, 33, 34, 35, 36, 37, 38, 39, 40, 41, 42, 43, 44, 45, 46, 47, 48, 49, 50, 51, 52, 53, 54, 55, 56, 57, 58, 59] (by decide +kernel) (by decide +kernel)
set_option maxRecDepth 20000 in
theorem gX8_markBad_X8_remembers : GoodIn wsX8_markBad (wsV RX8 237 RX8 yX8_remembers wsX8_remembers) := goodIn_app (goodIn_of _ (by decide +kernel)) ggX8_markBad_X8_remembers
set_option maxRecDepth 20000 in
theorem ggX8_markBad_X8_marks : GoodIn wsX8_markBad wsX8_marks := goodIn_r _ [29, 30, 31, 9, 32, 15, 16, 17] (by decide +kernel) (by decide +kernel)
set_option maxRecDepth 20000 in
theorem gX8_markBad_X8_marks : GoodIn wsX8_markBad (va_wsS RX8 261 yX8_marks wsX8_marks) := goodIn_app (goodIn_of _ (by decide +kernel)) ggX8_markBad_X8_marks
theorem dX8_markBad_0 : decode cX8_markBad 0 = .ok (.aload_n 0, 1) := by decide +kernel
theorem dX8_markBad_1 : decode cX8_markBad 1 = .ok (.iconst 0, 1) := by decide +kernel
theorem dX8_markBad_2 : decode cX8_markBad 2 = .ok (.putfield 51, 3) := by decide +kernel
theorem dX8_markBad_5 : decode cX8_markBad 5 = .ok (.aload_n 0, 1) := by decide +kernel
theorem dX8_markBad_6 : decode cX8_markBad 6 = .ok (.iload_n 1, 1) := by decide +kernel
theorem dX8_markBad_7 : decode cX8_markBad 7 = .ok (.iload_n 2, 1) := by decide +kernel
theorem dX8_markBad_8 : decode cX8_markBad 8 = .ok (.invokevirtual 209, 3) := by decide +kernel
theorem dX8_markBad_11 : decode cX8_markBad 11 = .ok (.ifCond .ne 6, 3) := by decide +kernel
theorem dX8_markBad_14 : decode cX8_markBad 14 = .ok (.ldc 186, 2) := by decide +kernel
theorem dX8_markBad_16 : decode cX8_markBad 16 = .ok (.ireturn, 1) := by decide +kernel
theorem dX8_markBad_17 : decode cX8_markBad 17 = .ok (.aload_n 0, 1) := by decide +kernel
theorem dX8_markBad_18 : decode cX8_markBad 18 = .ok (.getfield 7, 3) := by decide +kernel
theorem dX8_markBad_21 : decode cX8_markBad 21 = .ok (.iload_n 1, 1) := by decide +kernel
theorem dX8_markBad_22 : decode cX8_markBad 22 = .ok (.iload_n 2, 1) := by decide +kernel
theorem dX8_markBad_23 : decode cX8_markBad 23 = .ok (.invokestatic 212, 3) := by decide +kernel
theorem dX8_markBad_26 : decode cX8_markBad 26 = .ok (.ifCond .eq 7, 3) := by decide +kernel
theorem dX8_markBad_29 : decode cX8_markBad 29 = .ok (.ldc_w 260, 3) := by decide +kernel
theorem dX8_markBad_32 : decode cX8_markBad 32 = .ok (.ireturn, 1) := by decide +kernel
theorem dX8_markBad_33 : decode cX8_markBad 33 = .ok (.aload_n 0, 1) := by decide +kernel
theorem dX8_markBad_34 : decode cX8_markBad 34 = .ok (.getfield 7, 3) := by decide +kernel
theorem dX8_markBad_37 : decode cX8_markBad 37 = .ok (.bipush 8, 2) := by decide +kernel
theorem dX8_markBad_39 : decode cX8_markBad 39 = .ok (.iaload, 1) := by decide +kernel
theorem dX8_markBad_40 : decode cX8_markBad 40 = .ok (.bipush 20, 2) := by decide +kernel
theorem dX8_markBad_42 : decode cX8_markBad 42 = .ok (.if_icmp .ne 6, 3) := by decide +kernel
theorem dX8_markBad_45 : decode cX8_markBad 45 = .ok (.ldc 243, 2) := by decide +kernel
theorem dX8_markBad_47 : decode cX8_markBad 47 = .ok (.ireturn, 1) := by decide +kernel
theorem dX8_markBad_48 : decode cX8_markBad 48 = .ok (.aload_n 0, 1) := by decide +kernel
theorem dX8_markBad_49 : decode cX8_markBad 49 = .ok (.invokevirtual 237, 3) := by decide +kernel
theorem dX8_markBad_52 : decode cX8_markBad 52 = .ok (.aload_n 0, 1) := by decide +kernel
theorem dX8_markBad_53 : decode cX8_markBad 53 = .ok (.getfield 7, 3) := by decide +kernel
theorem dX8_markBad_56 : decode cX8_markBad 56 = .ok (.iload_n 1, 1) := by decide +kernel
theorem dX8_markBad_57 : decode cX8_markBad 57 = .ok (.iload_n 2, 1) := by decide +kernel
theorem dX8_markBad_58 : decode cX8_markBad 58 = .ok (.invokestatic 261, 3) := by decide +kernel
theorem dX8_markBad_61 : decode cX8_markBad 61 = .ok (.iconst 0, 1) := by decide +kernel
theorem dX8_markBad_62 : decode cX8_markBad 62 = .ok (.istore_n 3, 1) := by decide +kernel
theorem dX8_markBad_63 : decode cX8_markBad 63 = .ok (.iconst 0, 1) := by decide +kernel
theorem dX8_markBad_64 : decode cX8_markBad 64 = .ok (.istore 4, 2) := by decide +kernel
theorem dX8_markBad_66 : decode cX8_markBad 66 = .ok (.iload 4, 2) := by decide +kernel
theorem dX8_markBad_68 : decode cX8_markBad 68 = .ok (.aload_n 0, 1) := by decide +kernel
theorem dX8_markBad_69 : decode cX8_markBad 69 = .ok (.getfield 7, 3) := by decide +kernel
theorem dX8_markBad_72 : decode cX8_markBad 72 = .ok (.bipush 10, 2) := by decide +kernel
theorem dX8_markBad_74 : decode cX8_markBad 74 = .ok (.iaload, 1) := by decide +kernel
theorem dX8_markBad_75 : decode cX8_markBad 75 = .ok (.if_icmp .ge 23, 3) := by decide +kernel
theorem dX8_markBad_78 : decode cX8_markBad 78 = .ok (.iload_n 3, 1) := by decide +kernel
theorem dX8_markBad_79 : decode cX8_markBad 79 = .ok (.aload_n 0, 1) := by decide +kernel
theorem dX8_markBad_80 : decode cX8_markBad 80 = .ok (.getfield 7, 3) := by decide +kernel
theorem dX8_markBad_83 : decode cX8_markBad 83 = .ok (.sipush 549, 3) := by decide +kernel
theorem dX8_markBad_86 : decode cX8_markBad 86 = .ok (.iload 4, 2) := by decide +kernel
theorem dX8_markBad_88 : decode cX8_markBad 88 = .ok (.iadd, 1) := by decide +kernel
theorem dX8_markBad_89 : decode cX8_markBad 89 = .ok (.iaload, 1) := by decide +kernel
theorem dX8_markBad_90 : decode cX8_markBad 90 = .ok (.iadd, 1) := by decide +kernel
theorem dX8_markBad_91 : decode cX8_markBad 91 = .ok (.istore_n 3, 1) := by decide +kernel
theorem dX8_markBad_92 : decode cX8_markBad 92 = .ok (.iinc 4 1, 3) := by decide +kernel
theorem dX8_markBad_95 : decode cX8_markBad 95 = .ok (.goto (-29), 3) := by decide +kernel
theorem dX8_markBad_98 : decode cX8_markBad 98 = .ok (.iload_n 3, 1) := by decide +kernel
theorem dX8_markBad_99 : decode cX8_markBad 99 = .ok (.ireturn, 1) := by decide +kernel
theorem dX8_homeAt_0 : decode cX8_homeAt 0 = .ok (.iconst 0, 1) := by decide +kernel
theorem dX8_homeAt_1 : decode cX8_homeAt 1 = .ok (.istore_n 2, 1) := by decide +kernel
theorem dX8_homeAt_2 : decode cX8_homeAt 2 = .ok (.iload_n 2, 1) := by decide +kernel
theorem dX8_homeAt_3 : decode cX8_homeAt 3 = .ok (.aload_n 0, 1) := by decide +kernel
theorem dX8_homeAt_4 : decode cX8_homeAt 4 = .ok (.bipush 7, 2) := by decide +kernel
theorem dX8_homeAt_6 : decode cX8_homeAt 6 = .ok (.iaload, 1) := by decide +kernel
theorem dX8_homeAt_7 : decode cX8_homeAt 7 = .ok (.if_icmp .ge 21, 3) := by decide +kernel
theorem dX8_homeAt_10 : decode cX8_homeAt 10 = .ok (.aload_n 0, 1) := by decide +kernel
theorem dX8_homeAt_11 : decode cX8_homeAt 11 = .ok (.bipush 29, 2) := by decide +kernel
theorem dX8_homeAt_13 : decode cX8_homeAt 13 = .ok (.iload_n 2, 1) := by decide +kernel
theorem dX8_homeAt_14 : decode cX8_homeAt 14 = .ok (.iadd, 1) := by decide +kernel
theorem dX8_homeAt_15 : decode cX8_homeAt 15 = .ok (.iaload, 1) := by decide +kernel
theorem dX8_homeAt_16 : decode cX8_homeAt 16 = .ok (.iload_n 1, 1) := by decide +kernel
theorem dX8_homeAt_17 : decode cX8_homeAt 17 = .ok (.if_icmp .ne 5, 3) := by decide +kernel
theorem dX8_homeAt_20 : decode cX8_homeAt 20 = .ok (.iload_n 2, 1) := by decide +kernel
theorem dX8_homeAt_21 : decode cX8_homeAt 21 = .ok (.ireturn, 1) := by decide +kernel
theorem dX8_homeAt_22 : decode cX8_homeAt 22 = .ok (.iinc 2 1, 3) := by decide +kernel
theorem dX8_homeAt_25 : decode cX8_homeAt 25 = .ok (.goto (-23), 3) := by decide +kernel
theorem dX8_homeAt_28 : decode cX8_homeAt 28 = .ok (.iconst (-1), 1) := by decide +kernel
theorem dX8_homeAt_29 : decode cX8_homeAt 29 = .ok (.ireturn, 1) := by decide +kernel
set_option maxRecDepth 20000 in
theorem ggX8_moveHome_X8_isPlatter : GoodIn wsX8_moveHome wsX8_isPlatter := goodIn_r _ [11, 3, 12, 13, 10, 14, 32, 33, 34, 35, 36, 37, 38, 39, 40, 41, 42, 43, 44, 45, 46, 47, 48, 49, 50, 51, 52, 53, 54, 55, 56, 57, 58] (by decide +kernel) (by decide +kernel)
set_option maxRecDepth 20000 in
theorem gX8_moveHome_X8_isPlatter : GoodIn wsX8_moveHome (wsV RX8 61 RX8 yX8_isPlatter wsX8_isPlatter) := goodIn_app (goodIn_of _ (by decide +kernel)) ggX8_moveHome_X8_isPlatter
set_option maxRecDepth 20000 in
theorem ggX8_moveHome_X8_isSlot : GoodIn wsX8_moveHome wsX8_isSlot := goodIn_r _ [18, 3, 12, 13, 10, 14, 32, 33, 34, 35, 36, 37, 38, 39, 40, 41, 42, 43, 44, 45, 46, 47, 48, 49, 50, 51, 52, 53, 54, 55, 56, 57, 58] (by decide +kernel) (by decide +kernel)
set_option maxRecDepth 20000 in
theorem gX8_moveHome_X8_isSlot : GoodIn wsX8_moveHome (wsV RX8 187 RX8 yX8_isSlot wsX8_isSlot) := goodIn_app (goodIn_of _ (by decide +kernel)) ggX8_moveHome_X8_isSlot
set_option maxRecDepth 20000 in
theorem ggX8_moveHome_X8_inDrive : GoodIn wsX8_moveHome wsX8_inDrive := goodIn_r _ [22, 3, 32, 33, 34, 35, 36, 37, 38, 39, 40, 41, 42, 43, 44, 45, 46, 47, 48, 49, 50, 51, 52, 53, 54, 55, 56, 57, 58] (by decide +kernel) (by decide +kernel)
set_option maxRecDepth 20000 in
theorem gX8_moveHome_X8_inDrive : GoodIn wsX8_moveHome (wsV RX8 109 RX8 yX8_inDrive wsX8_inDrive) := goodIn_app (goodIn_of _ (by decide +kernel)) ggX8_moveHome_X8_inDrive
set_option maxRecDepth 20000 in
theorem ggX8_moveHome_X8_homeAt : GoodIn wsX8_moveHome wsX8_homeAt := goodIn_r _ [25] (by decide +kernel) (by decide +kernel)
set_option maxRecDepth 20000 in
theorem gX8_moveHome_X8_homeAt : GoodIn wsX8_moveHome (va_wsS RX8 265 yX8_homeAt wsX8_homeAt) := goodIn_app (goodIn_of _ (by decide +kernel)) ggX8_moveHome_X8_homeAt
set_option maxRecDepth 20000 in
theorem ggX8_moveHome_X8_remembers : GoodIn wsX8_moveHome wsX8_remembers := goodIn_r _ [29, 30, 31, 3, 32, 33, 34, 35, 36, 37, 38, 39, 40, 41, 42, 43, 44, 45, 46, 47, 48, 49, 50, 51, 52, 53, 54, 55, 56, 57, 58] (by decide +kernel) (by decide +kernel)
set_option maxRecDepth 20000 in
theorem gX8_moveHome_X8_remembers : GoodIn wsX8_moveHome (wsV RX8 237 RX8 yX8_remembers wsX8_remembers) := goodIn_app (goodIn_of _ (by decide +kernel)) ggX8_moveHome_X8_remembers
theorem dX8_moveHome_0 : decode cX8_moveHome 0 = .ok (.aload_n 0, 1) := by decide +kernel
theorem dX8_moveHome_1 : decode cX8_moveHome 1 = .ok (.iconst 0, 1) := by decide +kernel
theorem dX8_moveHome_2 : decode cX8_moveHome 2 = .ok (.putfield 51, 3) := by decide +kernel
theorem dX8_moveHome_5 : decode cX8_moveHome 5 = .ok (.aload_n 0, 1) := by decide +kernel
theorem dX8_moveHome_6 : decode cX8_moveHome 6 = .ok (.iload_n 1, 1) := by decide +kernel
theorem dX8_moveHome_7 : decode cX8_moveHome 7 = .ok (.invokevirtual 61, 3) := by decide +kernel
theorem dX8_moveHome_10 : decode cX8_moveHome 10 = .ok (.ifCond .eq 11, 3) := by decide +kernel
theorem dX8_moveHome_13 : decode cX8_moveHome 13 = .ok (.aload_n 0, 1) := by decide +kernel
theorem dX8_moveHome_14 : decode cX8_moveHome 14 = .ok (.iload_n 2, 1) := by decide +kernel
theorem dX8_moveHome_15 : decode cX8_moveHome 15 = .ok (.invokevirtual 187, 3) := by decide +kernel
theorem dX8_moveHome_18 : decode cX8_moveHome 18 = .ok (.ifCond .ne 6, 3) := by decide +kernel
theorem dX8_moveHome_21 : decode cX8_moveHome 21 = .ok (.ldc 186, 2) := by decide +kernel
theorem dX8_moveHome_23 : decode cX8_moveHome 23 = .ok (.ireturn, 1) := by decide +kernel
theorem dX8_moveHome_24 : decode cX8_moveHome 24 = .ok (.aload_n 0, 1) := by decide +kernel
theorem dX8_moveHome_25 : decode cX8_moveHome 25 = .ok (.getfield 7, 3) := by decide +kernel
theorem dX8_moveHome_28 : decode cX8_moveHome 28 = .ok (.bipush 29, 2) := by decide +kernel
theorem dX8_moveHome_30 : decode cX8_moveHome 30 = .ok (.iload_n 1, 1) := by decide +kernel
theorem dX8_moveHome_31 : decode cX8_moveHome 31 = .ok (.iadd, 1) := by decide +kernel
theorem dX8_moveHome_32 : decode cX8_moveHome 32 = .ok (.iaload, 1) := by decide +kernel
theorem dX8_moveHome_33 : decode cX8_moveHome 33 = .ok (.iload_n 2, 1) := by decide +kernel
theorem dX8_moveHome_34 : decode cX8_moveHome 34 = .ok (.if_icmp .ne 7, 3) := by decide +kernel
theorem dX8_moveHome_37 : decode cX8_moveHome 37 = .ok (.ldc_w 260, 3) := by decide +kernel
theorem dX8_moveHome_40 : decode cX8_moveHome 40 = .ok (.ireturn, 1) := by decide +kernel
theorem dX8_moveHome_41 : decode cX8_moveHome 41 = .ok (.aload_n 0, 1) := by decide +kernel
theorem dX8_moveHome_42 : decode cX8_moveHome 42 = .ok (.iload_n 1, 1) := by decide +kernel
theorem dX8_moveHome_43 : decode cX8_moveHome 43 = .ok (.invokevirtual 109, 3) := by decide +kernel
theorem dX8_moveHome_46 : decode cX8_moveHome 46 = .ok (.iconst (-1), 1) := by decide +kernel
theorem dX8_moveHome_47 : decode cX8_moveHome 47 = .ok (.if_icmp .eq 6, 3) := by decide +kernel
theorem dX8_moveHome_50 : decode cX8_moveHome 50 = .ok (.ldc 42, 2) := by decide +kernel
theorem dX8_moveHome_52 : decode cX8_moveHome 52 = .ok (.ireturn, 1) := by decide +kernel
theorem dX8_moveHome_53 : decode cX8_moveHome 53 = .ok (.aload_n 0, 1) := by decide +kernel
theorem dX8_moveHome_54 : decode cX8_moveHome 54 = .ok (.getfield 7, 3) := by decide +kernel
theorem dX8_moveHome_57 : decode cX8_moveHome 57 = .ok (.iload_n 2, 1) := by decide +kernel
theorem dX8_moveHome_58 : decode cX8_moveHome 58 = .ok (.invokestatic 265, 3) := by decide +kernel
theorem dX8_moveHome_61 : decode cX8_moveHome 61 = .ok (.iconst (-1), 1) := by decide +kernel
theorem dX8_moveHome_62 : decode cX8_moveHome 62 = .ok (.if_icmp .eq 6, 3) := by decide +kernel
theorem dX8_moveHome_65 : decode cX8_moveHome 65 = .ok (.ldc 243, 2) := by decide +kernel
theorem dX8_moveHome_67 : decode cX8_moveHome 67 = .ok (.ireturn, 1) := by decide +kernel
theorem dX8_moveHome_68 : decode cX8_moveHome 68 = .ok (.aload_n 0, 1) := by decide +kernel
theorem dX8_moveHome_69 : decode cX8_moveHome 69 = .ok (.invokevirtual 237, 3) := by decide +kernel
theorem dX8_moveHome_72 : decode cX8_moveHome 72 = .ok (.aload_n 0, 1) := by decide +kernel
theorem dX8_moveHome_73 : decode cX8_moveHome 73 = .ok (.getfield 7, 3) := by decide +kernel
theorem dX8_moveHome_76 : decode cX8_moveHome 76 = .ok (.bipush 29, 2) := by decide +kernel
theorem dX8_moveHome_78 : decode cX8_moveHome 78 = .ok (.iload_n 1, 1) := by decide +kernel
theorem dX8_moveHome_79 : decode cX8_moveHome 79 = .ok (.iadd, 1) := by decide +kernel
theorem dX8_moveHome_80 : decode cX8_moveHome 80 = .ok (.iaload, 1) := by decide +kernel
theorem dX8_moveHome_81 : decode cX8_moveHome 81 = .ok (.istore_n 3, 1) := by decide +kernel
theorem dX8_moveHome_82 : decode cX8_moveHome 82 = .ok (.aload_n 0, 1) := by decide +kernel
theorem dX8_moveHome_83 : decode cX8_moveHome 83 = .ok (.getfield 7, 3) := by decide +kernel
theorem dX8_moveHome_86 : decode cX8_moveHome 86 = .ok (.bipush 29, 2) := by decide +kernel
theorem dX8_moveHome_88 : decode cX8_moveHome 88 = .ok (.iload_n 1, 1) := by decide +kernel
theorem dX8_moveHome_89 : decode cX8_moveHome 89 = .ok (.iadd, 1) := by decide +kernel
theorem dX8_moveHome_90 : decode cX8_moveHome 90 = .ok (.iload_n 2, 1) := by decide +kernel
theorem dX8_moveHome_91 : decode cX8_moveHome 91 = .ok (.iastore, 1) := by decide +kernel
theorem dX8_moveHome_92 : decode cX8_moveHome 92 = .ok (.iload_n 3, 1) := by decide +kernel
theorem dX8_moveHome_93 : decode cX8_moveHome 93 = .ok (.ireturn, 1) := by decide +kernel
set_option maxRecDepth 20000 in
theorem ggX8_setTimes_X8_isIn : GoodIn wsX8_setTimes wsX8_isIn := goodIn_r _ [9] (by decide +kernel) (by decide +kernel)
set_option maxRecDepth 20000 in
theorem gX8_setTimes_X8_isIn : GoodIn wsX8_setTimes (va_wsS RX8 57 yX8_isIn wsX8_isIn) := goodIn_app (goodIn_of _ (by decide +kernel)) ggX8_setTimes_X8_isIn
set_option maxRecDepth 20000 in
theorem ggX8_setTimes_X8_remembers : GoodIn wsX8_setTimes wsX8_remembers := goodIn_r _ [13, 14, 15, 4, 16, 17, 18, 19, 20, 21, 22, 23, 24, 25, 26, 27, 28, 29, 30, 31, 32, 33, 34, 35, 36, 37, 38, 39, 40, 41, 42] (by decide +kernel) (by decide +kernel)
set_option maxRecDepth 20000 in
theorem gX8_setTimes_X8_remembers : GoodIn wsX8_setTimes (wsV RX8 237 RX8 yX8_remembers wsX8_remembers) := goodIn_app (goodIn_of _ (by decide +kernel)) ggX8_setTimes_X8_remembers
theorem dX8_setTimes_0 : decode cX8_setTimes 0 = .ok (.aload_n 0, 1) := by decide +kernel
theorem dX8_setTimes_1 : decode cX8_setTimes 1 = .ok (.iconst 0, 1) := by decide +kernel
theorem dX8_setTimes_2 : decode cX8_setTimes 2 = .ok (.putfield 51, 3) := by decide +kernel
theorem dX8_setTimes_5 : decode cX8_setTimes 5 = .ok (.iload_n 1, 1) := by decide +kernel
theorem dX8_setTimes_6 : decode cX8_setTimes 6 = .ok (.i2l, 1) := by decide +kernel
theorem dX8_setTimes_7 : decode cX8_setTimes 7 = .ok (.lconst 0, 1) := by decide +kernel
theorem dX8_setTimes_8 : decode cX8_setTimes 8 = .ok (.ldc2_w 268, 3) := by decide +kernel
theorem dX8_setTimes_11 : decode cX8_setTimes 11 = .ok (.invokestatic 57, 3) := by decide +kernel
theorem dX8_setTimes_14 : decode cX8_setTimes 14 = .ok (.ifCond .eq 53, 3) := by decide +kernel
theorem dX8_setTimes_17 : decode cX8_setTimes 17 = .ok (.iload_n 2, 1) := by decide +kernel
theorem dX8_setTimes_18 : decode cX8_setTimes 18 = .ok (.i2l, 1) := by decide +kernel
theorem dX8_setTimes_19 : decode cX8_setTimes 19 = .ok (.lconst 0, 1) := by decide +kernel
theorem dX8_setTimes_20 : decode cX8_setTimes 20 = .ok (.ldc2_w 268, 3) := by decide +kernel
theorem dX8_setTimes_23 : decode cX8_setTimes 23 = .ok (.invokestatic 57, 3) := by decide +kernel
theorem dX8_setTimes_26 : decode cX8_setTimes 26 = .ok (.ifCond .eq 41, 3) := by decide +kernel
theorem dX8_setTimes_29 : decode cX8_setTimes 29 = .ok (.iload_n 3, 1) := by decide +kernel
theorem dX8_setTimes_30 : decode cX8_setTimes 30 = .ok (.i2l, 1) := by decide +kernel
theorem dX8_setTimes_31 : decode cX8_setTimes 31 = .ok (.lconst 0, 1) := by decide +kernel
theorem dX8_setTimes_32 : decode cX8_setTimes 32 = .ok (.ldc2_w 268, 3) := by decide +kernel
theorem dX8_setTimes_35 : decode cX8_setTimes 35 = .ok (.invokestatic 57, 3) := by decide +kernel
theorem dX8_setTimes_38 : decode cX8_setTimes 38 = .ok (.ifCond .eq 29, 3) := by decide +kernel
theorem dX8_setTimes_41 : decode cX8_setTimes 41 = .ok (.iload 4, 2) := by decide +kernel
theorem dX8_setTimes_43 : decode cX8_setTimes 43 = .ok (.i2l, 1) := by decide +kernel
theorem dX8_setTimes_44 : decode cX8_setTimes 44 = .ok (.lconst 0, 1) := by decide +kernel
theorem dX8_setTimes_45 : decode cX8_setTimes 45 = .ok (.ldc2_w 268, 3) := by decide +kernel
theorem dX8_setTimes_48 : decode cX8_setTimes 48 = .ok (.invokestatic 57, 3) := by decide +kernel
theorem dX8_setTimes_51 : decode cX8_setTimes 51 = .ok (.ifCond .eq 16, 3) := by decide +kernel
theorem dX8_setTimes_54 : decode cX8_setTimes 54 = .ok (.iload 5, 2) := by decide +kernel
theorem dX8_setTimes_56 : decode cX8_setTimes 56 = .ok (.i2l, 1) := by decide +kernel
theorem dX8_setTimes_57 : decode cX8_setTimes 57 = .ok (.lconst 0, 1) := by decide +kernel
theorem dX8_setTimes_58 : decode cX8_setTimes 58 = .ok (.ldc2_w 268, 3) := by decide +kernel
theorem dX8_setTimes_61 : decode cX8_setTimes 61 = .ok (.invokestatic 57, 3) := by decide +kernel
theorem dX8_setTimes_64 : decode cX8_setTimes 64 = .ok (.ifCond .ne 6, 3) := by decide +kernel
theorem dX8_setTimes_67 : decode cX8_setTimes 67 = .ok (.ldc 224, 2) := by decide +kernel
theorem dX8_setTimes_69 : decode cX8_setTimes 69 = .ok (.ireturn, 1) := by decide +kernel
theorem dX8_setTimes_70 : decode cX8_setTimes 70 = .ok (.aload_n 0, 1) := by decide +kernel
theorem dX8_setTimes_71 : decode cX8_setTimes 71 = .ok (.getfield 7, 3) := by decide +kernel
theorem dX8_setTimes_74 : decode cX8_setTimes 74 = .ok (.iconst 1, 1) := by decide +kernel
theorem dX8_setTimes_75 : decode cX8_setTimes 75 = .ok (.iaload, 1) := by decide +kernel
theorem dX8_setTimes_76 : decode cX8_setTimes 76 = .ok (.iload_n 1, 1) := by decide +kernel
theorem dX8_setTimes_77 : decode cX8_setTimes 77 = .ok (.if_icmp .ne 49, 3) := by decide +kernel
theorem dX8_setTimes_80 : decode cX8_setTimes 80 = .ok (.aload_n 0, 1) := by decide +kernel
theorem dX8_setTimes_81 : decode cX8_setTimes 81 = .ok (.getfield 7, 3) := by decide +kernel
theorem dX8_setTimes_84 : decode cX8_setTimes 84 = .ok (.iconst 2, 1) := by decide +kernel
theorem dX8_setTimes_85 : decode cX8_setTimes 85 = .ok (.iaload, 1) := by decide +kernel
theorem dX8_setTimes_86 : decode cX8_setTimes 86 = .ok (.iload_n 2, 1) := by decide +kernel
theorem dX8_setTimes_87 : decode cX8_setTimes 87 = .ok (.if_icmp .ne 39, 3) := by decide +kernel
theorem dX8_setTimes_90 : decode cX8_setTimes 90 = .ok (.aload_n 0, 1) := by decide +kernel
theorem dX8_setTimes_91 : decode cX8_setTimes 91 = .ok (.getfield 7, 3) := by decide +kernel
theorem dX8_setTimes_94 : decode cX8_setTimes 94 = .ok (.iconst 3, 1) := by decide +kernel
theorem dX8_setTimes_95 : decode cX8_setTimes 95 = .ok (.iaload, 1) := by decide +kernel
theorem dX8_setTimes_96 : decode cX8_setTimes 96 = .ok (.iload_n 3, 1) := by decide +kernel
theorem dX8_setTimes_97 : decode cX8_setTimes 97 = .ok (.if_icmp .ne 29, 3) := by decide +kernel
theorem dX8_setTimes_100 : decode cX8_setTimes 100 = .ok (.aload_n 0, 1) := by decide +kernel
theorem dX8_setTimes_101 : decode cX8_setTimes 101 = .ok (.getfield 7, 3) := by decide +kernel
theorem dX8_setTimes_104 : decode cX8_setTimes 104 = .ok (.iconst 4, 1) := by decide +kernel
theorem dX8_setTimes_105 : decode cX8_setTimes 105 = .ok (.iaload, 1) := by decide +kernel
theorem dX8_setTimes_106 : decode cX8_setTimes 106 = .ok (.iload 4, 2) := by decide +kernel
theorem dX8_setTimes_108 : decode cX8_setTimes 108 = .ok (.if_icmp .ne 18, 3) := by decide +kernel
theorem dX8_setTimes_111 : decode cX8_setTimes 111 = .ok (.aload_n 0, 1) := by decide +kernel
theorem dX8_setTimes_112 : decode cX8_setTimes 112 = .ok (.getfield 7, 3) := by decide +kernel
theorem dX8_setTimes_115 : decode cX8_setTimes 115 = .ok (.iconst 5, 1) := by decide +kernel
theorem dX8_setTimes_116 : decode cX8_setTimes 116 = .ok (.iaload, 1) := by decide +kernel
theorem dX8_setTimes_117 : decode cX8_setTimes 117 = .ok (.iload 5, 2) := by decide +kernel
theorem dX8_setTimes_119 : decode cX8_setTimes 119 = .ok (.if_icmp .ne 7, 3) := by decide +kernel
theorem dX8_setTimes_122 : decode cX8_setTimes 122 = .ok (.ldc_w 260, 3) := by decide +kernel
theorem dX8_setTimes_125 : decode cX8_setTimes 125 = .ok (.ireturn, 1) := by decide +kernel
theorem dX8_setTimes_126 : decode cX8_setTimes 126 = .ok (.aload_n 0, 1) := by decide +kernel
theorem dX8_setTimes_127 : decode cX8_setTimes 127 = .ok (.invokevirtual 237, 3) := by decide +kernel
theorem dX8_setTimes_130 : decode cX8_setTimes 130 = .ok (.aload_n 0, 1) := by decide +kernel
theorem dX8_setTimes_131 : decode cX8_setTimes 131 = .ok (.getfield 7, 3) := by decide +kernel
theorem dX8_setTimes_134 : decode cX8_setTimes 134 = .ok (.iconst 1, 1) := by decide +kernel
theorem dX8_setTimes_135 : decode cX8_setTimes 135 = .ok (.iaload, 1) := by decide +kernel
theorem dX8_setTimes_136 : decode cX8_setTimes 136 = .ok (.aload_n 0, 1) := by decide +kernel
theorem dX8_setTimes_137 : decode cX8_setTimes 137 = .ok (.getfield 7, 3) := by decide +kernel
theorem dX8_setTimes_140 : decode cX8_setTimes 140 = .ok (.iconst 2, 1) := by decide +kernel
theorem dX8_setTimes_141 : decode cX8_setTimes 141 = .ok (.iaload, 1) := by decide +kernel
theorem dX8_setTimes_142 : decode cX8_setTimes 142 = .ok (.iadd, 1) := by decide +kernel
theorem dX8_setTimes_143 : decode cX8_setTimes 143 = .ok (.aload_n 0, 1) := by decide +kernel
theorem dX8_setTimes_144 : decode cX8_setTimes 144 = .ok (.getfield 7, 3) := by decide +kernel
theorem dX8_setTimes_147 : decode cX8_setTimes 147 = .ok (.iconst 3, 1) := by decide +kernel
theorem dX8_setTimes_148 : decode cX8_setTimes 148 = .ok (.iaload, 1) := by decide +kernel
theorem dX8_setTimes_149 : decode cX8_setTimes 149 = .ok (.iadd, 1) := by decide +kernel
theorem dX8_setTimes_150 : decode cX8_setTimes 150 = .ok (.aload_n 0, 1) := by decide +kernel
theorem dX8_setTimes_151 : decode cX8_setTimes 151 = .ok (.getfield 7, 3) := by decide +kernel
theorem dX8_setTimes_154 : decode cX8_setTimes 154 = .ok (.iconst 4, 1) := by decide +kernel
theorem dX8_setTimes_155 : decode cX8_setTimes 155 = .ok (.iaload, 1) := by decide +kernel
theorem dX8_setTimes_156 : decode cX8_setTimes 156 = .ok (.iadd, 1) := by decide +kernel
theorem dX8_setTimes_157 : decode cX8_setTimes 157 = .ok (.aload_n 0, 1) := by decide +kernel
theorem dX8_setTimes_158 : decode cX8_setTimes 158 = .ok (.getfield 7, 3) := by decide +kernel
theorem dX8_setTimes_161 : decode cX8_setTimes 161 = .ok (.iconst 5, 1) := by decide +kernel
theorem dX8_setTimes_162 : decode cX8_setTimes 162 = .ok (.iaload, 1) := by decide +kernel
theorem dX8_setTimes_163 : decode cX8_setTimes 163 = .ok (.iadd, 1) := by decide +kernel
theorem dX8_setTimes_164 : decode cX8_setTimes 164 = .ok (.istore 6, 2) := by decide +kernel
theorem dX8_setTimes_166 : decode cX8_setTimes 166 = .ok (.aload_n 0, 1) := by decide +kernel
theorem dX8_setTimes_167 : decode cX8_setTimes 167 = .ok (.getfield 7, 3) := by decide +kernel
theorem dX8_setTimes_170 : decode cX8_setTimes 170 = .ok (.iconst 1, 1) := by decide +kernel
theorem dX8_setTimes_171 : decode cX8_setTimes 171 = .ok (.iload_n 1, 1) := by decide +kernel
theorem dX8_setTimes_172 : decode cX8_setTimes 172 = .ok (.iastore, 1) := by decide +kernel
theorem dX8_setTimes_173 : decode cX8_setTimes 173 = .ok (.aload_n 0, 1) := by decide +kernel
theorem dX8_setTimes_174 : decode cX8_setTimes 174 = .ok (.getfield 7, 3) := by decide +kernel
theorem dX8_setTimes_177 : decode cX8_setTimes 177 = .ok (.iconst 2, 1) := by decide +kernel
theorem dX8_setTimes_178 : decode cX8_setTimes 178 = .ok (.iload_n 2, 1) := by decide +kernel
theorem dX8_setTimes_179 : decode cX8_setTimes 179 = .ok (.iastore, 1) := by decide +kernel
theorem dX8_setTimes_180 : decode cX8_setTimes 180 = .ok (.aload_n 0, 1) := by decide +kernel
theorem dX8_setTimes_181 : decode cX8_setTimes 181 = .ok (.getfield 7, 3) := by decide +kernel
theorem dX8_setTimes_184 : decode cX8_setTimes 184 = .ok (.iconst 3, 1) := by decide +kernel
theorem dX8_setTimes_185 : decode cX8_setTimes 185 = .ok (.iload_n 3, 1) := by decide +kernel
theorem dX8_setTimes_186 : decode cX8_setTimes 186 = .ok (.iastore, 1) := by decide +kernel
theorem dX8_setTimes_187 : decode cX8_setTimes 187 = .ok (.aload_n 0, 1) := by decide +kernel
theorem dX8_setTimes_188 : decode cX8_setTimes 188 = .ok (.getfield 7, 3) := by decide +kernel
theorem dX8_setTimes_191 : decode cX8_setTimes 191 = .ok (.iconst 4, 1) := by decide +kernel
theorem dX8_setTimes_192 : decode cX8_setTimes 192 = .ok (.iload 4, 2) := by decide +kernel
theorem dX8_setTimes_194 : decode cX8_setTimes 194 = .ok (.iastore, 1) := by decide +kernel
theorem dX8_setTimes_195 : decode cX8_setTimes 195 = .ok (.aload_n 0, 1) := by decide +kernel
theorem dX8_setTimes_196 : decode cX8_setTimes 196 = .ok (.getfield 7, 3) := by decide +kernel
theorem dX8_setTimes_199 : decode cX8_setTimes 199 = .ok (.iconst 5, 1) := by decide +kernel
theorem dX8_setTimes_200 : decode cX8_setTimes 200 = .ok (.iload 5, 2) := by decide +kernel
theorem dX8_setTimes_202 : decode cX8_setTimes 202 = .ok (.iastore, 1) := by decide +kernel
theorem dX8_setTimes_203 : decode cX8_setTimes 203 = .ok (.iload 6, 2) := by decide +kernel
theorem dX8_setTimes_205 : decode cX8_setTimes 205 = .ok (.ireturn, 1) := by decide +kernel
set_option maxRecDepth 20000 in
theorem ggX8_request_X8_isFile : GoodIn wsX8_request wsX8_isFile := goodIn_r _ [10, 4, 11, 12, 9, 13, 36, 37, 38, 39, 40, 41, 42, 43, 44, 45, 46, 47, 48, 49, 50, 51, 52, 53, 54, 55, 56, 57, 58, 59, 60, 61, 62] (by decide +kernel) (by decide +kernel)
set_option maxRecDepth 20000 in
theorem gX8_request_X8_isFile : GoodIn wsX8_request (wsV RX8 228 RX8 yX8_isFile wsX8_isFile) := goodIn_app (goodIn_of _ (by decide +kernel)) ggX8_request_X8_isFile
set_option maxRecDepth 20000 in
theorem ggX8_request_X8_isReadable : GoodIn wsX8_request wsX8_isReadable := goodIn_r _ [17, 18, 19, 20, 9, 21, 4, 22, 23, 24, 25, 26, 27, 28, 29, 36, 37, 38, 39, 40, 41, 42, 43, 44, 45, 46, 47, 48, 49, 50, 51, 52, 53, 54, 55, 56, 57, 58, 59, 60, 61, 62] (by decide +kernel) (by decide +kernel)
set_option maxRecDepth 20000 in
theorem gX8_request_X8_isReadable : GoodIn wsX8_request (wsV RX8 174 RX8 yX8_isReadable wsX8_isReadable) := goodIn_app (goodIn_of _ (by decide +kernel)) ggX8_request_X8_isReadable
set_option maxRecDepth 20000 in
theorem ggX8_request_X8_remembers : GoodIn wsX8_request wsX8_remembers := goodIn_r _ [33, 34, 35, 4, 36, 37, 38, 39, 40, 41, 42, 43, 44, 45, 46, 47, 48, 49, 50, 51, 52, 53, 54, 55, 56, 57, 58, 59, 60, 61, 62] (by decide +kernel) (by decide +kernel)
set_option maxRecDepth 20000 in
theorem gX8_request_X8_remembers : GoodIn wsX8_request (wsV RX8 237 RX8 yX8_remembers wsX8_remembers) := goodIn_app (goodIn_of _ (by decide +kernel)) ggX8_request_X8_remembers
theorem dX8_request_0 : decode cX8_request 0 = .ok (.aload_n 0, 1) := by decide +kernel
theorem dX8_request_1 : decode cX8_request 1 = .ok (.iconst 0, 1) := by decide +kernel
theorem dX8_request_2 : decode cX8_request 2 = .ok (.putfield 51, 3) := by decide +kernel
theorem dX8_request_5 : decode cX8_request 5 = .ok (.aload_n 0, 1) := by decide +kernel
theorem dX8_request_6 : decode cX8_request 6 = .ok (.iload_n 1, 1) := by decide +kernel
theorem dX8_request_7 : decode cX8_request 7 = .ok (.invokevirtual 228, 3) := by decide +kernel
theorem dX8_request_10 : decode cX8_request 10 = .ok (.ifCond .ne 6, 3) := by decide +kernel
theorem dX8_request_13 : decode cX8_request 13 = .ok (.ldc 186, 2) := by decide +kernel
theorem dX8_request_15 : decode cX8_request 15 = .ok (.ireturn, 1) := by decide +kernel
theorem dX8_request_16 : decode cX8_request 16 = .ok (.aload_n 0, 1) := by decide +kernel
theorem dX8_request_17 : decode cX8_request 17 = .ok (.iload_n 1, 1) := by decide +kernel
theorem dX8_request_18 : decode cX8_request 18 = .ok (.invokevirtual 174, 3) := by decide +kernel
theorem dX8_request_21 : decode cX8_request 21 = .ok (.ifCond .ne 6, 3) := by decide +kernel
theorem dX8_request_24 : decode cX8_request 24 = .ok (.ldc 182, 2) := by decide +kernel
theorem dX8_request_26 : decode cX8_request 26 = .ok (.ireturn, 1) := by decide +kernel
theorem dX8_request_27 : decode cX8_request 27 = .ok (.aload_n 0, 1) := by decide +kernel
theorem dX8_request_28 : decode cX8_request 28 = .ok (.getfield 7, 3) := by decide +kernel
theorem dX8_request_31 : decode cX8_request 31 = .ok (.bipush 16, 2) := by decide +kernel
theorem dX8_request_33 : decode cX8_request 33 = .ok (.iaload, 1) := by decide +kernel
theorem dX8_request_34 : decode cX8_request 34 = .ok (.bipush 16, 2) := by decide +kernel
theorem dX8_request_36 : decode cX8_request 36 = .ok (.if_icmp .ne 6, 3) := by decide +kernel
theorem dX8_request_39 : decode cX8_request 39 = .ok (.ldc 243, 2) := by decide +kernel
theorem dX8_request_41 : decode cX8_request 41 = .ok (.ireturn, 1) := by decide +kernel
theorem dX8_request_42 : decode cX8_request 42 = .ok (.aload_n 0, 1) := by decide +kernel
theorem dX8_request_43 : decode cX8_request 43 = .ok (.invokevirtual 237, 3) := by decide +kernel
theorem dX8_request_46 : decode cX8_request 46 = .ok (.aload_n 0, 1) := by decide +kernel
theorem dX8_request_47 : decode cX8_request 47 = .ok (.getfield 7, 3) := by decide +kernel
theorem dX8_request_50 : decode cX8_request 50 = .ok (.sipush 589, 3) := by decide +kernel
theorem dX8_request_53 : decode cX8_request 53 = .ok (.aload_n 0, 1) := by decide +kernel
theorem dX8_request_54 : decode cX8_request 54 = .ok (.getfield 7, 3) := by decide +kernel
theorem dX8_request_57 : decode cX8_request 57 = .ok (.bipush 16, 2) := by decide +kernel
theorem dX8_request_59 : decode cX8_request 59 = .ok (.iaload, 1) := by decide +kernel
theorem dX8_request_60 : decode cX8_request 60 = .ok (.iadd, 1) := by decide +kernel
theorem dX8_request_61 : decode cX8_request 61 = .ok (.iload_n 1, 1) := by decide +kernel
theorem dX8_request_62 : decode cX8_request 62 = .ok (.iastore, 1) := by decide +kernel
theorem dX8_request_63 : decode cX8_request 63 = .ok (.aload_n 0, 1) := by decide +kernel
theorem dX8_request_64 : decode cX8_request 64 = .ok (.getfield 7, 3) := by decide +kernel
theorem dX8_request_67 : decode cX8_request 67 = .ok (.bipush 16, 2) := by decide +kernel
theorem dX8_request_69 : decode cX8_request 69 = .ok (.dup2, 1) := by decide +kernel
theorem dX8_request_70 : decode cX8_request 70 = .ok (.iaload, 1) := by decide +kernel
theorem dX8_request_71 : decode cX8_request 71 = .ok (.iconst 1, 1) := by decide +kernel
theorem dX8_request_72 : decode cX8_request 72 = .ok (.iadd, 1) := by decide +kernel
theorem dX8_request_73 : decode cX8_request 73 = .ok (.iastore, 1) := by decide +kernel
theorem dX8_request_74 : decode cX8_request 74 = .ok (.aload_n 0, 1) := by decide +kernel
theorem dX8_request_75 : decode cX8_request 75 = .ok (.getfield 7, 3) := by decide +kernel
theorem dX8_request_78 : decode cX8_request 78 = .ok (.bipush 16, 2) := by decide +kernel
theorem dX8_request_80 : decode cX8_request 80 = .ok (.iaload, 1) := by decide +kernel
theorem dX8_request_81 : decode cX8_request 81 = .ok (.ireturn, 1) := by decide +kernel
theorem dX8_drops_0 : decode cX8_drops 0 = .ok (.aload_n 0, 1) := by decide +kernel
theorem dX8_drops_1 : decode cX8_drops 1 = .ok (.getfield 7, 3) := by decide +kernel
theorem dX8_drops_4 : decode cX8_drops 4 = .ok (.bipush 16, 2) := by decide +kernel
theorem dX8_drops_6 : decode cX8_drops 6 = .ok (.dup2, 1) := by decide +kernel
theorem dX8_drops_7 : decode cX8_drops 7 = .ok (.iaload, 1) := by decide +kernel
theorem dX8_drops_8 : decode cX8_drops 8 = .ok (.iconst 1, 1) := by decide +kernel
theorem dX8_drops_9 : decode cX8_drops 9 = .ok (.isub, 1) := by decide +kernel
theorem dX8_drops_10 : decode cX8_drops 10 = .ok (.iastore, 1) := by decide +kernel
theorem dX8_drops_11 : decode cX8_drops 11 = .ok (.iload_n 1, 1) := by decide +kernel
theorem dX8_drops_12 : decode cX8_drops 12 = .ok (.istore_n 2, 1) := by decide +kernel
theorem dX8_drops_13 : decode cX8_drops 13 = .ok (.iload_n 2, 1) := by decide +kernel
theorem dX8_drops_14 : decode cX8_drops 14 = .ok (.aload_n 0, 1) := by decide +kernel
theorem dX8_drops_15 : decode cX8_drops 15 = .ok (.getfield 7, 3) := by decide +kernel
theorem dX8_drops_18 : decode cX8_drops 18 = .ok (.bipush 16, 2) := by decide +kernel
theorem dX8_drops_20 : decode cX8_drops 20 = .ok (.iaload, 1) := by decide +kernel
theorem dX8_drops_21 : decode cX8_drops 21 = .ok (.if_icmp .ge 31, 3) := by decide +kernel
theorem dX8_drops_24 : decode cX8_drops 24 = .ok (.aload_n 0, 1) := by decide +kernel
theorem dX8_drops_25 : decode cX8_drops 25 = .ok (.getfield 7, 3) := by decide +kernel
theorem dX8_drops_28 : decode cX8_drops 28 = .ok (.sipush 589, 3) := by decide +kernel
theorem dX8_drops_31 : decode cX8_drops 31 = .ok (.iload_n 2, 1) := by decide +kernel
theorem dX8_drops_32 : decode cX8_drops 32 = .ok (.iadd, 1) := by decide +kernel
theorem dX8_drops_33 : decode cX8_drops 33 = .ok (.aload_n 0, 1) := by decide +kernel
theorem dX8_drops_34 : decode cX8_drops 34 = .ok (.getfield 7, 3) := by decide +kernel
theorem dX8_drops_37 : decode cX8_drops 37 = .ok (.sipush 589, 3) := by decide +kernel
theorem dX8_drops_40 : decode cX8_drops 40 = .ok (.iload_n 2, 1) := by decide +kernel
theorem dX8_drops_41 : decode cX8_drops 41 = .ok (.iadd, 1) := by decide +kernel
theorem dX8_drops_42 : decode cX8_drops 42 = .ok (.iconst 1, 1) := by decide +kernel
theorem dX8_drops_43 : decode cX8_drops 43 = .ok (.iadd, 1) := by decide +kernel
theorem dX8_drops_44 : decode cX8_drops 44 = .ok (.iaload, 1) := by decide +kernel
theorem dX8_drops_45 : decode cX8_drops 45 = .ok (.iastore, 1) := by decide +kernel
theorem dX8_drops_46 : decode cX8_drops 46 = .ok (.iinc 2 1, 3) := by decide +kernel
theorem dX8_drops_49 : decode cX8_drops 49 = .ok (.goto (-36), 3) := by decide +kernel
theorem dX8_drops_52 : decode cX8_drops 52 = .ok (.return_, 1) := by decide +kernel
set_option maxRecDepth 20000 in
theorem ggX8_dropRequest_X8_isRequest : GoodIn wsX8_dropRequest wsX8_isRequest := goodIn_r _ [8, 3, 9, 10, 7, 11, 22, 23, 24, 25, 26, 27, 28, 29, 30, 31, 32, 33, 34, 35, 36, 37, 38, 39, 40, 41, 42, 43, 44, 45, 46, 47, 48] (by decide +kernel) (by decide +kernel)
set_option maxRecDepth 20000 in
theorem gX8_dropRequest_X8_isRequest : GoodIn wsX8_dropRequest (wsV RX8 270 RX8 yX8_isRequest wsX8_isRequest) := goodIn_app (goodIn_of _ (by decide +kernel)) ggX8_dropRequest_X8_isRequest
set_option maxRecDepth 20000 in
theorem ggX8_dropRequest_X8_remembers : GoodIn wsX8_dropRequest wsX8_remembers := goodIn_r _ [15, 16, 17, 3, 22, 23, 24, 25, 26, 27, 28, 29, 30, 31, 32, 33, 34, 35, 36, 37, 38, 39, 40, 41, 42, 43, 44, 45, 46, 47, 48] (by decide +kernel) (by decide +kernel)
set_option maxRecDepth 20000 in
theorem gX8_dropRequest_X8_remembers : GoodIn wsX8_dropRequest (wsV RX8 237 RX8 yX8_remembers wsX8_remembers) := goodIn_app (goodIn_of _ (by decide +kernel)) ggX8_dropRequest_X8_remembers
set_option maxRecDepth 20000 in
theorem ggX8_dropRequest_X8_drops : GoodIn wsX8_dropRequest wsX8_drops := goodIn_r _ [21, 3, 22, 23, 24, 25, 26, 27, 28, 29, 30, 31, 32, 33, 34, 35, 36, 37, 38, 39, 40, 41, 42, 43, 44, 45, 46, 47, 48] (by decide +kernel) (by decide +kernel)
set_option maxRecDepth 20000 in
theorem gX8_dropRequest_X8_drops : GoodIn wsX8_dropRequest (wsV RX8 273 RX8 yX8_drops wsX8_drops) := goodIn_app (goodIn_of _ (by decide +kernel)) ggX8_dropRequest_X8_drops
theorem dX8_dropRequest_0 : decode cX8_dropRequest 0 = .ok (.aload_n 0, 1) := by decide +kernel
theorem dX8_dropRequest_1 : decode cX8_dropRequest 1 = .ok (.iconst 0, 1) := by decide +kernel
theorem dX8_dropRequest_2 : decode cX8_dropRequest 2 = .ok (.putfield 51, 3) := by decide +kernel
theorem dX8_dropRequest_5 : decode cX8_dropRequest 5 = .ok (.aload_n 0, 1) := by decide +kernel
theorem dX8_dropRequest_6 : decode cX8_dropRequest 6 = .ok (.iload_n 1, 1) := by decide +kernel
theorem dX8_dropRequest_7 : decode cX8_dropRequest 7 = .ok (.invokevirtual 270, 3) := by decide +kernel
theorem dX8_dropRequest_10 : decode cX8_dropRequest 10 = .ok (.ifCond .ne 6, 3) := by decide +kernel
theorem dX8_dropRequest_13 : decode cX8_dropRequest 13 = .ok (.ldc 186, 2) := by decide +kernel
theorem dX8_dropRequest_15 : decode cX8_dropRequest 15 = .ok (.ireturn, 1) := by decide +kernel
theorem dX8_dropRequest_16 : decode cX8_dropRequest 16 = .ok (.aload_n 0, 1) := by decide +kernel
theorem dX8_dropRequest_17 : decode cX8_dropRequest 17 = .ok (.invokevirtual 237, 3) := by decide +kernel
theorem dX8_dropRequest_20 : decode cX8_dropRequest 20 = .ok (.aload_n 0, 1) := by decide +kernel
theorem dX8_dropRequest_21 : decode cX8_dropRequest 21 = .ok (.getfield 7, 3) := by decide +kernel
theorem dX8_dropRequest_24 : decode cX8_dropRequest 24 = .ok (.sipush 589, 3) := by decide +kernel
theorem dX8_dropRequest_27 : decode cX8_dropRequest 27 = .ok (.iload_n 1, 1) := by decide +kernel
theorem dX8_dropRequest_28 : decode cX8_dropRequest 28 = .ok (.iadd, 1) := by decide +kernel
theorem dX8_dropRequest_29 : decode cX8_dropRequest 29 = .ok (.iaload, 1) := by decide +kernel
theorem dX8_dropRequest_30 : decode cX8_dropRequest 30 = .ok (.istore_n 2, 1) := by decide +kernel
theorem dX8_dropRequest_31 : decode cX8_dropRequest 31 = .ok (.aload_n 0, 1) := by decide +kernel
theorem dX8_dropRequest_32 : decode cX8_dropRequest 32 = .ok (.iload_n 1, 1) := by decide +kernel
theorem dX8_dropRequest_33 : decode cX8_dropRequest 33 = .ok (.invokevirtual 273, 3) := by decide +kernel
theorem dX8_dropRequest_36 : decode cX8_dropRequest 36 = .ok (.iload_n 2, 1) := by decide +kernel
theorem dX8_dropRequest_37 : decode cX8_dropRequest 37 = .ok (.ireturn, 1) := by decide +kernel
set_option maxRecDepth 20000 in
theorem ggX8_serveBatch_X8_whyNotServed : GoodIn wsX8_serveBatch wsX8_whyNotServed := goodIn_r _ [7, 2, 8, 9, 10, 11, 12, 13, 6, 14, 15, 16, 17, 18, 19, 20, 21, 22, 23, 24, 25, 26, 27, 28, 29, 30, 125, 126, 127, 128, 129, 130, 131, 132, 133, 134, 135, 136, 137, 138, 139, 140, 141, 142, 143, 144, 145, 146, 147, 148, 149, 150, 151] (by decide +kernel) (by decide +kernel)
set_option maxRecDepth 20000 in
theorem gX8_serveBatch_X8_whyNotServed : GoodIn wsX8_serveBatch (wsV RX8 276 RX8 yX8_whyNotServed wsX8_whyNotServed) := goodIn_app (goodIn_of _ (by decide +kernel)) ggX8_serveBatch_X8_whyNotServed
set_option maxRecDepth 20000 in
theorem ggX8_serveBatch_X8_remembers : GoodIn wsX8_serveBatch wsX8_remembers := goodIn_r _ [34, 35, 36, 2, 125, 126, 127, 128, 129, 130, 131, 132, 133, 134, 135, 136, 137, 138, 139, 140, 141, 142, 143, 144, 145, 146, 147, 148, 149, 150, 151] (by decide +kernel) (by decide +kernel)
set_option maxRecDepth 20000 in
theorem gX8_serveBatch_X8_remembers : GoodIn wsX8_serveBatch (wsV RX8 237 RX8 yX8_remembers wsX8_remembers) := goodIn_app (goodIn_of _ (by decide +kernel)) ggX8_serveBatch_X8_remembers
set_option maxRecDepth 20000 in
theorem ggX8_serveBatch_X8_serves : GoodIn wsX8_serveBatch wsX8_serves := goodIn_r _ [40, 2, 41, 42, 43, 44, 45, 46, 6, 47, 48, 49, 50, 51, 19, 20, 21, 22, 52, 53, 54, 55, 56, 57, 58, 59, 60, 61, 62, 63, 64, 65, 66, 67, 68, 69, 70, 71, 72, 73, 74, 75, 76, 77, 78, 79, 80, 81, 82, 83, 84, 85, 86, 87, 88, 89, 90, 91, 92, 93, 94, 95, 96, 97, 98, 99, 100, 101, 102, 103, 104, 105, 106, 107, 108, 109, 110, 111, 112, 113, 114, 115, 116, 117, 118, 119, 120, 125, 126, 127, 128, 129, 130, 131, 132, 133, 134, 135, 136, 137, 138, 139, 140, 141, 142, 143, 144, 145, 146, 147, 148, 149, 150, 151] (by decide +kernel) (by decide +kernel)
set_option maxRecDepth 20000 in
theorem gX8_serveBatch_X8_serves : GoodIn wsX8_serveBatch (wsV RX8 183 RX8 yX8_serves wsX8_serves) := goodIn_app (goodIn_of _ (by decide +kernel)) ggX8_serveBatch_X8_serves
set_option maxRecDepth 20000 in
theorem ggX8_serveBatch_X8_took : GoodIn wsX8_serveBatch wsX8_took := goodIn_r _ [124, 2, 125, 126, 127, 128, 129, 130, 131, 132, 133, 134, 135, 136, 137, 138, 139, 140, 141, 142, 143, 144, 145, 146, 147, 148, 149, 150, 151] (by decide +kernel) (by decide +kernel)
set_option maxRecDepth 20000 in
theorem gX8_serveBatch_X8_took : GoodIn wsX8_serveBatch (wsV RX8 240 RX8 yX8_took wsX8_took) := goodIn_app (goodIn_of _ (by decide +kernel)) ggX8_serveBatch_X8_took
theorem dX8_serveBatch_0 : decode cX8_serveBatch 0 = .ok (.aload_n 0, 1) := by decide +kernel
theorem dX8_serveBatch_1 : decode cX8_serveBatch 1 = .ok (.iconst 0, 1) := by decide +kernel
theorem dX8_serveBatch_2 : decode cX8_serveBatch 2 = .ok (.putfield 51, 3) := by decide +kernel
theorem dX8_serveBatch_5 : decode cX8_serveBatch 5 = .ok (.aload_n 0, 1) := by decide +kernel
theorem dX8_serveBatch_6 : decode cX8_serveBatch 6 = .ok (.iconst 1, 1) := by decide +kernel
theorem dX8_serveBatch_7 : decode cX8_serveBatch 7 = .ok (.invokevirtual 276, 3) := by decide +kernel
theorem dX8_serveBatch_10 : decode cX8_serveBatch 10 = .ok (.istore_n 1, 1) := by decide +kernel
theorem dX8_serveBatch_11 : decode cX8_serveBatch 11 = .ok (.iload_n 1, 1) := by decide +kernel
theorem dX8_serveBatch_12 : decode cX8_serveBatch 12 = .ok (.ifCond .eq 5, 3) := by decide +kernel
theorem dX8_serveBatch_15 : decode cX8_serveBatch 15 = .ok (.iload_n 1, 1) := by decide +kernel
theorem dX8_serveBatch_16 : decode cX8_serveBatch 16 = .ok (.ireturn, 1) := by decide +kernel
theorem dX8_serveBatch_17 : decode cX8_serveBatch 17 = .ok (.aload_n 0, 1) := by decide +kernel
theorem dX8_serveBatch_18 : decode cX8_serveBatch 18 = .ok (.invokevirtual 237, 3) := by decide +kernel
theorem dX8_serveBatch_21 : decode cX8_serveBatch 21 = .ok (.aload_n 0, 1) := by decide +kernel
theorem dX8_serveBatch_22 : decode cX8_serveBatch 22 = .ok (.getfield 7, 3) := by decide +kernel
theorem dX8_serveBatch_25 : decode cX8_serveBatch 25 = .ok (.bipush 12, 2) := by decide +kernel
theorem dX8_serveBatch_27 : decode cX8_serveBatch 27 = .ok (.iaload, 1) := by decide +kernel
theorem dX8_serveBatch_28 : decode cX8_serveBatch 28 = .ok (.istore_n 2, 1) := by decide +kernel
theorem dX8_serveBatch_29 : decode cX8_serveBatch 29 = .ok (.aload_n 0, 1) := by decide +kernel
theorem dX8_serveBatch_30 : decode cX8_serveBatch 30 = .ok (.invokevirtual 183, 3) := by decide +kernel
theorem dX8_serveBatch_33 : decode cX8_serveBatch 33 = .ok (.aload_n 0, 1) := by decide +kernel
theorem dX8_serveBatch_34 : decode cX8_serveBatch 34 = .ok (.iload_n 2, 1) := by decide +kernel
theorem dX8_serveBatch_35 : decode cX8_serveBatch 35 = .ok (.invokevirtual 240, 3) := by decide +kernel
theorem dX8_serveBatch_38 : decode cX8_serveBatch 38 = .ok (.ireturn, 1) := by decide +kernel
theorem dX8_undo_0 : decode cX8_undo 0 = .ok (.aload_n 0, 1) := by decide +kernel
theorem dX8_undo_1 : decode cX8_undo 1 = .ok (.iconst 0, 1) := by decide +kernel
theorem dX8_undo_2 : decode cX8_undo 2 = .ok (.putfield 51, 3) := by decide +kernel
theorem dX8_undo_5 : decode cX8_undo 5 = .ok (.aload_n 0, 1) := by decide +kernel
theorem dX8_undo_6 : decode cX8_undo 6 = .ok (.getfield 54, 3) := by decide +kernel
theorem dX8_undo_9 : decode cX8_undo 9 = .ok (.ifCond .ne 6, 3) := by decide +kernel
theorem dX8_undo_12 : decode cX8_undo 12 = .ok (.ldc 42, 2) := by decide +kernel
theorem dX8_undo_14 : decode cX8_undo 14 = .ok (.ireturn, 1) := by decide +kernel
theorem dX8_undo_15 : decode cX8_undo 15 = .ok (.aload_n 0, 1) := by decide +kernel
theorem dX8_undo_16 : decode cX8_undo 16 = .ok (.dup, 1) := by decide +kernel
theorem dX8_undo_17 : decode cX8_undo 17 = .ok (.getfield 54, 3) := by decide +kernel
theorem dX8_undo_20 : decode cX8_undo 20 = .ok (.iconst 1, 1) := by decide +kernel
theorem dX8_undo_21 : decode cX8_undo 21 = .ok (.isub, 1) := by decide +kernel
theorem dX8_undo_22 : decode cX8_undo 22 = .ok (.putfield 54, 3) := by decide +kernel
theorem dX8_undo_25 : decode cX8_undo 25 = .ok (.iconst 0, 1) := by decide +kernel
theorem dX8_undo_26 : decode cX8_undo 26 = .ok (.istore_n 1, 1) := by decide +kernel
theorem dX8_undo_27 : decode cX8_undo 27 = .ok (.iload_n 1, 1) := by decide +kernel
theorem dX8_undo_28 : decode cX8_undo 28 = .ok (.sipush 605, 3) := by decide +kernel
theorem dX8_undo_31 : decode cX8_undo 31 = .ok (.if_icmp .ge 30, 3) := by decide +kernel
theorem dX8_undo_34 : decode cX8_undo 34 = .ok (.aload_n 0, 1) := by decide +kernel
theorem dX8_undo_35 : decode cX8_undo 35 = .ok (.getfield 7, 3) := by decide +kernel
theorem dX8_undo_38 : decode cX8_undo 38 = .ok (.iload_n 1, 1) := by decide +kernel
theorem dX8_undo_39 : decode cX8_undo 39 = .ok (.aload_n 0, 1) := by decide +kernel
theorem dX8_undo_40 : decode cX8_undo 40 = .ok (.getfield 19, 3) := by decide +kernel
theorem dX8_undo_43 : decode cX8_undo 43 = .ok (.sipush 605, 3) := by decide +kernel
theorem dX8_undo_46 : decode cX8_undo 46 = .ok (.aload_n 0, 1) := by decide +kernel
theorem dX8_undo_47 : decode cX8_undo 47 = .ok (.getfield 54, 3) := by decide +kernel
theorem dX8_undo_50 : decode cX8_undo 50 = .ok (.imul, 1) := by decide +kernel
theorem dX8_undo_51 : decode cX8_undo 51 = .ok (.iload_n 1, 1) := by decide +kernel
theorem dX8_undo_52 : decode cX8_undo 52 = .ok (.iadd, 1) := by decide +kernel
theorem dX8_undo_53 : decode cX8_undo 53 = .ok (.iaload, 1) := by decide +kernel
theorem dX8_undo_54 : decode cX8_undo 54 = .ok (.iastore, 1) := by decide +kernel
theorem dX8_undo_55 : decode cX8_undo 55 = .ok (.iinc 1 1, 3) := by decide +kernel
theorem dX8_undo_58 : decode cX8_undo 58 = .ok (.goto (-31), 3) := by decide +kernel
theorem dX8_undo_61 : decode cX8_undo 61 = .ok (.aload_n 0, 1) := by decide +kernel
theorem dX8_undo_62 : decode cX8_undo 62 = .ok (.getfield 54, 3) := by decide +kernel
theorem dX8_undo_65 : decode cX8_undo 65 = .ok (.ireturn, 1) := by decide +kernel
set_option maxRecDepth 20000 in
theorem ggX8_requestedFile_X8_isRequest : GoodIn wsX8_requestedFile wsX8_isRequest := goodIn_r _ [8, 2, 9, 10, 7, 11, 12, 13, 14, 15, 16, 17, 18, 19, 20, 21, 22, 23, 24, 25, 26, 27, 28, 29, 30, 31, 32, 33, 34, 35, 36, 37, 38] (by decide +kernel) (by decide +kernel)
set_option maxRecDepth 20000 in
theorem gX8_requestedFile_X8_isRequest : GoodIn wsX8_requestedFile (wsV RX8 270 RX8 yX8_isRequest wsX8_isRequest) := goodIn_app (goodIn_of _ (by decide +kernel)) ggX8_requestedFile_X8_isRequest
theorem dX8_requestedFile_0 : decode cX8_requestedFile 0 = .ok (.aload_n 0, 1) := by decide +kernel
theorem dX8_requestedFile_1 : decode cX8_requestedFile 1 = .ok (.iconst 0, 1) := by decide +kernel
theorem dX8_requestedFile_2 : decode cX8_requestedFile 2 = .ok (.putfield 51, 3) := by decide +kernel
theorem dX8_requestedFile_5 : decode cX8_requestedFile 5 = .ok (.aload_n 0, 1) := by decide +kernel
theorem dX8_requestedFile_6 : decode cX8_requestedFile 6 = .ok (.iload_n 1, 1) := by decide +kernel
theorem dX8_requestedFile_7 : decode cX8_requestedFile 7 = .ok (.invokevirtual 270, 3) := by decide +kernel
theorem dX8_requestedFile_10 : decode cX8_requestedFile 10 = .ok (.ifCond .eq 16, 3) := by decide +kernel
theorem dX8_requestedFile_13 : decode cX8_requestedFile 13 = .ok (.aload_n 0, 1) := by decide +kernel
theorem dX8_requestedFile_14 : decode cX8_requestedFile 14 = .ok (.getfield 7, 3) := by decide +kernel
theorem dX8_requestedFile_17 : decode cX8_requestedFile 17 = .ok (.sipush 589, 3) := by decide +kernel
theorem dX8_requestedFile_20 : decode cX8_requestedFile 20 = .ok (.iload_n 1, 1) := by decide +kernel
theorem dX8_requestedFile_21 : decode cX8_requestedFile 21 = .ok (.iadd, 1) := by decide +kernel
theorem dX8_requestedFile_22 : decode cX8_requestedFile 22 = .ok (.iaload, 1) := by decide +kernel
theorem dX8_requestedFile_23 : decode cX8_requestedFile 23 = .ok (.goto 5, 3) := by decide +kernel
theorem dX8_requestedFile_26 : decode cX8_requestedFile 26 = .ok (.ldc 186, 2) := by decide +kernel
theorem dX8_requestedFile_28 : decode cX8_requestedFile 28 = .ok (.ireturn, 1) := by decide +kernel
set_option maxRecDepth 20000 in
theorem ggX8_batchTime_X8_whyNotServed : GoodIn wsX8_batchTime wsX8_whyNotServed := goodIn_r _ [6, 7, 8, 9, 10, 11, 12, 13, 5, 14, 15, 16, 17, 18, 19, 20, 21, 22, 23, 24, 25, 26, 27, 28, 29, 30, 132, 133, 134, 135, 136, 137, 138, 139, 140, 141, 142, 143, 144, 145, 146, 147, 148, 149, 150, 151, 152, 153, 154, 155, 156, 157, 158] (by decide +kernel) (by decide +kernel)
set_option maxRecDepth 20000 in
theorem gX8_batchTime_X8_whyNotServed : GoodIn wsX8_batchTime (wsV RX8 276 RX8 yX8_whyNotServed wsX8_whyNotServed) := goodIn_app (goodIn_of _ (by decide +kernel)) ggX8_batchTime_X8_whyNotServed
set_option maxRecDepth 20000 in
theorem ggX8_batchTime_X8_servingTime : GoodIn wsX8_batchTime wsX8_servingTime := goodIn_r _ [34, 35, 36, 37, 5, 38, 7, 39, 40, 41, 42, 43, 44, 45, 46, 47, 48, 49, 50, 51, 52, 53, 54, 55, 56, 57, 58, 19, 20, 21, 22, 59, 60, 61, 62, 63, 64, 65, 66, 67, 68, 69, 70, 71, 72, 73, 74, 75, 76, 77, 78, 79, 80, 81, 82, 83, 84, 85, 86, 87, 88, 89, 90, 91, 92, 93, 94, 95, 96, 97, 98, 99, 100, 101, 102, 103, 104, 105, 106, 107, 108, 109, 110, 111, 112, 113, 114, 115, 116, 117, 118, 119, 120, 121, 122, 123, 124, 125, 126, 127, 128, 129, 130, 131, 132, 133, 134, 135, 136, 137, 138, 139, 140, 141, 142, 143, 144, 145, 146, 147, 148, 149, 150, 151, 152, 153, 154, 155, 156, 157, 158] (by decide +kernel) (by decide +kernel)
set_option maxRecDepth 20000 in
theorem gX8_batchTime_X8_servingTime : GoodIn wsX8_batchTime (wsV RX8 279 RX8 yX8_servingTime wsX8_servingTime) := goodIn_app (goodIn_of _ (by decide +kernel)) ggX8_batchTime_X8_servingTime
theorem dX8_batchTime_0 : decode cX8_batchTime 0 = .ok (.aload_n 0, 1) := by decide +kernel
theorem dX8_batchTime_1 : decode cX8_batchTime 1 = .ok (.iconst 0, 1) := by decide +kernel
theorem dX8_batchTime_2 : decode cX8_batchTime 2 = .ok (.putfield 51, 3) := by decide +kernel
theorem dX8_batchTime_5 : decode cX8_batchTime 5 = .ok (.aload_n 0, 1) := by decide +kernel
theorem dX8_batchTime_6 : decode cX8_batchTime 6 = .ok (.iconst 1, 1) := by decide +kernel
theorem dX8_batchTime_7 : decode cX8_batchTime 7 = .ok (.invokevirtual 276, 3) := by decide +kernel
theorem dX8_batchTime_10 : decode cX8_batchTime 10 = .ok (.istore_n 1, 1) := by decide +kernel
theorem dX8_batchTime_11 : decode cX8_batchTime 11 = .ok (.iload_n 1, 1) := by decide +kernel
theorem dX8_batchTime_12 : decode cX8_batchTime 12 = .ok (.ifCond .eq 7, 3) := by decide +kernel
theorem dX8_batchTime_15 : decode cX8_batchTime 15 = .ok (.iload_n 1, 1) := by decide +kernel
theorem dX8_batchTime_16 : decode cX8_batchTime 16 = .ok (.goto 7, 3) := by decide +kernel
theorem dX8_batchTime_19 : decode cX8_batchTime 19 = .ok (.aload_n 0, 1) := by decide +kernel
theorem dX8_batchTime_20 : decode cX8_batchTime 20 = .ok (.invokevirtual 279, 3) := by decide +kernel
theorem dX8_batchTime_23 : decode cX8_batchTime 23 = .ok (.ireturn, 1) := by decide +kernel
abbrev rm_X8_fillBits : Room := { frames := 3, cells := 0, slots := 0, locals := 80 }
set_option maxRecDepth 100000 in
set_option maxHeartbeats 4000000 in
theorem ct_X8_fillBits (l : Launch) (g : GT) (hfl : 2 ≤ gf g) (w : WT) (md : SD) (mn : Nat → Int64) (mw : Int64) (a1 : Int32) {q : (Int32 × SD)} (hf : f_X8_fillBits md a1 = some q) : Met l yX8_fillBits wsX8_fillBits rm_X8_fillBits (cPre g (wM w md mn mw) [.ref (adr (g.1 + 189) 8 0), .int a1]) (cQi g q.1 (wM w q.2 mn mw)) 0 0 (gA g) := by
  have i_8 : ∀ w ∈ u_ws RX8 TX8 27, w ∈ wsX8_fillBits := by decide +kernel
  refine x_met (by decide) rfl (Nat.le_of_ble_eq_true rfl) ?_
  intro p e s m below meth c hx hb hr hml hts hown hlocks hK hW hS ls hl
  have hown : s.vm.findClass RX8 = some m.cls := hown
  have hl : lv_has ls 2 [(0, .ref (adr (g.1 + 189) 8 0)), (1, .int a1)] := hl
  rw [f_X8_fillBits] at hf
  refine lv_aload_n hx hb dX8_fillBits_0 rfl (lv_at hl 0 rfl) ?_
  refine lv_iconst (v := 0) hx hb dX8_fillBits_1 (by decide) ?_
  obtain ⟨md1, e_md1, hf⟩ := x_letE hf
  refine x_put (i := (g.1 + 189)) (k := 8) (j := 0) (t := 0) (w' := wM w md1 mn mw) hx hb hts i_8 tyX8 tyX8_ok nmX8 hown hK hW ⟨⟨hfl, rfl⟩, by decide⟩ hS rfl ⟨by decide, by decide, rfl⟩ (hts (.fieldLink RX8 51 "OpticalJukeboxModel" "thrown" "I") (by decide +kernel)) rfl (ty := .int) (by decide +kernel) rfl rfl ⟨rfl, rfl⟩ dX8_fillBits_2 (fp_M e_md1 rfl) (fun H locs hW hS => ?_)
  refine lv_aload_n hx hb dX8_fillBits_5 rfl (lv_at hl 0 rfl) ?_
  refine lv_iload_n hx hb dX8_fillBits_6 rfl (lv_at hl 1 rfl) ?_
  obtain ⟨q2, h_q2, hf⟩ := x_bindE hf
  refine x_ci0 (x_rV ⟨hx, hb, hml, hown, hts⟩ (ct_X8_isPlatter l g hfl w md1 mn mw (a1) h_q2) (cwV 1 hts gX8_fillBits_X8_isPlatter rfl rfl rfl (by decide +kernel) ⟨Nat.le_of_ble_eq_true rfl, Nat.le_of_ble_eq_true rfl⟩) hK hW hS (x_recv (i := (g.1 + 189)) (k := 8) (j := 0) hK hW ⟨⟨hfl, rfl⟩, by decide⟩ rfl (by decide)) rfl hl.1 (rest := []) rfl (Nat.le_of_ble_eq_true rfl) dX8_fillBits_7 ⟨Nat.le_of_ble_eq_true rfl, Nat.le_of_ble_eq_true rfl⟩) hS (fun H locs hW hS => ?_)
  have hW : World g (wM w md1 mn mw) H := hW
  refine W.eq (g2 := F0 m 10 ls [.int q2]) rfl ?_
  refine lv_if_eq (tgt := 40) hx hb dX8_fillBits_10 (by decide) (fun hc => ?_) (fun hc => ?_)
  · have hf := x_iteT hf hc
    refine lv_ldc (v := -1000001) hx hb hown (hts (.constant RX8 186 (-1000001)) (by decide +kernel)) dX8_fillBits_40 ?_
    cases hf
    exact x_iret hx hb hr hlocks hK hW hS rfl dX8_fillBits_42
  · have hf := x_iteF hf hc
    refine lv_aload_n hx hb dX8_fillBits_13 rfl (lv_at hl 0 rfl) ?_
    refine x_get (i := (g.1 + 189)) (k := 8) (j := 0) (t := 1) hx hb hts i_8 hown hK hW ⟨⟨hfl, rfl⟩, by decide⟩ rfl ⟨by decide, by decide, rfl⟩ (hts (.fieldLink RX8 7 "OpticalJukeboxModel" "now" "[I") (by decide +kernel)) (v := .ref (adr (g.1 + 189) 30 0)) rfl dX8_fillBits_14 ?_
    refine lv_bipush (v := 59) hx hb dX8_fillBits_17 (by decide) ?_
    refine lv_iload_n hx hb dX8_fillBits_19 rfl (lv_at hl 1 rfl) ?_
    refine lv_iadd hx hb dX8_fillBits_20 ?_
    obtain ⟨hg3, hf⟩ := x_guardE hf
    refine x_iald (i := (g.1 + 189)) (k := 30) (j := 0) (f := md1 30 0) hx hb hK hW ⟨⟨hfl, rfl⟩, by decide⟩ (by decide) (rfl) rfl hg3 dX8_fillBits_21 ?_
    refine lv_i2f hx hb dX8_fillBits_22 ?_
    refine lv_aload_n hx hb dX8_fillBits_23 rfl (lv_at hl 0 rfl) ?_
    refine x_get (i := (g.1 + 189)) (k := 8) (j := 0) (t := 1) hx hb hts i_8 hown hK hW ⟨⟨hfl, rfl⟩, by decide⟩ rfl ⟨by decide, by decide, rfl⟩ (hts (.fieldLink RX8 7 "OpticalJukeboxModel" "now" "[I") (by decide +kernel)) (v := .ref (adr (g.1 + 189) 30 0)) rfl dX8_fillBits_24 ?_
    refine lv_bipush (v := 39) hx hb dX8_fillBits_27 (by decide) ?_
    refine lv_iload_n hx hb dX8_fillBits_29 rfl (lv_at hl 1 rfl) ?_
    refine lv_iadd hx hb dX8_fillBits_30 ?_
    obtain ⟨hg4, hf⟩ := x_guardE hf
    refine x_iald (i := (g.1 + 189)) (k := 30) (j := 0) (f := md1 30 0) hx hb hK hW ⟨⟨hfl, rfl⟩, by decide⟩ (by decide) (rfl) rfl hg4 dX8_fillBits_31 ?_
    refine lv_i2f hx hb dX8_fillBits_32 ?_
    obtain ⟨hg5, hf⟩ := x_guardE hf
    refine lv_fdiv hx hb dX8_fillBits_33 hg5 ?_
    obtain ⟨hg6, hf⟩ := x_guardE hf
    obtain ⟨x7, e_x7, hf⟩ := x_letE hf
    refine x_ci0 (x_rS ⟨hx, hb, hml, hown, hts⟩ (ct_fbits l g (wM w md1 mn mw) (FP.fdiv (FP.i2f (md1 30 0 (((59 : Int32) + a1)).toNatClampNeg)) (FP.i2f (md1 30 0 (((39 : Int32) + a1)).toNatClampNeg))) hg6 e_x7) (va_cwS 1 hts gX8_fillBits_Jxf58ca_floatToIntBits_5c35a rfl rfl rfl (by decide +kernel) ⟨Nat.le_of_ble_eq_true rfl, Nat.le_of_ble_eq_true rfl⟩) hK hW hS rfl hl.1 (rest := []) rfl (Nat.le_of_ble_eq_true rfl) dX8_fillBits_34 ⟨Nat.le_of_ble_eq_true rfl, Nat.le_of_ble_eq_true rfl⟩) hS (fun H locs hW hS => ?_)
    refine lv_goto (tgt := 42) hx hb dX8_fillBits_37 (by decide) ?_
    cases hf
    exact x_iret hx hb hr hlocks hK hW hS rfl dX8_fillBits_42
abbrev rm_X8_cleanRun : Room := { frames := 2, cells := 0, slots := 0, locals := 46 }
set_option maxRecDepth 100000 in
set_option maxHeartbeats 4000000 in
theorem ct_X8_cleanRun (l : Launch) (g : GT) (hfl : 2 ≤ gf g) (w : WT) (md : SD) (mn : Nat → Int64) (mw : Int64) (a1 : Int32) {q : (Int32 × SD)} (hf : f_X8_cleanRun md a1 = some q) : Met l yX8_cleanRun wsX8_cleanRun rm_X8_cleanRun (cPre g (wM w md mn mw) [.ref (adr (g.1 + 189) 8 0), .int a1]) (cQi g q.1 (wM w q.2 mn mw)) 0 0 (gA g) := by
  have i_8 : ∀ w ∈ u_ws RX8 TX8 27, w ∈ wsX8_cleanRun := by decide +kernel
  refine x_met (by decide) rfl (Nat.le_of_ble_eq_true rfl) ?_
  intro p e s m below meth c hx hb hr hml hts hown hlocks hK hW hS ls hl
  have hown : s.vm.findClass RX8 = some m.cls := hown
  have hl : lv_has ls 5 [(0, .ref (adr (g.1 + 189) 8 0)), (1, .int a1)] := hl
  rw [f_X8_cleanRun] at hf
  refine lv_aload_n hx hb dX8_cleanRun_0 rfl (lv_at hl 0 rfl) ?_
  refine lv_iconst (v := 0) hx hb dX8_cleanRun_1 (by decide) ?_
  obtain ⟨md1, e_md1, hf⟩ := x_letE hf
  refine x_put (i := (g.1 + 189)) (k := 8) (j := 0) (t := 0) (w' := wM w md1 mn mw) hx hb hts i_8 tyX8 tyX8_ok nmX8 hown hK hW ⟨⟨hfl, rfl⟩, by decide⟩ hS rfl ⟨by decide, by decide, rfl⟩ (hts (.fieldLink RX8 51 "OpticalJukeboxModel" "thrown" "I") (by decide +kernel)) rfl (ty := .int) (by decide +kernel) rfl rfl ⟨rfl, rfl⟩ dX8_cleanRun_2 (fp_M e_md1 rfl) (fun H locs hW hS => ?_)
  refine lv_aload_n hx hb dX8_cleanRun_5 rfl (lv_at hl 0 rfl) ?_
  refine lv_iload_n hx hb dX8_cleanRun_6 rfl (lv_at hl 1 rfl) ?_
  obtain ⟨q2, h_q2, hf⟩ := x_bindE hf
  refine x_ci0 (x_rV ⟨hx, hb, hml, hown, hts⟩ (ct_X8_isPlatter l g hfl w md1 mn mw (a1) h_q2) (cwV 1 hts gX8_cleanRun_X8_isPlatter rfl rfl rfl (by decide +kernel) ⟨Nat.le_of_ble_eq_true rfl, Nat.le_of_ble_eq_true rfl⟩) hK hW hS (x_recv (i := (g.1 + 189)) (k := 8) (j := 0) hK hW ⟨⟨hfl, rfl⟩, by decide⟩ rfl (by decide)) rfl hl.1 (rest := []) rfl (Nat.le_of_ble_eq_true rfl) dX8_cleanRun_7 ⟨Nat.le_of_ble_eq_true rfl, Nat.le_of_ble_eq_true rfl⟩) hS (fun H locs hW hS => ?_)
  have hW : World g (wM w md1 mn mw) H := hW
  refine W.eq (g2 := F0 m 10 ls [.int q2]) rfl ?_
  refine lv_if_ne (tgt := 16) hx hb dX8_cleanRun_10 (by decide) (fun hc => ?_) (fun hc => ?_)
  · have hf := x_iteF hf hc
    refine lv_iconst (v := 0) hx hb dX8_cleanRun_16 (by decide) ?_
    refine lv_istore_n (lv' := [(2, .int (0 : Int32)), (0, .ref (adr (g.1 + 189) 8 0)), (1, .int a1)]) hx hb dX8_cleanRun_17 rfl hl (by decide) rfl (fun ls hl => ?_)
    refine lv_iconst (v := 0) hx hb dX8_cleanRun_18 (by decide) ?_
    refine lv_istore_n (lv' := [(3, .int (0 : Int32)), (2, .int (0 : Int32)), (0, .ref (adr (g.1 + 189) 8 0)), (1, .int a1)]) hx hb dX8_cleanRun_19 rfl hl (by decide) rfl (fun ls hl => ?_)
    refine lv_aload_n hx hb dX8_cleanRun_20 rfl (lv_at hl 2 rfl) ?_
    refine x_get (i := (g.1 + 189)) (k := 8) (j := 0) (t := 1) hx hb hts i_8 hown hK hW ⟨⟨hfl, rfl⟩, by decide⟩ rfl ⟨by decide, by decide, rfl⟩ (hts (.fieldLink RX8 7 "OpticalJukeboxModel" "now" "[I") (by decide +kernel)) (v := .ref (adr (g.1 + 189) 30 0)) rfl dX8_cleanRun_21 ?_
    refine lv_bipush (v := 59) hx hb dX8_cleanRun_24 (by decide) ?_
    refine lv_iload_n hx hb dX8_cleanRun_26 rfl (lv_at hl 3 rfl) ?_
    refine lv_iadd hx hb dX8_cleanRun_27 ?_
    obtain ⟨hg3, hf⟩ := x_guardE hf
    refine x_iald (i := (g.1 + 189)) (k := 30) (j := 0) (f := md1 30 0) hx hb hK hW ⟨⟨hfl, rfl⟩, by decide⟩ (by decide) (rfl) rfl hg3 dX8_cleanRun_28 ?_
    obtain ⟨x4, e_x4, hf⟩ := x_letE hf
    refine x_topi e_x4 ?_
    refine lv_istore (lv' := [(4, .int x4), (3, .int (0 : Int32)), (2, .int (0 : Int32)), (0, .ref (adr (g.1 + 189) 8 0)), (1, .int a1)]) hx hb dX8_cleanRun_29 hl (by decide) rfl (fun ls hl => ?_)
    have L31 : ∀ (n : Nat) (v2_31 : Int32) (v3_31 : Int32) (v4_31 : Int32) (ls : Array Slot) (H : Heap) (locs : List Loc), lv_has ls 5 [(0, .ref (adr (g.1 + 189) 8 0)), (1, .int a1), (2, .int v2_31), (3, .int v3_31), (4, .int v4_31)] → World g (wM w md1 mn mw) H → va_S (gA g) s.heap H locs → f_X8_cleanRun_L31 a1 md1 n v2_31 v3_31 v4_31 = some q → W p l e rm_X8_cleanRun s m [.ref (adr (g.1 + 189) 8 0), .int a1].toArray below meth c H locs 0 0 (MQ below (cQi g q.1 (wM w q.2 mn mw)) [.ref (adr (g.1 + 189) 8 0), .int a1].toArray s 0 0 (gA g)) (F0 m 31 ls []) := by
      clear hW hS hl
      intro n
      induction n with
      | zero => intro v2_31 v3_31 v4_31 ls H locs hl hW hS hf; cases hf
      | succ n_31 ih =>
        intro v2_31 v3_31 v4_31 ls H locs hl hW hS hf
        rw [f_X8_cleanRun_L31] at hf
        refine lv_iload hx hb dX8_cleanRun_31 (lv_at hl 4 rfl) ?_
        refine lv_aload_n hx hb dX8_cleanRun_33 rfl (lv_at hl 0 rfl) ?_
        refine x_get (i := (g.1 + 189)) (k := 8) (j := 0) (t := 1) hx hb hts i_8 hown hK hW ⟨⟨hfl, rfl⟩, by decide⟩ rfl ⟨by decide, by decide, rfl⟩ (hts (.fieldLink RX8 7 "OpticalJukeboxModel" "now" "[I") (by decide +kernel)) (v := .ref (adr (g.1 + 189) 30 0)) rfl dX8_cleanRun_34 ?_
        refine lv_bipush (v := 39) hx hb dX8_cleanRun_37 (by decide) ?_
        refine lv_iload_n hx hb dX8_cleanRun_39 rfl (lv_at hl 1 rfl) ?_
        refine lv_iadd hx hb dX8_cleanRun_40 ?_
        obtain ⟨hg5, hf⟩ := x_guardE hf
        refine x_iald (i := (g.1 + 189)) (k := 30) (j := 0) (f := md1 30 0) hx hb hK hW ⟨⟨hfl, rfl⟩, by decide⟩ (by decide) (rfl) rfl hg5 dX8_cleanRun_41 ?_
        refine lv_icmp_ge (tgt := 83) hx hb dX8_cleanRun_42 (by decide) (fun hc => ?_) (fun hc => ?_)
        · have hf := x_iteT hf hc
          refine lv_iload_n hx hb dX8_cleanRun_83 rfl (lv_at hl 2 rfl) ?_
          cases hf
          exact x_iret hx hb hr hlocks hK hW hS rfl dX8_cleanRun_84
        · have hf := x_iteF hf hc
          refine lv_aload_n hx hb dX8_cleanRun_45 rfl (lv_at hl 0 rfl) ?_
          refine x_get (i := (g.1 + 189)) (k := 8) (j := 0) (t := 1) hx hb hts i_8 hown hK hW ⟨⟨hfl, rfl⟩, by decide⟩ rfl ⟨by decide, by decide, rfl⟩ (hts (.fieldLink RX8 7 "OpticalJukeboxModel" "now" "[I") (by decide +kernel)) (v := .ref (adr (g.1 + 189) 30 0)) rfl dX8_cleanRun_46 ?_
          refine lv_iload_n hx hb dX8_cleanRun_49 rfl (lv_at hl 1 rfl) ?_
          refine lv_iload hx hb dX8_cleanRun_50 (lv_at hl 4 rfl) ?_
          obtain ⟨q6, h_q6, hf⟩ := x_bindE hf
          refine x_ci0 (x_rS ⟨hx, hb, hml, hown, hts⟩ (ct_X8_isBad l g hfl w md1 mn mw 30 isRow_30 (a1) (v4_31) h_q6) (va_cwS 3 hts gX8_cleanRun_X8_isBad rfl rfl rfl (by decide +kernel) ⟨Nat.le_of_ble_eq_true rfl, Nat.le_of_ble_eq_true rfl⟩) hK hW hS rfl hl.1 (rest := []) rfl (Nat.le_of_ble_eq_true rfl) dX8_cleanRun_52 ⟨Nat.le_of_ble_eq_true rfl, Nat.le_of_ble_eq_true rfl⟩) hS (fun H locs hW hS => ?_)
          have hW : World g (wM w md1 mn mw) H := hW
          refine W.eq (g2 := F0 m 55 ls [.int q6]) rfl ?_
          obtain ⟨K7, eK7, hf⟩ := x_letE hf
          have KK7 : ∀ (y8 : Int32) (ls : Array Slot) (H : Heap) (locs : List Loc), lv_has ls 5 [(0, .ref (adr (g.1 + 189) 8 0)), (1, .int a1), (2, .int v2_31), (3, .int v3_31), (4, .int v4_31)] → World g (wM w md1 mn mw) H → va_S (gA g) s.heap H locs → K7 y8 = some q → W p l e rm_X8_cleanRun s m [.ref (adr (g.1 + 189) 8 0), .int a1].toArray below meth c H locs 0 0 (MQ below (cQi g q.1 (wM w q.2 mn mw)) [.ref (adr (g.1 + 189) 8 0), .int a1].toArray s 0 0 (gA g)) (F0 m 65 ls [.int y8]) := by
            intro y8 ls H locs hl hW hS hf
            subst eK7
            refine lv_istore_n (lv' := [(3, .int y8), (0, .ref (adr (g.1 + 189) 8 0)), (1, .int a1), (2, .int v2_31), (4, .int v4_31)]) hx hb dX8_cleanRun_65 rfl hl (by decide) rfl (fun ls hl => ?_)
            refine lv_iload_n hx hb dX8_cleanRun_66 rfl (lv_at hl 0 rfl) ?_
            refine lv_iload_n hx hb dX8_cleanRun_67 rfl (lv_at hl 3 rfl) ?_
            obtain ⟨K9, eK9, hf⟩ := x_letE hf
            have KK9 : ∀ (y10 : Int32) (ls : Array Slot) (H : Heap) (locs : List Loc), lv_has ls 5 [(0, .ref (adr (g.1 + 189) 8 0)), (1, .int a1), (2, .int v2_31), (3, .int y8), (4, .int v4_31)] → World g (wM w md1 mn mw) H → va_S (gA g) s.heap H locs → K9 y10 = some q → W p l e rm_X8_cleanRun s m [.ref (adr (g.1 + 189) 8 0), .int a1].toArray below meth c H locs 0 0 (MQ below (cQi g q.1 (wM w q.2 mn mw)) [.ref (adr (g.1 + 189) 8 0), .int a1].toArray s 0 0 (gA g)) (F0 m 76 ls [.int y10]) := by
              intro y10 ls H locs hl hW hS hf
              subst eK9
              refine lv_istore_n (lv' := [(2, .int y10), (0, .ref (adr (g.1 + 189) 8 0)), (1, .int a1), (3, .int y8), (4, .int v4_31)]) hx hb dX8_cleanRun_76 rfl hl (by decide) rfl (fun ls hl => ?_)
              obtain ⟨x11, e_x11, hf⟩ := x_letE hf
              refine lv_iinc (v := x11) (lv' := [(4, .int x11), (2, .int y10), (0, .ref (adr (g.1 + 189) 8 0)), (1, .int a1), (3, .int y8)]) hx hb dX8_cleanRun_77 hl (k := 4) rfl (by rw [e_x11]; rfl) (by decide) rfl (fun ls hl => ?_)
              refine lv_goto (tgt := 31) hx hb dX8_cleanRun_80 (by decide) ?_
              exact ih (y10) (y8) (x11) ls _ _ (lv_sub hl [2, 3, 1, 4, 0] rfl) hW hS hf
            clear eK9
            refine lv_icmp_le (tgt := 75) hx hb dX8_cleanRun_68 (by decide) (fun hc => ?_) (fun hc => ?_)
            · have hf := x_iteT hf hc
              refine lv_iload_n hx hb dX8_cleanRun_75 rfl (lv_at hl 3 rfl) ?_
              exact KK9 (v2_31) ls _ _ (lv_sub hl [1, 2, 3, 0, 4] rfl) hW hS hf
            · have hf := x_iteF hf hc
              refine lv_iload_n hx hb dX8_cleanRun_71 rfl (lv_at hl 0 rfl) ?_
              refine lv_goto (tgt := 76) hx hb dX8_cleanRun_72 (by decide) ?_
              exact KK9 (y8) ls _ _ (lv_sub hl [1, 2, 3, 0, 4] rfl) hW hS hf
          clear eK7
          refine lv_if_eq (tgt := 62) hx hb dX8_cleanRun_55 (by decide) (fun hc => ?_) (fun hc => ?_)
          · have hf := x_iteT hf hc
            refine lv_iload_n hx hb dX8_cleanRun_62 rfl (lv_at hl 3 rfl) ?_
            refine lv_iconst (v := 1) hx hb dX8_cleanRun_63 (by decide) ?_
            refine lv_iadd hx hb dX8_cleanRun_64 ?_
            exact KK7 ((v3_31 + (1 : Int32))) ls _ _ hl hW hS hf
          · have hf := x_iteF hf hc
            refine lv_iconst (v := 0) hx hb dX8_cleanRun_58 (by decide) ?_
            refine lv_goto (tgt := 65) hx hb dX8_cleanRun_59 (by decide) ?_
            exact KK7 ((0 : Int32)) ls _ _ hl hW hS hf
    exact L31 fuel ((0 : Int32)) ((0 : Int32)) (x4) ls _ _ (lv_sub hl [3, 4, 2, 1, 0] rfl) hW hS hf
  · have hf := x_iteT hf hc
    refine lv_ldc (v := -1000001) hx hb hown (hts (.constant RX8 186 (-1000001)) (by decide +kernel)) dX8_cleanRun_13 ?_
    cases hf
    exact x_iret hx hb hr hlocks hK hW hS rfl dX8_cleanRun_15
abbrev rm_X8_bestPlatter : Room := { frames := 6, cells := 0, slots := 0, locals := 129 }
set_option maxRecDepth 100000 in
set_option maxHeartbeats 4000000 in
theorem ct_X8_bestPlatter (l : Launch) (g : GT) (hfl : 2 ≤ gf g) (w : WT) (md : SD) (mn : Nat → Int64) (mw : Int64) (a1 : Int32) {q : (Int32 × SD)} (hf : f_X8_bestPlatter md a1 = some q) : Met l yX8_bestPlatter wsX8_bestPlatter rm_X8_bestPlatter (cPre g (wM w md mn mw) [.ref (adr (g.1 + 189) 8 0), .int a1]) (cQi g q.1 (wM w q.2 mn mw)) 0 0 (gA g) := by
  have i_8 : ∀ w ∈ u_ws RX8 TX8 27, w ∈ wsX8_bestPlatter := by decide +kernel
  refine x_met (by decide) rfl (Nat.le_of_ble_eq_true rfl) ?_
  intro p e s m below meth c hx hb hr hml hts hown hlocks hK hW hS ls hl
  have hown : s.vm.findClass RX8 = some m.cls := hown
  have hl : lv_has ls 7 [(0, .ref (adr (g.1 + 189) 8 0)), (1, .int a1)] := hl
  rw [f_X8_bestPlatter] at hf
  refine lv_aload_n hx hb dX8_bestPlatter_0 rfl (lv_at hl 0 rfl) ?_
  refine lv_iconst (v := 0) hx hb dX8_bestPlatter_1 (by decide) ?_
  obtain ⟨md1, e_md1, hf⟩ := x_letE hf
  refine x_put (i := (g.1 + 189)) (k := 8) (j := 0) (t := 0) (w' := wM w md1 mn mw) hx hb hts i_8 tyX8 tyX8_ok nmX8 hown hK hW ⟨⟨hfl, rfl⟩, by decide⟩ hS rfl ⟨by decide, by decide, rfl⟩ (hts (.fieldLink RX8 51 "OpticalJukeboxModel" "thrown" "I") (by decide +kernel)) rfl (ty := .int) (by decide +kernel) rfl rfl ⟨rfl, rfl⟩ dX8_bestPlatter_2 (fp_M e_md1 rfl) (fun H locs hW hS => ?_)
  refine lv_iload_n hx hb dX8_bestPlatter_5 rfl (lv_at hl 1 rfl) ?_
  refine lv_i2l hx hb dX8_bestPlatter_6 rfl ?_
  refine lv_lconst (v := 1) hx hb dX8_bestPlatter_7 (by decide) ?_
  refine lv_ldc2 (v := 300) hx hb hown (hts (.constantLong RX8 222 (300)) (by decide +kernel)) dX8_bestPlatter_8 ?_
  obtain ⟨q2, h_q2, hf⟩ := x_bindE hf
  refine x_ci0 (x_rS ⟨hx, hb, hml, hown, hts⟩ (ct_X8_isIn l g (wM w md1 mn mw) ((a1).toInt64) ((1 : Int64)) ((300 : Int64)) h_q2) (va_cwS 3 hts gX8_bestPlatter_X8_isIn rfl rfl rfl (by decide +kernel) ⟨Nat.le_of_ble_eq_true rfl, Nat.le_of_ble_eq_true rfl⟩) hK hW hS rfl hl.1 (rest := []) rfl (Nat.le_of_ble_eq_true rfl) dX8_bestPlatter_11 ⟨Nat.le_of_ble_eq_true rfl, Nat.le_of_ble_eq_true rfl⟩) hS (fun H locs hW hS => ?_)
  have hW : World g (wM w md1 mn mw) H := hW
  refine W.eq (g2 := F0 m 14 ls [.int q2]) rfl ?_
  refine lv_if_ne (tgt := 20) hx hb dX8_bestPlatter_14 (by decide) (fun hc => ?_) (fun hc => ?_)
  · have hf := x_iteF hf hc
    refine lv_aload_n hx hb dX8_bestPlatter_20 rfl (lv_at hl 0 rfl) ?_
    refine x_get (i := (g.1 + 189)) (k := 8) (j := 0) (t := 1) hx hb hts i_8 hown hK hW ⟨⟨hfl, rfl⟩, by decide⟩ rfl ⟨by decide, by decide, rfl⟩ (hts (.fieldLink RX8 7 "OpticalJukeboxModel" "now" "[I") (by decide +kernel)) (v := .ref (adr (g.1 + 189) 30 0)) rfl dX8_bestPlatter_21 ?_
    refine lv_bipush (v := 6) hx hb dX8_bestPlatter_24 (by decide) ?_
    refine x_iald (i := (g.1 + 189)) (k := 30) (j := 0) (f := md1 30 0) hx hb hK hW ⟨⟨hfl, rfl⟩, by decide⟩ (by decide) (rfl) rfl (by unfold vp_in; decide) dX8_bestPlatter_26 ?_
    refine W.eq (g2 := F0 m 27 ls [.int (md1 30 0 6)]) rfl ?_
    refine lv_if_ne (tgt := 33) hx hb dX8_bestPlatter_27 (by decide) (fun hc => ?_) (fun hc => ?_)
    · have hf := x_iteF hf hc
      refine lv_ldc (v := -1000005) hx hb hown (hts (.constant RX8 42 (-1000005)) (by decide +kernel)) dX8_bestPlatter_33 ?_
      refine lv_istore_n (lv' := [(2, .int (-1000005 : Int32)), (0, .ref (adr (g.1 + 189) 8 0)), (1, .int a1)]) hx hb dX8_bestPlatter_35 rfl hl (by decide) rfl (fun ls hl => ?_)
      refine lv_iconst (v := 0) hx hb dX8_bestPlatter_36 (by decide) ?_
      refine lv_istore_n (lv' := [(3, .int (0 : Int32)), (2, .int (-1000005 : Int32)), (0, .ref (adr (g.1 + 189) 8 0)), (1, .int a1)]) hx hb dX8_bestPlatter_37 rfl hl (by decide) rfl (fun ls hl => ?_)
      refine lv_iconst (v := 0) hx hb dX8_bestPlatter_38 (by decide) ?_
      refine lv_istore (lv' := [(4, .int (0 : Int32)), (3, .int (0 : Int32)), (2, .int (-1000005 : Int32)), (0, .ref (adr (g.1 + 189) 8 0)), (1, .int a1)]) hx hb dX8_bestPlatter_39 hl (by decide) rfl (fun ls hl => ?_)
      have L41 : ∀ (n : Nat) (v2_41 : Int32) (v3_41 : Int32) (v4_41 : Int32) (md_41 : SD) (ls : Array Slot) (H : Heap) (locs : List Loc), lv_has ls 7 [(0, .ref (adr (g.1 + 189) 8 0)), (1, .int a1), (2, .int v2_41), (3, .int v3_41), (4, .int v4_41)] → World g (wM w md_41 mn mw) H → va_S (gA g) s.heap H locs → f_X8_bestPlatter_L41 a1 n v2_41 v3_41 v4_41 md_41 = some q → W p l e rm_X8_bestPlatter s m [.ref (adr (g.1 + 189) 8 0), .int a1].toArray below meth c H locs 0 0 (MQ below (cQi g q.1 (wM w q.2 mn mw)) [.ref (adr (g.1 + 189) 8 0), .int a1].toArray s 0 0 (gA g)) (F0 m 41 ls []) := by
        clear hW hS hl
        intro n
        induction n with
        | zero => intro v2_41 v3_41 v4_41 md_41 ls H locs hl hW hS hf; cases hf
        | succ n_41 ih =>
          intro v2_41 v3_41 v4_41 md_41 ls H locs hl hW hS hf
          rw [f_X8_bestPlatter_L41] at hf
          refine lv_iload hx hb dX8_bestPlatter_41 (lv_at hl 4 rfl) ?_
          refine lv_aload_n hx hb dX8_bestPlatter_43 rfl (lv_at hl 0 rfl) ?_
          refine x_get (i := (g.1 + 189)) (k := 8) (j := 0) (t := 1) hx hb hts i_8 hown hK hW ⟨⟨hfl, rfl⟩, by decide⟩ rfl ⟨by decide, by decide, rfl⟩ (hts (.fieldLink RX8 7 "OpticalJukeboxModel" "now" "[I") (by decide +kernel)) (v := .ref (adr (g.1 + 189) 30 0)) rfl dX8_bestPlatter_44 ?_
          refine lv_bipush (v := 7) hx hb dX8_bestPlatter_47 (by decide) ?_
          refine x_iald (i := (g.1 + 189)) (k := 30) (j := 0) (f := md_41 30 0) hx hb hK hW ⟨⟨hfl, rfl⟩, by decide⟩ (by decide) (rfl) rfl (by unfold vp_in; decide) dX8_bestPlatter_49 ?_
          refine W.eq (g2 := F0 m 50 ls [.int (md_41 30 0 7), .int v4_41]) rfl ?_
          refine lv_icmp_ge (tgt := 134) hx hb dX8_bestPlatter_50 (by decide) (fun hc => ?_) (fun hc => ?_)
          · have hf := x_iteT hf hc
            refine lv_iload_n hx hb dX8_bestPlatter_134 rfl (lv_at hl 2 rfl) ?_
            cases hf
            exact x_iret hx hb hr hlocks hK hW hS rfl dX8_bestPlatter_135
          · have hf := x_iteF hf hc
            refine lv_aload_n hx hb dX8_bestPlatter_53 rfl (lv_at hl 0 rfl) ?_
            refine x_get (i := (g.1 + 189)) (k := 8) (j := 0) (t := 1) hx hb hts i_8 hown hK hW ⟨⟨hfl, rfl⟩, by decide⟩ rfl ⟨by decide, by decide, rfl⟩ (hts (.fieldLink RX8 7 "OpticalJukeboxModel" "now" "[I") (by decide +kernel)) (v := .ref (adr (g.1 + 189) 30 0)) rfl dX8_bestPlatter_54 ?_
            refine lv_iload hx hb dX8_bestPlatter_57 (lv_at hl 4 rfl) ?_
            refine lv_iload_n hx hb dX8_bestPlatter_59 rfl (lv_at hl 1 rfl) ?_
            obtain ⟨q3, h_q3, hf⟩ := x_bindE hf
            refine x_ci0 (x_rS ⟨hx, hb, hml, hown, hts⟩ (ct_X8_canWrite l g hfl w md_41 mn mw 30 isRow_30 (v4_41) (a1) h_q3) (va_cwS 3 hts gX8_bestPlatter_X8_canWrite rfl rfl rfl (by decide +kernel) ⟨Nat.le_of_ble_eq_true rfl, Nat.le_of_ble_eq_true rfl⟩) hK hW hS rfl hl.1 (rest := []) rfl (Nat.le_of_ble_eq_true rfl) dX8_bestPlatter_60 ⟨Nat.le_of_ble_eq_true rfl, Nat.le_of_ble_eq_true rfl⟩) hS (fun H locs hW hS => ?_)
            have hW : World g (wM w md_41 mn mw) H := hW
            refine W.eq (g2 := F0 m 63 ls [.int q3]) rfl ?_
            refine lv_if_ne (tgt := 69) hx hb dX8_bestPlatter_63 (by decide) (fun hc => ?_) (fun hc => ?_)
            · have hf := x_iteF hf hc
              refine lv_aload_n hx hb dX8_bestPlatter_69 rfl (lv_at hl 0 rfl) ?_
              refine lv_iload hx hb dX8_bestPlatter_70 (lv_at hl 4 rfl) ?_
              obtain ⟨q4, h_q4, hf⟩ := x_bindE hf
              refine x_ci0 (x_rV ⟨hx, hb, hml, hown, hts⟩ (ct_X8_timeFor l g hfl w md_41 mn mw (v4_41) h_q4) (cwV 1 hts gX8_bestPlatter_X8_timeFor rfl rfl rfl (by decide +kernel) ⟨Nat.le_of_ble_eq_true rfl, Nat.le_of_ble_eq_true rfl⟩) hK hW hS (x_recv (i := (g.1 + 189)) (k := 8) (j := 0) hK hW ⟨⟨hfl, rfl⟩, by decide⟩ rfl (by decide)) rfl hl.1 (rest := []) rfl (Nat.le_of_ble_eq_true rfl) dX8_bestPlatter_72 ⟨Nat.le_of_ble_eq_true rfl, Nat.le_of_ble_eq_true rfl⟩) hS (fun H locs hW hS => ?_)
              have hW : World g (wM w q4.2 mn mw) H := hW
              refine W.eq (g2 := F0 m 75 ls [.int q4.1]) rfl ?_
              obtain ⟨x5, e_x5, hf⟩ := x_letE hf
              refine x_topi e_x5 ?_
              refine lv_istore (lv' := [(5, .int x5), (0, .ref (adr (g.1 + 189) 8 0)), (1, .int a1), (2, .int v2_41), (3, .int v3_41), (4, .int v4_41)]) hx hb dX8_bestPlatter_75 hl (by decide) rfl (fun ls hl => ?_)
              refine lv_iload_n hx hb dX8_bestPlatter_77 rfl (lv_at hl 3 rfl) ?_
              obtain ⟨K6, eK6, hf⟩ := x_letE hf
              have KK6 : ∀ (y7 : Int32) (ls : Array Slot) (H : Heap) (locs : List Loc), lv_has ls 7 [(0, .ref (adr (g.1 + 189) 8 0)), (1, .int a1), (2, .int v2_41), (3, .int v3_41), (4, .int v4_41), (5, .int x5)] → World g (wM w q4.2 mn mw) H → va_S (gA g) s.heap H locs → K6 y7 = some q → W p l e rm_X8_bestPlatter s m [.ref (adr (g.1 + 189) 8 0), .int a1].toArray below meth c H locs 0 0 (MQ below (cQi g q.1 (wM w q.2 mn mw)) [.ref (adr (g.1 + 189) 8 0), .int a1].toArray s 0 0 (gA g)) (F0 m 112 ls [.int y7]) := by
                intro y7 ls H locs hl hW hS hf
                subst eK6
                refine lv_istore (lv' := [(6, .int y7), (0, .ref (adr (g.1 + 189) 8 0)), (1, .int a1), (2, .int v2_41), (3, .int v3_41), (4, .int v4_41), (5, .int x5)]) hx hb dX8_bestPlatter_112 hl (by decide) rfl (fun ls hl => ?_)
                refine lv_iload hx hb dX8_bestPlatter_114 (lv_at hl 0 rfl) ?_
                refine lv_if_ne (tgt := 122) hx hb dX8_bestPlatter_116 (by decide) (fun hc => ?_) (fun hc => ?_)
                · have hf := x_iteF hf hc
                  refine lv_iload hx hb dX8_bestPlatter_122 (lv_at hl 5 rfl) ?_
                  refine lv_istore_n (lv' := [(2, .int v4_41), (6, .int y7), (0, .ref (adr (g.1 + 189) 8 0)), (1, .int a1), (3, .int v3_41), (4, .int v4_41), (5, .int x5)]) hx hb dX8_bestPlatter_124 rfl hl (by decide) rfl (fun ls hl => ?_)
                  refine lv_iload hx hb dX8_bestPlatter_125 (lv_at hl 6 rfl) ?_
                  refine lv_istore_n (lv' := [(3, .int x5), (2, .int v4_41), (6, .int y7), (0, .ref (adr (g.1 + 189) 8 0)), (1, .int a1), (4, .int v4_41), (5, .int x5)]) hx hb dX8_bestPlatter_127 rfl hl (by decide) rfl (fun ls hl => ?_)
                  obtain ⟨x8, e_x8, hf⟩ := x_letE hf
                  refine lv_iinc (v := x8) (lv' := [(4, .int x8), (3, .int x5), (2, .int v4_41), (6, .int y7), (0, .ref (adr (g.1 + 189) 8 0)), (1, .int a1), (5, .int x5)]) hx hb dX8_bestPlatter_128 hl (k := 5) rfl (by rw [e_x8]; rfl) (by decide) rfl (fun ls hl => ?_)
                  refine lv_goto (tgt := 41) hx hb dX8_bestPlatter_131 (by decide) ?_
                  exact ih (v4_41) (x5) (x8) (q4.2) ls _ _ (lv_sub hl [4, 5, 2, 1, 0] rfl) hW hS hf
                · have hf := x_iteT hf hc
                  refine lv_goto (tgt := 128) hx hb dX8_bestPlatter_119 (by decide) ?_
                  obtain ⟨x9, e_x9, hf⟩ := x_letE hf
                  refine lv_iinc (v := x9) (lv' := [(4, .int x9), (6, .int y7), (0, .ref (adr (g.1 + 189) 8 0)), (1, .int a1), (2, .int v2_41), (3, .int v3_41), (5, .int x5)]) hx hb dX8_bestPlatter_128 hl (k := 5) rfl (by rw [e_x9]; rfl) (by decide) rfl (fun ls hl => ?_)
                  refine lv_goto (tgt := 41) hx hb dX8_bestPlatter_131 (by decide) ?_
                  exact ih (v2_41) (v3_41) (x9) (q4.2) ls _ _ (lv_sub hl [2, 3, 4, 5, 0] rfl) hW hS hf
              clear eK6
              obtain ⟨K10, eK10, hf⟩ := x_letE hf
              have KK10 : ∀ (_u : Unit) (ls : Array Slot) (H : Heap) (locs : List Loc), lv_has ls 7 [(0, .ref (adr (g.1 + 189) 8 0)), (1, .int a1), (2, .int v2_41), (3, .int v3_41), (4, .int v4_41), (5, .int x5)] → World g (wM w q4.2 mn mw) H → va_S (gA g) s.heap H locs → K10 _u = some q → W p l e rm_X8_bestPlatter s m [.ref (adr (g.1 + 189) 8 0), .int a1].toArray below meth c H locs 0 0 (MQ below (cQi g q.1 (wM w q.2 mn mw)) [.ref (adr (g.1 + 189) 8 0), .int a1].toArray s 0 0 (gA g)) (F0 m 107 ls []) := by
                intro _u ls H locs hl hW hS hf
                subst eK10
                refine lv_iconst (v := 1) hx hb dX8_bestPlatter_107 (by decide) ?_
                refine lv_goto (tgt := 112) hx hb dX8_bestPlatter_108 (by decide) ?_
                exact KK6 ((1 : Int32)) ls _ _ hl hW hS hf
              clear eK10
              refine lv_if_lt (tgt := 107) hx hb dX8_bestPlatter_78 (by decide) (fun hc => ?_) (fun hc => ?_)
              · have hf := x_iteT hf hc
                exact KK10 (()) ls _ _ (lv_sub hl [1, 2, 3, 4, 5, 0] rfl) hW hS hf
              · have hf := x_iteF hf hc
                refine lv_iload hx hb dX8_bestPlatter_81 (lv_at hl 0 rfl) ?_
                refine lv_iload_n hx hb dX8_bestPlatter_83 rfl (lv_at hl 4 rfl) ?_
                refine lv_icmp_lt (tgt := 107) hx hb dX8_bestPlatter_84 (by decide) (fun hc => ?_) (fun hc => ?_)
                · have hf := x_iteT hf hc
                  exact KK10 (()) ls _ _ (lv_sub hl [1, 2, 3, 4, 5, 0] rfl) hW hS hf
                · have hf := x_iteF hf hc
                  refine lv_iload hx hb dX8_bestPlatter_87 (lv_at hl 0 rfl) ?_
                  refine lv_iload_n hx hb dX8_bestPlatter_89 rfl (lv_at hl 4 rfl) ?_
                  obtain ⟨K11, eK11, hf⟩ := x_letE hf
                  have KK11 : ∀ (_u : Unit) (ls : Array Slot) (H : Heap) (locs : List Loc), lv_has ls 7 [(0, .ref (adr (g.1 + 189) 8 0)), (1, .int a1), (2, .int v2_41), (3, .int v3_41), (4, .int v4_41), (5, .int x5)] → World g (wM w q4.2 mn mw) H → va_S (gA g) s.heap H locs → K11 _u = some q → W p l e rm_X8_bestPlatter s m [.ref (adr (g.1 + 189) 8 0), .int a1].toArray below meth c H locs 0 0 (MQ below (cQi g q.1 (wM w q.2 mn mw)) [.ref (adr (g.1 + 189) 8 0), .int a1].toArray s 0 0 (gA g)) (F0 m 111 ls []) := by
                    intro _u ls H locs hl hW hS hf
                    subst eK11
                    refine lv_iconst (v := 0) hx hb dX8_bestPlatter_111 (by decide) ?_
                    exact KK6 ((0 : Int32)) ls _ _ hl hW hS hf
                  clear eK11
                  refine lv_icmp_ne (tgt := 111) hx hb dX8_bestPlatter_90 (by decide) (fun hc => ?_) (fun hc => ?_)
                  · have hf := x_iteF hf hc
                    exact KK11 (()) ls _ _ (lv_sub hl [1, 2, 3, 4, 5, 0] rfl) hW hS hf
                  · have hf := x_iteT hf hc
                    refine lv_aload_n hx hb dX8_bestPlatter_93 rfl (lv_at hl 1 rfl) ?_
                    refine lv_iload hx hb dX8_bestPlatter_94 (lv_at hl 5 rfl) ?_
                    obtain ⟨q12, h_q12, hf⟩ := x_bindE hf
                    refine x_ci0 (x_rV ⟨hx, hb, hml, hown, hts⟩ (ct_X8_free l g hfl w q4.2 mn mw (v4_41) h_q12) (cwV 1 hts gX8_bestPlatter_X8_free rfl rfl rfl (by decide +kernel) ⟨Nat.le_of_ble_eq_true rfl, Nat.le_of_ble_eq_true rfl⟩) hK hW hS (x_recv (i := (g.1 + 189)) (k := 8) (j := 0) hK hW ⟨⟨hfl, rfl⟩, by decide⟩ rfl (by decide)) rfl hl.1 (rest := []) rfl (Nat.le_of_ble_eq_true rfl) dX8_bestPlatter_96 ⟨Nat.le_of_ble_eq_true rfl, Nat.le_of_ble_eq_true rfl⟩) hS (fun H locs hW hS => ?_)
                    have hW : World g (wM w q4.2 mn mw) H := hW
                    refine W.eq (g2 := F0 m 99 ls [.int q12]) rfl ?_
                    refine lv_aload_n hx hb dX8_bestPlatter_99 rfl (lv_at hl 1 rfl) ?_
                    refine lv_iload_n hx hb dX8_bestPlatter_100 rfl (lv_at hl 3 rfl) ?_
                    obtain ⟨q13, h_q13, hf⟩ := x_bindE hf
                    refine x_ci0 (x_rV ⟨hx, hb, hml, hown, hts⟩ (ct_X8_free l g hfl w q4.2 mn mw (v2_41) h_q13) (cwV 1 hts gX8_bestPlatter_X8_free rfl rfl rfl (by decide +kernel) ⟨Nat.le_of_ble_eq_true rfl, Nat.le_of_ble_eq_true rfl⟩) hK hW hS (x_recv (i := (g.1 + 189)) (k := 8) (j := 0) hK hW ⟨⟨hfl, rfl⟩, by decide⟩ rfl (by decide)) rfl hl.1 (rest := [.int q12]) rfl (Nat.le_of_ble_eq_true rfl) dX8_bestPlatter_101 ⟨Nat.le_of_ble_eq_true rfl, Nat.le_of_ble_eq_true rfl⟩) hS (fun H locs hW hS => ?_)
                    have hW : World g (wM w q4.2 mn mw) H := hW
                    refine W.eq (g2 := F0 m 104 ls [.int q13, .int q12]) rfl ?_
                    refine lv_icmp_ge (tgt := 111) hx hb dX8_bestPlatter_104 (by decide) (fun hc => ?_) (fun hc => ?_)
                    · have hf := x_iteT hf hc
                      exact KK11 (()) ls _ _ (lv_sub hl [1, 2, 3, 4, 5, 0] rfl) hW hS hf
                    · have hf := x_iteF hf hc
                      exact KK10 (()) ls _ _ (lv_sub hl [1, 2, 3, 4, 5, 0] rfl) hW hS hf
            · have hf := x_iteT hf hc
              refine lv_goto (tgt := 128) hx hb dX8_bestPlatter_66 (by decide) ?_
              obtain ⟨x14, e_x14, hf⟩ := x_letE hf
              refine lv_iinc (v := x14) (lv' := [(4, .int x14), (0, .ref (adr (g.1 + 189) 8 0)), (1, .int a1), (2, .int v2_41), (3, .int v3_41)]) hx hb dX8_bestPlatter_128 hl (k := 4) rfl (by rw [e_x14]; rfl) (by decide) rfl (fun ls hl => ?_)
              refine lv_goto (tgt := 41) hx hb dX8_bestPlatter_131 (by decide) ?_
              exact ih (v2_41) (v3_41) (x14) (md_41) ls _ _ (lv_sub hl [1, 2, 3, 4, 0] rfl) hW hS hf
      exact L41 fuel ((-1000005 : Int32)) ((0 : Int32)) ((0 : Int32)) (md1) ls _ _ (lv_sub hl [3, 4, 2, 1, 0] rfl) hW hS hf
    · have hf := x_iteT hf hc
      refine lv_ldc (v := -1000007) hx hb hown (hts (.constant RX8 177 (-1000007)) (by decide +kernel)) dX8_bestPlatter_30 ?_
      cases hf
      exact x_iret hx hb hr hlocks hK hW hS rfl dX8_bestPlatter_32
  · have hf := x_iteT hf hc
    refine lv_ldc (v := -1000002) hx hb hown (hts (.constant RX8 224 (-1000002)) (by decide +kernel)) dX8_bestPlatter_17 ?_
    cases hf
    exact x_iret hx hb hr hlocks hK hW hS rfl dX8_bestPlatter_19
abbrev rm_X8_versionCount : Room := { frames := 2, cells := 0, slots := 0, locals := 46 }
set_option maxRecDepth 100000 in
set_option maxHeartbeats 4000000 in
theorem ct_X8_versionCount (l : Launch) (g : GT) (hfl : 2 ≤ gf g) (w : WT) (md : SD) (mn : Nat → Int64) (mw : Int64) (a1 : Int32) {q : (Int32 × SD)} (hf : f_X8_versionCount md a1 = some q) : Met l yX8_versionCount wsX8_versionCount rm_X8_versionCount (cPre g (wM w md mn mw) [.ref (adr (g.1 + 189) 8 0), .int a1]) (cQi g q.1 (wM w q.2 mn mw)) 0 0 (gA g) := by
  have i_8 : ∀ w ∈ u_ws RX8 TX8 27, w ∈ wsX8_versionCount := by decide +kernel
  refine x_met (by decide) rfl (Nat.le_of_ble_eq_true rfl) ?_
  intro p e s m below meth c hx hb hr hml hts hown hlocks hK hW hS ls hl
  have hown : s.vm.findClass RX8 = some m.cls := hown
  have hl : lv_has ls 4 [(0, .ref (adr (g.1 + 189) 8 0)), (1, .int a1)] := hl
  rw [f_X8_versionCount] at hf
  refine lv_aload_n hx hb dX8_versionCount_0 rfl (lv_at hl 0 rfl) ?_
  refine lv_iconst (v := 0) hx hb dX8_versionCount_1 (by decide) ?_
  obtain ⟨md1, e_md1, hf⟩ := x_letE hf
  refine x_put (i := (g.1 + 189)) (k := 8) (j := 0) (t := 0) (w' := wM w md1 mn mw) hx hb hts i_8 tyX8 tyX8_ok nmX8 hown hK hW ⟨⟨hfl, rfl⟩, by decide⟩ hS rfl ⟨by decide, by decide, rfl⟩ (hts (.fieldLink RX8 51 "OpticalJukeboxModel" "thrown" "I") (by decide +kernel)) rfl (ty := .int) (by decide +kernel) rfl rfl ⟨rfl, rfl⟩ dX8_versionCount_2 (fp_M e_md1 rfl) (fun H locs hW hS => ?_)
  refine lv_aload_n hx hb dX8_versionCount_5 rfl (lv_at hl 0 rfl) ?_
  refine lv_iload_n hx hb dX8_versionCount_6 rfl (lv_at hl 1 rfl) ?_
  obtain ⟨q2, h_q2, hf⟩ := x_bindE hf
  refine x_ci0 (x_rV ⟨hx, hb, hml, hown, hts⟩ (ct_X8_isFile l g hfl w md1 mn mw (a1) h_q2) (cwV 1 hts gX8_versionCount_X8_isFile rfl rfl rfl (by decide +kernel) ⟨Nat.le_of_ble_eq_true rfl, Nat.le_of_ble_eq_true rfl⟩) hK hW hS (x_recv (i := (g.1 + 189)) (k := 8) (j := 0) hK hW ⟨⟨hfl, rfl⟩, by decide⟩ rfl (by decide)) rfl hl.1 (rest := []) rfl (Nat.le_of_ble_eq_true rfl) dX8_versionCount_7 ⟨Nat.le_of_ble_eq_true rfl, Nat.le_of_ble_eq_true rfl⟩) hS (fun H locs hW hS => ?_)
  have hW : World g (wM w md1 mn mw) H := hW
  refine W.eq (g2 := F0 m 10 ls [.int q2]) rfl ?_
  refine lv_if_ne (tgt := 16) hx hb dX8_versionCount_10 (by decide) (fun hc => ?_) (fun hc => ?_)
  · have hf := x_iteF hf hc
    refine lv_iconst (v := 0) hx hb dX8_versionCount_16 (by decide) ?_
    refine lv_istore_n (lv' := [(2, .int (0 : Int32)), (0, .ref (adr (g.1 + 189) 8 0)), (1, .int a1)]) hx hb dX8_versionCount_17 rfl hl (by decide) rfl (fun ls hl => ?_)
    refine lv_iconst (v := 0) hx hb dX8_versionCount_18 (by decide) ?_
    refine lv_istore_n (lv' := [(3, .int (0 : Int32)), (2, .int (0 : Int32)), (0, .ref (adr (g.1 + 189) 8 0)), (1, .int a1)]) hx hb dX8_versionCount_19 rfl hl (by decide) rfl (fun ls hl => ?_)
    have L20 : ∀ (n : Nat) (v2_20 : Int32) (v3_20 : Int32) (ls : Array Slot) (H : Heap) (locs : List Loc), lv_has ls 4 [(0, .ref (adr (g.1 + 189) 8 0)), (1, .int a1), (2, .int v2_20), (3, .int v3_20)] → World g (wM w md1 mn mw) H → va_S (gA g) s.heap H locs → f_X8_versionCount_L20 md1 a1 n v2_20 v3_20 = some q → W p l e rm_X8_versionCount s m [.ref (adr (g.1 + 189) 8 0), .int a1].toArray below meth c H locs 0 0 (MQ below (cQi g q.1 (wM w q.2 mn mw)) [.ref (adr (g.1 + 189) 8 0), .int a1].toArray s 0 0 (gA g)) (F0 m 20 ls []) := by
      clear hW hS hl
      intro n
      induction n with
      | zero => intro v2_20 v3_20 ls H locs hl hW hS hf; cases hf
      | succ n_20 ih =>
        intro v2_20 v3_20 ls H locs hl hW hS hf
        rw [f_X8_versionCount_L20] at hf
        refine lv_iload_n hx hb dX8_versionCount_20 rfl (lv_at hl 3 rfl) ?_
        refine lv_aload_n hx hb dX8_versionCount_21 rfl (lv_at hl 0 rfl) ?_
        refine x_get (i := (g.1 + 189)) (k := 8) (j := 0) (t := 1) hx hb hts i_8 hown hK hW ⟨⟨hfl, rfl⟩, by decide⟩ rfl ⟨by decide, by decide, rfl⟩ (hts (.fieldLink RX8 7 "OpticalJukeboxModel" "now" "[I") (by decide +kernel)) (v := .ref (adr (g.1 + 189) 30 0)) rfl dX8_versionCount_22 ?_
        refine lv_bipush (v := 10) hx hb dX8_versionCount_25 (by decide) ?_
        refine x_iald (i := (g.1 + 189)) (k := 30) (j := 0) (f := md1 30 0) hx hb hK hW ⟨⟨hfl, rfl⟩, by decide⟩ (by decide) (rfl) rfl (by unfold vp_in; decide) dX8_versionCount_27 ?_
        refine W.eq (g2 := F0 m 28 ls [.int (md1 30 0 10), .int v3_20]) rfl ?_
        refine lv_icmp_ge (tgt := 59) hx hb dX8_versionCount_28 (by decide) (fun hc => ?_) (fun hc => ?_)
        · have hf := x_iteT hf hc
          refine lv_iload_n hx hb dX8_versionCount_59 rfl (lv_at hl 2 rfl) ?_
          cases hf
          exact x_iret hx hb hr hlocks hK hW hS rfl dX8_versionCount_60
        · have hf := x_iteF hf hc
          refine lv_iload_n hx hb dX8_versionCount_31 rfl (lv_at hl 2 rfl) ?_
          refine lv_aload_n hx hb dX8_versionCount_32 rfl (lv_at hl 0 rfl) ?_
          refine x_get (i := (g.1 + 189)) (k := 8) (j := 0) (t := 1) hx hb hts i_8 hown hK hW ⟨⟨hfl, rfl⟩, by decide⟩ rfl ⟨by decide, by decide, rfl⟩ (hts (.fieldLink RX8 7 "OpticalJukeboxModel" "now" "[I") (by decide +kernel)) (v := .ref (adr (g.1 + 189) 30 0)) rfl dX8_versionCount_33 ?_
          refine lv_sipush (v := 309) hx hb dX8_versionCount_36 (by decide) ?_
          refine lv_iload_n hx hb dX8_versionCount_39 rfl (lv_at hl 3 rfl) ?_
          refine lv_iadd hx hb dX8_versionCount_40 ?_
          obtain ⟨hg3, hf⟩ := x_guardE hf
          refine x_iald (i := (g.1 + 189)) (k := 30) (j := 0) (f := md1 30 0) hx hb hK hW ⟨⟨hfl, rfl⟩, by decide⟩ (by decide) (rfl) rfl hg3 dX8_versionCount_41 ?_
          refine lv_iload_n hx hb dX8_versionCount_42 rfl (lv_at hl 1 rfl) ?_
          obtain ⟨K4, eK4, hf⟩ := x_letE hf
          have KK4 : ∀ (y5 : Int32) (ls : Array Slot) (H : Heap) (locs : List Loc), lv_has ls 4 [(0, .ref (adr (g.1 + 189) 8 0)), (1, .int a1), (2, .int v2_20), (3, .int v3_20)] → World g (wM w md1 mn mw) H → va_S (gA g) s.heap H locs → K4 y5 = some q → W p l e rm_X8_versionCount s m [.ref (adr (g.1 + 189) 8 0), .int a1].toArray below meth c H locs 0 0 (MQ below (cQi g q.1 (wM w q.2 mn mw)) [.ref (adr (g.1 + 189) 8 0), .int a1].toArray s 0 0 (gA g)) (F0 m 51 ls [.int y5, .int v2_20]) := by
            intro y5 ls H locs hl hW hS hf
            subst eK4
            refine lv_iadd hx hb dX8_versionCount_51 ?_
            obtain ⟨x6, e_x6, hf⟩ := x_letE hf
            refine x_topi e_x6 ?_
            refine lv_istore_n (lv' := [(2, .int x6), (0, .ref (adr (g.1 + 189) 8 0)), (1, .int a1), (3, .int v3_20)]) hx hb dX8_versionCount_52 rfl hl (by decide) rfl (fun ls hl => ?_)
            obtain ⟨x7, e_x7, hf⟩ := x_letE hf
            refine lv_iinc (v := x7) (lv' := [(3, .int x7), (2, .int x6), (0, .ref (adr (g.1 + 189) 8 0)), (1, .int a1)]) hx hb dX8_versionCount_53 hl (k := 3) rfl (by rw [e_x7]; rfl) (by decide) rfl (fun ls hl => ?_)
            refine lv_goto (tgt := 20) hx hb dX8_versionCount_56 (by decide) ?_
            exact ih (x6) (x7) ls _ _ (lv_sub hl [2, 3, 1, 0] rfl) hW hS hf
          clear eK4
          refine lv_icmp_ne (tgt := 50) hx hb dX8_versionCount_43 (by decide) (fun hc => ?_) (fun hc => ?_)
          · have hf := x_iteF hf hc
            refine lv_iconst (v := 0) hx hb dX8_versionCount_50 (by decide) ?_
            exact KK4 ((0 : Int32)) ls _ _ hl hW hS hf
          · have hf := x_iteT hf hc
            refine lv_iconst (v := 1) hx hb dX8_versionCount_46 (by decide) ?_
            refine lv_goto (tgt := 51) hx hb dX8_versionCount_47 (by decide) ?_
            exact KK4 ((1 : Int32)) ls _ _ hl hW hS hf
    exact L20 fuel ((0 : Int32)) ((0 : Int32)) ls _ _ (lv_sub hl [2, 3, 1, 0] rfl) hW hS hf
  · have hf := x_iteT hf hc
    refine lv_ldc (v := -1000001) hx hb hown (hts (.constant RX8 186 (-1000001)) (by decide +kernel)) dX8_versionCount_13 ?_
    cases hf
    exact x_iret hx hb hr hlocks hK hW hS rfl dX8_versionCount_15
abbrev rm_X8_ofVersion : Room := { frames := 2, cells := 0, slots := 0, locals := 46 }
set_option maxRecDepth 100000 in
set_option maxHeartbeats 4000000 in
theorem ct_X8_ofVersion (l : Launch) (g : GT) (hfl : 2 ≤ gf g) (w : WT) (md : SD) (mn : Nat → Int64) (mw : Int64) (a1 : Int32) (a2 : Int32) {q : (Int32 × SD)} (hf : f_X8_ofVersion md a1 a2 = some q) : Met l yX8_ofVersion wsX8_ofVersion rm_X8_ofVersion (cPre g (wM w md mn mw) [.ref (adr (g.1 + 189) 8 0), .int a1, .int a2]) (cQi g q.1 (wM w q.2 mn mw)) 0 0 (gA g) := by
  have i_8 : ∀ w ∈ u_ws RX8 TX8 27, w ∈ wsX8_ofVersion := by decide +kernel
  refine x_met (by decide) rfl (Nat.le_of_ble_eq_true rfl) ?_
  intro p e s m below meth c hx hb hr hml hts hown hlocks hK hW hS ls hl
  have hown : s.vm.findClass RX8 = some m.cls := hown
  have hl : lv_has ls 3 [(0, .ref (adr (g.1 + 189) 8 0)), (1, .int a1), (2, .int a2)] := hl
  rw [f_X8_ofVersion] at hf
  refine lv_aload_n hx hb dX8_ofVersion_0 rfl (lv_at hl 0 rfl) ?_
  refine lv_iconst (v := 0) hx hb dX8_ofVersion_1 (by decide) ?_
  obtain ⟨md1, e_md1, hf⟩ := x_letE hf
  refine x_put (i := (g.1 + 189)) (k := 8) (j := 0) (t := 0) (w' := wM w md1 mn mw) hx hb hts i_8 tyX8 tyX8_ok nmX8 hown hK hW ⟨⟨hfl, rfl⟩, by decide⟩ hS rfl ⟨by decide, by decide, rfl⟩ (hts (.fieldLink RX8 51 "OpticalJukeboxModel" "thrown" "I") (by decide +kernel)) rfl (ty := .int) (by decide +kernel) rfl rfl ⟨rfl, rfl⟩ dX8_ofVersion_2 (fp_M e_md1 rfl) (fun H locs hW hS => ?_)
  refine lv_aload_n hx hb dX8_ofVersion_5 rfl (lv_at hl 0 rfl) ?_
  refine lv_iload_n hx hb dX8_ofVersion_6 rfl (lv_at hl 1 rfl) ?_
  obtain ⟨q2, h_q2, hf⟩ := x_bindE hf
  refine x_ci0 (x_rV ⟨hx, hb, hml, hown, hts⟩ (ct_X8_isFile l g hfl w md1 mn mw (a1) h_q2) (cwV 1 hts gX8_ofVersion_X8_isFile rfl rfl rfl (by decide +kernel) ⟨Nat.le_of_ble_eq_true rfl, Nat.le_of_ble_eq_true rfl⟩) hK hW hS (x_recv (i := (g.1 + 189)) (k := 8) (j := 0) hK hW ⟨⟨hfl, rfl⟩, by decide⟩ rfl (by decide)) rfl hl.1 (rest := []) rfl (Nat.le_of_ble_eq_true rfl) dX8_ofVersion_7 ⟨Nat.le_of_ble_eq_true rfl, Nat.le_of_ble_eq_true rfl⟩) hS (fun H locs hW hS => ?_)
  have hW : World g (wM w md1 mn mw) H := hW
  refine W.eq (g2 := F0 m 10 ls [.int q2]) rfl ?_
  refine lv_if_eq (tgt := 28) hx hb dX8_ofVersion_10 (by decide) (fun hc => ?_) (fun hc => ?_)
  · have hf := x_iteT hf hc
    refine lv_ldc (v := -1000001) hx hb hown (hts (.constant RX8 186 (-1000001)) (by decide +kernel)) dX8_ofVersion_28 ?_
    cases hf
    exact x_iret hx hb hr hlocks hK hW hS rfl dX8_ofVersion_30
  · have hf := x_iteF hf hc
    refine lv_aload_n hx hb dX8_ofVersion_13 rfl (lv_at hl 0 rfl) ?_
    refine x_get (i := (g.1 + 189)) (k := 8) (j := 0) (t := 1) hx hb hts i_8 hown hK hW ⟨⟨hfl, rfl⟩, by decide⟩ rfl ⟨by decide, by decide, rfl⟩ (hts (.fieldLink RX8 7 "OpticalJukeboxModel" "now" "[I") (by decide +kernel)) (v := .ref (adr (g.1 + 189) 30 0)) rfl dX8_ofVersion_14 ?_
    refine lv_iload_n hx hb dX8_ofVersion_17 rfl (lv_at hl 2 rfl) ?_
    refine lv_aload_n hx hb dX8_ofVersion_18 rfl (lv_at hl 0 rfl) ?_
    refine lv_iload_n hx hb dX8_ofVersion_19 rfl (lv_at hl 1 rfl) ?_
    obtain ⟨q3, h_q3, hf⟩ := x_bindE hf
    refine x_ci0 (x_rV ⟨hx, hb, hml, hown, hts⟩ (ct_X8_version l g hfl w md1 mn mw (a1) h_q3) (cwV 1 hts gX8_ofVersion_X8_version rfl rfl rfl (by decide +kernel) ⟨Nat.le_of_ble_eq_true rfl, Nat.le_of_ble_eq_true rfl⟩) hK hW hS (x_recv (i := (g.1 + 189)) (k := 8) (j := 0) hK hW ⟨⟨hfl, rfl⟩, by decide⟩ rfl (by decide)) rfl hl.1 (rest := [.int a2, .ref (adr (g.1 + 189) 30 0)]) rfl (Nat.le_of_ble_eq_true rfl) dX8_ofVersion_20 ⟨Nat.le_of_ble_eq_true rfl, Nat.le_of_ble_eq_true rfl⟩) hS (fun H locs hW hS => ?_)
    have hW : World g (wM w md1 mn mw) H := hW
    refine W.eq (g2 := F0 m 23 ls [.int q3, .int a2, .ref (adr (g.1 + 189) 30 0)]) rfl ?_
    refine lv_iadd hx hb dX8_ofVersion_23 ?_
    obtain ⟨hg4, hf⟩ := x_guardE hf
    refine x_iald (i := (g.1 + 189)) (k := 30) (j := 0) (f := md1 30 0) hx hb hK hW ⟨⟨hfl, rfl⟩, by decide⟩ (by decide) (rfl) rfl hg4 dX8_ofVersion_24 ?_
    refine lv_goto (tgt := 30) hx hb dX8_ofVersion_25 (by decide) ?_
    cases hf
    exact x_iret hx hb hr hlocks hK hW hS rfl dX8_ofVersion_30
abbrev rm_X8_filePlatter : Room := { frames := 3, cells := 0, slots := 0, locals := 68 }
set_option maxRecDepth 100000 in
set_option maxHeartbeats 4000000 in
theorem ct_X8_filePlatter (l : Launch) (g : GT) (hfl : 2 ≤ gf g) (w : WT) (md : SD) (mn : Nat → Int64) (mw : Int64) (a1 : Int32) {q : (Int32 × SD)} (hf : f_X8_filePlatter md a1 = some q) : Met l yX8_filePlatter wsX8_filePlatter rm_X8_filePlatter (cPre g (wM w md mn mw) [.ref (adr (g.1 + 189) 8 0), .int a1]) (cQi g q.1 (wM w q.2 mn mw)) 0 0 (gA g) := by
  refine x_met (by decide) rfl (Nat.le_of_ble_eq_true rfl) ?_
  intro p e s m below meth c hx hb hr hml hts hown hlocks hK hW hS ls hl
  have hown : s.vm.findClass RX8 = some m.cls := hown
  have hl : lv_has ls 2 [(0, .ref (adr (g.1 + 189) 8 0)), (1, .int a1)] := hl
  rw [f_X8_filePlatter] at hf
  refine lv_aload_n hx hb dX8_filePlatter_0 rfl (lv_at hl 0 rfl) ?_
  refine lv_iload_n hx hb dX8_filePlatter_1 rfl (lv_at hl 1 rfl) ?_
  refine lv_sipush (v := 349) hx hb dX8_filePlatter_2 (by decide) ?_
  obtain ⟨q1, h_q1, hf⟩ := x_bindE hf
  refine x_ci0 (x_rV ⟨hx, hb, hml, hown, hts⟩ (ct_X8_ofVersion l g hfl w md mn mw (a1) ((349 : Int32)) h_q1) (cwV 2 hts gX8_filePlatter_X8_ofVersion rfl rfl rfl (by decide +kernel) ⟨Nat.le_of_ble_eq_true rfl, Nat.le_of_ble_eq_true rfl⟩) hK hW hS (x_recv (i := (g.1 + 189)) (k := 8) (j := 0) hK hW ⟨⟨hfl, rfl⟩, by decide⟩ rfl (by decide)) rfl hl.1 (rest := []) rfl (Nat.le_of_ble_eq_true rfl) dX8_filePlatter_5 ⟨Nat.le_of_ble_eq_true rfl, Nat.le_of_ble_eq_true rfl⟩) hS (fun H locs hW hS => ?_)
  have hW : World g (wM w q1.2 mn mw) H := hW
  refine W.eq (g2 := F0 m 8 ls [.int q1.1]) rfl ?_
  cases hf
  exact x_iret hx hb hr hlocks hK hW hS rfl dX8_filePlatter_8
abbrev rm_X8_fileStart : Room := { frames := 3, cells := 0, slots := 0, locals := 68 }
set_option maxRecDepth 100000 in
set_option maxHeartbeats 4000000 in
theorem ct_X8_fileStart (l : Launch) (g : GT) (hfl : 2 ≤ gf g) (w : WT) (md : SD) (mn : Nat → Int64) (mw : Int64) (a1 : Int32) {q : (Int32 × SD)} (hf : f_X8_fileStart md a1 = some q) : Met l yX8_fileStart wsX8_fileStart rm_X8_fileStart (cPre g (wM w md mn mw) [.ref (adr (g.1 + 189) 8 0), .int a1]) (cQi g q.1 (wM w q.2 mn mw)) 0 0 (gA g) := by
  refine x_met (by decide) rfl (Nat.le_of_ble_eq_true rfl) ?_
  intro p e s m below meth c hx hb hr hml hts hown hlocks hK hW hS ls hl
  have hown : s.vm.findClass RX8 = some m.cls := hown
  have hl : lv_has ls 2 [(0, .ref (adr (g.1 + 189) 8 0)), (1, .int a1)] := hl
  rw [f_X8_fileStart] at hf
  refine lv_aload_n hx hb dX8_fileStart_0 rfl (lv_at hl 0 rfl) ?_
  refine lv_iload_n hx hb dX8_fileStart_1 rfl (lv_at hl 1 rfl) ?_
  refine lv_sipush (v := 389) hx hb dX8_fileStart_2 (by decide) ?_
  obtain ⟨q1, h_q1, hf⟩ := x_bindE hf
  refine x_ci0 (x_rV ⟨hx, hb, hml, hown, hts⟩ (ct_X8_ofVersion l g hfl w md mn mw (a1) ((389 : Int32)) h_q1) (cwV 2 hts gX8_fileStart_X8_ofVersion rfl rfl rfl (by decide +kernel) ⟨Nat.le_of_ble_eq_true rfl, Nat.le_of_ble_eq_true rfl⟩) hK hW hS (x_recv (i := (g.1 + 189)) (k := 8) (j := 0) hK hW ⟨⟨hfl, rfl⟩, by decide⟩ rfl (by decide)) rfl hl.1 (rest := []) rfl (Nat.le_of_ble_eq_true rfl) dX8_fileStart_5 ⟨Nat.le_of_ble_eq_true rfl, Nat.le_of_ble_eq_true rfl⟩) hS (fun H locs hW hS => ?_)
  have hW : World g (wM w q1.2 mn mw) H := hW
  refine W.eq (g2 := F0 m 8 ls [.int q1.1]) rfl ?_
  cases hf
  exact x_iret hx hb hr hlocks hK hW hS rfl dX8_fileStart_8
abbrev rm_X8_fileSize : Room := { frames := 3, cells := 0, slots := 0, locals := 68 }
set_option maxRecDepth 100000 in
set_option maxHeartbeats 4000000 in
theorem ct_X8_fileSize (l : Launch) (g : GT) (hfl : 2 ≤ gf g) (w : WT) (md : SD) (mn : Nat → Int64) (mw : Int64) (a1 : Int32) {q : (Int32 × SD)} (hf : f_X8_fileSize md a1 = some q) : Met l yX8_fileSize wsX8_fileSize rm_X8_fileSize (cPre g (wM w md mn mw) [.ref (adr (g.1 + 189) 8 0), .int a1]) (cQi g q.1 (wM w q.2 mn mw)) 0 0 (gA g) := by
  refine x_met (by decide) rfl (Nat.le_of_ble_eq_true rfl) ?_
  intro p e s m below meth c hx hb hr hml hts hown hlocks hK hW hS ls hl
  have hown : s.vm.findClass RX8 = some m.cls := hown
  have hl : lv_has ls 2 [(0, .ref (adr (g.1 + 189) 8 0)), (1, .int a1)] := hl
  rw [f_X8_fileSize] at hf
  refine lv_aload_n hx hb dX8_fileSize_0 rfl (lv_at hl 0 rfl) ?_
  refine lv_iload_n hx hb dX8_fileSize_1 rfl (lv_at hl 1 rfl) ?_
  refine lv_sipush (v := 429) hx hb dX8_fileSize_2 (by decide) ?_
  obtain ⟨q1, h_q1, hf⟩ := x_bindE hf
  refine x_ci0 (x_rV ⟨hx, hb, hml, hown, hts⟩ (ct_X8_ofVersion l g hfl w md mn mw (a1) ((429 : Int32)) h_q1) (cwV 2 hts gX8_fileSize_X8_ofVersion rfl rfl rfl (by decide +kernel) ⟨Nat.le_of_ble_eq_true rfl, Nat.le_of_ble_eq_true rfl⟩) hK hW hS (x_recv (i := (g.1 + 189)) (k := 8) (j := 0) hK hW ⟨⟨hfl, rfl⟩, by decide⟩ rfl (by decide)) rfl hl.1 (rest := []) rfl (Nat.le_of_ble_eq_true rfl) dX8_fileSize_5 ⟨Nat.le_of_ble_eq_true rfl, Nat.le_of_ble_eq_true rfl⟩) hS (fun H locs hW hS => ?_)
  have hW : World g (wM w q1.2 mn mw) H := hW
  refine W.eq (g2 := F0 m 8 ls [.int q1.1]) rfl ?_
  cases hf
  exact x_iret hx hb hr hlocks hK hW hS rfl dX8_fileSize_8
abbrev rm_X8_fileSession : Room := { frames := 3, cells := 0, slots := 0, locals := 68 }
set_option maxRecDepth 100000 in
set_option maxHeartbeats 4000000 in
theorem ct_X8_fileSession (l : Launch) (g : GT) (hfl : 2 ≤ gf g) (w : WT) (md : SD) (mn : Nat → Int64) (mw : Int64) (a1 : Int32) {q : (Int32 × SD)} (hf : f_X8_fileSession md a1 = some q) : Met l yX8_fileSession wsX8_fileSession rm_X8_fileSession (cPre g (wM w md mn mw) [.ref (adr (g.1 + 189) 8 0), .int a1]) (cQi g q.1 (wM w q.2 mn mw)) 0 0 (gA g) := by
  refine x_met (by decide) rfl (Nat.le_of_ble_eq_true rfl) ?_
  intro p e s m below meth c hx hb hr hml hts hown hlocks hK hW hS ls hl
  have hown : s.vm.findClass RX8 = some m.cls := hown
  have hl : lv_has ls 2 [(0, .ref (adr (g.1 + 189) 8 0)), (1, .int a1)] := hl
  rw [f_X8_fileSession] at hf
  refine lv_aload_n hx hb dX8_fileSession_0 rfl (lv_at hl 0 rfl) ?_
  refine lv_iload_n hx hb dX8_fileSession_1 rfl (lv_at hl 1 rfl) ?_
  refine lv_sipush (v := 469) hx hb dX8_fileSession_2 (by decide) ?_
  obtain ⟨q1, h_q1, hf⟩ := x_bindE hf
  refine x_ci0 (x_rV ⟨hx, hb, hml, hown, hts⟩ (ct_X8_ofVersion l g hfl w md mn mw (a1) ((469 : Int32)) h_q1) (cwV 2 hts gX8_fileSession_X8_ofVersion rfl rfl rfl (by decide +kernel) ⟨Nat.le_of_ble_eq_true rfl, Nat.le_of_ble_eq_true rfl⟩) hK hW hS (x_recv (i := (g.1 + 189)) (k := 8) (j := 0) hK hW ⟨⟨hfl, rfl⟩, by decide⟩ rfl (by decide)) rfl hl.1 (rest := []) rfl (Nat.le_of_ble_eq_true rfl) dX8_fileSession_5 ⟨Nat.le_of_ble_eq_true rfl, Nat.le_of_ble_eq_true rfl⟩) hS (fun H locs hW hS => ?_)
  have hW : World g (wM w q1.2 mn mw) H := hW
  refine W.eq (g2 := F0 m 8 ls [.int q1.1]) rfl ?_
  cases hf
  exact x_iret hx hb hr hlocks hK hW hS rfl dX8_fileSession_8
abbrev rm_X8_remappedSectors : Room := { frames := 3, cells := 0, slots := 0, locals := 68 }
set_option maxRecDepth 100000 in
set_option maxHeartbeats 4000000 in
theorem ct_X8_remappedSectors (l : Launch) (g : GT) (hfl : 2 ≤ gf g) (w : WT) (md : SD) (mn : Nat → Int64) (mw : Int64) (a1 : Int32) {q : (Int32 × SD)} (hf : f_X8_remappedSectors md a1 = some q) : Met l yX8_remappedSectors wsX8_remappedSectors rm_X8_remappedSectors (cPre g (wM w md mn mw) [.ref (adr (g.1 + 189) 8 0), .int a1]) (cQi g q.1 (wM w q.2 mn mw)) 0 0 (gA g) := by
  refine x_met (by decide) rfl (Nat.le_of_ble_eq_true rfl) ?_
  intro p e s m below meth c hx hb hr hml hts hown hlocks hK hW hS ls hl
  have hown : s.vm.findClass RX8 = some m.cls := hown
  have hl : lv_has ls 2 [(0, .ref (adr (g.1 + 189) 8 0)), (1, .int a1)] := hl
  rw [f_X8_remappedSectors] at hf
  refine lv_aload_n hx hb dX8_remappedSectors_0 rfl (lv_at hl 0 rfl) ?_
  refine lv_iload_n hx hb dX8_remappedSectors_1 rfl (lv_at hl 1 rfl) ?_
  refine lv_sipush (v := 509) hx hb dX8_remappedSectors_2 (by decide) ?_
  obtain ⟨q1, h_q1, hf⟩ := x_bindE hf
  refine x_ci0 (x_rV ⟨hx, hb, hml, hown, hts⟩ (ct_X8_ofVersion l g hfl w md mn mw (a1) ((509 : Int32)) h_q1) (cwV 2 hts gX8_remappedSectors_X8_ofVersion rfl rfl rfl (by decide +kernel) ⟨Nat.le_of_ble_eq_true rfl, Nat.le_of_ble_eq_true rfl⟩) hK hW hS (x_recv (i := (g.1 + 189)) (k := 8) (j := 0) hK hW ⟨⟨hfl, rfl⟩, by decide⟩ rfl (by decide)) rfl hl.1 (rest := []) rfl (Nat.le_of_ble_eq_true rfl) dX8_remappedSectors_5 ⟨Nat.le_of_ble_eq_true rfl, Nat.le_of_ble_eq_true rfl⟩) hS (fun H locs hW hS => ?_)
  have hW : World g (wM w q1.2 mn mw) H := hW
  refine W.eq (g2 := F0 m 8 ls [.int q1.1]) rfl ?_
  cases hf
  exact x_iret hx hb hr hlocks hK hW hS rfl dX8_remappedSectors_8
abbrev rm_X8_fileState : Room := { frames := 2, cells := 0, slots := 0, locals := 46 }
set_option maxRecDepth 100000 in
set_option maxHeartbeats 4000000 in
theorem ct_X8_fileState (l : Launch) (g : GT) (hfl : 2 ≤ gf g) (w : WT) (md : SD) (mn : Nat → Int64) (mw : Int64) (a1 : Int32) {q : (Int32 × SD)} (hf : f_X8_fileState md a1 = some q) : Met l yX8_fileState wsX8_fileState rm_X8_fileState (cPre g (wM w md mn mw) [.ref (adr (g.1 + 189) 8 0), .int a1]) (cQi g q.1 (wM w q.2 mn mw)) 0 0 (gA g) := by
  have i_8 : ∀ w ∈ u_ws RX8 TX8 27, w ∈ wsX8_fileState := by decide +kernel
  refine x_met (by decide) rfl (Nat.le_of_ble_eq_true rfl) ?_
  intro p e s m below meth c hx hb hr hml hts hown hlocks hK hW hS ls hl
  have hown : s.vm.findClass RX8 = some m.cls := hown
  have hl : lv_has ls 2 [(0, .ref (adr (g.1 + 189) 8 0)), (1, .int a1)] := hl
  rw [f_X8_fileState] at hf
  refine lv_aload_n hx hb dX8_fileState_0 rfl (lv_at hl 0 rfl) ?_
  refine lv_iconst (v := 0) hx hb dX8_fileState_1 (by decide) ?_
  obtain ⟨md1, e_md1, hf⟩ := x_letE hf
  refine x_put (i := (g.1 + 189)) (k := 8) (j := 0) (t := 0) (w' := wM w md1 mn mw) hx hb hts i_8 tyX8 tyX8_ok nmX8 hown hK hW ⟨⟨hfl, rfl⟩, by decide⟩ hS rfl ⟨by decide, by decide, rfl⟩ (hts (.fieldLink RX8 51 "OpticalJukeboxModel" "thrown" "I") (by decide +kernel)) rfl (ty := .int) (by decide +kernel) rfl rfl ⟨rfl, rfl⟩ dX8_fileState_2 (fp_M e_md1 rfl) (fun H locs hW hS => ?_)
  refine lv_aload_n hx hb dX8_fileState_5 rfl (lv_at hl 0 rfl) ?_
  refine lv_iload_n hx hb dX8_fileState_6 rfl (lv_at hl 1 rfl) ?_
  obtain ⟨q2, h_q2, hf⟩ := x_bindE hf
  refine x_ci0 (x_rV ⟨hx, hb, hml, hown, hts⟩ (ct_X8_isFile l g hfl w md1 mn mw (a1) h_q2) (cwV 1 hts gX8_fileState_X8_isFile rfl rfl rfl (by decide +kernel) ⟨Nat.le_of_ble_eq_true rfl, Nat.le_of_ble_eq_true rfl⟩) hK hW hS (x_recv (i := (g.1 + 189)) (k := 8) (j := 0) hK hW ⟨⟨hfl, rfl⟩, by decide⟩ rfl (by decide)) rfl hl.1 (rest := []) rfl (Nat.le_of_ble_eq_true rfl) dX8_fileState_7 ⟨Nat.le_of_ble_eq_true rfl, Nat.le_of_ble_eq_true rfl⟩) hS (fun H locs hW hS => ?_)
  have hW : World g (wM w md1 mn mw) H := hW
  refine W.eq (g2 := F0 m 10 ls [.int q2]) rfl ?_
  refine lv_if_ne (tgt := 16) hx hb dX8_fileState_10 (by decide) (fun hc => ?_) (fun hc => ?_)
  · have hf := x_iteF hf hc
    refine lv_aload_n hx hb dX8_fileState_16 rfl (lv_at hl 0 rfl) ?_
    refine x_get (i := (g.1 + 189)) (k := 8) (j := 0) (t := 1) hx hb hts i_8 hown hK hW ⟨⟨hfl, rfl⟩, by decide⟩ rfl ⟨by decide, by decide, rfl⟩ (hts (.fieldLink RX8 7 "OpticalJukeboxModel" "now" "[I") (by decide +kernel)) (v := .ref (adr (g.1 + 189) 30 0)) rfl dX8_fileState_17 ?_
    refine lv_sipush (v := 549) hx hb dX8_fileState_20 (by decide) ?_
    refine lv_aload_n hx hb dX8_fileState_23 rfl (lv_at hl 0 rfl) ?_
    refine lv_iload_n hx hb dX8_fileState_24 rfl (lv_at hl 1 rfl) ?_
    obtain ⟨q3, h_q3, hf⟩ := x_bindE hf
    refine x_ci0 (x_rV ⟨hx, hb, hml, hown, hts⟩ (ct_X8_version l g hfl w md1 mn mw (a1) h_q3) (cwV 1 hts gX8_fileState_X8_version rfl rfl rfl (by decide +kernel) ⟨Nat.le_of_ble_eq_true rfl, Nat.le_of_ble_eq_true rfl⟩) hK hW hS (x_recv (i := (g.1 + 189)) (k := 8) (j := 0) hK hW ⟨⟨hfl, rfl⟩, by decide⟩ rfl (by decide)) rfl hl.1 (rest := [.int (549 : Int32), .ref (adr (g.1 + 189) 30 0)]) rfl (Nat.le_of_ble_eq_true rfl) dX8_fileState_25 ⟨Nat.le_of_ble_eq_true rfl, Nat.le_of_ble_eq_true rfl⟩) hS (fun H locs hW hS => ?_)
    have hW : World g (wM w md1 mn mw) H := hW
    refine W.eq (g2 := F0 m 28 ls [.int q3, .int (549 : Int32), .ref (adr (g.1 + 189) 30 0)]) rfl ?_
    refine lv_iadd hx hb dX8_fileState_28 ?_
    obtain ⟨hg4, hf⟩ := x_guardE hf
    refine x_iald (i := (g.1 + 189)) (k := 30) (j := 0) (f := md1 30 0) hx hb hK hW ⟨⟨hfl, rfl⟩, by decide⟩ (by decide) (rfl) rfl hg4 dX8_fileState_29 ?_
    refine lv_iconst (v := 1) hx hb dX8_fileState_30 (by decide) ?_
    refine lv_icmp_ne (tgt := 38) hx hb dX8_fileState_31 (by decide) (fun hc => ?_) (fun hc => ?_)
    · have hf := x_iteF hf hc
      refine lv_aload_n hx hb dX8_fileState_38 rfl (lv_at hl 0 rfl) ?_
      refine lv_aload_n hx hb dX8_fileState_39 rfl (lv_at hl 0 rfl) ?_
      refine lv_iload_n hx hb dX8_fileState_40 rfl (lv_at hl 1 rfl) ?_
      obtain ⟨q5, h_q5, hf⟩ := x_bindE hf
      refine x_ci0 (x_rV ⟨hx, hb, hml, hown, hts⟩ (ct_X8_version l g hfl w md1 mn mw (a1) h_q5) (cwV 1 hts gX8_fileState_X8_version rfl rfl rfl (by decide +kernel) ⟨Nat.le_of_ble_eq_true rfl, Nat.le_of_ble_eq_true rfl⟩) hK hW hS (x_recv (i := (g.1 + 189)) (k := 8) (j := 0) hK hW ⟨⟨hfl, rfl⟩, by decide⟩ rfl (by decide)) rfl hl.1 (rest := [.ref (adr (g.1 + 189) 8 0)]) rfl (Nat.le_of_ble_eq_true rfl) dX8_fileState_41 ⟨Nat.le_of_ble_eq_true rfl, Nat.le_of_ble_eq_true rfl⟩) hS (fun H locs hW hS => ?_)
      have hW : World g (wM w md1 mn mw) H := hW
      refine W.eq (g2 := F0 m 44 ls [.int q5, .ref (adr (g.1 + 189) 8 0)]) rfl ?_
      obtain ⟨q6, h_q6, hf⟩ := x_bindE hf
      refine x_ci0 (x_rV ⟨hx, hb, hml, hown, hts⟩ (ct_X8_isClosed l g hfl w md1 mn mw (q5) h_q6) (cwV 1 hts gX8_fileState_X8_isClosed rfl rfl rfl (by decide +kernel) ⟨Nat.le_of_ble_eq_true rfl, Nat.le_of_ble_eq_true rfl⟩) hK hW hS (x_recv (i := (g.1 + 189)) (k := 8) (j := 0) hK hW ⟨⟨hfl, rfl⟩, by decide⟩ rfl (by decide)) rfl hl.1 (rest := []) rfl (Nat.le_of_ble_eq_true rfl) dX8_fileState_44 ⟨Nat.le_of_ble_eq_true rfl, Nat.le_of_ble_eq_true rfl⟩) hS (fun H locs hW hS => ?_)
      have hW : World g (wM w md1 mn mw) H := hW
      refine W.eq (g2 := F0 m 47 ls [.int q6]) rfl ?_
      refine lv_if_eq (tgt := 54) hx hb dX8_fileState_47 (by decide) (fun hc => ?_) (fun hc => ?_)
      · have hf := x_iteT hf hc
        refine lv_iconst (v := 2) hx hb dX8_fileState_54 (by decide) ?_
        cases hf
        exact x_iret hx hb hr hlocks hK hW hS rfl dX8_fileState_55
      · have hf := x_iteF hf hc
        refine lv_iconst (v := 0) hx hb dX8_fileState_50 (by decide) ?_
        refine lv_goto (tgt := 55) hx hb dX8_fileState_51 (by decide) ?_
        cases hf
        exact x_iret hx hb hr hlocks hK hW hS rfl dX8_fileState_55
    · have hf := x_iteT hf hc
      refine lv_iconst (v := 1) hx hb dX8_fileState_34 (by decide) ?_
      refine lv_goto (tgt := 55) hx hb dX8_fileState_35 (by decide) ?_
      cases hf
      exact x_iret hx hb hr hlocks hK hW hS rfl dX8_fileState_55
  · have hf := x_iteT hf hc
    refine lv_ldc (v := -1000001) hx hb hown (hts (.constant RX8 186 (-1000001)) (by decide +kernel)) dX8_fileState_13 ?_
    cases hf
    exact x_iret hx hb hr hlocks hK hW hS rfl dX8_fileState_15
abbrev rm_X8_whyNotRead : Room := { frames := 3, cells := 0, slots := 0, locals := 64 }
set_option maxRecDepth 100000 in
set_option maxHeartbeats 4000000 in
theorem ct_X8_whyNotRead (l : Launch) (g : GT) (hfl : 2 ≤ gf g) (w : WT) (md : SD) (mn : Nat → Int64) (mw : Int64) (a1 : Int32) {q : Int32} (hf : f_X8_whyNotRead md a1 = some q) : Met l yX8_whyNotRead wsX8_whyNotRead rm_X8_whyNotRead (cPre g (wM w md mn mw) [.ref (adr (g.1 + 189) 8 0), .int a1]) (cQi g q (wM w md mn mw)) 0 0 (gA g) := by
  have i_8 : ∀ w ∈ u_ws RX8 TX8 27, w ∈ wsX8_whyNotRead := by decide +kernel
  refine x_met (by decide) rfl (Nat.le_of_ble_eq_true rfl) ?_
  intro p e s m below meth c hx hb hr hml hts hown hlocks hK hW hS ls hl
  have hown : s.vm.findClass RX8 = some m.cls := hown
  have hl : lv_has ls 2 [(0, .ref (adr (g.1 + 189) 8 0)), (1, .int a1)] := hl
  rw [f_X8_whyNotRead] at hf
  refine lv_aload_n hx hb dX8_whyNotRead_0 rfl (lv_at hl 0 rfl) ?_
  refine lv_iload_n hx hb dX8_whyNotRead_1 rfl (lv_at hl 1 rfl) ?_
  obtain ⟨q1, h_q1, hf⟩ := x_bindE hf
  refine x_ci0 (x_rV ⟨hx, hb, hml, hown, hts⟩ (ct_X8_isFile l g hfl w md mn mw (a1) h_q1) (cwV 1 hts gX8_whyNotRead_X8_isFile rfl rfl rfl (by decide +kernel) ⟨Nat.le_of_ble_eq_true rfl, Nat.le_of_ble_eq_true rfl⟩) hK hW hS (x_recv (i := (g.1 + 189)) (k := 8) (j := 0) hK hW ⟨⟨hfl, rfl⟩, by decide⟩ rfl (by decide)) rfl hl.1 (rest := []) rfl (Nat.le_of_ble_eq_true rfl) dX8_whyNotRead_2 ⟨Nat.le_of_ble_eq_true rfl, Nat.le_of_ble_eq_true rfl⟩) hS (fun H locs hW hS => ?_)
  have hW : World g (wM w md mn mw) H := hW
  refine W.eq (g2 := F0 m 5 ls [.int q1]) rfl ?_
  refine lv_if_ne (tgt := 13) hx hb dX8_whyNotRead_5 (by decide) (fun hc => ?_) (fun hc => ?_)
  · have hf := x_iteF hf hc
    refine lv_aload_n hx hb dX8_whyNotRead_13 rfl (lv_at hl 0 rfl) ?_
    refine x_get (i := (g.1 + 189)) (k := 8) (j := 0) (t := 1) hx hb hts i_8 hown hK hW ⟨⟨hfl, rfl⟩, by decide⟩ rfl ⟨by decide, by decide, rfl⟩ (hts (.fieldLink RX8 7 "OpticalJukeboxModel" "now" "[I") (by decide +kernel)) (v := .ref (adr (g.1 + 189) 30 0)) rfl dX8_whyNotRead_14 ?_
    refine lv_bipush (v := 6) hx hb dX8_whyNotRead_17 (by decide) ?_
    refine x_iald (i := (g.1 + 189)) (k := 30) (j := 0) (f := md 30 0) hx hb hK hW ⟨⟨hfl, rfl⟩, by decide⟩ (by decide) (rfl) rfl (by unfold vp_in; decide) dX8_whyNotRead_19 ?_
    refine W.eq (g2 := F0 m 20 ls [.int (md 30 0 6)]) rfl ?_
    refine lv_if_ne (tgt := 28) hx hb dX8_whyNotRead_20 (by decide) (fun hc => ?_) (fun hc => ?_)
    · have hf := x_iteF hf hc
      refine lv_aload_n hx hb dX8_whyNotRead_28 rfl (lv_at hl 0 rfl) ?_
      refine lv_iload_n hx hb dX8_whyNotRead_29 rfl (lv_at hl 1 rfl) ?_
      obtain ⟨q2, h_q2, hf⟩ := x_bindE hf
      refine x_ci0 (x_rV ⟨hx, hb, hml, hown, hts⟩ (ct_X8_isReadable l g hfl w md mn mw (a1) h_q2) (cwV 1 hts gX8_whyNotRead_X8_isReadable rfl rfl rfl (by decide +kernel) ⟨Nat.le_of_ble_eq_true rfl, Nat.le_of_ble_eq_true rfl⟩) hK hW hS (x_recv (i := (g.1 + 189)) (k := 8) (j := 0) hK hW ⟨⟨hfl, rfl⟩, by decide⟩ rfl (by decide)) rfl hl.1 (rest := []) rfl (Nat.le_of_ble_eq_true rfl) dX8_whyNotRead_30 ⟨Nat.le_of_ble_eq_true rfl, Nat.le_of_ble_eq_true rfl⟩) hS (fun H locs hW hS => ?_)
      have hW : World g (wM w md mn mw) H := hW
      refine W.eq (g2 := F0 m 33 ls [.int q2]) rfl ?_
      refine lv_if_eq (tgt := 40) hx hb dX8_whyNotRead_33 (by decide) (fun hc => ?_) (fun hc => ?_)
      · have hf := x_iteT hf hc
        refine lv_ldc (v := -1000008) hx hb hown (hts (.constant RX8 182 (-1000008)) (by decide +kernel)) dX8_whyNotRead_40 ?_
        cases hf
        exact x_iret hx hb hr hlocks hK hW hS rfl dX8_whyNotRead_42
      · have hf := x_iteF hf hc
        refine lv_iconst (v := 0) hx hb dX8_whyNotRead_36 (by decide) ?_
        refine lv_goto (tgt := 42) hx hb dX8_whyNotRead_37 (by decide) ?_
        cases hf
        exact x_iret hx hb hr hlocks hK hW hS rfl dX8_whyNotRead_42
    · have hf := x_iteT hf hc
      refine lv_ldc (v := -1000007) hx hb hown (hts (.constant RX8 177 (-1000007)) (by decide +kernel)) dX8_whyNotRead_23 ?_
      refine lv_goto (tgt := 42) hx hb dX8_whyNotRead_25 (by decide) ?_
      cases hf
      exact x_iret hx hb hr hlocks hK hW hS rfl dX8_whyNotRead_42
  · have hf := x_iteT hf hc
    refine lv_ldc (v := -1000001) hx hb hown (hts (.constant RX8 186 (-1000001)) (by decide +kernel)) dX8_whyNotRead_8 ?_
    refine lv_goto (tgt := 42) hx hb dX8_whyNotRead_10 (by decide) ?_
    cases hf
    exact x_iret hx hb hr hlocks hK hW hS rfl dX8_whyNotRead_42
abbrev rm_X8_readTime : Room := { frames := 6, cells := 0, slots := 0, locals := 130 }
set_option maxRecDepth 100000 in
set_option maxHeartbeats 4000000 in
theorem ct_X8_readTime (l : Launch) (g : GT) (hfl : 2 ≤ gf g) (w : WT) (md : SD) (mn : Nat → Int64) (mw : Int64) (a1 : Int32) {q : (Int32 × SD)} (hf : f_X8_readTime md a1 = some q) : Met l yX8_readTime wsX8_readTime rm_X8_readTime (cPre g (wM w md mn mw) [.ref (adr (g.1 + 189) 8 0), .int a1]) (cQi g q.1 (wM w q.2 mn mw)) 0 0 (gA g) := by
  have i_8 : ∀ w ∈ u_ws RX8 TX8 27, w ∈ wsX8_readTime := by decide +kernel
  refine x_met (by decide) rfl (Nat.le_of_ble_eq_true rfl) ?_
  intro p e s m below meth c hx hb hr hml hts hown hlocks hK hW hS ls hl
  have hown : s.vm.findClass RX8 = some m.cls := hown
  have hl : lv_has ls 3 [(0, .ref (adr (g.1 + 189) 8 0)), (1, .int a1)] := hl
  rw [f_X8_readTime] at hf
  refine lv_aload_n hx hb dX8_readTime_0 rfl (lv_at hl 0 rfl) ?_
  refine lv_iconst (v := 0) hx hb dX8_readTime_1 (by decide) ?_
  obtain ⟨md1, e_md1, hf⟩ := x_letE hf
  refine x_put (i := (g.1 + 189)) (k := 8) (j := 0) (t := 0) (w' := wM w md1 mn mw) hx hb hts i_8 tyX8 tyX8_ok nmX8 hown hK hW ⟨⟨hfl, rfl⟩, by decide⟩ hS rfl ⟨by decide, by decide, rfl⟩ (hts (.fieldLink RX8 51 "OpticalJukeboxModel" "thrown" "I") (by decide +kernel)) rfl (ty := .int) (by decide +kernel) rfl rfl ⟨rfl, rfl⟩ dX8_readTime_2 (fp_M e_md1 rfl) (fun H locs hW hS => ?_)
  refine lv_aload_n hx hb dX8_readTime_5 rfl (lv_at hl 0 rfl) ?_
  refine lv_iload_n hx hb dX8_readTime_6 rfl (lv_at hl 1 rfl) ?_
  obtain ⟨q2, h_q2, hf⟩ := x_bindE hf
  refine x_ci0 (x_rV ⟨hx, hb, hml, hown, hts⟩ (ct_X8_whyNotRead l g hfl w md1 mn mw (a1) h_q2) (cwV 1 hts gX8_readTime_X8_whyNotRead rfl rfl rfl (by decide +kernel) ⟨Nat.le_of_ble_eq_true rfl, Nat.le_of_ble_eq_true rfl⟩) hK hW hS (x_recv (i := (g.1 + 189)) (k := 8) (j := 0) hK hW ⟨⟨hfl, rfl⟩, by decide⟩ rfl (by decide)) rfl hl.1 (rest := []) rfl (Nat.le_of_ble_eq_true rfl) dX8_readTime_7 ⟨Nat.le_of_ble_eq_true rfl, Nat.le_of_ble_eq_true rfl⟩) hS (fun H locs hW hS => ?_)
  have hW : World g (wM w md1 mn mw) H := hW
  refine W.eq (g2 := F0 m 10 ls [.int q2]) rfl ?_
  refine lv_istore_n (lv' := [(2, .int q2), (0, .ref (adr (g.1 + 189) 8 0)), (1, .int a1)]) hx hb dX8_readTime_10 rfl hl (by decide) rfl (fun ls hl => ?_)
  refine lv_iload_n hx hb dX8_readTime_11 rfl (lv_at hl 0 rfl) ?_
  refine lv_if_eq (tgt := 17) hx hb dX8_readTime_12 (by decide) (fun hc => ?_) (fun hc => ?_)
  · have hf := x_iteT hf hc
    refine lv_aload_n hx hb dX8_readTime_17 rfl (lv_at hl 1 rfl) ?_
    obtain ⟨q3, h_q3, hf⟩ := x_bindE hf
    refine x_cv0 (x_rV ⟨hx, hb, hml, hown, hts⟩ (ct_X8_tries l g hfl w md1 mn mw  h_q3) (cwV 0 hts gX8_readTime_X8_tries rfl rfl rfl (by decide +kernel) ⟨Nat.le_of_ble_eq_true rfl, Nat.le_of_ble_eq_true rfl⟩) hK hW hS (x_recv (i := (g.1 + 189)) (k := 8) (j := 0) hK hW ⟨⟨hfl, rfl⟩, by decide⟩ rfl (by decide)) rfl hl.1 (rest := []) rfl (Nat.le_of_ble_eq_true rfl) dX8_readTime_18 ⟨Nat.le_of_ble_eq_true rfl, Nat.le_of_ble_eq_true rfl⟩) hS (fun H locs hW hS => ?_)
    have hW : World g (wM w q3 mn mw) H := hW
    refine lv_aload_n hx hb dX8_readTime_21 rfl (lv_at hl 1 rfl) ?_
    refine lv_iload_n hx hb dX8_readTime_22 rfl (lv_at hl 2 rfl) ?_
    obtain ⟨q4, h_q4, hf⟩ := x_bindE hf
    refine x_cv0 (x_rV ⟨hx, hb, hml, hown, hts⟩ (ct_X8_reads l g hfl w q3 mn mw (a1) h_q4) (cwV 1 hts gX8_readTime_X8_reads rfl rfl rfl (by decide +kernel) ⟨Nat.le_of_ble_eq_true rfl, Nat.le_of_ble_eq_true rfl⟩) hK hW hS (x_recv (i := (g.1 + 189)) (k := 8) (j := 0) hK hW ⟨⟨hfl, rfl⟩, by decide⟩ rfl (by decide)) rfl hl.1 (rest := []) rfl (Nat.le_of_ble_eq_true rfl) dX8_readTime_23 ⟨Nat.le_of_ble_eq_true rfl, Nat.le_of_ble_eq_true rfl⟩) hS (fun H locs hW hS => ?_)
    have hW : World g (wM w q4 mn mw) H := hW
    refine lv_aload_n hx hb dX8_readTime_26 rfl (lv_at hl 1 rfl) ?_
    obtain ⟨q5, h_q5, hf⟩ := x_bindE hf
    refine x_ci0 (x_rV ⟨hx, hb, hml, hown, hts⟩ (ct_X8_takesBack l g hfl w q4 mn mw  h_q5) (cwV 0 hts gX8_readTime_X8_takesBack rfl rfl rfl (by decide +kernel) ⟨Nat.le_of_ble_eq_true rfl, Nat.le_of_ble_eq_true rfl⟩) hK hW hS (x_recv (i := (g.1 + 189)) (k := 8) (j := 0) hK hW ⟨⟨hfl, rfl⟩, by decide⟩ rfl (by decide)) rfl hl.1 (rest := []) rfl (Nat.le_of_ble_eq_true rfl) dX8_readTime_27 ⟨Nat.le_of_ble_eq_true rfl, Nat.le_of_ble_eq_true rfl⟩) hS (fun H locs hW hS => ?_)
    have hW : World g (wM w q5.2 mn mw) H := hW
    refine W.eq (g2 := F0 m 30 ls [.int q5.1]) rfl ?_
    cases hf
    exact x_iret hx hb hr hlocks hK hW hS rfl dX8_readTime_30
  · have hf := x_iteF hf hc
    refine lv_iload_n hx hb dX8_readTime_15 rfl (lv_at hl 0 rfl) ?_
    cases hf
    exact x_iret hx hb hr hlocks hK hW hS rfl dX8_readTime_16
abbrev rm_X8_lastGoodVersion : Room := { frames := 2, cells := 0, slots := 0, locals := 46 }
set_option maxRecDepth 100000 in
set_option maxHeartbeats 4000000 in
theorem ct_X8_lastGoodVersion (l : Launch) (g : GT) (hfl : 2 ≤ gf g) (w : WT) (md : SD) (mn : Nat → Int64) (mw : Int64) (a1 : Int32) {q : (Int32 × SD)} (hf : f_X8_lastGoodVersion md a1 = some q) : Met l yX8_lastGoodVersion wsX8_lastGoodVersion rm_X8_lastGoodVersion (cPre g (wM w md mn mw) [.ref (adr (g.1 + 189) 8 0), .int a1]) (cQi g q.1 (wM w q.2 mn mw)) 0 0 (gA g) := by
  have i_8 : ∀ w ∈ u_ws RX8 TX8 27, w ∈ wsX8_lastGoodVersion := by decide +kernel
  refine x_met (by decide) rfl (Nat.le_of_ble_eq_true rfl) ?_
  intro p e s m below meth c hx hb hr hml hts hown hlocks hK hW hS ls hl
  have hown : s.vm.findClass RX8 = some m.cls := hown
  have hl : lv_has ls 5 [(0, .ref (adr (g.1 + 189) 8 0)), (1, .int a1)] := hl
  rw [f_X8_lastGoodVersion] at hf
  refine lv_aload_n hx hb dX8_lastGoodVersion_0 rfl (lv_at hl 0 rfl) ?_
  refine lv_iconst (v := 0) hx hb dX8_lastGoodVersion_1 (by decide) ?_
  obtain ⟨md1, e_md1, hf⟩ := x_letE hf
  refine x_put (i := (g.1 + 189)) (k := 8) (j := 0) (t := 0) (w' := wM w md1 mn mw) hx hb hts i_8 tyX8 tyX8_ok nmX8 hown hK hW ⟨⟨hfl, rfl⟩, by decide⟩ hS rfl ⟨by decide, by decide, rfl⟩ (hts (.fieldLink RX8 51 "OpticalJukeboxModel" "thrown" "I") (by decide +kernel)) rfl (ty := .int) (by decide +kernel) rfl rfl ⟨rfl, rfl⟩ dX8_lastGoodVersion_2 (fp_M e_md1 rfl) (fun H locs hW hS => ?_)
  refine lv_aload_n hx hb dX8_lastGoodVersion_5 rfl (lv_at hl 0 rfl) ?_
  refine lv_iload_n hx hb dX8_lastGoodVersion_6 rfl (lv_at hl 1 rfl) ?_
  obtain ⟨q2, h_q2, hf⟩ := x_bindE hf
  refine x_ci0 (x_rV ⟨hx, hb, hml, hown, hts⟩ (ct_X8_isFile l g hfl w md1 mn mw (a1) h_q2) (cwV 1 hts gX8_lastGoodVersion_X8_isFile rfl rfl rfl (by decide +kernel) ⟨Nat.le_of_ble_eq_true rfl, Nat.le_of_ble_eq_true rfl⟩) hK hW hS (x_recv (i := (g.1 + 189)) (k := 8) (j := 0) hK hW ⟨⟨hfl, rfl⟩, by decide⟩ rfl (by decide)) rfl hl.1 (rest := []) rfl (Nat.le_of_ble_eq_true rfl) dX8_lastGoodVersion_7 ⟨Nat.le_of_ble_eq_true rfl, Nat.le_of_ble_eq_true rfl⟩) hS (fun H locs hW hS => ?_)
  have hW : World g (wM w md1 mn mw) H := hW
  refine W.eq (g2 := F0 m 10 ls [.int q2]) rfl ?_
  refine lv_if_ne (tgt := 16) hx hb dX8_lastGoodVersion_10 (by decide) (fun hc => ?_) (fun hc => ?_)
  · have hf := x_iteF hf hc
    refine lv_ldc (v := -1000005) hx hb hown (hts (.constant RX8 42 (-1000005)) (by decide +kernel)) dX8_lastGoodVersion_16 ?_
    refine lv_istore_n (lv' := [(2, .int (-1000005 : Int32)), (0, .ref (adr (g.1 + 189) 8 0)), (1, .int a1)]) hx hb dX8_lastGoodVersion_18 rfl hl (by decide) rfl (fun ls hl => ?_)
    refine lv_iconst (v := 0) hx hb dX8_lastGoodVersion_19 (by decide) ?_
    refine lv_istore_n (lv' := [(3, .int (0 : Int32)), (2, .int (-1000005 : Int32)), (0, .ref (adr (g.1 + 189) 8 0)), (1, .int a1)]) hx hb dX8_lastGoodVersion_20 rfl hl (by decide) rfl (fun ls hl => ?_)
    refine lv_iconst (v := 0) hx hb dX8_lastGoodVersion_21 (by decide) ?_
    refine lv_istore (lv' := [(4, .int (0 : Int32)), (3, .int (0 : Int32)), (2, .int (-1000005 : Int32)), (0, .ref (adr (g.1 + 189) 8 0)), (1, .int a1)]) hx hb dX8_lastGoodVersion_22 hl (by decide) rfl (fun ls hl => ?_)
    have L24 : ∀ (n : Nat) (v2_24 : Int32) (v3_24 : Int32) (v4_24 : Int32) (ls : Array Slot) (H : Heap) (locs : List Loc), lv_has ls 5 [(0, .ref (adr (g.1 + 189) 8 0)), (1, .int a1), (2, .int v2_24), (3, .int v3_24), (4, .int v4_24)] → World g (wM w md1 mn mw) H → va_S (gA g) s.heap H locs → f_X8_lastGoodVersion_L24 md1 a1 n v2_24 v3_24 v4_24 = some q → W p l e rm_X8_lastGoodVersion s m [.ref (adr (g.1 + 189) 8 0), .int a1].toArray below meth c H locs 0 0 (MQ below (cQi g q.1 (wM w q.2 mn mw)) [.ref (adr (g.1 + 189) 8 0), .int a1].toArray s 0 0 (gA g)) (F0 m 24 ls []) := by
      clear hW hS hl
      intro n
      induction n with
      | zero => intro v2_24 v3_24 v4_24 ls H locs hl hW hS hf; cases hf
      | succ n_24 ih =>
        intro v2_24 v3_24 v4_24 ls H locs hl hW hS hf
        rw [f_X8_lastGoodVersion_L24] at hf
        refine lv_iload hx hb dX8_lastGoodVersion_24 (lv_at hl 4 rfl) ?_
        refine lv_aload_n hx hb dX8_lastGoodVersion_26 rfl (lv_at hl 0 rfl) ?_
        refine x_get (i := (g.1 + 189)) (k := 8) (j := 0) (t := 1) hx hb hts i_8 hown hK hW ⟨⟨hfl, rfl⟩, by decide⟩ rfl ⟨by decide, by decide, rfl⟩ (hts (.fieldLink RX8 7 "OpticalJukeboxModel" "now" "[I") (by decide +kernel)) (v := .ref (adr (g.1 + 189) 30 0)) rfl dX8_lastGoodVersion_27 ?_
        refine lv_bipush (v := 10) hx hb dX8_lastGoodVersion_30 (by decide) ?_
        refine x_iald (i := (g.1 + 189)) (k := 30) (j := 0) (f := md1 30 0) hx hb hK hW ⟨⟨hfl, rfl⟩, by decide⟩ (by decide) (rfl) rfl (by unfold vp_in; decide) dX8_lastGoodVersion_32 ?_
        refine W.eq (g2 := F0 m 33 ls [.int (md1 30 0 10), .int v4_24]) rfl ?_
        refine lv_icmp_ge (tgt := 78) hx hb dX8_lastGoodVersion_33 (by decide) (fun hc => ?_) (fun hc => ?_)
        · have hf := x_iteT hf hc
          refine lv_iload_n hx hb dX8_lastGoodVersion_78 rfl (lv_at hl 2 rfl) ?_
          cases hf
          exact x_iret hx hb hr hlocks hK hW hS rfl dX8_lastGoodVersion_79
        · have hf := x_iteF hf hc
          refine lv_aload_n hx hb dX8_lastGoodVersion_36 rfl (lv_at hl 0 rfl) ?_
          refine x_get (i := (g.1 + 189)) (k := 8) (j := 0) (t := 1) hx hb hts i_8 hown hK hW ⟨⟨hfl, rfl⟩, by decide⟩ rfl ⟨by decide, by decide, rfl⟩ (hts (.fieldLink RX8 7 "OpticalJukeboxModel" "now" "[I") (by decide +kernel)) (v := .ref (adr (g.1 + 189) 30 0)) rfl dX8_lastGoodVersion_37 ?_
          refine lv_sipush (v := 309) hx hb dX8_lastGoodVersion_40 (by decide) ?_
          refine lv_iload hx hb dX8_lastGoodVersion_43 (lv_at hl 4 rfl) ?_
          refine lv_iadd hx hb dX8_lastGoodVersion_45 ?_
          obtain ⟨hg3, hf⟩ := x_guardE hf
          refine x_iald (i := (g.1 + 189)) (k := 30) (j := 0) (f := md1 30 0) hx hb hK hW ⟨⟨hfl, rfl⟩, by decide⟩ (by decide) (rfl) rfl hg3 dX8_lastGoodVersion_46 ?_
          refine lv_iload_n hx hb dX8_lastGoodVersion_47 rfl (lv_at hl 1 rfl) ?_
          refine lv_icmp_eq (tgt := 54) hx hb dX8_lastGoodVersion_48 (by decide) (fun hc => ?_) (fun hc => ?_)
          · have hf := x_iteT hf hc
            refine lv_aload_n hx hb dX8_lastGoodVersion_54 rfl (lv_at hl 0 rfl) ?_
            refine lv_iload hx hb dX8_lastGoodVersion_55 (lv_at hl 4 rfl) ?_
            obtain ⟨q4, h_q4, hf⟩ := x_bindE hf
            refine x_ci0 (x_rV ⟨hx, hb, hml, hown, hts⟩ (ct_X8_isGood l g hfl w md1 mn mw (v4_24) h_q4) (cwV 1 hts gX8_lastGoodVersion_X8_isGood rfl rfl rfl (by decide +kernel) ⟨Nat.le_of_ble_eq_true rfl, Nat.le_of_ble_eq_true rfl⟩) hK hW hS (x_recv (i := (g.1 + 189)) (k := 8) (j := 0) hK hW ⟨⟨hfl, rfl⟩, by decide⟩ rfl (by decide)) rfl hl.1 (rest := []) rfl (Nat.le_of_ble_eq_true rfl) dX8_lastGoodVersion_57 ⟨Nat.le_of_ble_eq_true rfl, Nat.le_of_ble_eq_true rfl⟩) hS (fun H locs hW hS => ?_)
            have hW : World g (wM w md1 mn mw) H := hW
            refine W.eq (g2 := F0 m 60 ls [.int q4]) rfl ?_
            obtain ⟨K5, eK5, hf⟩ := x_letE hf
            have KK5 : ∀ (y6 : Int32) (ls : Array Slot) (H : Heap) (locs : List Loc), lv_has ls 5 [(0, .ref (adr (g.1 + 189) 8 0)), (1, .int a1), (2, .int v2_24), (3, .int v3_24), (4, .int v4_24)] → World g (wM w md1 mn mw) H → va_S (gA g) s.heap H locs → K5 y6 = some q → W p l e rm_X8_lastGoodVersion s m [.ref (adr (g.1 + 189) 8 0), .int a1].toArray below meth c H locs 0 0 (MQ below (cQi g q.1 (wM w q.2 mn mw)) [.ref (adr (g.1 + 189) 8 0), .int a1].toArray s 0 0 (gA g)) (F0 m 68 ls [.int y6]) := by
              intro y6 ls H locs hl hW hS hf
              subst eK5
              refine lv_istore_n (lv' := [(2, .int y6), (0, .ref (adr (g.1 + 189) 8 0)), (1, .int a1), (3, .int v3_24), (4, .int v4_24)]) hx hb dX8_lastGoodVersion_68 rfl hl (by decide) rfl (fun ls hl => ?_)
              obtain ⟨x7, e_x7, hf⟩ := x_letE hf
              refine lv_iinc (v := x7) (lv' := [(3, .int x7), (2, .int y6), (0, .ref (adr (g.1 + 189) 8 0)), (1, .int a1), (4, .int v4_24)]) hx hb dX8_lastGoodVersion_69 hl (k := 3) rfl (by rw [e_x7]; rfl) (by decide) rfl (fun ls hl => ?_)
              obtain ⟨x8, e_x8, hf⟩ := x_letE hf
              refine lv_iinc (v := x8) (lv' := [(4, .int x8), (3, .int x7), (2, .int y6), (0, .ref (adr (g.1 + 189) 8 0)), (1, .int a1)]) hx hb dX8_lastGoodVersion_72 hl (k := 4) rfl (by rw [e_x8]; rfl) (by decide) rfl (fun ls hl => ?_)
              refine lv_goto (tgt := 24) hx hb dX8_lastGoodVersion_75 (by decide) ?_
              exact ih (y6) (x7) (x8) ls _ _ (lv_sub hl [3, 4, 2, 1, 0] rfl) hW hS hf
            clear eK5
            refine lv_if_eq (tgt := 67) hx hb dX8_lastGoodVersion_60 (by decide) (fun hc => ?_) (fun hc => ?_)
            · have hf := x_iteT hf hc
              refine lv_iload_n hx hb dX8_lastGoodVersion_67 rfl (lv_at hl 2 rfl) ?_
              exact KK5 (v2_24) ls _ _ hl hW hS hf
            · have hf := x_iteF hf hc
              refine lv_iload_n hx hb dX8_lastGoodVersion_63 rfl (lv_at hl 3 rfl) ?_
              refine lv_goto (tgt := 68) hx hb dX8_lastGoodVersion_64 (by decide) ?_
              exact KK5 (v3_24) ls _ _ hl hW hS hf
          · have hf := x_iteF hf hc
            refine lv_goto (tgt := 72) hx hb dX8_lastGoodVersion_51 (by decide) ?_
            obtain ⟨x9, e_x9, hf⟩ := x_letE hf
            refine lv_iinc (v := x9) (lv' := [(4, .int x9), (0, .ref (adr (g.1 + 189) 8 0)), (1, .int a1), (2, .int v2_24), (3, .int v3_24)]) hx hb dX8_lastGoodVersion_72 hl (k := 4) rfl (by rw [e_x9]; rfl) (by decide) rfl (fun ls hl => ?_)
            refine lv_goto (tgt := 24) hx hb dX8_lastGoodVersion_75 (by decide) ?_
            exact ih (v2_24) (v3_24) (x9) ls _ _ (lv_sub hl [1, 2, 3, 4, 0] rfl) hW hS hf
    exact L24 fuel ((-1000005 : Int32)) ((0 : Int32)) ((0 : Int32)) ls _ _ (lv_sub hl [3, 4, 2, 1, 0] rfl) hW hS hf
  · have hf := x_iteT hf hc
    refine lv_ldc (v := -1000001) hx hb hown (hts (.constant RX8 186 (-1000001)) (by decide +kernel)) dX8_lastGoodVersion_13 ?_
    cases hf
    exact x_iret hx hb hr hlocks hK hW hS rfl dX8_lastGoodVersion_15
abbrev rm_X8_fileOfSector : Room := { frames := 3, cells := 0, slots := 0, locals := 68 }
set_option maxRecDepth 100000 in
set_option maxHeartbeats 4000000 in
theorem ct_X8_fileOfSector (l : Launch) (g : GT) (hfl : 2 ≤ gf g) (w : WT) (md : SD) (mn : Nat → Int64) (mw : Int64) (a1 : Int32) (a2 : Int32) {q : (Int32 × SD)} (hf : f_X8_fileOfSector md a1 a2 = some q) : Met l yX8_fileOfSector wsX8_fileOfSector rm_X8_fileOfSector (cPre g (wM w md mn mw) [.ref (adr (g.1 + 189) 8 0), .int a1, .int a2]) (cQi g q.1 (wM w q.2 mn mw)) 0 0 (gA g) := by
  have i_8 : ∀ w ∈ u_ws RX8 TX8 27, w ∈ wsX8_fileOfSector := by decide +kernel
  refine x_met (by decide) rfl (Nat.le_of_ble_eq_true rfl) ?_
  intro p e s m below meth c hx hb hr hml hts hown hlocks hK hW hS ls hl
  have hown : s.vm.findClass RX8 = some m.cls := hown
  have hl : lv_has ls 4 [(0, .ref (adr (g.1 + 189) 8 0)), (1, .int a1), (2, .int a2)] := hl
  rw [f_X8_fileOfSector] at hf
  refine lv_aload_n hx hb dX8_fileOfSector_0 rfl (lv_at hl 0 rfl) ?_
  refine lv_iconst (v := 0) hx hb dX8_fileOfSector_1 (by decide) ?_
  obtain ⟨md1, e_md1, hf⟩ := x_letE hf
  refine x_put (i := (g.1 + 189)) (k := 8) (j := 0) (t := 0) (w' := wM w md1 mn mw) hx hb hts i_8 tyX8 tyX8_ok nmX8 hown hK hW ⟨⟨hfl, rfl⟩, by decide⟩ hS rfl ⟨by decide, by decide, rfl⟩ (hts (.fieldLink RX8 51 "OpticalJukeboxModel" "thrown" "I") (by decide +kernel)) rfl (ty := .int) (by decide +kernel) rfl rfl ⟨rfl, rfl⟩ dX8_fileOfSector_2 (fp_M e_md1 rfl) (fun H locs hW hS => ?_)
  refine lv_aload_n hx hb dX8_fileOfSector_5 rfl (lv_at hl 0 rfl) ?_
  refine lv_iload_n hx hb dX8_fileOfSector_6 rfl (lv_at hl 1 rfl) ?_
  refine lv_iload_n hx hb dX8_fileOfSector_7 rfl (lv_at hl 2 rfl) ?_
  obtain ⟨q2, h_q2, hf⟩ := x_bindE hf
  refine x_ci0 (x_rV ⟨hx, hb, hml, hown, hts⟩ (ct_X8_isSector l g hfl w md1 mn mw (a1) (a2) h_q2) (cwV 2 hts gX8_fileOfSector_X8_isSector rfl rfl rfl (by decide +kernel) ⟨Nat.le_of_ble_eq_true rfl, Nat.le_of_ble_eq_true rfl⟩) hK hW hS (x_recv (i := (g.1 + 189)) (k := 8) (j := 0) hK hW ⟨⟨hfl, rfl⟩, by decide⟩ rfl (by decide)) rfl hl.1 (rest := []) rfl (Nat.le_of_ble_eq_true rfl) dX8_fileOfSector_8 ⟨Nat.le_of_ble_eq_true rfl, Nat.le_of_ble_eq_true rfl⟩) hS (fun H locs hW hS => ?_)
  have hW : World g (wM w md1 mn mw) H := hW
  refine W.eq (g2 := F0 m 11 ls [.int q2]) rfl ?_
  refine lv_if_ne (tgt := 17) hx hb dX8_fileOfSector_11 (by decide) (fun hc => ?_) (fun hc => ?_)
  · have hf := x_iteF hf hc
    refine lv_aload_n hx hb dX8_fileOfSector_17 rfl (lv_at hl 0 rfl) ?_
    refine x_get (i := (g.1 + 189)) (k := 8) (j := 0) (t := 1) hx hb hts i_8 hown hK hW ⟨⟨hfl, rfl⟩, by decide⟩ rfl ⟨by decide, by decide, rfl⟩ (hts (.fieldLink RX8 7 "OpticalJukeboxModel" "now" "[I") (by decide +kernel)) (v := .ref (adr (g.1 + 189) 30 0)) rfl dX8_fileOfSector_18 ?_
    refine lv_iload_n hx hb dX8_fileOfSector_21 rfl (lv_at hl 1 rfl) ?_
    refine lv_iload_n hx hb dX8_fileOfSector_22 rfl (lv_at hl 2 rfl) ?_
    obtain ⟨q3, h_q3, hf⟩ := x_bindE hf
    refine x_ci0 (x_rS ⟨hx, hb, hml, hown, hts⟩ (ct_X8_versionAt l g hfl w md1 mn mw 30 isRow_30 (a1) (a2) h_q3) (va_cwS 3 hts gX8_fileOfSector_X8_versionAt rfl rfl rfl (by decide +kernel) ⟨Nat.le_of_ble_eq_true rfl, Nat.le_of_ble_eq_true rfl⟩) hK hW hS rfl hl.1 (rest := []) rfl (Nat.le_of_ble_eq_true rfl) dX8_fileOfSector_23 ⟨Nat.le_of_ble_eq_true rfl, Nat.le_of_ble_eq_true rfl⟩) hS (fun H locs hW hS => ?_)
    have hW : World g (wM w md1 mn mw) H := hW
    refine W.eq (g2 := F0 m 26 ls [.int q3]) rfl ?_
    refine lv_istore_n (lv' := [(3, .int q3), (0, .ref (adr (g.1 + 189) 8 0)), (1, .int a1), (2, .int a2)]) hx hb dX8_fileOfSector_26 rfl hl (by decide) rfl (fun ls hl => ?_)
    refine lv_iload_n hx hb dX8_fileOfSector_27 rfl (lv_at hl 0 rfl) ?_
    refine lv_iconst (v := -1) hx hb dX8_fileOfSector_28 (by decide) ?_
    refine lv_icmp_ne (tgt := 37) hx hb dX8_fileOfSector_29 (by decide) (fun hc => ?_) (fun hc => ?_)
    · have hf := x_iteF hf hc
      refine lv_aload_n hx hb dX8_fileOfSector_37 rfl (lv_at hl 1 rfl) ?_
      refine x_get (i := (g.1 + 189)) (k := 8) (j := 0) (t := 1) hx hb hts i_8 hown hK hW ⟨⟨hfl, rfl⟩, by decide⟩ rfl ⟨by decide, by decide, rfl⟩ (hts (.fieldLink RX8 7 "OpticalJukeboxModel" "now" "[I") (by decide +kernel)) (v := .ref (adr (g.1 + 189) 30 0)) rfl dX8_fileOfSector_38 ?_
      refine lv_sipush (v := 309) hx hb dX8_fileOfSector_41 (by decide) ?_
      refine lv_iload_n hx hb dX8_fileOfSector_44 rfl (lv_at hl 0 rfl) ?_
      refine lv_iadd hx hb dX8_fileOfSector_45 ?_
      obtain ⟨hg4, hf⟩ := x_guardE hf
      refine x_iald (i := (g.1 + 189)) (k := 30) (j := 0) (f := md1 30 0) hx hb hK hW ⟨⟨hfl, rfl⟩, by decide⟩ (by decide) (rfl) rfl hg4 dX8_fileOfSector_46 ?_
      cases hf
      exact x_iret hx hb hr hlocks hK hW hS rfl dX8_fileOfSector_47
    · have hf := x_iteT hf hc
      refine lv_ldc (v := -1000005) hx hb hown (hts (.constant RX8 42 (-1000005)) (by decide +kernel)) dX8_fileOfSector_32 ?_
      refine lv_goto (tgt := 47) hx hb dX8_fileOfSector_34 (by decide) ?_
      cases hf
      exact x_iret hx hb hr hlocks hK hW hS rfl dX8_fileOfSector_47
  · have hf := x_iteT hf hc
    refine lv_ldc (v := -1000001) hx hb hown (hts (.constant RX8 186 (-1000001)) (by decide +kernel)) dX8_fileOfSector_14 ?_
    cases hf
    exact x_iret hx hb hr hlocks hK hW hS rfl dX8_fileOfSector_16
abbrev rm_X8_filesOn : Room := { frames := 2, cells := 0, slots := 0, locals := 46 }
set_option maxRecDepth 100000 in
set_option maxHeartbeats 4000000 in
theorem ct_X8_filesOn (l : Launch) (g : GT) (hfl : 2 ≤ gf g) (w : WT) (md : SD) (mn : Nat → Int64) (mw : Int64) (a1 : Int32) {q : (Int32 × SD)} (hf : f_X8_filesOn md a1 = some q) : Met l yX8_filesOn wsX8_filesOn rm_X8_filesOn (cPre g (wM w md mn mw) [.ref (adr (g.1 + 189) 8 0), .int a1]) (cQi g q.1 (wM w q.2 mn mw)) 0 0 (gA g) := by
  have i_8 : ∀ w ∈ u_ws RX8 TX8 27, w ∈ wsX8_filesOn := by decide +kernel
  refine x_met (by decide) rfl (Nat.le_of_ble_eq_true rfl) ?_
  intro p e s m below meth c hx hb hr hml hts hown hlocks hK hW hS ls hl
  have hown : s.vm.findClass RX8 = some m.cls := hown
  have hl : lv_has ls 4 [(0, .ref (adr (g.1 + 189) 8 0)), (1, .int a1)] := hl
  rw [f_X8_filesOn] at hf
  refine lv_aload_n hx hb dX8_filesOn_0 rfl (lv_at hl 0 rfl) ?_
  refine lv_iconst (v := 0) hx hb dX8_filesOn_1 (by decide) ?_
  obtain ⟨md1, e_md1, hf⟩ := x_letE hf
  refine x_put (i := (g.1 + 189)) (k := 8) (j := 0) (t := 0) (w' := wM w md1 mn mw) hx hb hts i_8 tyX8 tyX8_ok nmX8 hown hK hW ⟨⟨hfl, rfl⟩, by decide⟩ hS rfl ⟨by decide, by decide, rfl⟩ (hts (.fieldLink RX8 51 "OpticalJukeboxModel" "thrown" "I") (by decide +kernel)) rfl (ty := .int) (by decide +kernel) rfl rfl ⟨rfl, rfl⟩ dX8_filesOn_2 (fp_M e_md1 rfl) (fun H locs hW hS => ?_)
  refine lv_aload_n hx hb dX8_filesOn_5 rfl (lv_at hl 0 rfl) ?_
  refine lv_iload_n hx hb dX8_filesOn_6 rfl (lv_at hl 1 rfl) ?_
  obtain ⟨q2, h_q2, hf⟩ := x_bindE hf
  refine x_ci0 (x_rV ⟨hx, hb, hml, hown, hts⟩ (ct_X8_isPlatter l g hfl w md1 mn mw (a1) h_q2) (cwV 1 hts gX8_filesOn_X8_isPlatter rfl rfl rfl (by decide +kernel) ⟨Nat.le_of_ble_eq_true rfl, Nat.le_of_ble_eq_true rfl⟩) hK hW hS (x_recv (i := (g.1 + 189)) (k := 8) (j := 0) hK hW ⟨⟨hfl, rfl⟩, by decide⟩ rfl (by decide)) rfl hl.1 (rest := []) rfl (Nat.le_of_ble_eq_true rfl) dX8_filesOn_7 ⟨Nat.le_of_ble_eq_true rfl, Nat.le_of_ble_eq_true rfl⟩) hS (fun H locs hW hS => ?_)
  have hW : World g (wM w md1 mn mw) H := hW
  refine W.eq (g2 := F0 m 10 ls [.int q2]) rfl ?_
  refine lv_if_ne (tgt := 16) hx hb dX8_filesOn_10 (by decide) (fun hc => ?_) (fun hc => ?_)
  · have hf := x_iteF hf hc
    refine lv_iconst (v := 0) hx hb dX8_filesOn_16 (by decide) ?_
    refine lv_istore_n (lv' := [(2, .int (0 : Int32)), (0, .ref (adr (g.1 + 189) 8 0)), (1, .int a1)]) hx hb dX8_filesOn_17 rfl hl (by decide) rfl (fun ls hl => ?_)
    refine lv_iconst (v := 0) hx hb dX8_filesOn_18 (by decide) ?_
    refine lv_istore_n (lv' := [(3, .int (0 : Int32)), (2, .int (0 : Int32)), (0, .ref (adr (g.1 + 189) 8 0)), (1, .int a1)]) hx hb dX8_filesOn_19 rfl hl (by decide) rfl (fun ls hl => ?_)
    have L20 : ∀ (n : Nat) (v2_20 : Int32) (v3_20 : Int32) (ls : Array Slot) (H : Heap) (locs : List Loc), lv_has ls 4 [(0, .ref (adr (g.1 + 189) 8 0)), (1, .int a1), (2, .int v2_20), (3, .int v3_20)] → World g (wM w md1 mn mw) H → va_S (gA g) s.heap H locs → f_X8_filesOn_L20 md1 a1 n v2_20 v3_20 = some q → W p l e rm_X8_filesOn s m [.ref (adr (g.1 + 189) 8 0), .int a1].toArray below meth c H locs 0 0 (MQ below (cQi g q.1 (wM w q.2 mn mw)) [.ref (adr (g.1 + 189) 8 0), .int a1].toArray s 0 0 (gA g)) (F0 m 20 ls []) := by
      clear hW hS hl
      intro n
      induction n with
      | zero => intro v2_20 v3_20 ls H locs hl hW hS hf; cases hf
      | succ n_20 ih =>
        intro v2_20 v3_20 ls H locs hl hW hS hf
        rw [f_X8_filesOn_L20] at hf
        refine lv_iload_n hx hb dX8_filesOn_20 rfl (lv_at hl 3 rfl) ?_
        refine lv_aload_n hx hb dX8_filesOn_21 rfl (lv_at hl 0 rfl) ?_
        refine x_get (i := (g.1 + 189)) (k := 8) (j := 0) (t := 1) hx hb hts i_8 hown hK hW ⟨⟨hfl, rfl⟩, by decide⟩ rfl ⟨by decide, by decide, rfl⟩ (hts (.fieldLink RX8 7 "OpticalJukeboxModel" "now" "[I") (by decide +kernel)) (v := .ref (adr (g.1 + 189) 30 0)) rfl dX8_filesOn_22 ?_
        refine lv_bipush (v := 9) hx hb dX8_filesOn_25 (by decide) ?_
        refine x_iald (i := (g.1 + 189)) (k := 30) (j := 0) (f := md1 30 0) hx hb hK hW ⟨⟨hfl, rfl⟩, by decide⟩ (by decide) (rfl) rfl (by unfold vp_in; decide) dX8_filesOn_27 ?_
        refine W.eq (g2 := F0 m 28 ls [.int (md1 30 0 9), .int v3_20]) rfl ?_
        refine lv_icmp_ge (tgt := 54) hx hb dX8_filesOn_28 (by decide) (fun hc => ?_) (fun hc => ?_)
        · have hf := x_iteT hf hc
          refine lv_iload_n hx hb dX8_filesOn_54 rfl (lv_at hl 2 rfl) ?_
          cases hf
          exact x_iret hx hb hr hlocks hK hW hS rfl dX8_filesOn_55
        · have hf := x_iteF hf hc
          refine lv_iload_n hx hb dX8_filesOn_31 rfl (lv_at hl 2 rfl) ?_
          refine lv_aload_n hx hb dX8_filesOn_32 rfl (lv_at hl 0 rfl) ?_
          refine lv_iload_n hx hb dX8_filesOn_33 rfl (lv_at hl 3 rfl) ?_
          obtain ⟨q3, h_q3, hf⟩ := x_bindE hf
          refine x_ci0 (x_rV ⟨hx, hb, hml, hown, hts⟩ (ct_X8_platterOf l g hfl w md1 mn mw (v3_20) h_q3) (cwV 1 hts gX8_filesOn_X8_platterOf rfl rfl rfl (by decide +kernel) ⟨Nat.le_of_ble_eq_true rfl, Nat.le_of_ble_eq_true rfl⟩) hK hW hS (x_recv (i := (g.1 + 189)) (k := 8) (j := 0) hK hW ⟨⟨hfl, rfl⟩, by decide⟩ rfl (by decide)) rfl hl.1 (rest := [.int v2_20]) rfl (Nat.le_of_ble_eq_true rfl) dX8_filesOn_34 ⟨Nat.le_of_ble_eq_true rfl, Nat.le_of_ble_eq_true rfl⟩) hS (fun H locs hW hS => ?_)
          have hW : World g (wM w md1 mn mw) H := hW
          refine W.eq (g2 := F0 m 37 ls [.int q3, .int v2_20]) rfl ?_
          refine lv_iload_n hx hb dX8_filesOn_37 rfl (lv_at hl 1 rfl) ?_
          obtain ⟨K4, eK4, hf⟩ := x_letE hf
          have KK4 : ∀ (y5 : Int32) (ls : Array Slot) (H : Heap) (locs : List Loc), lv_has ls 4 [(0, .ref (adr (g.1 + 189) 8 0)), (1, .int a1), (2, .int v2_20), (3, .int v3_20)] → World g (wM w md1 mn mw) H → va_S (gA g) s.heap H locs → K4 y5 = some q → W p l e rm_X8_filesOn s m [.ref (adr (g.1 + 189) 8 0), .int a1].toArray below meth c H locs 0 0 (MQ below (cQi g q.1 (wM w q.2 mn mw)) [.ref (adr (g.1 + 189) 8 0), .int a1].toArray s 0 0 (gA g)) (F0 m 46 ls [.int y5, .int v2_20]) := by
            intro y5 ls H locs hl hW hS hf
            subst eK4
            refine lv_iadd hx hb dX8_filesOn_46 ?_
            obtain ⟨x6, e_x6, hf⟩ := x_letE hf
            refine x_topi e_x6 ?_
            refine lv_istore_n (lv' := [(2, .int x6), (0, .ref (adr (g.1 + 189) 8 0)), (1, .int a1), (3, .int v3_20)]) hx hb dX8_filesOn_47 rfl hl (by decide) rfl (fun ls hl => ?_)
            obtain ⟨x7, e_x7, hf⟩ := x_letE hf
            refine lv_iinc (v := x7) (lv' := [(3, .int x7), (2, .int x6), (0, .ref (adr (g.1 + 189) 8 0)), (1, .int a1)]) hx hb dX8_filesOn_48 hl (k := 3) rfl (by rw [e_x7]; rfl) (by decide) rfl (fun ls hl => ?_)
            refine lv_goto (tgt := 20) hx hb dX8_filesOn_51 (by decide) ?_
            exact ih (x6) (x7) ls _ _ (lv_sub hl [2, 3, 1, 0] rfl) hW hS hf
          clear eK4
          refine lv_icmp_ne (tgt := 45) hx hb dX8_filesOn_38 (by decide) (fun hc => ?_) (fun hc => ?_)
          · have hf := x_iteF hf hc
            refine lv_iconst (v := 0) hx hb dX8_filesOn_45 (by decide) ?_
            exact KK4 ((0 : Int32)) ls _ _ hl hW hS hf
          · have hf := x_iteT hf hc
            refine lv_iconst (v := 1) hx hb dX8_filesOn_41 (by decide) ?_
            refine lv_goto (tgt := 46) hx hb dX8_filesOn_42 (by decide) ?_
            exact KK4 ((1 : Int32)) ls _ _ hl hW hS hf
    exact L20 fuel ((0 : Int32)) ((0 : Int32)) ls _ _ (lv_sub hl [2, 3, 1, 0] rfl) hW hS hf
  · have hf := x_iteT hf hc
    refine lv_ldc (v := -1000001) hx hb hown (hts (.constant RX8 186 (-1000001)) (by decide +kernel)) dX8_filesOn_13 ?_
    cases hf
    exact x_iret hx hb hr hlocks hK hW hS rfl dX8_filesOn_15
abbrev rm_X8_took : Room := { frames := 0, cells := 0, slots := 0, locals := 0 }
set_option maxRecDepth 100000 in
set_option maxHeartbeats 4000000 in
theorem ct_X8_took (l : Launch) (g : GT) (hfl : 2 ≤ gf g) (w : WT) (md : SD) (mn : Nat → Int64) (mw : Int64) (a1 : Int32) {q : Int32} (hf : f_X8_took md a1 = some q) : Met l yX8_took wsX8_took rm_X8_took (cPre g (wM w md mn mw) [.ref (adr (g.1 + 189) 8 0), .int a1]) (cQi g q (wM w md mn mw)) 0 0 (gA g) := by
  have i_8 : ∀ w ∈ u_ws RX8 TX8 27, w ∈ wsX8_took := by decide +kernel
  refine x_met (by decide) rfl (Nat.le_of_ble_eq_true rfl) ?_
  intro p e s m below meth c hx hb hr hml hts hown hlocks hK hW hS ls hl
  have hown : s.vm.findClass RX8 = some m.cls := hown
  have hl : lv_has ls 2 [(0, .ref (adr (g.1 + 189) 8 0)), (1, .int a1)] := hl
  rw [f_X8_took] at hf
  refine lv_aload_n hx hb dX8_took_0 rfl (lv_at hl 0 rfl) ?_
  refine x_get (i := (g.1 + 189)) (k := 8) (j := 0) (t := 1) hx hb hts i_8 hown hK hW ⟨⟨hfl, rfl⟩, by decide⟩ rfl ⟨by decide, by decide, rfl⟩ (hts (.fieldLink RX8 7 "OpticalJukeboxModel" "now" "[I") (by decide +kernel)) (v := .ref (adr (g.1 + 189) 30 0)) rfl dX8_took_1 ?_
  refine lv_bipush (v := 12) hx hb dX8_took_4 (by decide) ?_
  refine x_iald (i := (g.1 + 189)) (k := 30) (j := 0) (f := md 30 0) hx hb hK hW ⟨⟨hfl, rfl⟩, by decide⟩ (by decide) (rfl) rfl (by unfold vp_in; decide) dX8_took_6 ?_
  refine W.eq (g2 := F0 m 7 ls [.int (md 30 0 12)]) rfl ?_
  refine lv_iload_n hx hb dX8_took_7 rfl (lv_at hl 1 rfl) ?_
  refine lv_isub hx hb dX8_took_8 ?_
  cases hf
  exact x_iret hx hb hr hlocks hK hW hS rfl dX8_took_9
abbrev rm_X8_mount : Room := { frames := 5, cells := 0, slots := 0, locals := 108 }
set_option maxRecDepth 100000 in
set_option maxHeartbeats 4000000 in
theorem ct_X8_mount (l : Launch) (g : GT) (hfl : 2 ≤ gf g) (w : WT) (md : SD) (mn : Nat → Int64) (mw : Int64) (a1 : Int32) {q : (Int32 × SD)} (hf : f_X8_mount md a1 = some q) : Met l yX8_mount wsX8_mount rm_X8_mount (cPre g (wM w md mn mw) [.ref (adr (g.1 + 189) 8 0), .int a1]) (cQi g q.1 (wM w q.2 mn mw)) 0 0 (gA g) := by
  have i_8 : ∀ w ∈ u_ws RX8 TX8 27, w ∈ wsX8_mount := by decide +kernel
  refine x_met (by decide) rfl (Nat.le_of_ble_eq_true rfl) ?_
  intro p e s m below meth c hx hb hr hml hts hown hlocks hK hW hS ls hl
  have hown : s.vm.findClass RX8 = some m.cls := hown
  have hl : lv_has ls 3 [(0, .ref (adr (g.1 + 189) 8 0)), (1, .int a1)] := hl
  rw [f_X8_mount] at hf
  refine lv_aload_n hx hb dX8_mount_0 rfl (lv_at hl 0 rfl) ?_
  refine lv_iconst (v := 0) hx hb dX8_mount_1 (by decide) ?_
  obtain ⟨md1, e_md1, hf⟩ := x_letE hf
  refine x_put (i := (g.1 + 189)) (k := 8) (j := 0) (t := 0) (w' := wM w md1 mn mw) hx hb hts i_8 tyX8 tyX8_ok nmX8 hown hK hW ⟨⟨hfl, rfl⟩, by decide⟩ hS rfl ⟨by decide, by decide, rfl⟩ (hts (.fieldLink RX8 51 "OpticalJukeboxModel" "thrown" "I") (by decide +kernel)) rfl (ty := .int) (by decide +kernel) rfl rfl ⟨rfl, rfl⟩ dX8_mount_2 (fp_M e_md1 rfl) (fun H locs hW hS => ?_)
  refine lv_aload_n hx hb dX8_mount_5 rfl (lv_at hl 0 rfl) ?_
  refine lv_iload_n hx hb dX8_mount_6 rfl (lv_at hl 1 rfl) ?_
  obtain ⟨q2, h_q2, hf⟩ := x_bindE hf
  refine x_ci0 (x_rV ⟨hx, hb, hml, hown, hts⟩ (ct_X8_isPlatter l g hfl w md1 mn mw (a1) h_q2) (cwV 1 hts gX8_mount_X8_isPlatter rfl rfl rfl (by decide +kernel) ⟨Nat.le_of_ble_eq_true rfl, Nat.le_of_ble_eq_true rfl⟩) hK hW hS (x_recv (i := (g.1 + 189)) (k := 8) (j := 0) hK hW ⟨⟨hfl, rfl⟩, by decide⟩ rfl (by decide)) rfl hl.1 (rest := []) rfl (Nat.le_of_ble_eq_true rfl) dX8_mount_7 ⟨Nat.le_of_ble_eq_true rfl, Nat.le_of_ble_eq_true rfl⟩) hS (fun H locs hW hS => ?_)
  have hW : World g (wM w md1 mn mw) H := hW
  refine W.eq (g2 := F0 m 10 ls [.int q2]) rfl ?_
  refine lv_if_ne (tgt := 16) hx hb dX8_mount_10 (by decide) (fun hc => ?_) (fun hc => ?_)
  · have hf := x_iteF hf hc
    refine lv_aload_n hx hb dX8_mount_16 rfl (lv_at hl 0 rfl) ?_
    refine x_get (i := (g.1 + 189)) (k := 8) (j := 0) (t := 1) hx hb hts i_8 hown hK hW ⟨⟨hfl, rfl⟩, by decide⟩ rfl ⟨by decide, by decide, rfl⟩ (hts (.fieldLink RX8 7 "OpticalJukeboxModel" "now" "[I") (by decide +kernel)) (v := .ref (adr (g.1 + 189) 30 0)) rfl dX8_mount_17 ?_
    refine lv_bipush (v := 6) hx hb dX8_mount_20 (by decide) ?_
    refine x_iald (i := (g.1 + 189)) (k := 30) (j := 0) (f := md1 30 0) hx hb hK hW ⟨⟨hfl, rfl⟩, by decide⟩ (by decide) (rfl) rfl (by unfold vp_in; decide) dX8_mount_22 ?_
    refine W.eq (g2 := F0 m 23 ls [.int (md1 30 0 6)]) rfl ?_
    refine lv_if_ne (tgt := 29) hx hb dX8_mount_23 (by decide) (fun hc => ?_) (fun hc => ?_)
    · have hf := x_iteF hf hc
      refine lv_aload_n hx hb dX8_mount_29 rfl (lv_at hl 0 rfl) ?_
      obtain ⟨q3, h_q3, hf⟩ := x_bindE hf
      refine x_cv0 (x_rV ⟨hx, hb, hml, hown, hts⟩ (ct_X8_remembers l g hfl w md1 mn mw  h_q3) (cwV 0 hts gX8_mount_X8_remembers rfl rfl rfl (by decide +kernel) ⟨Nat.le_of_ble_eq_true rfl, Nat.le_of_ble_eq_true rfl⟩) hK hW hS (x_recv (i := (g.1 + 189)) (k := 8) (j := 0) hK hW ⟨⟨hfl, rfl⟩, by decide⟩ rfl (by decide)) rfl hl.1 (rest := []) rfl (Nat.le_of_ble_eq_true rfl) dX8_mount_30 ⟨Nat.le_of_ble_eq_true rfl, Nat.le_of_ble_eq_true rfl⟩) hS (fun H locs hW hS => ?_)
      have hW : World g (wM w q3 mn mw) H := hW
      refine lv_aload_n hx hb dX8_mount_33 rfl (lv_at hl 0 rfl) ?_
      refine x_get (i := (g.1 + 189)) (k := 8) (j := 0) (t := 1) hx hb hts i_8 hown hK hW ⟨⟨hfl, rfl⟩, by decide⟩ rfl ⟨by decide, by decide, rfl⟩ (hts (.fieldLink RX8 7 "OpticalJukeboxModel" "now" "[I") (by decide +kernel)) (v := .ref (adr (g.1 + 189) 30 0)) rfl dX8_mount_34 ?_
      refine lv_bipush (v := 12) hx hb dX8_mount_37 (by decide) ?_
      refine x_iald (i := (g.1 + 189)) (k := 30) (j := 0) (f := q3 30 0) hx hb hK hW ⟨⟨hfl, rfl⟩, by decide⟩ (by decide) (rfl) rfl (by unfold vp_in; decide) dX8_mount_39 ?_
      refine W.eq (g2 := F0 m 40 ls [.int (q3 30 0 12)]) rfl ?_
      obtain ⟨x4, e_x4, hf⟩ := x_letE hf
      refine x_topi e_x4 ?_
      refine lv_istore_n (lv' := [(2, .int x4), (0, .ref (adr (g.1 + 189) 8 0)), (1, .int a1)]) hx hb dX8_mount_40 rfl hl (by decide) rfl (fun ls hl => ?_)
      refine lv_aload_n hx hb dX8_mount_41 rfl (lv_at hl 1 rfl) ?_
      refine lv_iload_n hx hb dX8_mount_42 rfl (lv_at hl 2 rfl) ?_
      obtain ⟨q5, h_q5, hf⟩ := x_bindE hf
      refine x_ci0 (x_rV ⟨hx, hb, hml, hown, hts⟩ (ct_X8_mounts l g hfl w q3 mn mw (a1) h_q5) (cwV 1 hts gX8_mount_X8_mounts rfl rfl rfl (by decide +kernel) ⟨Nat.le_of_ble_eq_true rfl, Nat.le_of_ble_eq_true rfl⟩) hK hW hS (x_recv (i := (g.1 + 189)) (k := 8) (j := 0) hK hW ⟨⟨hfl, rfl⟩, by decide⟩ rfl (by decide)) rfl hl.1 (rest := []) rfl (Nat.le_of_ble_eq_true rfl) dX8_mount_43 ⟨Nat.le_of_ble_eq_true rfl, Nat.le_of_ble_eq_true rfl⟩) hS (fun H locs hW hS => ?_)
      have hW : World g (wM w q5.2 mn mw) H := hW
      refine W.eq (g2 := F0 m 46 ls [.int q5.1]) rfl ?_
      refine lv_pop hx hb dX8_mount_46 rfl ?_
      refine lv_aload_n hx hb dX8_mount_47 rfl (lv_at hl 1 rfl) ?_
      refine lv_iload_n hx hb dX8_mount_48 rfl (lv_at hl 0 rfl) ?_
      obtain ⟨q6, h_q6, hf⟩ := x_bindE hf
      refine x_ci0 (x_rV ⟨hx, hb, hml, hown, hts⟩ (ct_X8_took l g hfl w q5.2 mn mw (x4) h_q6) (cwV 1 hts gX8_mount_X8_took rfl rfl rfl (by decide +kernel) ⟨Nat.le_of_ble_eq_true rfl, Nat.le_of_ble_eq_true rfl⟩) hK hW hS (x_recv (i := (g.1 + 189)) (k := 8) (j := 0) hK hW ⟨⟨hfl, rfl⟩, by decide⟩ rfl (by decide)) rfl hl.1 (rest := []) rfl (Nat.le_of_ble_eq_true rfl) dX8_mount_49 ⟨Nat.le_of_ble_eq_true rfl, Nat.le_of_ble_eq_true rfl⟩) hS (fun H locs hW hS => ?_)
      have hW : World g (wM w q5.2 mn mw) H := hW
      refine W.eq (g2 := F0 m 52 ls [.int q6]) rfl ?_
      cases hf
      exact x_iret hx hb hr hlocks hK hW hS rfl dX8_mount_52
    · have hf := x_iteT hf hc
      refine lv_ldc (v := -1000007) hx hb hown (hts (.constant RX8 177 (-1000007)) (by decide +kernel)) dX8_mount_26 ?_
      cases hf
      exact x_iret hx hb hr hlocks hK hW hS rfl dX8_mount_28
  · have hf := x_iteT hf hc
    refine lv_ldc (v := -1000001) hx hb hown (hts (.constant RX8 186 (-1000001)) (by decide +kernel)) dX8_mount_13 ?_
    cases hf
    exact x_iret hx hb hr hlocks hK hW hS rfl dX8_mount_15
abbrev rm_X8_eject : Room := { frames := 3, cells := 0, slots := 0, locals := 64 }
set_option maxRecDepth 100000 in
set_option maxHeartbeats 4000000 in
theorem ct_X8_eject (l : Launch) (g : GT) (hfl : 2 ≤ gf g) (w : WT) (md : SD) (mn : Nat → Int64) (mw : Int64) (a1 : Int32) {q : (Int32 × SD)} (hf : f_X8_eject md a1 = some q) : Met l yX8_eject wsX8_eject rm_X8_eject (cPre g (wM w md mn mw) [.ref (adr (g.1 + 189) 8 0), .int a1]) (cQi g q.1 (wM w q.2 mn mw)) 0 0 (gA g) := by
  have i_8 : ∀ w ∈ u_ws RX8 TX8 27, w ∈ wsX8_eject := by decide +kernel
  refine x_met (by decide) rfl (Nat.le_of_ble_eq_true rfl) ?_
  intro p e s m below meth c hx hb hr hml hts hown hlocks hK hW hS ls hl
  have hown : s.vm.findClass RX8 = some m.cls := hown
  have hl : lv_has ls 3 [(0, .ref (adr (g.1 + 189) 8 0)), (1, .int a1)] := hl
  rw [f_X8_eject] at hf
  refine lv_aload_n hx hb dX8_eject_0 rfl (lv_at hl 0 rfl) ?_
  refine lv_iconst (v := 0) hx hb dX8_eject_1 (by decide) ?_
  obtain ⟨md1, e_md1, hf⟩ := x_letE hf
  refine x_put (i := (g.1 + 189)) (k := 8) (j := 0) (t := 0) (w' := wM w md1 mn mw) hx hb hts i_8 tyX8 tyX8_ok nmX8 hown hK hW ⟨⟨hfl, rfl⟩, by decide⟩ hS rfl ⟨by decide, by decide, rfl⟩ (hts (.fieldLink RX8 51 "OpticalJukeboxModel" "thrown" "I") (by decide +kernel)) rfl (ty := .int) (by decide +kernel) rfl rfl ⟨rfl, rfl⟩ dX8_eject_2 (fp_M e_md1 rfl) (fun H locs hW hS => ?_)
  refine lv_aload_n hx hb dX8_eject_5 rfl (lv_at hl 0 rfl) ?_
  refine lv_iload_n hx hb dX8_eject_6 rfl (lv_at hl 1 rfl) ?_
  obtain ⟨q2, h_q2, hf⟩ := x_bindE hf
  refine x_ci0 (x_rV ⟨hx, hb, hml, hown, hts⟩ (ct_X8_isDrive l g hfl w md1 mn mw (a1) h_q2) (cwV 1 hts gX8_eject_X8_isDrive rfl rfl rfl (by decide +kernel) ⟨Nat.le_of_ble_eq_true rfl, Nat.le_of_ble_eq_true rfl⟩) hK hW hS (x_recv (i := (g.1 + 189)) (k := 8) (j := 0) hK hW ⟨⟨hfl, rfl⟩, by decide⟩ rfl (by decide)) rfl hl.1 (rest := []) rfl (Nat.le_of_ble_eq_true rfl) dX8_eject_7 ⟨Nat.le_of_ble_eq_true rfl, Nat.le_of_ble_eq_true rfl⟩) hS (fun H locs hW hS => ?_)
  have hW : World g (wM w md1 mn mw) H := hW
  refine W.eq (g2 := F0 m 10 ls [.int q2]) rfl ?_
  refine lv_if_ne (tgt := 16) hx hb dX8_eject_10 (by decide) (fun hc => ?_) (fun hc => ?_)
  · have hf := x_iteF hf hc
    refine lv_aload_n hx hb dX8_eject_16 rfl (lv_at hl 0 rfl) ?_
    refine x_get (i := (g.1 + 189)) (k := 8) (j := 0) (t := 1) hx hb hts i_8 hown hK hW ⟨⟨hfl, rfl⟩, by decide⟩ rfl ⟨by decide, by decide, rfl⟩ (hts (.fieldLink RX8 7 "OpticalJukeboxModel" "now" "[I") (by decide +kernel)) (v := .ref (adr (g.1 + 189) 30 0)) rfl dX8_eject_17 ?_
    refine lv_bipush (v := 21) hx hb dX8_eject_20 (by decide) ?_
    refine lv_iload_n hx hb dX8_eject_22 rfl (lv_at hl 1 rfl) ?_
    refine lv_iadd hx hb dX8_eject_23 ?_
    obtain ⟨hg3, hf⟩ := x_guardE hf
    refine x_iald (i := (g.1 + 189)) (k := 30) (j := 0) (f := md1 30 0) hx hb hK hW ⟨⟨hfl, rfl⟩, by decide⟩ (by decide) (rfl) rfl hg3 dX8_eject_24 ?_
    refine lv_iconst (v := -1) hx hb dX8_eject_25 (by decide) ?_
    refine lv_icmp_ne (tgt := 32) hx hb dX8_eject_26 (by decide) (fun hc => ?_) (fun hc => ?_)
    · have hf := x_iteF hf hc
      refine lv_aload_n hx hb dX8_eject_32 rfl (lv_at hl 0 rfl) ?_
      obtain ⟨q4, h_q4, hf⟩ := x_bindE hf
      refine x_cv0 (x_rV ⟨hx, hb, hml, hown, hts⟩ (ct_X8_remembers l g hfl w md1 mn mw  h_q4) (cwV 0 hts gX8_eject_X8_remembers rfl rfl rfl (by decide +kernel) ⟨Nat.le_of_ble_eq_true rfl, Nat.le_of_ble_eq_true rfl⟩) hK hW hS (x_recv (i := (g.1 + 189)) (k := 8) (j := 0) hK hW ⟨⟨hfl, rfl⟩, by decide⟩ rfl (by decide)) rfl hl.1 (rest := []) rfl (Nat.le_of_ble_eq_true rfl) dX8_eject_33 ⟨Nat.le_of_ble_eq_true rfl, Nat.le_of_ble_eq_true rfl⟩) hS (fun H locs hW hS => ?_)
      have hW : World g (wM w q4 mn mw) H := hW
      refine lv_aload_n hx hb dX8_eject_36 rfl (lv_at hl 0 rfl) ?_
      refine x_get (i := (g.1 + 189)) (k := 8) (j := 0) (t := 1) hx hb hts i_8 hown hK hW ⟨⟨hfl, rfl⟩, by decide⟩ rfl ⟨by decide, by decide, rfl⟩ (hts (.fieldLink RX8 7 "OpticalJukeboxModel" "now" "[I") (by decide +kernel)) (v := .ref (adr (g.1 + 189) 30 0)) rfl dX8_eject_37 ?_
      refine lv_bipush (v := 12) hx hb dX8_eject_40 (by decide) ?_
      refine x_iald (i := (g.1 + 189)) (k := 30) (j := 0) (f := q4 30 0) hx hb hK hW ⟨⟨hfl, rfl⟩, by decide⟩ (by decide) (rfl) rfl (by unfold vp_in; decide) dX8_eject_42 ?_
      refine W.eq (g2 := F0 m 43 ls [.int (q4 30 0 12)]) rfl ?_
      obtain ⟨x5, e_x5, hf⟩ := x_letE hf
      refine x_topi e_x5 ?_
      refine lv_istore_n (lv' := [(2, .int x5), (0, .ref (adr (g.1 + 189) 8 0)), (1, .int a1)]) hx hb dX8_eject_43 rfl hl (by decide) rfl (fun ls hl => ?_)
      refine lv_aload_n hx hb dX8_eject_44 rfl (lv_at hl 1 rfl) ?_
      refine lv_iload_n hx hb dX8_eject_45 rfl (lv_at hl 2 rfl) ?_
      obtain ⟨q6, h_q6, hf⟩ := x_bindE hf
      refine x_cv0 (x_rV ⟨hx, hb, hml, hown, hts⟩ (ct_X8_empties l g hfl w q4 mn mw (a1) h_q6) (cwV 1 hts gX8_eject_X8_empties rfl rfl rfl (by decide +kernel) ⟨Nat.le_of_ble_eq_true rfl, Nat.le_of_ble_eq_true rfl⟩) hK hW hS (x_recv (i := (g.1 + 189)) (k := 8) (j := 0) hK hW ⟨⟨hfl, rfl⟩, by decide⟩ rfl (by decide)) rfl hl.1 (rest := []) rfl (Nat.le_of_ble_eq_true rfl) dX8_eject_46 ⟨Nat.le_of_ble_eq_true rfl, Nat.le_of_ble_eq_true rfl⟩) hS (fun H locs hW hS => ?_)
      have hW : World g (wM w q6 mn mw) H := hW
      refine lv_aload_n hx hb dX8_eject_49 rfl (lv_at hl 1 rfl) ?_
      refine lv_iload_n hx hb dX8_eject_50 rfl (lv_at hl 0 rfl) ?_
      obtain ⟨q7, h_q7, hf⟩ := x_bindE hf
      refine x_ci0 (x_rV ⟨hx, hb, hml, hown, hts⟩ (ct_X8_took l g hfl w q6 mn mw (x5) h_q7) (cwV 1 hts gX8_eject_X8_took rfl rfl rfl (by decide +kernel) ⟨Nat.le_of_ble_eq_true rfl, Nat.le_of_ble_eq_true rfl⟩) hK hW hS (x_recv (i := (g.1 + 189)) (k := 8) (j := 0) hK hW ⟨⟨hfl, rfl⟩, by decide⟩ rfl (by decide)) rfl hl.1 (rest := []) rfl (Nat.le_of_ble_eq_true rfl) dX8_eject_51 ⟨Nat.le_of_ble_eq_true rfl, Nat.le_of_ble_eq_true rfl⟩) hS (fun H locs hW hS => ?_)
      have hW : World g (wM w q6 mn mw) H := hW
      refine W.eq (g2 := F0 m 54 ls [.int q7]) rfl ?_
      cases hf
      exact x_iret hx hb hr hlocks hK hW hS rfl dX8_eject_54
    · have hf := x_iteT hf hc
      refine lv_ldc (v := -1000005) hx hb hown (hts (.constant RX8 42 (-1000005)) (by decide +kernel)) dX8_eject_29 ?_
      cases hf
      exact x_iret hx hb hr hlocks hK hW hS rfl dX8_eject_31
  · have hf := x_iteT hf hc
    refine lv_ldc (v := -1000001) hx hb hown (hts (.constant RX8 186 (-1000001)) (by decide +kernel)) dX8_eject_13 ?_
    cases hf
    exact x_iret hx hb hr hlocks hK hW hS rfl dX8_eject_15
abbrev rm_X8_read : Room := { frames := 6, cells := 0, slots := 0, locals := 130 }
set_option maxRecDepth 100000 in
set_option maxHeartbeats 4000000 in
theorem ct_X8_read (l : Launch) (g : GT) (hfl : 2 ≤ gf g) (w : WT) (md : SD) (mn : Nat → Int64) (mw : Int64) (a1 : Int32) {q : (Int32 × SD)} (hf : f_X8_read md a1 = some q) : Met l yX8_read wsX8_read rm_X8_read (cPre g (wM w md mn mw) [.ref (adr (g.1 + 189) 8 0), .int a1]) (cQi g q.1 (wM w q.2 mn mw)) 0 0 (gA g) := by
  have i_8 : ∀ w ∈ u_ws RX8 TX8 27, w ∈ wsX8_read := by decide +kernel
  refine x_met (by decide) rfl (Nat.le_of_ble_eq_true rfl) ?_
  intro p e s m below meth c hx hb hr hml hts hown hlocks hK hW hS ls hl
  have hown : s.vm.findClass RX8 = some m.cls := hown
  have hl : lv_has ls 4 [(0, .ref (adr (g.1 + 189) 8 0)), (1, .int a1)] := hl
  rw [f_X8_read] at hf
  refine lv_aload_n hx hb dX8_read_0 rfl (lv_at hl 0 rfl) ?_
  refine lv_iconst (v := 0) hx hb dX8_read_1 (by decide) ?_
  obtain ⟨md1, e_md1, hf⟩ := x_letE hf
  refine x_put (i := (g.1 + 189)) (k := 8) (j := 0) (t := 0) (w' := wM w md1 mn mw) hx hb hts i_8 tyX8 tyX8_ok nmX8 hown hK hW ⟨⟨hfl, rfl⟩, by decide⟩ hS rfl ⟨by decide, by decide, rfl⟩ (hts (.fieldLink RX8 51 "OpticalJukeboxModel" "thrown" "I") (by decide +kernel)) rfl (ty := .int) (by decide +kernel) rfl rfl ⟨rfl, rfl⟩ dX8_read_2 (fp_M e_md1 rfl) (fun H locs hW hS => ?_)
  refine lv_aload_n hx hb dX8_read_5 rfl (lv_at hl 0 rfl) ?_
  refine lv_iload_n hx hb dX8_read_6 rfl (lv_at hl 1 rfl) ?_
  obtain ⟨q2, h_q2, hf⟩ := x_bindE hf
  refine x_ci0 (x_rV ⟨hx, hb, hml, hown, hts⟩ (ct_X8_whyNotRead l g hfl w md1 mn mw (a1) h_q2) (cwV 1 hts gX8_read_X8_whyNotRead rfl rfl rfl (by decide +kernel) ⟨Nat.le_of_ble_eq_true rfl, Nat.le_of_ble_eq_true rfl⟩) hK hW hS (x_recv (i := (g.1 + 189)) (k := 8) (j := 0) hK hW ⟨⟨hfl, rfl⟩, by decide⟩ rfl (by decide)) rfl hl.1 (rest := []) rfl (Nat.le_of_ble_eq_true rfl) dX8_read_7 ⟨Nat.le_of_ble_eq_true rfl, Nat.le_of_ble_eq_true rfl⟩) hS (fun H locs hW hS => ?_)
  have hW : World g (wM w md1 mn mw) H := hW
  refine W.eq (g2 := F0 m 10 ls [.int q2]) rfl ?_
  refine lv_istore_n (lv' := [(2, .int q2), (0, .ref (adr (g.1 + 189) 8 0)), (1, .int a1)]) hx hb dX8_read_10 rfl hl (by decide) rfl (fun ls hl => ?_)
  refine lv_iload_n hx hb dX8_read_11 rfl (lv_at hl 0 rfl) ?_
  refine lv_if_eq (tgt := 17) hx hb dX8_read_12 (by decide) (fun hc => ?_) (fun hc => ?_)
  · have hf := x_iteT hf hc
    refine lv_aload_n hx hb dX8_read_17 rfl (lv_at hl 1 rfl) ?_
    obtain ⟨q3, h_q3, hf⟩ := x_bindE hf
    refine x_cv0 (x_rV ⟨hx, hb, hml, hown, hts⟩ (ct_X8_remembers l g hfl w md1 mn mw  h_q3) (cwV 0 hts gX8_read_X8_remembers rfl rfl rfl (by decide +kernel) ⟨Nat.le_of_ble_eq_true rfl, Nat.le_of_ble_eq_true rfl⟩) hK hW hS (x_recv (i := (g.1 + 189)) (k := 8) (j := 0) hK hW ⟨⟨hfl, rfl⟩, by decide⟩ rfl (by decide)) rfl hl.1 (rest := []) rfl (Nat.le_of_ble_eq_true rfl) dX8_read_18 ⟨Nat.le_of_ble_eq_true rfl, Nat.le_of_ble_eq_true rfl⟩) hS (fun H locs hW hS => ?_)
    have hW : World g (wM w q3 mn mw) H := hW
    refine lv_aload_n hx hb dX8_read_21 rfl (lv_at hl 1 rfl) ?_
    refine x_get (i := (g.1 + 189)) (k := 8) (j := 0) (t := 1) hx hb hts i_8 hown hK hW ⟨⟨hfl, rfl⟩, by decide⟩ rfl ⟨by decide, by decide, rfl⟩ (hts (.fieldLink RX8 7 "OpticalJukeboxModel" "now" "[I") (by decide +kernel)) (v := .ref (adr (g.1 + 189) 30 0)) rfl dX8_read_22 ?_
    refine lv_bipush (v := 12) hx hb dX8_read_25 (by decide) ?_
    refine x_iald (i := (g.1 + 189)) (k := 30) (j := 0) (f := q3 30 0) hx hb hK hW ⟨⟨hfl, rfl⟩, by decide⟩ (by decide) (rfl) rfl (by unfold vp_in; decide) dX8_read_27 ?_
    refine W.eq (g2 := F0 m 28 ls [.int (q3 30 0 12)]) rfl ?_
    obtain ⟨x4, e_x4, hf⟩ := x_letE hf
    refine x_topi e_x4 ?_
    refine lv_istore_n (lv' := [(3, .int x4), (2, .int q2), (0, .ref (adr (g.1 + 189) 8 0)), (1, .int a1)]) hx hb dX8_read_28 rfl hl (by decide) rfl (fun ls hl => ?_)
    refine lv_aload_n hx hb dX8_read_29 rfl (lv_at hl 2 rfl) ?_
    refine lv_iload_n hx hb dX8_read_30 rfl (lv_at hl 3 rfl) ?_
    obtain ⟨q5, h_q5, hf⟩ := x_bindE hf
    refine x_cv0 (x_rV ⟨hx, hb, hml, hown, hts⟩ (ct_X8_reads l g hfl w q3 mn mw (a1) h_q5) (cwV 1 hts gX8_read_X8_reads rfl rfl rfl (by decide +kernel) ⟨Nat.le_of_ble_eq_true rfl, Nat.le_of_ble_eq_true rfl⟩) hK hW hS (x_recv (i := (g.1 + 189)) (k := 8) (j := 0) hK hW ⟨⟨hfl, rfl⟩, by decide⟩ rfl (by decide)) rfl hl.1 (rest := []) rfl (Nat.le_of_ble_eq_true rfl) dX8_read_31 ⟨Nat.le_of_ble_eq_true rfl, Nat.le_of_ble_eq_true rfl⟩) hS (fun H locs hW hS => ?_)
    have hW : World g (wM w q5 mn mw) H := hW
    refine lv_aload_n hx hb dX8_read_34 rfl (lv_at hl 2 rfl) ?_
    refine lv_iload_n hx hb dX8_read_35 rfl (lv_at hl 0 rfl) ?_
    obtain ⟨q6, h_q6, hf⟩ := x_bindE hf
    refine x_ci0 (x_rV ⟨hx, hb, hml, hown, hts⟩ (ct_X8_took l g hfl w q5 mn mw (x4) h_q6) (cwV 1 hts gX8_read_X8_took rfl rfl rfl (by decide +kernel) ⟨Nat.le_of_ble_eq_true rfl, Nat.le_of_ble_eq_true rfl⟩) hK hW hS (x_recv (i := (g.1 + 189)) (k := 8) (j := 0) hK hW ⟨⟨hfl, rfl⟩, by decide⟩ rfl (by decide)) rfl hl.1 (rest := []) rfl (Nat.le_of_ble_eq_true rfl) dX8_read_36 ⟨Nat.le_of_ble_eq_true rfl, Nat.le_of_ble_eq_true rfl⟩) hS (fun H locs hW hS => ?_)
    have hW : World g (wM w q5 mn mw) H := hW
    refine W.eq (g2 := F0 m 39 ls [.int q6]) rfl ?_
    cases hf
    exact x_iret hx hb hr hlocks hK hW hS rfl dX8_read_39
  · have hf := x_iteF hf hc
    refine lv_iload_n hx hb dX8_read_15 rfl (lv_at hl 0 rfl) ?_
    cases hf
    exact x_iret hx hb hr hlocks hK hW hS rfl dX8_read_16
abbrev rm_X8_whyNotWritten : Room := { frames := 3, cells := 0, slots := 0, locals := 73 }
set_option maxRecDepth 100000 in
set_option maxHeartbeats 4000000 in
theorem ct_X8_whyNotWritten (l : Launch) (g : GT) (hfl : 2 ≤ gf g) (w : WT) (md : SD) (mn : Nat → Int64) (mw : Int64) (a1 : Int32) (a2 : Int32) (a3 : Int32) {q : Int32} (hf : f_X8_whyNotWritten md a1 a2 a3 = some q) : Met l yX8_whyNotWritten wsX8_whyNotWritten rm_X8_whyNotWritten (cPre g (wM w md mn mw) [.ref (adr (g.1 + 189) 8 0), .int a1, .int a2, .int a3]) (cQi g q (wM w md mn mw)) 0 0 (gA g) := by
  have i_8 : ∀ w ∈ u_ws RX8 TX8 27, w ∈ wsX8_whyNotWritten := by decide +kernel
  refine x_met (by decide) rfl (Nat.le_of_ble_eq_true rfl) ?_
  intro p e s m below meth c hx hb hr hml hts hown hlocks hK hW hS ls hl
  have hown : s.vm.findClass RX8 = some m.cls := hown
  have hl : lv_has ls 4 [(0, .ref (adr (g.1 + 189) 8 0)), (1, .int a1), (2, .int a2), (3, .int a3)] := hl
  rw [f_X8_whyNotWritten] at hf
  refine lv_aload_n hx hb dX8_whyNotWritten_0 rfl (lv_at hl 0 rfl) ?_
  refine lv_iload_n hx hb dX8_whyNotWritten_1 rfl (lv_at hl 2 rfl) ?_
  obtain ⟨q1, h_q1, hf⟩ := x_bindE hf
  refine x_ci0 (x_rV ⟨hx, hb, hml, hown, hts⟩ (ct_X8_isPlatter l g hfl w md mn mw (a2) h_q1) (cwV 1 hts gX8_whyNotWritten_X8_isPlatter rfl rfl rfl (by decide +kernel) ⟨Nat.le_of_ble_eq_true rfl, Nat.le_of_ble_eq_true rfl⟩) hK hW hS (x_recv (i := (g.1 + 189)) (k := 8) (j := 0) hK hW ⟨⟨hfl, rfl⟩, by decide⟩ rfl (by decide)) rfl hl.1 (rest := []) rfl (Nat.le_of_ble_eq_true rfl) dX8_whyNotWritten_2 ⟨Nat.le_of_ble_eq_true rfl, Nat.le_of_ble_eq_true rfl⟩) hS (fun H locs hW hS => ?_)
  have hW : World g (wM w md mn mw) H := hW
  refine W.eq (g2 := F0 m 5 ls [.int q1]) rfl ?_
  refine lv_if_ne (tgt := 11) hx hb dX8_whyNotWritten_5 (by decide) (fun hc => ?_) (fun hc => ?_)
  · have hf := x_iteF hf hc
    refine lv_iload_n hx hb dX8_whyNotWritten_11 rfl (lv_at hl 1 rfl) ?_
    refine lv_i2l hx hb dX8_whyNotWritten_12 rfl ?_
    refine lv_lconst (v := 1) hx hb dX8_whyNotWritten_13 (by decide) ?_
    refine lv_ldc2 (v := 300) hx hb hown (hts (.constantLong RX8 222 (300)) (by decide +kernel)) dX8_whyNotWritten_14 ?_
    obtain ⟨q2, h_q2, hf⟩ := x_bindE hf
    refine x_ci0 (x_rS ⟨hx, hb, hml, hown, hts⟩ (ct_X8_isIn l g (wM w md mn mw) ((a1).toInt64) ((1 : Int64)) ((300 : Int64)) h_q2) (va_cwS 3 hts gX8_whyNotWritten_X8_isIn rfl rfl rfl (by decide +kernel) ⟨Nat.le_of_ble_eq_true rfl, Nat.le_of_ble_eq_true rfl⟩) hK hW hS rfl hl.1 (rest := []) rfl (Nat.le_of_ble_eq_true rfl) dX8_whyNotWritten_17 ⟨Nat.le_of_ble_eq_true rfl, Nat.le_of_ble_eq_true rfl⟩) hS (fun H locs hW hS => ?_)
    have hW : World g (wM w md mn mw) H := hW
    refine W.eq (g2 := F0 m 20 ls [.int q2]) rfl ?_
    refine lv_if_ne (tgt := 26) hx hb dX8_whyNotWritten_20 (by decide) (fun hc => ?_) (fun hc => ?_)
    · have hf := x_iteF hf hc
      refine lv_iload_n hx hb dX8_whyNotWritten_26 rfl (lv_at hl 3 rfl) ?_
      refine lv_if_eq (tgt := 33) hx hb dX8_whyNotWritten_27 (by decide) (fun hc => ?_) (fun hc => ?_)
      · have hf := x_iteT hf hc
        refine lv_aload_n hx hb dX8_whyNotWritten_33 rfl (lv_at hl 0 rfl) ?_
        refine x_get (i := (g.1 + 189)) (k := 8) (j := 0) (t := 1) hx hb hts i_8 hown hK hW ⟨⟨hfl, rfl⟩, by decide⟩ rfl ⟨by decide, by decide, rfl⟩ (hts (.fieldLink RX8 7 "OpticalJukeboxModel" "now" "[I") (by decide +kernel)) (v := .ref (adr (g.1 + 189) 30 0)) rfl dX8_whyNotWritten_34 ?_
        refine lv_bipush (v := 6) hx hb dX8_whyNotWritten_37 (by decide) ?_
        refine x_iald (i := (g.1 + 189)) (k := 30) (j := 0) (f := md 30 0) hx hb hK hW ⟨⟨hfl, rfl⟩, by decide⟩ (by decide) (rfl) rfl (by unfold vp_in; decide) dX8_whyNotWritten_39 ?_
        refine W.eq (g2 := F0 m 40 ls [.int (md 30 0 6)]) rfl ?_
        refine lv_if_ne (tgt := 48) hx hb dX8_whyNotWritten_40 (by decide) (fun hc => ?_) (fun hc => ?_)
        · have hf := x_iteF hf hc
          refine lv_aload_n hx hb dX8_whyNotWritten_48 rfl (lv_at hl 0 rfl) ?_
          refine x_get (i := (g.1 + 189)) (k := 8) (j := 0) (t := 1) hx hb hts i_8 hown hK hW ⟨⟨hfl, rfl⟩, by decide⟩ rfl ⟨by decide, by decide, rfl⟩ (hts (.fieldLink RX8 7 "OpticalJukeboxModel" "now" "[I") (by decide +kernel)) (v := .ref (adr (g.1 + 189) 30 0)) rfl dX8_whyNotWritten_49 ?_
          refine lv_iload_n hx hb dX8_whyNotWritten_52 rfl (lv_at hl 2 rfl) ?_
          refine lv_iload_n hx hb dX8_whyNotWritten_53 rfl (lv_at hl 1 rfl) ?_
          obtain ⟨q3, h_q3, hf⟩ := x_bindE hf
          refine x_ci0 (x_rS ⟨hx, hb, hml, hown, hts⟩ (ct_X8_canWrite l g hfl w md mn mw 30 isRow_30 (a2) (a1) h_q3) (va_cwS 3 hts gX8_whyNotWritten_X8_canWrite rfl rfl rfl (by decide +kernel) ⟨Nat.le_of_ble_eq_true rfl, Nat.le_of_ble_eq_true rfl⟩) hK hW hS rfl hl.1 (rest := []) rfl (Nat.le_of_ble_eq_true rfl) dX8_whyNotWritten_54 ⟨Nat.le_of_ble_eq_true rfl, Nat.le_of_ble_eq_true rfl⟩) hS (fun H locs hW hS => ?_)
          have hW : World g (wM w md mn mw) H := hW
          refine W.eq (g2 := F0 m 57 ls [.int q3]) rfl ?_
          refine lv_if_eq (tgt := 64) hx hb dX8_whyNotWritten_57 (by decide) (fun hc => ?_) (fun hc => ?_)
          · have hf := x_iteT hf hc
            refine lv_ldc (v := -1000008) hx hb hown (hts (.constant RX8 182 (-1000008)) (by decide +kernel)) dX8_whyNotWritten_64 ?_
            cases hf
            exact x_iret hx hb hr hlocks hK hW hS rfl dX8_whyNotWritten_66
          · have hf := x_iteF hf hc
            refine lv_iconst (v := 0) hx hb dX8_whyNotWritten_60 (by decide) ?_
            refine lv_goto (tgt := 66) hx hb dX8_whyNotWritten_61 (by decide) ?_
            cases hf
            exact x_iret hx hb hr hlocks hK hW hS rfl dX8_whyNotWritten_66
        · have hf := x_iteT hf hc
          refine lv_ldc (v := -1000007) hx hb hown (hts (.constant RX8 177 (-1000007)) (by decide +kernel)) dX8_whyNotWritten_43 ?_
          refine lv_goto (tgt := 66) hx hb dX8_whyNotWritten_45 (by decide) ?_
          cases hf
          exact x_iret hx hb hr hlocks hK hW hS rfl dX8_whyNotWritten_66
      · have hf := x_iteF hf hc
        refine lv_ldc (v := -1000003) hx hb hown (hts (.constant RX8 243 (-1000003)) (by decide +kernel)) dX8_whyNotWritten_30 ?_
        cases hf
        exact x_iret hx hb hr hlocks hK hW hS rfl dX8_whyNotWritten_32
    · have hf := x_iteT hf hc
      refine lv_ldc (v := -1000002) hx hb hown (hts (.constant RX8 224 (-1000002)) (by decide +kernel)) dX8_whyNotWritten_23 ?_
      cases hf
      exact x_iret hx hb hr hlocks hK hW hS rfl dX8_whyNotWritten_25
  · have hf := x_iteT hf hc
    refine lv_ldc (v := -1000001) hx hb hown (hts (.constant RX8 186 (-1000001)) (by decide +kernel)) dX8_whyNotWritten_8 ?_
    cases hf
    exact x_iret hx hb hr hlocks hK hW hS rfl dX8_whyNotWritten_10
abbrev rm_X8_writesOn : Room := { frames := 5, cells := 0, slots := 0, locals := 108 }
set_option maxRecDepth 100000 in
set_option maxHeartbeats 4000000 in
theorem ct_X8_writesOn (l : Launch) (g : GT) (hfl : 2 ≤ gf g) (w : WT) (md : SD) (mn : Nat → Int64) (mw : Int64) (a1 : Int32) (a2 : Int32) (a3 : Int32) {q : SD} (hf : f_X8_writesOn md a1 a2 a3 = some q) : Met l yX8_writesOn wsX8_writesOn rm_X8_writesOn (cPre g (wM w md mn mw) [.ref (adr (g.1 + 189) 8 0), .int a1, .int a2, .int a3]) (cQv g (wM w q mn mw)) 0 0 (gA g) := by
  have i_8 : ∀ w ∈ u_ws RX8 TX8 27, w ∈ wsX8_writesOn := by decide +kernel
  refine x_met (by decide) rfl (Nat.le_of_ble_eq_true rfl) ?_
  intro p e s m below meth c hx hb hr hml hts hown hlocks hK hW hS ls hl
  have hown : s.vm.findClass RX8 = some m.cls := hown
  have hl : lv_has ls 4 [(0, .ref (adr (g.1 + 189) 8 0)), (1, .int a1), (2, .int a2), (3, .int a3)] := hl
  rw [f_X8_writesOn] at hf
  refine lv_aload_n hx hb dX8_writesOn_0 rfl (lv_at hl 0 rfl) ?_
  refine lv_iload_n hx hb dX8_writesOn_1 rfl (lv_at hl 3 rfl) ?_
  obtain ⟨q1, h_q1, hf⟩ := x_bindE hf
  refine x_ci0 (x_rV ⟨hx, hb, hml, hown, hts⟩ (ct_X8_mounts l g hfl w md mn mw (a3) h_q1) (cwV 1 hts gX8_writesOn_X8_mounts rfl rfl rfl (by decide +kernel) ⟨Nat.le_of_ble_eq_true rfl, Nat.le_of_ble_eq_true rfl⟩) hK hW hS (x_recv (i := (g.1 + 189)) (k := 8) (j := 0) hK hW ⟨⟨hfl, rfl⟩, by decide⟩ rfl (by decide)) rfl hl.1 (rest := []) rfl (Nat.le_of_ble_eq_true rfl) dX8_writesOn_2 ⟨Nat.le_of_ble_eq_true rfl, Nat.le_of_ble_eq_true rfl⟩) hS (fun H locs hW hS => ?_)
  have hW : World g (wM w q1.2 mn mw) H := hW
  refine W.eq (g2 := F0 m 5 ls [.int q1.1]) rfl ?_
  refine lv_pop hx hb dX8_writesOn_5 rfl ?_
  refine lv_aload_n hx hb dX8_writesOn_6 rfl (lv_at hl 0 rfl) ?_
  refine x_get (i := (g.1 + 189)) (k := 8) (j := 0) (t := 1) hx hb hts i_8 hown hK hW ⟨⟨hfl, rfl⟩, by decide⟩ rfl ⟨by decide, by decide, rfl⟩ (hts (.fieldLink RX8 7 "OpticalJukeboxModel" "now" "[I") (by decide +kernel)) (v := .ref (adr (g.1 + 189) 30 0)) rfl dX8_writesOn_7 ?_
  refine lv_bipush (v := 12) hx hb dX8_writesOn_10 (by decide) ?_
  refine lv_dup2_11 hx hb dX8_writesOn_12 rfl rfl ?_
  refine x_iald (i := (g.1 + 189)) (k := 30) (j := 0) (f := q1.2 30 0) hx hb hK hW ⟨⟨hfl, rfl⟩, by decide⟩ (by decide) (rfl) rfl (by unfold vp_in; decide) dX8_writesOn_13 ?_
  refine W.eq (g2 := F0 m 14 ls [.int (q1.2 30 0 12), .int (12 : Int32), .ref (adr (g.1 + 189) 30 0)]) rfl ?_
  refine lv_aload_n hx hb dX8_writesOn_14 rfl (lv_at hl 0 rfl) ?_
  refine x_get (i := (g.1 + 189)) (k := 8) (j := 0) (t := 1) hx hb hts i_8 hown hK hW ⟨⟨hfl, rfl⟩, by decide⟩ rfl ⟨by decide, by decide, rfl⟩ (hts (.fieldLink RX8 7 "OpticalJukeboxModel" "now" "[I") (by decide +kernel)) (v := .ref (adr (g.1 + 189) 30 0)) rfl dX8_writesOn_15 ?_
  refine lv_iconst (v := 5) hx hb dX8_writesOn_18 (by decide) ?_
  refine x_iald (i := (g.1 + 189)) (k := 30) (j := 0) (f := q1.2 30 0) hx hb hK hW ⟨⟨hfl, rfl⟩, by decide⟩ (by decide) (rfl) rfl (by unfold vp_in; decide) dX8_writesOn_19 ?_
  refine W.eq (g2 := F0 m 20 ls [.int (q1.2 30 0 5), .int (q1.2 30 0 12), .int (12 : Int32), .ref (adr (g.1 + 189) 30 0)]) rfl ?_
  refine lv_iload_n hx hb dX8_writesOn_20 rfl (lv_at hl 2 rfl) ?_
  refine lv_imul hx hb dX8_writesOn_21 ?_
  refine lv_iadd hx hb dX8_writesOn_22 ?_
  obtain ⟨md2, e_md2, hf⟩ := x_letE hf
  refine x_iast (i := (g.1 + 189)) (k := 30) (j := 0) (w' := wM w md2 mn mw) hx hb hK hW ⟨⟨hfl, rfl⟩, by decide⟩ hS (by decide) rfl rfl rfl (by unfold vp_in; decide) dX8_writesOn_23 (fp_M e_md2 rfl) (fun H locs hW hS => ?_)
  refine lv_aload_n hx hb dX8_writesOn_24 rfl (lv_at hl 0 rfl) ?_
  refine x_get (i := (g.1 + 189)) (k := 8) (j := 0) (t := 1) hx hb hts i_8 hown hK hW ⟨⟨hfl, rfl⟩, by decide⟩ rfl ⟨by decide, by decide, rfl⟩ (hts (.fieldLink RX8 7 "OpticalJukeboxModel" "now" "[I") (by decide +kernel)) (v := .ref (adr (g.1 + 189) 30 0)) rfl dX8_writesOn_25 ?_
  refine lv_iload_n hx hb dX8_writesOn_28 rfl (lv_at hl 1 rfl) ?_
  refine lv_iload_n hx hb dX8_writesOn_29 rfl (lv_at hl 3 rfl) ?_
  refine lv_iload_n hx hb dX8_writesOn_30 rfl (lv_at hl 2 rfl) ?_
  obtain ⟨q3, h_q3, hf⟩ := x_bindE hf
  refine x_cv0 (x_rS ⟨hx, hb, hml, hown, hts⟩ (ct_X8_writesVersion l g hfl w md2 mn mw 30 isRow_30 (a1) (a3) (a2) h_q3) (va_cwS 4 hts gX8_writesOn_X8_writesVersion rfl rfl rfl (by decide +kernel) ⟨Nat.le_of_ble_eq_true rfl, Nat.le_of_ble_eq_true rfl⟩) hK hW hS rfl hl.1 (rest := []) rfl (Nat.le_of_ble_eq_true rfl) dX8_writesOn_31 ⟨Nat.le_of_ble_eq_true rfl, Nat.le_of_ble_eq_true rfl⟩) hS (fun H locs hW hS => ?_)
  have hW : World g (wM w q3 mn mw) H := hW
  cases hf
  exact x_vret hx hb hr hlocks hK hW hS dX8_writesOn_34
abbrev rm_X8_write : Room := { frames := 6, cells := 0, slots := 0, locals := 131 }
set_option maxRecDepth 100000 in
set_option maxHeartbeats 4000000 in
theorem ct_X8_write (l : Launch) (g : GT) (hfl : 2 ≤ gf g) (w : WT) (md : SD) (mn : Nat → Int64) (mw : Int64) (a1 : Int32) (a2 : Int32) (a3 : Int32) {q : (Int32 × SD)} (hf : f_X8_write md a1 a2 a3 = some q) : Met l yX8_write wsX8_write rm_X8_write (cPre g (wM w md mn mw) [.ref (adr (g.1 + 189) 8 0), .int a1, .int a2, .int a3]) (cQi g q.1 (wM w q.2 mn mw)) 0 0 (gA g) := by
  have i_8 : ∀ w ∈ u_ws RX8 TX8 27, w ∈ wsX8_write := by decide +kernel
  refine x_met (by decide) rfl (Nat.le_of_ble_eq_true rfl) ?_
  intro p e s m below meth c hx hb hr hml hts hown hlocks hK hW hS ls hl
  have hown : s.vm.findClass RX8 = some m.cls := hown
  have hl : lv_has ls 6 [(0, .ref (adr (g.1 + 189) 8 0)), (1, .int a1), (2, .int a2), (3, .int a3)] := hl
  rw [f_X8_write] at hf
  refine lv_aload_n hx hb dX8_write_0 rfl (lv_at hl 0 rfl) ?_
  refine lv_iconst (v := 0) hx hb dX8_write_1 (by decide) ?_
  obtain ⟨md1, e_md1, hf⟩ := x_letE hf
  refine x_put (i := (g.1 + 189)) (k := 8) (j := 0) (t := 0) (w' := wM w md1 mn mw) hx hb hts i_8 tyX8 tyX8_ok nmX8 hown hK hW ⟨⟨hfl, rfl⟩, by decide⟩ hS rfl ⟨by decide, by decide, rfl⟩ (hts (.fieldLink RX8 51 "OpticalJukeboxModel" "thrown" "I") (by decide +kernel)) rfl (ty := .int) (by decide +kernel) rfl rfl ⟨rfl, rfl⟩ dX8_write_2 (fp_M e_md1 rfl) (fun H locs hW hS => ?_)
  refine lv_aload_n hx hb dX8_write_5 rfl (lv_at hl 0 rfl) ?_
  refine lv_iload_n hx hb dX8_write_6 rfl (lv_at hl 1 rfl) ?_
  obtain ⟨q2, h_q2, hf⟩ := x_bindE hf
  refine x_ci0 (x_rV ⟨hx, hb, hml, hown, hts⟩ (ct_X8_isFile l g hfl w md1 mn mw (a1) h_q2) (cwV 1 hts gX8_write_X8_isFile rfl rfl rfl (by decide +kernel) ⟨Nat.le_of_ble_eq_true rfl, Nat.le_of_ble_eq_true rfl⟩) hK hW hS (x_recv (i := (g.1 + 189)) (k := 8) (j := 0) hK hW ⟨⟨hfl, rfl⟩, by decide⟩ rfl (by decide)) rfl hl.1 (rest := []) rfl (Nat.le_of_ble_eq_true rfl) dX8_write_7 ⟨Nat.le_of_ble_eq_true rfl, Nat.le_of_ble_eq_true rfl⟩) hS (fun H locs hW hS => ?_)
  have hW : World g (wM w md1 mn mw) H := hW
  refine W.eq (g2 := F0 m 10 ls [.int q2]) rfl ?_
  refine lv_if_ne (tgt := 16) hx hb dX8_write_10 (by decide) (fun hc => ?_) (fun hc => ?_)
  · have hf := x_iteF hf hc
    refine lv_aload_n hx hb dX8_write_16 rfl (lv_at hl 0 rfl) ?_
    refine lv_iload_n hx hb dX8_write_17 rfl (lv_at hl 2 rfl) ?_
    refine lv_iload_n hx hb dX8_write_18 rfl (lv_at hl 3 rfl) ?_
    refine lv_aload_n hx hb dX8_write_19 rfl (lv_at hl 0 rfl) ?_
    refine x_get (i := (g.1 + 189)) (k := 8) (j := 0) (t := 1) hx hb hts i_8 hown hK hW ⟨⟨hfl, rfl⟩, by decide⟩ rfl ⟨by decide, by decide, rfl⟩ (hts (.fieldLink RX8 7 "OpticalJukeboxModel" "now" "[I") (by decide +kernel)) (v := .ref (adr (g.1 + 189) 30 0)) rfl dX8_write_20 ?_
    refine lv_bipush (v := 10) hx hb dX8_write_23 (by decide) ?_
    refine x_iald (i := (g.1 + 189)) (k := 30) (j := 0) (f := md1 30 0) hx hb hK hW ⟨⟨hfl, rfl⟩, by decide⟩ (by decide) (rfl) rfl (by unfold vp_in; decide) dX8_write_25 ?_
    refine W.eq (g2 := F0 m 26 ls [.int (md1 30 0 10), .int a3, .int a2, .ref (adr (g.1 + 189) 8 0)]) rfl ?_
    refine lv_bipush (v := 40) hx hb dX8_write_26 (by decide) ?_
    obtain ⟨K3, eK3, hf⟩ := x_letE hf
    have KK3 : ∀ (y4 : Int32) (ls : Array Slot) (H : Heap) (locs : List Loc), lv_has ls 6 [(0, .ref (adr (g.1 + 189) 8 0)), (1, .int a1), (2, .int a2), (3, .int a3)] → World g (wM w md1 mn mw) H → va_S (gA g) s.heap H locs → K3 y4 = some q → W p l e rm_X8_write s m [.ref (adr (g.1 + 189) 8 0), .int a1, .int a2, .int a3].toArray below meth c H locs 0 0 (MQ below (cQi g q.1 (wM w q.2 mn mw)) [.ref (adr (g.1 + 189) 8 0), .int a1, .int a2, .int a3].toArray s 0 0 (gA g)) (F0 m 36 ls [.int y4, .int a3, .int a2, .ref (adr (g.1 + 189) 8 0)]) := by
      intro y4 ls H locs hl hW hS hf
      subst eK3
      obtain ⟨q5, h_q5, hf⟩ := x_bindE hf
      refine x_ci0 (x_rV ⟨hx, hb, hml, hown, hts⟩ (ct_X8_whyNotWritten l g hfl w md1 mn mw (a2) (a3) (y4) h_q5) (cwV 3 hts gX8_write_X8_whyNotWritten rfl rfl rfl (by decide +kernel) ⟨Nat.le_of_ble_eq_true rfl, Nat.le_of_ble_eq_true rfl⟩) hK hW hS (x_recv (i := (g.1 + 189)) (k := 8) (j := 0) hK hW ⟨⟨hfl, rfl⟩, by decide⟩ rfl (by decide)) rfl hl.1 (rest := []) rfl (Nat.le_of_ble_eq_true rfl) dX8_write_36 ⟨Nat.le_of_ble_eq_true rfl, Nat.le_of_ble_eq_true rfl⟩) hS (fun H locs hW hS => ?_)
      have hW : World g (wM w md1 mn mw) H := hW
      refine W.eq (g2 := F0 m 39 ls [.int q5]) rfl ?_
      refine lv_istore (lv' := [(4, .int q5), (0, .ref (adr (g.1 + 189) 8 0)), (1, .int a1), (2, .int a2), (3, .int a3)]) hx hb dX8_write_39 hl (by decide) rfl (fun ls hl => ?_)
      refine lv_iload hx hb dX8_write_41 (lv_at hl 0 rfl) ?_
      refine lv_if_eq (tgt := 49) hx hb dX8_write_43 (by decide) (fun hc => ?_) (fun hc => ?_)
      · have hf := x_iteT hf hc
        refine lv_aload_n hx hb dX8_write_49 rfl (lv_at hl 1 rfl) ?_
        obtain ⟨q6, h_q6, hf⟩ := x_bindE hf
        refine x_cv0 (x_rV ⟨hx, hb, hml, hown, hts⟩ (ct_X8_remembers l g hfl w md1 mn mw  h_q6) (cwV 0 hts gX8_write_X8_remembers rfl rfl rfl (by decide +kernel) ⟨Nat.le_of_ble_eq_true rfl, Nat.le_of_ble_eq_true rfl⟩) hK hW hS (x_recv (i := (g.1 + 189)) (k := 8) (j := 0) hK hW ⟨⟨hfl, rfl⟩, by decide⟩ rfl (by decide)) rfl hl.1 (rest := []) rfl (Nat.le_of_ble_eq_true rfl) dX8_write_50 ⟨Nat.le_of_ble_eq_true rfl, Nat.le_of_ble_eq_true rfl⟩) hS (fun H locs hW hS => ?_)
        have hW : World g (wM w q6 mn mw) H := hW
        refine lv_aload_n hx hb dX8_write_53 rfl (lv_at hl 1 rfl) ?_
        refine x_get (i := (g.1 + 189)) (k := 8) (j := 0) (t := 1) hx hb hts i_8 hown hK hW ⟨⟨hfl, rfl⟩, by decide⟩ rfl ⟨by decide, by decide, rfl⟩ (hts (.fieldLink RX8 7 "OpticalJukeboxModel" "now" "[I") (by decide +kernel)) (v := .ref (adr (g.1 + 189) 30 0)) rfl dX8_write_54 ?_
        refine lv_bipush (v := 12) hx hb dX8_write_57 (by decide) ?_
        refine x_iald (i := (g.1 + 189)) (k := 30) (j := 0) (f := q6 30 0) hx hb hK hW ⟨⟨hfl, rfl⟩, by decide⟩ (by decide) (rfl) rfl (by unfold vp_in; decide) dX8_write_59 ?_
        refine W.eq (g2 := F0 m 60 ls [.int (q6 30 0 12)]) rfl ?_
        obtain ⟨x7, e_x7, hf⟩ := x_letE hf
        refine x_topi e_x7 ?_
        refine lv_istore (lv' := [(5, .int x7), (4, .int q5), (0, .ref (adr (g.1 + 189) 8 0)), (1, .int a1), (2, .int a2), (3, .int a3)]) hx hb dX8_write_60 hl (by decide) rfl (fun ls hl => ?_)
        refine lv_aload_n hx hb dX8_write_62 rfl (lv_at hl 2 rfl) ?_
        refine lv_iload_n hx hb dX8_write_63 rfl (lv_at hl 3 rfl) ?_
        refine lv_iload_n hx hb dX8_write_64 rfl (lv_at hl 4 rfl) ?_
        refine lv_iload_n hx hb dX8_write_65 rfl (lv_at hl 5 rfl) ?_
        obtain ⟨q8, h_q8, hf⟩ := x_bindE hf
        refine x_cv0 (x_rV ⟨hx, hb, hml, hown, hts⟩ (ct_X8_writesOn l g hfl w q6 mn mw (a1) (a2) (a3) h_q8) (cwV 3 hts gX8_write_X8_writesOn rfl rfl rfl (by decide +kernel) ⟨Nat.le_of_ble_eq_true rfl, Nat.le_of_ble_eq_true rfl⟩) hK hW hS (x_recv (i := (g.1 + 189)) (k := 8) (j := 0) hK hW ⟨⟨hfl, rfl⟩, by decide⟩ rfl (by decide)) rfl hl.1 (rest := []) rfl (Nat.le_of_ble_eq_true rfl) dX8_write_66 ⟨Nat.le_of_ble_eq_true rfl, Nat.le_of_ble_eq_true rfl⟩) hS (fun H locs hW hS => ?_)
        have hW : World g (wM w q8 mn mw) H := hW
        refine lv_aload_n hx hb dX8_write_69 rfl (lv_at hl 2 rfl) ?_
        refine lv_iload hx hb dX8_write_70 (lv_at hl 0 rfl) ?_
        obtain ⟨q9, h_q9, hf⟩ := x_bindE hf
        refine x_ci0 (x_rV ⟨hx, hb, hml, hown, hts⟩ (ct_X8_took l g hfl w q8 mn mw (x7) h_q9) (cwV 1 hts gX8_write_X8_took rfl rfl rfl (by decide +kernel) ⟨Nat.le_of_ble_eq_true rfl, Nat.le_of_ble_eq_true rfl⟩) hK hW hS (x_recv (i := (g.1 + 189)) (k := 8) (j := 0) hK hW ⟨⟨hfl, rfl⟩, by decide⟩ rfl (by decide)) rfl hl.1 (rest := []) rfl (Nat.le_of_ble_eq_true rfl) dX8_write_72 ⟨Nat.le_of_ble_eq_true rfl, Nat.le_of_ble_eq_true rfl⟩) hS (fun H locs hW hS => ?_)
        have hW : World g (wM w q8 mn mw) H := hW
        refine W.eq (g2 := F0 m 75 ls [.int q9]) rfl ?_
        cases hf
        exact x_iret hx hb hr hlocks hK hW hS rfl dX8_write_75
      · have hf := x_iteF hf hc
        refine lv_iload hx hb dX8_write_46 (lv_at hl 0 rfl) ?_
        cases hf
        exact x_iret hx hb hr hlocks hK hW hS rfl dX8_write_48
    clear eK3
    refine lv_icmp_ne (tgt := 35) hx hb dX8_write_28 (by decide) (fun hc => ?_) (fun hc => ?_)
    · have hf := x_iteF hf hc
      refine lv_iconst (v := 0) hx hb dX8_write_35 (by decide) ?_
      exact KK3 ((0 : Int32)) ls _ _ hl hW hS hf
    · have hf := x_iteT hf hc
      refine lv_iconst (v := 1) hx hb dX8_write_31 (by decide) ?_
      refine lv_goto (tgt := 36) hx hb dX8_write_32 (by decide) ?_
      exact KK3 ((1 : Int32)) ls _ _ hl hW hS hf
  · have hf := x_iteT hf hc
    refine lv_ldc (v := -1000001) hx hb hown (hts (.constant RX8 186 (-1000001)) (by decide +kernel)) dX8_write_13 ?_
    cases hf
    exact x_iret hx hb hr hlocks hK hW hS rfl dX8_write_15
abbrev rm_X8_create : Room := { frames := 6, cells := 0, slots := 0, locals := 131 }
set_option maxRecDepth 100000 in
set_option maxHeartbeats 4000000 in
theorem ct_X8_create (l : Launch) (g : GT) (hfl : 2 ≤ gf g) (w : WT) (md : SD) (mn : Nat → Int64) (mw : Int64) (a1 : Int32) (a2 : Int32) {q : (Int32 × SD)} (hf : f_X8_create md a1 a2 = some q) : Met l yX8_create wsX8_create rm_X8_create (cPre g (wM w md mn mw) [.ref (adr (g.1 + 189) 8 0), .int a1, .int a2]) (cQi g q.1 (wM w q.2 mn mw)) 0 0 (gA g) := by
  have i_8 : ∀ w ∈ u_ws RX8 TX8 27, w ∈ wsX8_create := by decide +kernel
  refine x_met (by decide) rfl (Nat.le_of_ble_eq_true rfl) ?_
  intro p e s m below meth c hx hb hr hml hts hown hlocks hK hW hS ls hl
  have hown : s.vm.findClass RX8 = some m.cls := hown
  have hl : lv_has ls 5 [(0, .ref (adr (g.1 + 189) 8 0)), (1, .int a1), (2, .int a2)] := hl
  rw [f_X8_create] at hf
  refine lv_aload_n hx hb dX8_create_0 rfl (lv_at hl 0 rfl) ?_
  refine lv_iconst (v := 0) hx hb dX8_create_1 (by decide) ?_
  obtain ⟨md1, e_md1, hf⟩ := x_letE hf
  refine x_put (i := (g.1 + 189)) (k := 8) (j := 0) (t := 0) (w' := wM w md1 mn mw) hx hb hts i_8 tyX8 tyX8_ok nmX8 hown hK hW ⟨⟨hfl, rfl⟩, by decide⟩ hS rfl ⟨by decide, by decide, rfl⟩ (hts (.fieldLink RX8 51 "OpticalJukeboxModel" "thrown" "I") (by decide +kernel)) rfl (ty := .int) (by decide +kernel) rfl rfl ⟨rfl, rfl⟩ dX8_create_2 (fp_M e_md1 rfl) (fun H locs hW hS => ?_)
  refine lv_aload_n hx hb dX8_create_5 rfl (lv_at hl 0 rfl) ?_
  refine lv_iload_n hx hb dX8_create_6 rfl (lv_at hl 1 rfl) ?_
  refine lv_iload_n hx hb dX8_create_7 rfl (lv_at hl 2 rfl) ?_
  refine lv_aload_n hx hb dX8_create_8 rfl (lv_at hl 0 rfl) ?_
  refine x_get (i := (g.1 + 189)) (k := 8) (j := 0) (t := 1) hx hb hts i_8 hown hK hW ⟨⟨hfl, rfl⟩, by decide⟩ rfl ⟨by decide, by decide, rfl⟩ (hts (.fieldLink RX8 7 "OpticalJukeboxModel" "now" "[I") (by decide +kernel)) (v := .ref (adr (g.1 + 189) 30 0)) rfl dX8_create_9 ?_
  refine lv_bipush (v := 9) hx hb dX8_create_12 (by decide) ?_
  refine x_iald (i := (g.1 + 189)) (k := 30) (j := 0) (f := md1 30 0) hx hb hK hW ⟨⟨hfl, rfl⟩, by decide⟩ (by decide) (rfl) rfl (by unfold vp_in; decide) dX8_create_14 ?_
  refine W.eq (g2 := F0 m 15 ls [.int (md1 30 0 9), .int a2, .int a1, .ref (adr (g.1 + 189) 8 0)]) rfl ?_
  refine lv_bipush (v := 20) hx hb dX8_create_15 (by decide) ?_
  obtain ⟨K2, eK2, hf⟩ := x_letE hf
  have KK2 : ∀ (y3 : Int32) (ls : Array Slot) (H : Heap) (locs : List Loc), lv_has ls 5 [(0, .ref (adr (g.1 + 189) 8 0)), (1, .int a1), (2, .int a2)] → World g (wM w md1 mn mw) H → va_S (gA g) s.heap H locs → K2 y3 = some q → W p l e rm_X8_create s m [.ref (adr (g.1 + 189) 8 0), .int a1, .int a2].toArray below meth c H locs 0 0 (MQ below (cQi g q.1 (wM w q.2 mn mw)) [.ref (adr (g.1 + 189) 8 0), .int a1, .int a2].toArray s 0 0 (gA g)) (F0 m 37 ls [.int y3, .int a2, .int a1, .ref (adr (g.1 + 189) 8 0)]) := by
    intro y3 ls H locs hl hW hS hf
    subst eK2
    obtain ⟨q4, h_q4, hf⟩ := x_bindE hf
    refine x_ci0 (x_rV ⟨hx, hb, hml, hown, hts⟩ (ct_X8_whyNotWritten l g hfl w md1 mn mw (a1) (a2) (y3) h_q4) (cwV 3 hts gX8_create_X8_whyNotWritten rfl rfl rfl (by decide +kernel) ⟨Nat.le_of_ble_eq_true rfl, Nat.le_of_ble_eq_true rfl⟩) hK hW hS (x_recv (i := (g.1 + 189)) (k := 8) (j := 0) hK hW ⟨⟨hfl, rfl⟩, by decide⟩ rfl (by decide)) rfl hl.1 (rest := []) rfl (Nat.le_of_ble_eq_true rfl) dX8_create_37 ⟨Nat.le_of_ble_eq_true rfl, Nat.le_of_ble_eq_true rfl⟩) hS (fun H locs hW hS => ?_)
    have hW : World g (wM w md1 mn mw) H := hW
    refine W.eq (g2 := F0 m 40 ls [.int q4]) rfl ?_
    refine lv_istore_n (lv' := [(3, .int q4), (0, .ref (adr (g.1 + 189) 8 0)), (1, .int a1), (2, .int a2)]) hx hb dX8_create_40 rfl hl (by decide) rfl (fun ls hl => ?_)
    refine lv_iload_n hx hb dX8_create_41 rfl (lv_at hl 0 rfl) ?_
    refine lv_if_eq (tgt := 47) hx hb dX8_create_42 (by decide) (fun hc => ?_) (fun hc => ?_)
    · have hf := x_iteT hf hc
      refine lv_aload_n hx hb dX8_create_47 rfl (lv_at hl 1 rfl) ?_
      obtain ⟨q5, h_q5, hf⟩ := x_bindE hf
      refine x_cv0 (x_rV ⟨hx, hb, hml, hown, hts⟩ (ct_X8_remembers l g hfl w md1 mn mw  h_q5) (cwV 0 hts gX8_create_X8_remembers rfl rfl rfl (by decide +kernel) ⟨Nat.le_of_ble_eq_true rfl, Nat.le_of_ble_eq_true rfl⟩) hK hW hS (x_recv (i := (g.1 + 189)) (k := 8) (j := 0) hK hW ⟨⟨hfl, rfl⟩, by decide⟩ rfl (by decide)) rfl hl.1 (rest := []) rfl (Nat.le_of_ble_eq_true rfl) dX8_create_48 ⟨Nat.le_of_ble_eq_true rfl, Nat.le_of_ble_eq_true rfl⟩) hS (fun H locs hW hS => ?_)
      have hW : World g (wM w q5 mn mw) H := hW
      refine lv_aload_n hx hb dX8_create_51 rfl (lv_at hl 1 rfl) ?_
      refine x_get (i := (g.1 + 189)) (k := 8) (j := 0) (t := 1) hx hb hts i_8 hown hK hW ⟨⟨hfl, rfl⟩, by decide⟩ rfl ⟨by decide, by decide, rfl⟩ (hts (.fieldLink RX8 7 "OpticalJukeboxModel" "now" "[I") (by decide +kernel)) (v := .ref (adr (g.1 + 189) 30 0)) rfl dX8_create_52 ?_
      refine lv_bipush (v := 9) hx hb dX8_create_55 (by decide) ?_
      refine x_iald (i := (g.1 + 189)) (k := 30) (j := 0) (f := q5 30 0) hx hb hK hW ⟨⟨hfl, rfl⟩, by decide⟩ (by decide) (rfl) rfl (by unfold vp_in; decide) dX8_create_57 ?_
      refine W.eq (g2 := F0 m 58 ls [.int (q5 30 0 9)]) rfl ?_
      obtain ⟨x6, e_x6, hf⟩ := x_letE hf
      refine x_topi e_x6 ?_
      refine lv_istore (lv' := [(4, .int x6), (3, .int q4), (0, .ref (adr (g.1 + 189) 8 0)), (1, .int a1), (2, .int a2)]) hx hb dX8_create_58 hl (by decide) rfl (fun ls hl => ?_)
      refine lv_aload_n hx hb dX8_create_60 rfl (lv_at hl 2 rfl) ?_
      refine x_get (i := (g.1 + 189)) (k := 8) (j := 0) (t := 1) hx hb hts i_8 hown hK hW ⟨⟨hfl, rfl⟩, by decide⟩ rfl ⟨by decide, by decide, rfl⟩ (hts (.fieldLink RX8 7 "OpticalJukeboxModel" "now" "[I") (by decide +kernel)) (v := .ref (adr (g.1 + 189) 30 0)) rfl dX8_create_61 ?_
      refine lv_bipush (v := 9) hx hb dX8_create_64 (by decide) ?_
      refine lv_dup2_11 hx hb dX8_create_66 rfl rfl ?_
      refine x_iald (i := (g.1 + 189)) (k := 30) (j := 0) (f := q5 30 0) hx hb hK hW ⟨⟨hfl, rfl⟩, by decide⟩ (by decide) (rfl) rfl (by unfold vp_in; decide) dX8_create_67 ?_
      refine W.eq (g2 := F0 m 68 ls [.int (q5 30 0 9), .int (9 : Int32), .ref (adr (g.1 + 189) 30 0)]) rfl ?_
      refine lv_iconst (v := 1) hx hb dX8_create_68 (by decide) ?_
      refine lv_iadd hx hb dX8_create_69 ?_
      obtain ⟨md7, e_md7, hf⟩ := x_letE hf
      refine x_iast (i := (g.1 + 189)) (k := 30) (j := 0) (w' := wM w md7 mn mw) hx hb hK hW ⟨⟨hfl, rfl⟩, by decide⟩ hS (by decide) rfl rfl rfl (by unfold vp_in; decide) dX8_create_70 (fp_M e_md7 rfl) (fun H locs hW hS => ?_)
      refine lv_aload_n hx hb dX8_create_71 rfl (lv_at hl 2 rfl) ?_
      refine lv_iload hx hb dX8_create_72 (lv_at hl 0 rfl) ?_
      refine lv_iload_n hx hb dX8_create_74 rfl (lv_at hl 3 rfl) ?_
      refine lv_iload_n hx hb dX8_create_75 rfl (lv_at hl 4 rfl) ?_
      obtain ⟨q8, h_q8, hf⟩ := x_bindE hf
      refine x_cv0 (x_rV ⟨hx, hb, hml, hown, hts⟩ (ct_X8_writesOn l g hfl w md7 mn mw (x6) (a1) (a2) h_q8) (cwV 3 hts gX8_create_X8_writesOn rfl rfl rfl (by decide +kernel) ⟨Nat.le_of_ble_eq_true rfl, Nat.le_of_ble_eq_true rfl⟩) hK hW hS (x_recv (i := (g.1 + 189)) (k := 8) (j := 0) hK hW ⟨⟨hfl, rfl⟩, by decide⟩ rfl (by decide)) rfl hl.1 (rest := []) rfl (Nat.le_of_ble_eq_true rfl) dX8_create_76 ⟨Nat.le_of_ble_eq_true rfl, Nat.le_of_ble_eq_true rfl⟩) hS (fun H locs hW hS => ?_)
      have hW : World g (wM w q8 mn mw) H := hW
      refine lv_iload hx hb dX8_create_79 (lv_at hl 0 rfl) ?_
      cases hf
      exact x_iret hx hb hr hlocks hK hW hS rfl dX8_create_81
    · have hf := x_iteF hf hc
      refine lv_iload_n hx hb dX8_create_45 rfl (lv_at hl 0 rfl) ?_
      cases hf
      exact x_iret hx hb hr hlocks hK hW hS rfl dX8_create_46
  clear eK2
  obtain ⟨K9, eK9, hf⟩ := x_letE hf
  have KK9 : ∀ (_u : Unit) (ls : Array Slot) (H : Heap) (locs : List Loc), lv_has ls 5 [(0, .ref (adr (g.1 + 189) 8 0)), (1, .int a1), (2, .int a2)] → World g (wM w md1 mn mw) H → va_S (gA g) s.heap H locs → K9 _u = some q → W p l e rm_X8_create s m [.ref (adr (g.1 + 189) 8 0), .int a1, .int a2].toArray below meth c H locs 0 0 (MQ below (cQi g q.1 (wM w q.2 mn mw)) [.ref (adr (g.1 + 189) 8 0), .int a1, .int a2].toArray s 0 0 (gA g)) (F0 m 32 ls [.int a2, .int a1, .ref (adr (g.1 + 189) 8 0)]) := by
    intro _u ls H locs hl hW hS hf
    subst eK9
    refine lv_iconst (v := 1) hx hb dX8_create_32 (by decide) ?_
    refine lv_goto (tgt := 37) hx hb dX8_create_33 (by decide) ?_
    exact KK2 ((1 : Int32)) ls _ _ hl hW hS hf
  clear eK9
  refine lv_icmp_eq (tgt := 32) hx hb dX8_create_17 (by decide) (fun hc => ?_) (fun hc => ?_)
  · have hf := x_iteT hf hc
    exact KK9 (()) ls _ _ hl hW hS hf
  · have hf := x_iteF hf hc
    refine lv_aload_n hx hb dX8_create_20 rfl (lv_at hl 0 rfl) ?_
    refine x_get (i := (g.1 + 189)) (k := 8) (j := 0) (t := 1) hx hb hts i_8 hown hK hW ⟨⟨hfl, rfl⟩, by decide⟩ rfl ⟨by decide, by decide, rfl⟩ (hts (.fieldLink RX8 7 "OpticalJukeboxModel" "now" "[I") (by decide +kernel)) (v := .ref (adr (g.1 + 189) 30 0)) rfl dX8_create_21 ?_
    refine lv_bipush (v := 10) hx hb dX8_create_24 (by decide) ?_
    refine x_iald (i := (g.1 + 189)) (k := 30) (j := 0) (f := md1 30 0) hx hb hK hW ⟨⟨hfl, rfl⟩, by decide⟩ (by decide) (rfl) rfl (by unfold vp_in; decide) dX8_create_26 ?_
    refine W.eq (g2 := F0 m 27 ls [.int (md1 30 0 10), .int a2, .int a1, .ref (adr (g.1 + 189) 8 0)]) rfl ?_
    refine lv_bipush (v := 40) hx hb dX8_create_27 (by decide) ?_
    refine lv_icmp_ne (tgt := 36) hx hb dX8_create_29 (by decide) (fun hc => ?_) (fun hc => ?_)
    · have hf := x_iteF hf hc
      refine lv_iconst (v := 0) hx hb dX8_create_36 (by decide) ?_
      exact KK2 ((0 : Int32)) ls _ _ hl hW hS hf
    · have hf := x_iteT hf hc
      exact KK9 (()) ls _ _ hl hW hS hf
abbrev rm_X8_closeSession : Room := { frames := 5, cells := 0, slots := 0, locals := 108 }
set_option maxRecDepth 100000 in
set_option maxHeartbeats 4000000 in
theorem ct_X8_closeSession (l : Launch) (g : GT) (hfl : 2 ≤ gf g) (w : WT) (md : SD) (mn : Nat → Int64) (mw : Int64) (a1 : Int32) {q : (Int32 × SD)} (hf : f_X8_closeSession md a1 = some q) : Met l yX8_closeSession wsX8_closeSession rm_X8_closeSession (cPre g (wM w md mn mw) [.ref (adr (g.1 + 189) 8 0), .int a1]) (cQi g q.1 (wM w q.2 mn mw)) 0 0 (gA g) := by
  have i_8 : ∀ w ∈ u_ws RX8 TX8 27, w ∈ wsX8_closeSession := by decide +kernel
  refine x_met (by decide) rfl (Nat.le_of_ble_eq_true rfl) ?_
  intro p e s m below meth c hx hb hr hml hts hown hlocks hK hW hS ls hl
  have hown : s.vm.findClass RX8 = some m.cls := hown
  have hl : lv_has ls 3 [(0, .ref (adr (g.1 + 189) 8 0)), (1, .int a1)] := hl
  rw [f_X8_closeSession] at hf
  refine lv_aload_n hx hb dX8_closeSession_0 rfl (lv_at hl 0 rfl) ?_
  refine lv_iconst (v := 0) hx hb dX8_closeSession_1 (by decide) ?_
  obtain ⟨md1, e_md1, hf⟩ := x_letE hf
  refine x_put (i := (g.1 + 189)) (k := 8) (j := 0) (t := 0) (w' := wM w md1 mn mw) hx hb hts i_8 tyX8 tyX8_ok nmX8 hown hK hW ⟨⟨hfl, rfl⟩, by decide⟩ hS rfl ⟨by decide, by decide, rfl⟩ (hts (.fieldLink RX8 51 "OpticalJukeboxModel" "thrown" "I") (by decide +kernel)) rfl (ty := .int) (by decide +kernel) rfl rfl ⟨rfl, rfl⟩ dX8_closeSession_2 (fp_M e_md1 rfl) (fun H locs hW hS => ?_)
  refine lv_aload_n hx hb dX8_closeSession_5 rfl (lv_at hl 0 rfl) ?_
  refine lv_iload_n hx hb dX8_closeSession_6 rfl (lv_at hl 1 rfl) ?_
  obtain ⟨q2, h_q2, hf⟩ := x_bindE hf
  refine x_ci0 (x_rV ⟨hx, hb, hml, hown, hts⟩ (ct_X8_isPlatter l g hfl w md1 mn mw (a1) h_q2) (cwV 1 hts gX8_closeSession_X8_isPlatter rfl rfl rfl (by decide +kernel) ⟨Nat.le_of_ble_eq_true rfl, Nat.le_of_ble_eq_true rfl⟩) hK hW hS (x_recv (i := (g.1 + 189)) (k := 8) (j := 0) hK hW ⟨⟨hfl, rfl⟩, by decide⟩ rfl (by decide)) rfl hl.1 (rest := []) rfl (Nat.le_of_ble_eq_true rfl) dX8_closeSession_7 ⟨Nat.le_of_ble_eq_true rfl, Nat.le_of_ble_eq_true rfl⟩) hS (fun H locs hW hS => ?_)
  have hW : World g (wM w md1 mn mw) H := hW
  refine W.eq (g2 := F0 m 10 ls [.int q2]) rfl ?_
  refine lv_if_ne (tgt := 16) hx hb dX8_closeSession_10 (by decide) (fun hc => ?_) (fun hc => ?_)
  · have hf := x_iteF hf hc
    refine lv_aload_n hx hb dX8_closeSession_16 rfl (lv_at hl 0 rfl) ?_
    refine x_get (i := (g.1 + 189)) (k := 8) (j := 0) (t := 1) hx hb hts i_8 hown hK hW ⟨⟨hfl, rfl⟩, by decide⟩ rfl ⟨by decide, by decide, rfl⟩ (hts (.fieldLink RX8 7 "OpticalJukeboxModel" "now" "[I") (by decide +kernel)) (v := .ref (adr (g.1 + 189) 30 0)) rfl dX8_closeSession_17 ?_
    refine lv_bipush (v := 79) hx hb dX8_closeSession_20 (by decide) ?_
    refine lv_iload_n hx hb dX8_closeSession_22 rfl (lv_at hl 1 rfl) ?_
    refine lv_iadd hx hb dX8_closeSession_23 ?_
    obtain ⟨hg3, hf⟩ := x_guardE hf
    refine x_iald (i := (g.1 + 189)) (k := 30) (j := 0) (f := md1 30 0) hx hb hK hW ⟨⟨hfl, rfl⟩, by decide⟩ (by decide) (rfl) rfl hg3 dX8_closeSession_24 ?_
    refine lv_if_ne (tgt := 31) hx hb dX8_closeSession_25 (by decide) (fun hc => ?_) (fun hc => ?_)
    · have hf := x_iteF hf hc
      refine lv_aload_n hx hb dX8_closeSession_31 rfl (lv_at hl 0 rfl) ?_
      refine x_get (i := (g.1 + 189)) (k := 8) (j := 0) (t := 1) hx hb hts i_8 hown hK hW ⟨⟨hfl, rfl⟩, by decide⟩ rfl ⟨by decide, by decide, rfl⟩ (hts (.fieldLink RX8 7 "OpticalJukeboxModel" "now" "[I") (by decide +kernel)) (v := .ref (adr (g.1 + 189) 30 0)) rfl dX8_closeSession_32 ?_
      refine lv_bipush (v := 6) hx hb dX8_closeSession_35 (by decide) ?_
      refine x_iald (i := (g.1 + 189)) (k := 30) (j := 0) (f := md1 30 0) hx hb hK hW ⟨⟨hfl, rfl⟩, by decide⟩ (by decide) (rfl) rfl (by unfold vp_in; decide) dX8_closeSession_37 ?_
      refine W.eq (g2 := F0 m 38 ls [.int (md1 30 0 6)]) rfl ?_
      refine lv_if_ne (tgt := 44) hx hb dX8_closeSession_38 (by decide) (fun hc => ?_) (fun hc => ?_)
      · have hf := x_iteF hf hc
        refine lv_aload_n hx hb dX8_closeSession_44 rfl (lv_at hl 0 rfl) ?_
        obtain ⟨q4, h_q4, hf⟩ := x_bindE hf
        refine x_cv0 (x_rV ⟨hx, hb, hml, hown, hts⟩ (ct_X8_remembers l g hfl w md1 mn mw  h_q4) (cwV 0 hts gX8_closeSession_X8_remembers rfl rfl rfl (by decide +kernel) ⟨Nat.le_of_ble_eq_true rfl, Nat.le_of_ble_eq_true rfl⟩) hK hW hS (x_recv (i := (g.1 + 189)) (k := 8) (j := 0) hK hW ⟨⟨hfl, rfl⟩, by decide⟩ rfl (by decide)) rfl hl.1 (rest := []) rfl (Nat.le_of_ble_eq_true rfl) dX8_closeSession_45 ⟨Nat.le_of_ble_eq_true rfl, Nat.le_of_ble_eq_true rfl⟩) hS (fun H locs hW hS => ?_)
        have hW : World g (wM w q4 mn mw) H := hW
        refine lv_aload_n hx hb dX8_closeSession_48 rfl (lv_at hl 0 rfl) ?_
        refine lv_iload_n hx hb dX8_closeSession_49 rfl (lv_at hl 1 rfl) ?_
        obtain ⟨q5, h_q5, hf⟩ := x_bindE hf
        refine x_ci0 (x_rV ⟨hx, hb, hml, hown, hts⟩ (ct_X8_mounts l g hfl w q4 mn mw (a1) h_q5) (cwV 1 hts gX8_closeSession_X8_mounts rfl rfl rfl (by decide +kernel) ⟨Nat.le_of_ble_eq_true rfl, Nat.le_of_ble_eq_true rfl⟩) hK hW hS (x_recv (i := (g.1 + 189)) (k := 8) (j := 0) hK hW ⟨⟨hfl, rfl⟩, by decide⟩ rfl (by decide)) rfl hl.1 (rest := []) rfl (Nat.le_of_ble_eq_true rfl) dX8_closeSession_50 ⟨Nat.le_of_ble_eq_true rfl, Nat.le_of_ble_eq_true rfl⟩) hS (fun H locs hW hS => ?_)
        have hW : World g (wM w q5.2 mn mw) H := hW
        refine W.eq (g2 := F0 m 53 ls [.int q5.1]) rfl ?_
        refine lv_pop hx hb dX8_closeSession_53 rfl ?_
        refine lv_aload_n hx hb dX8_closeSession_54 rfl (lv_at hl 0 rfl) ?_
        refine x_get (i := (g.1 + 189)) (k := 8) (j := 0) (t := 1) hx hb hts i_8 hown hK hW ⟨⟨hfl, rfl⟩, by decide⟩ rfl ⟨by decide, by decide, rfl⟩ (hts (.fieldLink RX8 7 "OpticalJukeboxModel" "now" "[I") (by decide +kernel)) (v := .ref (adr (g.1 + 189) 30 0)) rfl dX8_closeSession_55 ?_
        refine lv_iload_n hx hb dX8_closeSession_58 rfl (lv_at hl 1 rfl) ?_
        obtain ⟨q6, h_q6, hf⟩ := x_bindE hf
        refine x_ci0 (x_rS ⟨hx, hb, hml, hown, hts⟩ (ct_X8_leadOut l g hfl w q5.2 mn mw 30 isRow_30 (a1) h_q6) (va_cwS 2 hts gX8_closeSession_X8_leadOut rfl rfl rfl (by decide +kernel) ⟨Nat.le_of_ble_eq_true rfl, Nat.le_of_ble_eq_true rfl⟩) hK hW hS rfl hl.1 (rest := []) rfl (Nat.le_of_ble_eq_true rfl) dX8_closeSession_59 ⟨Nat.le_of_ble_eq_true rfl, Nat.le_of_ble_eq_true rfl⟩) hS (fun H locs hW hS => ?_)
        have hW : World g (wM w q5.2 mn mw) H := hW
        refine W.eq (g2 := F0 m 62 ls [.int q6]) rfl ?_
        refine lv_istore_n (lv' := [(2, .int q6), (0, .ref (adr (g.1 + 189) 8 0)), (1, .int a1)]) hx hb dX8_closeSession_62 rfl hl (by decide) rfl (fun ls hl => ?_)
        refine lv_aload_n hx hb dX8_closeSession_63 rfl (lv_at hl 1 rfl) ?_
        refine x_get (i := (g.1 + 189)) (k := 8) (j := 0) (t := 1) hx hb hts i_8 hown hK hW ⟨⟨hfl, rfl⟩, by decide⟩ rfl ⟨by decide, by decide, rfl⟩ (hts (.fieldLink RX8 7 "OpticalJukeboxModel" "now" "[I") (by decide +kernel)) (v := .ref (adr (g.1 + 189) 30 0)) rfl dX8_closeSession_64 ?_
        refine lv_bipush (v := 12) hx hb dX8_closeSession_67 (by decide) ?_
        refine lv_dup2_11 hx hb dX8_closeSession_69 rfl rfl ?_
        refine x_iald (i := (g.1 + 189)) (k := 30) (j := 0) (f := q5.2 30 0) hx hb hK hW ⟨⟨hfl, rfl⟩, by decide⟩ (by decide) (rfl) rfl (by unfold vp_in; decide) dX8_closeSession_70 ?_
        refine W.eq (g2 := F0 m 71 ls [.int (q5.2 30 0 12), .int (12 : Int32), .ref (adr (g.1 + 189) 30 0)]) rfl ?_
        refine lv_aload_n hx hb dX8_closeSession_71 rfl (lv_at hl 1 rfl) ?_
        refine x_get (i := (g.1 + 189)) (k := 8) (j := 0) (t := 1) hx hb hts i_8 hown hK hW ⟨⟨hfl, rfl⟩, by decide⟩ rfl ⟨by decide, by decide, rfl⟩ (hts (.fieldLink RX8 7 "OpticalJukeboxModel" "now" "[I") (by decide +kernel)) (v := .ref (adr (g.1 + 189) 30 0)) rfl dX8_closeSession_72 ?_
        refine lv_iconst (v := 5) hx hb dX8_closeSession_75 (by decide) ?_
        refine x_iald (i := (g.1 + 189)) (k := 30) (j := 0) (f := q5.2 30 0) hx hb hK hW ⟨⟨hfl, rfl⟩, by decide⟩ (by decide) (rfl) rfl (by unfold vp_in; decide) dX8_closeSession_76 ?_
        refine W.eq (g2 := F0 m 77 ls [.int (q5.2 30 0 5), .int (q5.2 30 0 12), .int (12 : Int32), .ref (adr (g.1 + 189) 30 0)]) rfl ?_
        refine lv_iload_n hx hb dX8_closeSession_77 rfl (lv_at hl 0 rfl) ?_
        refine lv_imul hx hb dX8_closeSession_78 ?_
        refine lv_iadd hx hb dX8_closeSession_79 ?_
        obtain ⟨md7, e_md7, hf⟩ := x_letE hf
        refine x_iast (i := (g.1 + 189)) (k := 30) (j := 0) (w' := wM w md7 mn mw) hx hb hK hW ⟨⟨hfl, rfl⟩, by decide⟩ hS (by decide) rfl rfl rfl (by unfold vp_in; decide) dX8_closeSession_80 (fp_M e_md7 rfl) (fun H locs hW hS => ?_)
        refine lv_aload_n hx hb dX8_closeSession_81 rfl (lv_at hl 1 rfl) ?_
        refine x_get (i := (g.1 + 189)) (k := 8) (j := 0) (t := 1) hx hb hts i_8 hown hK hW ⟨⟨hfl, rfl⟩, by decide⟩ rfl ⟨by decide, by decide, rfl⟩ (hts (.fieldLink RX8 7 "OpticalJukeboxModel" "now" "[I") (by decide +kernel)) (v := .ref (adr (g.1 + 189) 30 0)) rfl dX8_closeSession_82 ?_
        refine lv_iload_n hx hb dX8_closeSession_85 rfl (lv_at hl 2 rfl) ?_
        obtain ⟨q8, h_q8, hf⟩ := x_bindE hf
        refine x_cv0 (x_rS ⟨hx, hb, hml, hown, hts⟩ (ct_X8_closes l g hfl w md7 mn mw 30 isRow_30 (a1) h_q8) (va_cwS 2 hts gX8_closeSession_X8_closes rfl rfl rfl (by decide +kernel) ⟨Nat.le_of_ble_eq_true rfl, Nat.le_of_ble_eq_true rfl⟩) hK hW hS rfl hl.1 (rest := []) rfl (Nat.le_of_ble_eq_true rfl) dX8_closeSession_86 ⟨Nat.le_of_ble_eq_true rfl, Nat.le_of_ble_eq_true rfl⟩) hS (fun H locs hW hS => ?_)
        have hW : World g (wM w q8 mn mw) H := hW
        refine lv_iload_n hx hb dX8_closeSession_89 rfl (lv_at hl 0 rfl) ?_
        cases hf
        exact x_iret hx hb hr hlocks hK hW hS rfl dX8_closeSession_90
      · have hf := x_iteT hf hc
        refine lv_ldc (v := -1000007) hx hb hown (hts (.constant RX8 177 (-1000007)) (by decide +kernel)) dX8_closeSession_41 ?_
        cases hf
        exact x_iret hx hb hr hlocks hK hW hS rfl dX8_closeSession_43
    · have hf := x_iteT hf hc
      refine lv_ldc (v := -1000005) hx hb hown (hts (.constant RX8 42 (-1000005)) (by decide +kernel)) dX8_closeSession_28 ?_
      cases hf
      exact x_iret hx hb hr hlocks hK hW hS rfl dX8_closeSession_30
  · have hf := x_iteT hf hc
    refine lv_ldc (v := -1000001) hx hb hown (hts (.constant RX8 186 (-1000001)) (by decide +kernel)) dX8_closeSession_13 ?_
    cases hf
    exact x_iret hx hb hr hlocks hK hW hS rfl dX8_closeSession_15
abbrev rm_X8_markBad : Room := { frames := 3, cells := 0, slots := 0, locals := 71 }
set_option maxRecDepth 100000 in
set_option maxHeartbeats 4000000 in
theorem ct_X8_markBad (l : Launch) (g : GT) (hfl : 2 ≤ gf g) (w : WT) (md : SD) (mn : Nat → Int64) (mw : Int64) (a1 : Int32) (a2 : Int32) {q : (Int32 × SD)} (hf : f_X8_markBad md a1 a2 = some q) : Met l yX8_markBad wsX8_markBad rm_X8_markBad (cPre g (wM w md mn mw) [.ref (adr (g.1 + 189) 8 0), .int a1, .int a2]) (cQi g q.1 (wM w q.2 mn mw)) 0 0 (gA g) := by
  have i_8 : ∀ w ∈ u_ws RX8 TX8 27, w ∈ wsX8_markBad := by decide +kernel
  refine x_met (by decide) rfl (Nat.le_of_ble_eq_true rfl) ?_
  intro p e s m below meth c hx hb hr hml hts hown hlocks hK hW hS ls hl
  have hown : s.vm.findClass RX8 = some m.cls := hown
  have hl : lv_has ls 5 [(0, .ref (adr (g.1 + 189) 8 0)), (1, .int a1), (2, .int a2)] := hl
  rw [f_X8_markBad] at hf
  refine lv_aload_n hx hb dX8_markBad_0 rfl (lv_at hl 0 rfl) ?_
  refine lv_iconst (v := 0) hx hb dX8_markBad_1 (by decide) ?_
  obtain ⟨md1, e_md1, hf⟩ := x_letE hf
  refine x_put (i := (g.1 + 189)) (k := 8) (j := 0) (t := 0) (w' := wM w md1 mn mw) hx hb hts i_8 tyX8 tyX8_ok nmX8 hown hK hW ⟨⟨hfl, rfl⟩, by decide⟩ hS rfl ⟨by decide, by decide, rfl⟩ (hts (.fieldLink RX8 51 "OpticalJukeboxModel" "thrown" "I") (by decide +kernel)) rfl (ty := .int) (by decide +kernel) rfl rfl ⟨rfl, rfl⟩ dX8_markBad_2 (fp_M e_md1 rfl) (fun H locs hW hS => ?_)
  refine lv_aload_n hx hb dX8_markBad_5 rfl (lv_at hl 0 rfl) ?_
  refine lv_iload_n hx hb dX8_markBad_6 rfl (lv_at hl 1 rfl) ?_
  refine lv_iload_n hx hb dX8_markBad_7 rfl (lv_at hl 2 rfl) ?_
  obtain ⟨q2, h_q2, hf⟩ := x_bindE hf
  refine x_ci0 (x_rV ⟨hx, hb, hml, hown, hts⟩ (ct_X8_isSector l g hfl w md1 mn mw (a1) (a2) h_q2) (cwV 2 hts gX8_markBad_X8_isSector rfl rfl rfl (by decide +kernel) ⟨Nat.le_of_ble_eq_true rfl, Nat.le_of_ble_eq_true rfl⟩) hK hW hS (x_recv (i := (g.1 + 189)) (k := 8) (j := 0) hK hW ⟨⟨hfl, rfl⟩, by decide⟩ rfl (by decide)) rfl hl.1 (rest := []) rfl (Nat.le_of_ble_eq_true rfl) dX8_markBad_8 ⟨Nat.le_of_ble_eq_true rfl, Nat.le_of_ble_eq_true rfl⟩) hS (fun H locs hW hS => ?_)
  have hW : World g (wM w md1 mn mw) H := hW
  refine W.eq (g2 := F0 m 11 ls [.int q2]) rfl ?_
  refine lv_if_ne (tgt := 17) hx hb dX8_markBad_11 (by decide) (fun hc => ?_) (fun hc => ?_)
  · have hf := x_iteF hf hc
    refine lv_aload_n hx hb dX8_markBad_17 rfl (lv_at hl 0 rfl) ?_
    refine x_get (i := (g.1 + 189)) (k := 8) (j := 0) (t := 1) hx hb hts i_8 hown hK hW ⟨⟨hfl, rfl⟩, by decide⟩ rfl ⟨by decide, by decide, rfl⟩ (hts (.fieldLink RX8 7 "OpticalJukeboxModel" "now" "[I") (by decide +kernel)) (v := .ref (adr (g.1 + 189) 30 0)) rfl dX8_markBad_18 ?_
    refine lv_iload_n hx hb dX8_markBad_21 rfl (lv_at hl 1 rfl) ?_
    refine lv_iload_n hx hb dX8_markBad_22 rfl (lv_at hl 2 rfl) ?_
    obtain ⟨q3, h_q3, hf⟩ := x_bindE hf
    refine x_ci0 (x_rS ⟨hx, hb, hml, hown, hts⟩ (ct_X8_isBad l g hfl w md1 mn mw 30 isRow_30 (a1) (a2) h_q3) (va_cwS 3 hts gX8_markBad_X8_isBad rfl rfl rfl (by decide +kernel) ⟨Nat.le_of_ble_eq_true rfl, Nat.le_of_ble_eq_true rfl⟩) hK hW hS rfl hl.1 (rest := []) rfl (Nat.le_of_ble_eq_true rfl) dX8_markBad_23 ⟨Nat.le_of_ble_eq_true rfl, Nat.le_of_ble_eq_true rfl⟩) hS (fun H locs hW hS => ?_)
    have hW : World g (wM w md1 mn mw) H := hW
    refine W.eq (g2 := F0 m 26 ls [.int q3]) rfl ?_
    refine lv_if_eq (tgt := 33) hx hb dX8_markBad_26 (by decide) (fun hc => ?_) (fun hc => ?_)
    · have hf := x_iteT hf hc
      refine lv_aload_n hx hb dX8_markBad_33 rfl (lv_at hl 0 rfl) ?_
      refine x_get (i := (g.1 + 189)) (k := 8) (j := 0) (t := 1) hx hb hts i_8 hown hK hW ⟨⟨hfl, rfl⟩, by decide⟩ rfl ⟨by decide, by decide, rfl⟩ (hts (.fieldLink RX8 7 "OpticalJukeboxModel" "now" "[I") (by decide +kernel)) (v := .ref (adr (g.1 + 189) 30 0)) rfl dX8_markBad_34 ?_
      refine lv_bipush (v := 8) hx hb dX8_markBad_37 (by decide) ?_
      refine x_iald (i := (g.1 + 189)) (k := 30) (j := 0) (f := md1 30 0) hx hb hK hW ⟨⟨hfl, rfl⟩, by decide⟩ (by decide) (rfl) rfl (by unfold vp_in; decide) dX8_markBad_39 ?_
      refine W.eq (g2 := F0 m 40 ls [.int (md1 30 0 8)]) rfl ?_
      refine lv_bipush (v := 20) hx hb dX8_markBad_40 (by decide) ?_
      refine lv_icmp_ne (tgt := 48) hx hb dX8_markBad_42 (by decide) (fun hc => ?_) (fun hc => ?_)
      · have hf := x_iteF hf hc
        refine lv_aload_n hx hb dX8_markBad_48 rfl (lv_at hl 0 rfl) ?_
        obtain ⟨q4, h_q4, hf⟩ := x_bindE hf
        refine x_cv0 (x_rV ⟨hx, hb, hml, hown, hts⟩ (ct_X8_remembers l g hfl w md1 mn mw  h_q4) (cwV 0 hts gX8_markBad_X8_remembers rfl rfl rfl (by decide +kernel) ⟨Nat.le_of_ble_eq_true rfl, Nat.le_of_ble_eq_true rfl⟩) hK hW hS (x_recv (i := (g.1 + 189)) (k := 8) (j := 0) hK hW ⟨⟨hfl, rfl⟩, by decide⟩ rfl (by decide)) rfl hl.1 (rest := []) rfl (Nat.le_of_ble_eq_true rfl) dX8_markBad_49 ⟨Nat.le_of_ble_eq_true rfl, Nat.le_of_ble_eq_true rfl⟩) hS (fun H locs hW hS => ?_)
        have hW : World g (wM w q4 mn mw) H := hW
        refine lv_aload_n hx hb dX8_markBad_52 rfl (lv_at hl 0 rfl) ?_
        refine x_get (i := (g.1 + 189)) (k := 8) (j := 0) (t := 1) hx hb hts i_8 hown hK hW ⟨⟨hfl, rfl⟩, by decide⟩ rfl ⟨by decide, by decide, rfl⟩ (hts (.fieldLink RX8 7 "OpticalJukeboxModel" "now" "[I") (by decide +kernel)) (v := .ref (adr (g.1 + 189) 30 0)) rfl dX8_markBad_53 ?_
        refine lv_iload_n hx hb dX8_markBad_56 rfl (lv_at hl 1 rfl) ?_
        refine lv_iload_n hx hb dX8_markBad_57 rfl (lv_at hl 2 rfl) ?_
        obtain ⟨q5, h_q5, hf⟩ := x_bindE hf
        refine x_cv0 (x_rS ⟨hx, hb, hml, hown, hts⟩ (ct_X8_marks l g hfl w q4 mn mw 30 isRow_30 (a1) (a2) h_q5) (va_cwS 3 hts gX8_markBad_X8_marks rfl rfl rfl (by decide +kernel) ⟨Nat.le_of_ble_eq_true rfl, Nat.le_of_ble_eq_true rfl⟩) hK hW hS rfl hl.1 (rest := []) rfl (Nat.le_of_ble_eq_true rfl) dX8_markBad_58 ⟨Nat.le_of_ble_eq_true rfl, Nat.le_of_ble_eq_true rfl⟩) hS (fun H locs hW hS => ?_)
        have hW : World g (wM w q5 mn mw) H := hW
        refine lv_iconst (v := 0) hx hb dX8_markBad_61 (by decide) ?_
        refine lv_istore_n (lv' := [(3, .int (0 : Int32)), (0, .ref (adr (g.1 + 189) 8 0)), (1, .int a1), (2, .int a2)]) hx hb dX8_markBad_62 rfl hl (by decide) rfl (fun ls hl => ?_)
        refine lv_iconst (v := 0) hx hb dX8_markBad_63 (by decide) ?_
        refine lv_istore (lv' := [(4, .int (0 : Int32)), (3, .int (0 : Int32)), (0, .ref (adr (g.1 + 189) 8 0)), (1, .int a1), (2, .int a2)]) hx hb dX8_markBad_64 hl (by decide) rfl (fun ls hl => ?_)
        have L66 : ∀ (n : Nat) (v3_66 : Int32) (v4_66 : Int32) (ls : Array Slot) (H : Heap) (locs : List Loc), lv_has ls 5 [(0, .ref (adr (g.1 + 189) 8 0)), (1, .int a1), (2, .int a2), (3, .int v3_66), (4, .int v4_66)] → World g (wM w q5 mn mw) H → va_S (gA g) s.heap H locs → f_X8_markBad_L66 q5 n v3_66 v4_66 = some q → W p l e rm_X8_markBad s m [.ref (adr (g.1 + 189) 8 0), .int a1, .int a2].toArray below meth c H locs 0 0 (MQ below (cQi g q.1 (wM w q.2 mn mw)) [.ref (adr (g.1 + 189) 8 0), .int a1, .int a2].toArray s 0 0 (gA g)) (F0 m 66 ls []) := by
          clear hW hS hl
          intro n
          induction n with
          | zero => intro v3_66 v4_66 ls H locs hl hW hS hf; cases hf
          | succ n_66 ih =>
            intro v3_66 v4_66 ls H locs hl hW hS hf
            rw [f_X8_markBad_L66] at hf
            refine lv_iload hx hb dX8_markBad_66 (lv_at hl 4 rfl) ?_
            refine lv_aload_n hx hb dX8_markBad_68 rfl (lv_at hl 0 rfl) ?_
            refine x_get (i := (g.1 + 189)) (k := 8) (j := 0) (t := 1) hx hb hts i_8 hown hK hW ⟨⟨hfl, rfl⟩, by decide⟩ rfl ⟨by decide, by decide, rfl⟩ (hts (.fieldLink RX8 7 "OpticalJukeboxModel" "now" "[I") (by decide +kernel)) (v := .ref (adr (g.1 + 189) 30 0)) rfl dX8_markBad_69 ?_
            refine lv_bipush (v := 10) hx hb dX8_markBad_72 (by decide) ?_
            refine x_iald (i := (g.1 + 189)) (k := 30) (j := 0) (f := q5 30 0) hx hb hK hW ⟨⟨hfl, rfl⟩, by decide⟩ (by decide) (rfl) rfl (by unfold vp_in; decide) dX8_markBad_74 ?_
            refine W.eq (g2 := F0 m 75 ls [.int (q5 30 0 10), .int v4_66]) rfl ?_
            refine lv_icmp_ge (tgt := 98) hx hb dX8_markBad_75 (by decide) (fun hc => ?_) (fun hc => ?_)
            · have hf := x_iteT hf hc
              refine lv_iload_n hx hb dX8_markBad_98 rfl (lv_at hl 3 rfl) ?_
              cases hf
              exact x_iret hx hb hr hlocks hK hW hS rfl dX8_markBad_99
            · have hf := x_iteF hf hc
              refine lv_iload_n hx hb dX8_markBad_78 rfl (lv_at hl 3 rfl) ?_
              refine lv_aload_n hx hb dX8_markBad_79 rfl (lv_at hl 0 rfl) ?_
              refine x_get (i := (g.1 + 189)) (k := 8) (j := 0) (t := 1) hx hb hts i_8 hown hK hW ⟨⟨hfl, rfl⟩, by decide⟩ rfl ⟨by decide, by decide, rfl⟩ (hts (.fieldLink RX8 7 "OpticalJukeboxModel" "now" "[I") (by decide +kernel)) (v := .ref (adr (g.1 + 189) 30 0)) rfl dX8_markBad_80 ?_
              refine lv_sipush (v := 549) hx hb dX8_markBad_83 (by decide) ?_
              refine lv_iload hx hb dX8_markBad_86 (lv_at hl 4 rfl) ?_
              refine lv_iadd hx hb dX8_markBad_88 ?_
              obtain ⟨hg6, hf⟩ := x_guardE hf
              refine x_iald (i := (g.1 + 189)) (k := 30) (j := 0) (f := q5 30 0) hx hb hK hW ⟨⟨hfl, rfl⟩, by decide⟩ (by decide) (rfl) rfl hg6 dX8_markBad_89 ?_
              refine lv_iadd hx hb dX8_markBad_90 ?_
              obtain ⟨x7, e_x7, hf⟩ := x_letE hf
              refine x_topi e_x7 ?_
              refine lv_istore_n (lv' := [(3, .int x7), (0, .ref (adr (g.1 + 189) 8 0)), (1, .int a1), (2, .int a2), (4, .int v4_66)]) hx hb dX8_markBad_91 rfl hl (by decide) rfl (fun ls hl => ?_)
              obtain ⟨x8, e_x8, hf⟩ := x_letE hf
              refine lv_iinc (v := x8) (lv' := [(4, .int x8), (3, .int x7), (0, .ref (adr (g.1 + 189) 8 0)), (1, .int a1), (2, .int a2)]) hx hb dX8_markBad_92 hl (k := 4) rfl (by rw [e_x8]; rfl) (by decide) rfl (fun ls hl => ?_)
              refine lv_goto (tgt := 66) hx hb dX8_markBad_95 (by decide) ?_
              exact ih (x7) (x8) ls _ _ (lv_sub hl [2, 3, 4, 1, 0] rfl) hW hS hf
        exact L66 fuel ((0 : Int32)) ((0 : Int32)) ls _ _ (lv_sub hl [2, 3, 4, 1, 0] rfl) hW hS hf
      · have hf := x_iteT hf hc
        refine lv_ldc (v := -1000003) hx hb hown (hts (.constant RX8 243 (-1000003)) (by decide +kernel)) dX8_markBad_45 ?_
        cases hf
        exact x_iret hx hb hr hlocks hK hW hS rfl dX8_markBad_47
    · have hf := x_iteF hf hc
      refine lv_ldcw (v := -1000004) hx hb hown (hts (.constant RX8 260 (-1000004)) (by decide +kernel)) dX8_markBad_29 ?_
      cases hf
      exact x_iret hx hb hr hlocks hK hW hS rfl dX8_markBad_32
  · have hf := x_iteT hf hc
    refine lv_ldc (v := -1000001) hx hb hown (hts (.constant RX8 186 (-1000001)) (by decide +kernel)) dX8_markBad_14 ?_
    cases hf
    exact x_iret hx hb hr hlocks hK hW hS rfl dX8_markBad_16
abbrev rm_X8_homeAt : Room := { frames := 0, cells := 0, slots := 0, locals := 0 }
set_option maxRecDepth 100000 in
set_option maxHeartbeats 4000000 in
theorem ct_X8_homeAt (l : Launch) (g : GT) (hfl : 2 ≤ gf g) (w : WT) (md : SD) (mn : Nat → Int64) (mw : Int64) (k0 : Nat) (hk0 : isRow k0) (a1 : Int32) {q : Int32} (hf : f_X8_homeAt md k0 a1 = some q) : Met l yX8_homeAt wsX8_homeAt rm_X8_homeAt (cPre g (wM w md mn mw) [.ref (adr (g.1 + 189) k0 0), .int a1]) (cQi g q (wM w md mn mw)) 0 0 (gA g) := by
  refine x_met (by decide) rfl (Nat.le_of_ble_eq_true rfl) ?_
  intro p e s m below meth c hx hb hr hml hts hown hlocks hK hW hS ls hl
  have hown : s.vm.findClass RX8 = some m.cls := hown
  have hl : lv_has ls 3 [(0, .ref (adr (g.1 + 189) k0 0)), (1, .int a1)] := hl
  rw [f_X8_homeAt] at hf
  refine lv_iconst (v := 0) hx hb dX8_homeAt_0 (by decide) ?_
  refine lv_istore_n (lv' := [(2, .int (0 : Int32)), (0, .ref (adr (g.1 + 189) k0 0)), (1, .int a1)]) hx hb dX8_homeAt_1 rfl hl (by decide) rfl (fun ls hl => ?_)
  have L2 : ∀ (n : Nat) (v2_2 : Int32) (ls : Array Slot) (H : Heap) (locs : List Loc), lv_has ls 3 [(0, .ref (adr (g.1 + 189) k0 0)), (1, .int a1), (2, .int v2_2)] → World g (wM w md mn mw) H → va_S (gA g) s.heap H locs → f_X8_homeAt_L2 md k0 a1 n v2_2 = some q → W p l e rm_X8_homeAt s m [.ref (adr (g.1 + 189) k0 0), .int a1].toArray below meth c H locs 0 0 (MQ below (cQi g q (wM w md mn mw)) [.ref (adr (g.1 + 189) k0 0), .int a1].toArray s 0 0 (gA g)) (F0 m 2 ls []) := by
    clear hW hS hl
    intro n
    induction n with
    | zero => intro v2_2 ls H locs hl hW hS hf; cases hf
    | succ n_2 ih =>
      intro v2_2 ls H locs hl hW hS hf
      rw [f_X8_homeAt_L2] at hf
      refine lv_iload_n hx hb dX8_homeAt_2 rfl (lv_at hl 2 rfl) ?_
      refine lv_aload_n hx hb dX8_homeAt_3 rfl (lv_at hl 0 rfl) ?_
      refine lv_bipush (v := 7) hx hb dX8_homeAt_4 (by decide) ?_
      refine x_iald (i := (g.1 + 189)) (k := k0) (j := 0) (f := md k0 0) hx hb hK hW (rw_d hfl hk0) (rw_9 hk0) (rw_c hk0) (rw_t hk0) (rw_in hk0 (by unfold vp_in; decide)) dX8_homeAt_6 ?_
      refine W.eq (g2 := F0 m 7 ls [.int (md k0 0 7), .int v2_2]) rfl ?_
      refine lv_icmp_ge (tgt := 28) hx hb dX8_homeAt_7 (by decide) (fun hc => ?_) (fun hc => ?_)
      · have hf := x_iteT hf hc
        refine lv_iconst (v := -1) hx hb dX8_homeAt_28 (by decide) ?_
        cases hf
        exact x_iret hx hb hr hlocks hK hW hS rfl dX8_homeAt_29
      · have hf := x_iteF hf hc
        refine lv_aload_n hx hb dX8_homeAt_10 rfl (lv_at hl 0 rfl) ?_
        refine lv_bipush (v := 29) hx hb dX8_homeAt_11 (by decide) ?_
        refine lv_iload_n hx hb dX8_homeAt_13 rfl (lv_at hl 2 rfl) ?_
        refine lv_iadd hx hb dX8_homeAt_14 ?_
        obtain ⟨hg1, hf⟩ := x_guardE hf
        refine x_iald (i := (g.1 + 189)) (k := k0) (j := 0) (f := md k0 0) hx hb hK hW (rw_d hfl hk0) (rw_9 hk0) (rw_c hk0) (rw_t hk0) (rw_in hk0 hg1) dX8_homeAt_15 ?_
        refine lv_iload_n hx hb dX8_homeAt_16 rfl (lv_at hl 1 rfl) ?_
        refine lv_icmp_ne (tgt := 22) hx hb dX8_homeAt_17 (by decide) (fun hc => ?_) (fun hc => ?_)
        · have hf := x_iteF hf hc
          obtain ⟨x2, e_x2, hf⟩ := x_letE hf
          refine lv_iinc (v := x2) (lv' := [(2, .int x2), (0, .ref (adr (g.1 + 189) k0 0)), (1, .int a1)]) hx hb dX8_homeAt_22 hl (k := 2) rfl (by rw [e_x2]; rfl) (by decide) rfl (fun ls hl => ?_)
          refine lv_goto (tgt := 2) hx hb dX8_homeAt_25 (by decide) ?_
          exact ih (x2) ls _ _ (lv_sub hl [1, 2, 0] rfl) hW hS hf
        · have hf := x_iteT hf hc
          refine lv_iload_n hx hb dX8_homeAt_20 rfl (lv_at hl 2 rfl) ?_
          cases hf
          exact x_iret hx hb hr hlocks hK hW hS rfl dX8_homeAt_21
  exact L2 fuel ((0 : Int32)) ls _ _ (lv_sub hl [1, 2, 0] rfl) hW hS hf
abbrev rm_X8_moveHome : Room := { frames := 2, cells := 0, slots := 0, locals := 46 }
set_option maxRecDepth 100000 in
set_option maxHeartbeats 4000000 in
theorem ct_X8_moveHome (l : Launch) (g : GT) (hfl : 2 ≤ gf g) (w : WT) (md : SD) (mn : Nat → Int64) (mw : Int64) (a1 : Int32) (a2 : Int32) {q : (Int32 × SD)} (hf : f_X8_moveHome md a1 a2 = some q) : Met l yX8_moveHome wsX8_moveHome rm_X8_moveHome (cPre g (wM w md mn mw) [.ref (adr (g.1 + 189) 8 0), .int a1, .int a2]) (cQi g q.1 (wM w q.2 mn mw)) 0 0 (gA g) := by
  have i_8 : ∀ w ∈ u_ws RX8 TX8 27, w ∈ wsX8_moveHome := by decide +kernel
  refine x_met (by decide) rfl (Nat.le_of_ble_eq_true rfl) ?_
  intro p e s m below meth c hx hb hr hml hts hown hlocks hK hW hS ls hl
  have hown : s.vm.findClass RX8 = some m.cls := hown
  have hl : lv_has ls 4 [(0, .ref (adr (g.1 + 189) 8 0)), (1, .int a1), (2, .int a2)] := hl
  rw [f_X8_moveHome] at hf
  refine lv_aload_n hx hb dX8_moveHome_0 rfl (lv_at hl 0 rfl) ?_
  refine lv_iconst (v := 0) hx hb dX8_moveHome_1 (by decide) ?_
  obtain ⟨md1, e_md1, hf⟩ := x_letE hf
  refine x_put (i := (g.1 + 189)) (k := 8) (j := 0) (t := 0) (w' := wM w md1 mn mw) hx hb hts i_8 tyX8 tyX8_ok nmX8 hown hK hW ⟨⟨hfl, rfl⟩, by decide⟩ hS rfl ⟨by decide, by decide, rfl⟩ (hts (.fieldLink RX8 51 "OpticalJukeboxModel" "thrown" "I") (by decide +kernel)) rfl (ty := .int) (by decide +kernel) rfl rfl ⟨rfl, rfl⟩ dX8_moveHome_2 (fp_M e_md1 rfl) (fun H locs hW hS => ?_)
  refine lv_aload_n hx hb dX8_moveHome_5 rfl (lv_at hl 0 rfl) ?_
  refine lv_iload_n hx hb dX8_moveHome_6 rfl (lv_at hl 1 rfl) ?_
  obtain ⟨q2, h_q2, hf⟩ := x_bindE hf
  refine x_ci0 (x_rV ⟨hx, hb, hml, hown, hts⟩ (ct_X8_isPlatter l g hfl w md1 mn mw (a1) h_q2) (cwV 1 hts gX8_moveHome_X8_isPlatter rfl rfl rfl (by decide +kernel) ⟨Nat.le_of_ble_eq_true rfl, Nat.le_of_ble_eq_true rfl⟩) hK hW hS (x_recv (i := (g.1 + 189)) (k := 8) (j := 0) hK hW ⟨⟨hfl, rfl⟩, by decide⟩ rfl (by decide)) rfl hl.1 (rest := []) rfl (Nat.le_of_ble_eq_true rfl) dX8_moveHome_7 ⟨Nat.le_of_ble_eq_true rfl, Nat.le_of_ble_eq_true rfl⟩) hS (fun H locs hW hS => ?_)
  have hW : World g (wM w md1 mn mw) H := hW
  refine W.eq (g2 := F0 m 10 ls [.int q2]) rfl ?_
  refine lv_if_eq (tgt := 21) hx hb dX8_moveHome_10 (by decide) (fun hc => ?_) (fun hc => ?_)
  · have hf := x_iteT hf hc
    refine lv_ldc (v := -1000001) hx hb hown (hts (.constant RX8 186 (-1000001)) (by decide +kernel)) dX8_moveHome_21 ?_
    cases hf
    exact x_iret hx hb hr hlocks hK hW hS rfl dX8_moveHome_23
  · have hf := x_iteF hf hc
    refine lv_aload_n hx hb dX8_moveHome_13 rfl (lv_at hl 0 rfl) ?_
    refine lv_iload_n hx hb dX8_moveHome_14 rfl (lv_at hl 2 rfl) ?_
    obtain ⟨q3, h_q3, hf⟩ := x_bindE hf
    refine x_ci0 (x_rV ⟨hx, hb, hml, hown, hts⟩ (ct_X8_isSlot l g hfl w md1 mn mw (a2) h_q3) (cwV 1 hts gX8_moveHome_X8_isSlot rfl rfl rfl (by decide +kernel) ⟨Nat.le_of_ble_eq_true rfl, Nat.le_of_ble_eq_true rfl⟩) hK hW hS (x_recv (i := (g.1 + 189)) (k := 8) (j := 0) hK hW ⟨⟨hfl, rfl⟩, by decide⟩ rfl (by decide)) rfl hl.1 (rest := []) rfl (Nat.le_of_ble_eq_true rfl) dX8_moveHome_15 ⟨Nat.le_of_ble_eq_true rfl, Nat.le_of_ble_eq_true rfl⟩) hS (fun H locs hW hS => ?_)
    have hW : World g (wM w md1 mn mw) H := hW
    refine W.eq (g2 := F0 m 18 ls [.int q3]) rfl ?_
    refine lv_if_ne (tgt := 24) hx hb dX8_moveHome_18 (by decide) (fun hc => ?_) (fun hc => ?_)
    · have hf := x_iteF hf hc
      refine lv_aload_n hx hb dX8_moveHome_24 rfl (lv_at hl 0 rfl) ?_
      refine x_get (i := (g.1 + 189)) (k := 8) (j := 0) (t := 1) hx hb hts i_8 hown hK hW ⟨⟨hfl, rfl⟩, by decide⟩ rfl ⟨by decide, by decide, rfl⟩ (hts (.fieldLink RX8 7 "OpticalJukeboxModel" "now" "[I") (by decide +kernel)) (v := .ref (adr (g.1 + 189) 30 0)) rfl dX8_moveHome_25 ?_
      refine lv_bipush (v := 29) hx hb dX8_moveHome_28 (by decide) ?_
      refine lv_iload_n hx hb dX8_moveHome_30 rfl (lv_at hl 1 rfl) ?_
      refine lv_iadd hx hb dX8_moveHome_31 ?_
      obtain ⟨hg4, hf⟩ := x_guardE hf
      refine x_iald (i := (g.1 + 189)) (k := 30) (j := 0) (f := md1 30 0) hx hb hK hW ⟨⟨hfl, rfl⟩, by decide⟩ (by decide) (rfl) rfl hg4 dX8_moveHome_32 ?_
      refine lv_iload_n hx hb dX8_moveHome_33 rfl (lv_at hl 2 rfl) ?_
      refine lv_icmp_ne (tgt := 41) hx hb dX8_moveHome_34 (by decide) (fun hc => ?_) (fun hc => ?_)
      · have hf := x_iteF hf hc
        refine lv_aload_n hx hb dX8_moveHome_41 rfl (lv_at hl 0 rfl) ?_
        refine lv_iload_n hx hb dX8_moveHome_42 rfl (lv_at hl 1 rfl) ?_
        obtain ⟨q5, h_q5, hf⟩ := x_bindE hf
        refine x_ci0 (x_rV ⟨hx, hb, hml, hown, hts⟩ (ct_X8_inDrive l g hfl w md1 mn mw (a1) h_q5) (cwV 1 hts gX8_moveHome_X8_inDrive rfl rfl rfl (by decide +kernel) ⟨Nat.le_of_ble_eq_true rfl, Nat.le_of_ble_eq_true rfl⟩) hK hW hS (x_recv (i := (g.1 + 189)) (k := 8) (j := 0) hK hW ⟨⟨hfl, rfl⟩, by decide⟩ rfl (by decide)) rfl hl.1 (rest := []) rfl (Nat.le_of_ble_eq_true rfl) dX8_moveHome_43 ⟨Nat.le_of_ble_eq_true rfl, Nat.le_of_ble_eq_true rfl⟩) hS (fun H locs hW hS => ?_)
        have hW : World g (wM w md1 mn mw) H := hW
        refine W.eq (g2 := F0 m 46 ls [.int q5]) rfl ?_
        refine lv_iconst (v := -1) hx hb dX8_moveHome_46 (by decide) ?_
        refine lv_icmp_eq (tgt := 53) hx hb dX8_moveHome_47 (by decide) (fun hc => ?_) (fun hc => ?_)
        · have hf := x_iteT hf hc
          refine lv_aload_n hx hb dX8_moveHome_53 rfl (lv_at hl 0 rfl) ?_
          refine x_get (i := (g.1 + 189)) (k := 8) (j := 0) (t := 1) hx hb hts i_8 hown hK hW ⟨⟨hfl, rfl⟩, by decide⟩ rfl ⟨by decide, by decide, rfl⟩ (hts (.fieldLink RX8 7 "OpticalJukeboxModel" "now" "[I") (by decide +kernel)) (v := .ref (adr (g.1 + 189) 30 0)) rfl dX8_moveHome_54 ?_
          refine lv_iload_n hx hb dX8_moveHome_57 rfl (lv_at hl 2 rfl) ?_
          obtain ⟨q6, h_q6, hf⟩ := x_bindE hf
          refine x_ci0 (x_rS ⟨hx, hb, hml, hown, hts⟩ (ct_X8_homeAt l g hfl w md1 mn mw 30 isRow_30 (a2) h_q6) (va_cwS 2 hts gX8_moveHome_X8_homeAt rfl rfl rfl (by decide +kernel) ⟨Nat.le_of_ble_eq_true rfl, Nat.le_of_ble_eq_true rfl⟩) hK hW hS rfl hl.1 (rest := []) rfl (Nat.le_of_ble_eq_true rfl) dX8_moveHome_58 ⟨Nat.le_of_ble_eq_true rfl, Nat.le_of_ble_eq_true rfl⟩) hS (fun H locs hW hS => ?_)
          have hW : World g (wM w md1 mn mw) H := hW
          refine W.eq (g2 := F0 m 61 ls [.int q6]) rfl ?_
          refine lv_iconst (v := -1) hx hb dX8_moveHome_61 (by decide) ?_
          refine lv_icmp_eq (tgt := 68) hx hb dX8_moveHome_62 (by decide) (fun hc => ?_) (fun hc => ?_)
          · have hf := x_iteT hf hc
            refine lv_aload_n hx hb dX8_moveHome_68 rfl (lv_at hl 0 rfl) ?_
            obtain ⟨q7, h_q7, hf⟩ := x_bindE hf
            refine x_cv0 (x_rV ⟨hx, hb, hml, hown, hts⟩ (ct_X8_remembers l g hfl w md1 mn mw  h_q7) (cwV 0 hts gX8_moveHome_X8_remembers rfl rfl rfl (by decide +kernel) ⟨Nat.le_of_ble_eq_true rfl, Nat.le_of_ble_eq_true rfl⟩) hK hW hS (x_recv (i := (g.1 + 189)) (k := 8) (j := 0) hK hW ⟨⟨hfl, rfl⟩, by decide⟩ rfl (by decide)) rfl hl.1 (rest := []) rfl (Nat.le_of_ble_eq_true rfl) dX8_moveHome_69 ⟨Nat.le_of_ble_eq_true rfl, Nat.le_of_ble_eq_true rfl⟩) hS (fun H locs hW hS => ?_)
            have hW : World g (wM w q7 mn mw) H := hW
            refine lv_aload_n hx hb dX8_moveHome_72 rfl (lv_at hl 0 rfl) ?_
            refine x_get (i := (g.1 + 189)) (k := 8) (j := 0) (t := 1) hx hb hts i_8 hown hK hW ⟨⟨hfl, rfl⟩, by decide⟩ rfl ⟨by decide, by decide, rfl⟩ (hts (.fieldLink RX8 7 "OpticalJukeboxModel" "now" "[I") (by decide +kernel)) (v := .ref (adr (g.1 + 189) 30 0)) rfl dX8_moveHome_73 ?_
            refine lv_bipush (v := 29) hx hb dX8_moveHome_76 (by decide) ?_
            refine lv_iload_n hx hb dX8_moveHome_78 rfl (lv_at hl 1 rfl) ?_
            refine lv_iadd hx hb dX8_moveHome_79 ?_
            obtain ⟨hg8, hf⟩ := x_guardE hf
            refine x_iald (i := (g.1 + 189)) (k := 30) (j := 0) (f := q7 30 0) hx hb hK hW ⟨⟨hfl, rfl⟩, by decide⟩ (by decide) (rfl) rfl hg8 dX8_moveHome_80 ?_
            obtain ⟨x9, e_x9, hf⟩ := x_letE hf
            refine x_topi e_x9 ?_
            refine lv_istore_n (lv' := [(3, .int x9), (0, .ref (adr (g.1 + 189) 8 0)), (1, .int a1), (2, .int a2)]) hx hb dX8_moveHome_81 rfl hl (by decide) rfl (fun ls hl => ?_)
            refine lv_aload_n hx hb dX8_moveHome_82 rfl (lv_at hl 1 rfl) ?_
            refine x_get (i := (g.1 + 189)) (k := 8) (j := 0) (t := 1) hx hb hts i_8 hown hK hW ⟨⟨hfl, rfl⟩, by decide⟩ rfl ⟨by decide, by decide, rfl⟩ (hts (.fieldLink RX8 7 "OpticalJukeboxModel" "now" "[I") (by decide +kernel)) (v := .ref (adr (g.1 + 189) 30 0)) rfl dX8_moveHome_83 ?_
            refine lv_bipush (v := 29) hx hb dX8_moveHome_86 (by decide) ?_
            refine lv_iload_n hx hb dX8_moveHome_88 rfl (lv_at hl 2 rfl) ?_
            refine lv_iadd hx hb dX8_moveHome_89 ?_
            refine lv_iload_n hx hb dX8_moveHome_90 rfl (lv_at hl 3 rfl) ?_
            obtain ⟨hg10, hf⟩ := x_guardE hf
            obtain ⟨md11, e_md11, hf⟩ := x_letE hf
            refine x_iast (i := (g.1 + 189)) (k := 30) (j := 0) (w' := wM w md11 mn mw) hx hb hK hW ⟨⟨hfl, rfl⟩, by decide⟩ hS (by decide) rfl rfl rfl hg10 dX8_moveHome_91 (fp_M e_md11 rfl) (fun H locs hW hS => ?_)
            refine lv_iload_n hx hb dX8_moveHome_92 rfl (lv_at hl 0 rfl) ?_
            cases hf
            exact x_iret hx hb hr hlocks hK hW hS rfl dX8_moveHome_93
          · have hf := x_iteF hf hc
            refine lv_ldc (v := -1000003) hx hb hown (hts (.constant RX8 243 (-1000003)) (by decide +kernel)) dX8_moveHome_65 ?_
            cases hf
            exact x_iret hx hb hr hlocks hK hW hS rfl dX8_moveHome_67
        · have hf := x_iteF hf hc
          refine lv_ldc (v := -1000005) hx hb hown (hts (.constant RX8 42 (-1000005)) (by decide +kernel)) dX8_moveHome_50 ?_
          cases hf
          exact x_iret hx hb hr hlocks hK hW hS rfl dX8_moveHome_52
      · have hf := x_iteT hf hc
        refine lv_ldcw (v := -1000004) hx hb hown (hts (.constant RX8 260 (-1000004)) (by decide +kernel)) dX8_moveHome_37 ?_
        cases hf
        exact x_iret hx hb hr hlocks hK hW hS rfl dX8_moveHome_40
    · have hf := x_iteT hf hc
      refine lv_ldc (v := -1000001) hx hb hown (hts (.constant RX8 186 (-1000001)) (by decide +kernel)) dX8_moveHome_21 ?_
      cases hf
      exact x_iret hx hb hr hlocks hK hW hS rfl dX8_moveHome_23
abbrev rm_X8_setTimes : Room := { frames := 1, cells := 0, slots := 0, locals := 25 }
set_option maxRecDepth 100000 in
set_option maxHeartbeats 4000000 in
theorem ct_X8_setTimes (l : Launch) (g : GT) (hfl : 2 ≤ gf g) (w : WT) (md : SD) (mn : Nat → Int64) (mw : Int64) (a1 : Int32) (a2 : Int32) (a3 : Int32) (a4 : Int32) (a5 : Int32) {q : (Int32 × SD)} (hf : f_X8_setTimes md a1 a2 a3 a4 a5 = some q) : Met l yX8_setTimes wsX8_setTimes rm_X8_setTimes (cPre g (wM w md mn mw) [.ref (adr (g.1 + 189) 8 0), .int a1, .int a2, .int a3, .int a4, .int a5]) (cQi g q.1 (wM w q.2 mn mw)) 0 0 (gA g) := by
  have i_8 : ∀ w ∈ u_ws RX8 TX8 27, w ∈ wsX8_setTimes := by decide +kernel
  refine x_met (by decide) rfl (Nat.le_of_ble_eq_true rfl) ?_
  intro p e s m below meth c hx hb hr hml hts hown hlocks hK hW hS ls hl
  have hown : s.vm.findClass RX8 = some m.cls := hown
  have hl : lv_has ls 7 [(0, .ref (adr (g.1 + 189) 8 0)), (1, .int a1), (2, .int a2), (3, .int a3), (4, .int a4), (5, .int a5)] := hl
  rw [f_X8_setTimes] at hf
  refine lv_aload_n hx hb dX8_setTimes_0 rfl (lv_at hl 0 rfl) ?_
  refine lv_iconst (v := 0) hx hb dX8_setTimes_1 (by decide) ?_
  obtain ⟨md1, e_md1, hf⟩ := x_letE hf
  refine x_put (i := (g.1 + 189)) (k := 8) (j := 0) (t := 0) (w' := wM w md1 mn mw) hx hb hts i_8 tyX8 tyX8_ok nmX8 hown hK hW ⟨⟨hfl, rfl⟩, by decide⟩ hS rfl ⟨by decide, by decide, rfl⟩ (hts (.fieldLink RX8 51 "OpticalJukeboxModel" "thrown" "I") (by decide +kernel)) rfl (ty := .int) (by decide +kernel) rfl rfl ⟨rfl, rfl⟩ dX8_setTimes_2 (fp_M e_md1 rfl) (fun H locs hW hS => ?_)
  refine lv_iload_n hx hb dX8_setTimes_5 rfl (lv_at hl 1 rfl) ?_
  refine lv_i2l hx hb dX8_setTimes_6 rfl ?_
  refine lv_lconst (v := 0) hx hb dX8_setTimes_7 (by decide) ?_
  refine lv_ldc2 (v := 99) hx hb hown (hts (.constantLong RX8 268 (99)) (by decide +kernel)) dX8_setTimes_8 ?_
  obtain ⟨q2, h_q2, hf⟩ := x_bindE hf
  refine x_ci0 (x_rS ⟨hx, hb, hml, hown, hts⟩ (ct_X8_isIn l g (wM w md1 mn mw) ((a1).toInt64) ((0 : Int64)) ((99 : Int64)) h_q2) (va_cwS 3 hts gX8_setTimes_X8_isIn rfl rfl rfl (by decide +kernel) ⟨Nat.le_of_ble_eq_true rfl, Nat.le_of_ble_eq_true rfl⟩) hK hW hS rfl hl.1 (rest := []) rfl (Nat.le_of_ble_eq_true rfl) dX8_setTimes_11 ⟨Nat.le_of_ble_eq_true rfl, Nat.le_of_ble_eq_true rfl⟩) hS (fun H locs hW hS => ?_)
  have hW : World g (wM w md1 mn mw) H := hW
  refine W.eq (g2 := F0 m 14 ls [.int q2]) rfl ?_
  refine lv_if_eq (tgt := 67) hx hb dX8_setTimes_14 (by decide) (fun hc => ?_) (fun hc => ?_)
  · have hf := x_iteT hf hc
    refine lv_ldc (v := -1000002) hx hb hown (hts (.constant RX8 224 (-1000002)) (by decide +kernel)) dX8_setTimes_67 ?_
    cases hf
    exact x_iret hx hb hr hlocks hK hW hS rfl dX8_setTimes_69
  · have hf := x_iteF hf hc
    refine lv_iload_n hx hb dX8_setTimes_17 rfl (lv_at hl 2 rfl) ?_
    refine lv_i2l hx hb dX8_setTimes_18 rfl ?_
    refine lv_lconst (v := 0) hx hb dX8_setTimes_19 (by decide) ?_
    refine lv_ldc2 (v := 99) hx hb hown (hts (.constantLong RX8 268 (99)) (by decide +kernel)) dX8_setTimes_20 ?_
    obtain ⟨q3, h_q3, hf⟩ := x_bindE hf
    refine x_ci0 (x_rS ⟨hx, hb, hml, hown, hts⟩ (ct_X8_isIn l g (wM w md1 mn mw) ((a2).toInt64) ((0 : Int64)) ((99 : Int64)) h_q3) (va_cwS 3 hts gX8_setTimes_X8_isIn rfl rfl rfl (by decide +kernel) ⟨Nat.le_of_ble_eq_true rfl, Nat.le_of_ble_eq_true rfl⟩) hK hW hS rfl hl.1 (rest := []) rfl (Nat.le_of_ble_eq_true rfl) dX8_setTimes_23 ⟨Nat.le_of_ble_eq_true rfl, Nat.le_of_ble_eq_true rfl⟩) hS (fun H locs hW hS => ?_)
    have hW : World g (wM w md1 mn mw) H := hW
    refine W.eq (g2 := F0 m 26 ls [.int q3]) rfl ?_
    refine lv_if_eq (tgt := 67) hx hb dX8_setTimes_26 (by decide) (fun hc => ?_) (fun hc => ?_)
    · have hf := x_iteT hf hc
      refine lv_ldc (v := -1000002) hx hb hown (hts (.constant RX8 224 (-1000002)) (by decide +kernel)) dX8_setTimes_67 ?_
      cases hf
      exact x_iret hx hb hr hlocks hK hW hS rfl dX8_setTimes_69
    · have hf := x_iteF hf hc
      refine lv_iload_n hx hb dX8_setTimes_29 rfl (lv_at hl 3 rfl) ?_
      refine lv_i2l hx hb dX8_setTimes_30 rfl ?_
      refine lv_lconst (v := 0) hx hb dX8_setTimes_31 (by decide) ?_
      refine lv_ldc2 (v := 99) hx hb hown (hts (.constantLong RX8 268 (99)) (by decide +kernel)) dX8_setTimes_32 ?_
      obtain ⟨q4, h_q4, hf⟩ := x_bindE hf
      refine x_ci0 (x_rS ⟨hx, hb, hml, hown, hts⟩ (ct_X8_isIn l g (wM w md1 mn mw) ((a3).toInt64) ((0 : Int64)) ((99 : Int64)) h_q4) (va_cwS 3 hts gX8_setTimes_X8_isIn rfl rfl rfl (by decide +kernel) ⟨Nat.le_of_ble_eq_true rfl, Nat.le_of_ble_eq_true rfl⟩) hK hW hS rfl hl.1 (rest := []) rfl (Nat.le_of_ble_eq_true rfl) dX8_setTimes_35 ⟨Nat.le_of_ble_eq_true rfl, Nat.le_of_ble_eq_true rfl⟩) hS (fun H locs hW hS => ?_)
      have hW : World g (wM w md1 mn mw) H := hW
      refine W.eq (g2 := F0 m 38 ls [.int q4]) rfl ?_
      refine lv_if_eq (tgt := 67) hx hb dX8_setTimes_38 (by decide) (fun hc => ?_) (fun hc => ?_)
      · have hf := x_iteT hf hc
        refine lv_ldc (v := -1000002) hx hb hown (hts (.constant RX8 224 (-1000002)) (by decide +kernel)) dX8_setTimes_67 ?_
        cases hf
        exact x_iret hx hb hr hlocks hK hW hS rfl dX8_setTimes_69
      · have hf := x_iteF hf hc
        refine lv_iload hx hb dX8_setTimes_41 (lv_at hl 4 rfl) ?_
        refine lv_i2l hx hb dX8_setTimes_43 rfl ?_
        refine lv_lconst (v := 0) hx hb dX8_setTimes_44 (by decide) ?_
        refine lv_ldc2 (v := 99) hx hb hown (hts (.constantLong RX8 268 (99)) (by decide +kernel)) dX8_setTimes_45 ?_
        obtain ⟨q5, h_q5, hf⟩ := x_bindE hf
        refine x_ci0 (x_rS ⟨hx, hb, hml, hown, hts⟩ (ct_X8_isIn l g (wM w md1 mn mw) ((a4).toInt64) ((0 : Int64)) ((99 : Int64)) h_q5) (va_cwS 3 hts gX8_setTimes_X8_isIn rfl rfl rfl (by decide +kernel) ⟨Nat.le_of_ble_eq_true rfl, Nat.le_of_ble_eq_true rfl⟩) hK hW hS rfl hl.1 (rest := []) rfl (Nat.le_of_ble_eq_true rfl) dX8_setTimes_48 ⟨Nat.le_of_ble_eq_true rfl, Nat.le_of_ble_eq_true rfl⟩) hS (fun H locs hW hS => ?_)
        have hW : World g (wM w md1 mn mw) H := hW
        refine W.eq (g2 := F0 m 51 ls [.int q5]) rfl ?_
        refine lv_if_eq (tgt := 67) hx hb dX8_setTimes_51 (by decide) (fun hc => ?_) (fun hc => ?_)
        · have hf := x_iteT hf hc
          refine lv_ldc (v := -1000002) hx hb hown (hts (.constant RX8 224 (-1000002)) (by decide +kernel)) dX8_setTimes_67 ?_
          cases hf
          exact x_iret hx hb hr hlocks hK hW hS rfl dX8_setTimes_69
        · have hf := x_iteF hf hc
          refine lv_iload hx hb dX8_setTimes_54 (lv_at hl 5 rfl) ?_
          refine lv_i2l hx hb dX8_setTimes_56 rfl ?_
          refine lv_lconst (v := 0) hx hb dX8_setTimes_57 (by decide) ?_
          refine lv_ldc2 (v := 99) hx hb hown (hts (.constantLong RX8 268 (99)) (by decide +kernel)) dX8_setTimes_58 ?_
          obtain ⟨q6, h_q6, hf⟩ := x_bindE hf
          refine x_ci0 (x_rS ⟨hx, hb, hml, hown, hts⟩ (ct_X8_isIn l g (wM w md1 mn mw) ((a5).toInt64) ((0 : Int64)) ((99 : Int64)) h_q6) (va_cwS 3 hts gX8_setTimes_X8_isIn rfl rfl rfl (by decide +kernel) ⟨Nat.le_of_ble_eq_true rfl, Nat.le_of_ble_eq_true rfl⟩) hK hW hS rfl hl.1 (rest := []) rfl (Nat.le_of_ble_eq_true rfl) dX8_setTimes_61 ⟨Nat.le_of_ble_eq_true rfl, Nat.le_of_ble_eq_true rfl⟩) hS (fun H locs hW hS => ?_)
          have hW : World g (wM w md1 mn mw) H := hW
          refine W.eq (g2 := F0 m 64 ls [.int q6]) rfl ?_
          refine lv_if_ne (tgt := 70) hx hb dX8_setTimes_64 (by decide) (fun hc => ?_) (fun hc => ?_)
          · have hf := x_iteF hf hc
            refine lv_aload_n hx hb dX8_setTimes_70 rfl (lv_at hl 0 rfl) ?_
            refine x_get (i := (g.1 + 189)) (k := 8) (j := 0) (t := 1) hx hb hts i_8 hown hK hW ⟨⟨hfl, rfl⟩, by decide⟩ rfl ⟨by decide, by decide, rfl⟩ (hts (.fieldLink RX8 7 "OpticalJukeboxModel" "now" "[I") (by decide +kernel)) (v := .ref (adr (g.1 + 189) 30 0)) rfl dX8_setTimes_71 ?_
            refine lv_iconst (v := 1) hx hb dX8_setTimes_74 (by decide) ?_
            refine x_iald (i := (g.1 + 189)) (k := 30) (j := 0) (f := md1 30 0) hx hb hK hW ⟨⟨hfl, rfl⟩, by decide⟩ (by decide) (rfl) rfl (by unfold vp_in; decide) dX8_setTimes_75 ?_
            refine W.eq (g2 := F0 m 76 ls [.int (md1 30 0 1)]) rfl ?_
            refine lv_iload_n hx hb dX8_setTimes_76 rfl (lv_at hl 1 rfl) ?_
            obtain ⟨K7, eK7, hf⟩ := x_letE hf
            have KK7 : ∀ (_u : Unit) (ls : Array Slot) (H : Heap) (locs : List Loc), lv_has ls 7 [(0, .ref (adr (g.1 + 189) 8 0)), (1, .int a1), (2, .int a2), (3, .int a3), (4, .int a4), (5, .int a5)] → World g (wM w md1 mn mw) H → va_S (gA g) s.heap H locs → K7 _u = some q → W p l e rm_X8_setTimes s m [.ref (adr (g.1 + 189) 8 0), .int a1, .int a2, .int a3, .int a4, .int a5].toArray below meth c H locs 0 0 (MQ below (cQi g q.1 (wM w q.2 mn mw)) [.ref (adr (g.1 + 189) 8 0), .int a1, .int a2, .int a3, .int a4, .int a5].toArray s 0 0 (gA g)) (F0 m 126 ls []) := by
              intro _u ls H locs hl hW hS hf
              subst eK7
              refine lv_aload_n hx hb dX8_setTimes_126 rfl (lv_at hl 0 rfl) ?_
              obtain ⟨q8, h_q8, hf⟩ := x_bindE hf
              refine x_cv0 (x_rV ⟨hx, hb, hml, hown, hts⟩ (ct_X8_remembers l g hfl w md1 mn mw  h_q8) (cwV 0 hts gX8_setTimes_X8_remembers rfl rfl rfl (by decide +kernel) ⟨Nat.le_of_ble_eq_true rfl, Nat.le_of_ble_eq_true rfl⟩) hK hW hS (x_recv (i := (g.1 + 189)) (k := 8) (j := 0) hK hW ⟨⟨hfl, rfl⟩, by decide⟩ rfl (by decide)) rfl hl.1 (rest := []) rfl (Nat.le_of_ble_eq_true rfl) dX8_setTimes_127 ⟨Nat.le_of_ble_eq_true rfl, Nat.le_of_ble_eq_true rfl⟩) hS (fun H locs hW hS => ?_)
              have hW : World g (wM w q8 mn mw) H := hW
              refine lv_aload_n hx hb dX8_setTimes_130 rfl (lv_at hl 0 rfl) ?_
              refine x_get (i := (g.1 + 189)) (k := 8) (j := 0) (t := 1) hx hb hts i_8 hown hK hW ⟨⟨hfl, rfl⟩, by decide⟩ rfl ⟨by decide, by decide, rfl⟩ (hts (.fieldLink RX8 7 "OpticalJukeboxModel" "now" "[I") (by decide +kernel)) (v := .ref (adr (g.1 + 189) 30 0)) rfl dX8_setTimes_131 ?_
              refine lv_iconst (v := 1) hx hb dX8_setTimes_134 (by decide) ?_
              refine x_iald (i := (g.1 + 189)) (k := 30) (j := 0) (f := q8 30 0) hx hb hK hW ⟨⟨hfl, rfl⟩, by decide⟩ (by decide) (rfl) rfl (by unfold vp_in; decide) dX8_setTimes_135 ?_
              refine W.eq (g2 := F0 m 136 ls [.int (q8 30 0 1)]) rfl ?_
              refine lv_aload_n hx hb dX8_setTimes_136 rfl (lv_at hl 0 rfl) ?_
              refine x_get (i := (g.1 + 189)) (k := 8) (j := 0) (t := 1) hx hb hts i_8 hown hK hW ⟨⟨hfl, rfl⟩, by decide⟩ rfl ⟨by decide, by decide, rfl⟩ (hts (.fieldLink RX8 7 "OpticalJukeboxModel" "now" "[I") (by decide +kernel)) (v := .ref (adr (g.1 + 189) 30 0)) rfl dX8_setTimes_137 ?_
              refine lv_iconst (v := 2) hx hb dX8_setTimes_140 (by decide) ?_
              refine x_iald (i := (g.1 + 189)) (k := 30) (j := 0) (f := q8 30 0) hx hb hK hW ⟨⟨hfl, rfl⟩, by decide⟩ (by decide) (rfl) rfl (by unfold vp_in; decide) dX8_setTimes_141 ?_
              refine W.eq (g2 := F0 m 142 ls [.int (q8 30 0 2), .int (q8 30 0 1)]) rfl ?_
              refine lv_iadd hx hb dX8_setTimes_142 ?_
              refine lv_aload_n hx hb dX8_setTimes_143 rfl (lv_at hl 0 rfl) ?_
              refine x_get (i := (g.1 + 189)) (k := 8) (j := 0) (t := 1) hx hb hts i_8 hown hK hW ⟨⟨hfl, rfl⟩, by decide⟩ rfl ⟨by decide, by decide, rfl⟩ (hts (.fieldLink RX8 7 "OpticalJukeboxModel" "now" "[I") (by decide +kernel)) (v := .ref (adr (g.1 + 189) 30 0)) rfl dX8_setTimes_144 ?_
              refine lv_iconst (v := 3) hx hb dX8_setTimes_147 (by decide) ?_
              refine x_iald (i := (g.1 + 189)) (k := 30) (j := 0) (f := q8 30 0) hx hb hK hW ⟨⟨hfl, rfl⟩, by decide⟩ (by decide) (rfl) rfl (by unfold vp_in; decide) dX8_setTimes_148 ?_
              refine W.eq (g2 := F0 m 149 ls [.int (q8 30 0 3), .int ((q8 30 0 1) + (q8 30 0 2))]) rfl ?_
              refine lv_iadd hx hb dX8_setTimes_149 ?_
              refine lv_aload_n hx hb dX8_setTimes_150 rfl (lv_at hl 0 rfl) ?_
              refine x_get (i := (g.1 + 189)) (k := 8) (j := 0) (t := 1) hx hb hts i_8 hown hK hW ⟨⟨hfl, rfl⟩, by decide⟩ rfl ⟨by decide, by decide, rfl⟩ (hts (.fieldLink RX8 7 "OpticalJukeboxModel" "now" "[I") (by decide +kernel)) (v := .ref (adr (g.1 + 189) 30 0)) rfl dX8_setTimes_151 ?_
              refine lv_iconst (v := 4) hx hb dX8_setTimes_154 (by decide) ?_
              refine x_iald (i := (g.1 + 189)) (k := 30) (j := 0) (f := q8 30 0) hx hb hK hW ⟨⟨hfl, rfl⟩, by decide⟩ (by decide) (rfl) rfl (by unfold vp_in; decide) dX8_setTimes_155 ?_
              refine W.eq (g2 := F0 m 156 ls [.int (q8 30 0 4), .int (((q8 30 0 1) + (q8 30 0 2)) + (q8 30 0 3))]) rfl ?_
              refine lv_iadd hx hb dX8_setTimes_156 ?_
              refine lv_aload_n hx hb dX8_setTimes_157 rfl (lv_at hl 0 rfl) ?_
              refine x_get (i := (g.1 + 189)) (k := 8) (j := 0) (t := 1) hx hb hts i_8 hown hK hW ⟨⟨hfl, rfl⟩, by decide⟩ rfl ⟨by decide, by decide, rfl⟩ (hts (.fieldLink RX8 7 "OpticalJukeboxModel" "now" "[I") (by decide +kernel)) (v := .ref (adr (g.1 + 189) 30 0)) rfl dX8_setTimes_158 ?_
              refine lv_iconst (v := 5) hx hb dX8_setTimes_161 (by decide) ?_
              refine x_iald (i := (g.1 + 189)) (k := 30) (j := 0) (f := q8 30 0) hx hb hK hW ⟨⟨hfl, rfl⟩, by decide⟩ (by decide) (rfl) rfl (by unfold vp_in; decide) dX8_setTimes_162 ?_
              refine W.eq (g2 := F0 m 163 ls [.int (q8 30 0 5), .int ((((q8 30 0 1) + (q8 30 0 2)) + (q8 30 0 3)) + (q8 30 0 4))]) rfl ?_
              refine lv_iadd hx hb dX8_setTimes_163 ?_
              obtain ⟨x9, e_x9, hf⟩ := x_letE hf
              refine x_topi e_x9 ?_
              refine lv_istore (lv' := [(6, .int x9), (0, .ref (adr (g.1 + 189) 8 0)), (1, .int a1), (2, .int a2), (3, .int a3), (4, .int a4), (5, .int a5)]) hx hb dX8_setTimes_164 hl (by decide) rfl (fun ls hl => ?_)
              refine lv_aload_n hx hb dX8_setTimes_166 rfl (lv_at hl 1 rfl) ?_
              refine x_get (i := (g.1 + 189)) (k := 8) (j := 0) (t := 1) hx hb hts i_8 hown hK hW ⟨⟨hfl, rfl⟩, by decide⟩ rfl ⟨by decide, by decide, rfl⟩ (hts (.fieldLink RX8 7 "OpticalJukeboxModel" "now" "[I") (by decide +kernel)) (v := .ref (adr (g.1 + 189) 30 0)) rfl dX8_setTimes_167 ?_
              refine lv_iconst (v := 1) hx hb dX8_setTimes_170 (by decide) ?_
              refine lv_iload_n hx hb dX8_setTimes_171 rfl (lv_at hl 2 rfl) ?_
              obtain ⟨md10, e_md10, hf⟩ := x_letE hf
              refine x_iast (i := (g.1 + 189)) (k := 30) (j := 0) (w' := wM w md10 mn mw) hx hb hK hW ⟨⟨hfl, rfl⟩, by decide⟩ hS (by decide) rfl rfl rfl (by unfold vp_in; decide) dX8_setTimes_172 (fp_M e_md10 rfl) (fun H locs hW hS => ?_)
              refine lv_aload_n hx hb dX8_setTimes_173 rfl (lv_at hl 1 rfl) ?_
              refine x_get (i := (g.1 + 189)) (k := 8) (j := 0) (t := 1) hx hb hts i_8 hown hK hW ⟨⟨hfl, rfl⟩, by decide⟩ rfl ⟨by decide, by decide, rfl⟩ (hts (.fieldLink RX8 7 "OpticalJukeboxModel" "now" "[I") (by decide +kernel)) (v := .ref (adr (g.1 + 189) 30 0)) rfl dX8_setTimes_174 ?_
              refine lv_iconst (v := 2) hx hb dX8_setTimes_177 (by decide) ?_
              refine lv_iload_n hx hb dX8_setTimes_178 rfl (lv_at hl 3 rfl) ?_
              obtain ⟨md11, e_md11, hf⟩ := x_letE hf
              refine x_iast (i := (g.1 + 189)) (k := 30) (j := 0) (w' := wM w md11 mn mw) hx hb hK hW ⟨⟨hfl, rfl⟩, by decide⟩ hS (by decide) rfl rfl rfl (by unfold vp_in; decide) dX8_setTimes_179 (fp_M e_md11 rfl) (fun H locs hW hS => ?_)
              refine lv_aload_n hx hb dX8_setTimes_180 rfl (lv_at hl 1 rfl) ?_
              refine x_get (i := (g.1 + 189)) (k := 8) (j := 0) (t := 1) hx hb hts i_8 hown hK hW ⟨⟨hfl, rfl⟩, by decide⟩ rfl ⟨by decide, by decide, rfl⟩ (hts (.fieldLink RX8 7 "OpticalJukeboxModel" "now" "[I") (by decide +kernel)) (v := .ref (adr (g.1 + 189) 30 0)) rfl dX8_setTimes_181 ?_
              refine lv_iconst (v := 3) hx hb dX8_setTimes_184 (by decide) ?_
              refine lv_iload_n hx hb dX8_setTimes_185 rfl (lv_at hl 4 rfl) ?_
              obtain ⟨md12, e_md12, hf⟩ := x_letE hf
              refine x_iast (i := (g.1 + 189)) (k := 30) (j := 0) (w' := wM w md12 mn mw) hx hb hK hW ⟨⟨hfl, rfl⟩, by decide⟩ hS (by decide) rfl rfl rfl (by unfold vp_in; decide) dX8_setTimes_186 (fp_M e_md12 rfl) (fun H locs hW hS => ?_)
              refine lv_aload_n hx hb dX8_setTimes_187 rfl (lv_at hl 1 rfl) ?_
              refine x_get (i := (g.1 + 189)) (k := 8) (j := 0) (t := 1) hx hb hts i_8 hown hK hW ⟨⟨hfl, rfl⟩, by decide⟩ rfl ⟨by decide, by decide, rfl⟩ (hts (.fieldLink RX8 7 "OpticalJukeboxModel" "now" "[I") (by decide +kernel)) (v := .ref (adr (g.1 + 189) 30 0)) rfl dX8_setTimes_188 ?_
              refine lv_iconst (v := 4) hx hb dX8_setTimes_191 (by decide) ?_
              refine lv_iload hx hb dX8_setTimes_192 (lv_at hl 5 rfl) ?_
              obtain ⟨md13, e_md13, hf⟩ := x_letE hf
              refine x_iast (i := (g.1 + 189)) (k := 30) (j := 0) (w' := wM w md13 mn mw) hx hb hK hW ⟨⟨hfl, rfl⟩, by decide⟩ hS (by decide) rfl rfl rfl (by unfold vp_in; decide) dX8_setTimes_194 (fp_M e_md13 rfl) (fun H locs hW hS => ?_)
              refine lv_aload_n hx hb dX8_setTimes_195 rfl (lv_at hl 1 rfl) ?_
              refine x_get (i := (g.1 + 189)) (k := 8) (j := 0) (t := 1) hx hb hts i_8 hown hK hW ⟨⟨hfl, rfl⟩, by decide⟩ rfl ⟨by decide, by decide, rfl⟩ (hts (.fieldLink RX8 7 "OpticalJukeboxModel" "now" "[I") (by decide +kernel)) (v := .ref (adr (g.1 + 189) 30 0)) rfl dX8_setTimes_196 ?_
              refine lv_iconst (v := 5) hx hb dX8_setTimes_199 (by decide) ?_
              refine lv_iload hx hb dX8_setTimes_200 (lv_at hl 6 rfl) ?_
              obtain ⟨md14, e_md14, hf⟩ := x_letE hf
              refine x_iast (i := (g.1 + 189)) (k := 30) (j := 0) (w' := wM w md14 mn mw) hx hb hK hW ⟨⟨hfl, rfl⟩, by decide⟩ hS (by decide) rfl rfl rfl (by unfold vp_in; decide) dX8_setTimes_202 (fp_M e_md14 rfl) (fun H locs hW hS => ?_)
              refine lv_iload hx hb dX8_setTimes_203 (lv_at hl 0 rfl) ?_
              cases hf
              exact x_iret hx hb hr hlocks hK hW hS rfl dX8_setTimes_205
            clear eK7
            refine lv_icmp_ne (tgt := 126) hx hb dX8_setTimes_77 (by decide) (fun hc => ?_) (fun hc => ?_)
            · have hf := x_iteF hf hc
              exact KK7 (()) ls _ _ hl hW hS hf
            · have hf := x_iteT hf hc
              refine lv_aload_n hx hb dX8_setTimes_80 rfl (lv_at hl 0 rfl) ?_
              refine x_get (i := (g.1 + 189)) (k := 8) (j := 0) (t := 1) hx hb hts i_8 hown hK hW ⟨⟨hfl, rfl⟩, by decide⟩ rfl ⟨by decide, by decide, rfl⟩ (hts (.fieldLink RX8 7 "OpticalJukeboxModel" "now" "[I") (by decide +kernel)) (v := .ref (adr (g.1 + 189) 30 0)) rfl dX8_setTimes_81 ?_
              refine lv_iconst (v := 2) hx hb dX8_setTimes_84 (by decide) ?_
              refine x_iald (i := (g.1 + 189)) (k := 30) (j := 0) (f := md1 30 0) hx hb hK hW ⟨⟨hfl, rfl⟩, by decide⟩ (by decide) (rfl) rfl (by unfold vp_in; decide) dX8_setTimes_85 ?_
              refine W.eq (g2 := F0 m 86 ls [.int (md1 30 0 2)]) rfl ?_
              refine lv_iload_n hx hb dX8_setTimes_86 rfl (lv_at hl 2 rfl) ?_
              refine lv_icmp_ne (tgt := 126) hx hb dX8_setTimes_87 (by decide) (fun hc => ?_) (fun hc => ?_)
              · have hf := x_iteF hf hc
                exact KK7 (()) ls _ _ hl hW hS hf
              · have hf := x_iteT hf hc
                refine lv_aload_n hx hb dX8_setTimes_90 rfl (lv_at hl 0 rfl) ?_
                refine x_get (i := (g.1 + 189)) (k := 8) (j := 0) (t := 1) hx hb hts i_8 hown hK hW ⟨⟨hfl, rfl⟩, by decide⟩ rfl ⟨by decide, by decide, rfl⟩ (hts (.fieldLink RX8 7 "OpticalJukeboxModel" "now" "[I") (by decide +kernel)) (v := .ref (adr (g.1 + 189) 30 0)) rfl dX8_setTimes_91 ?_
                refine lv_iconst (v := 3) hx hb dX8_setTimes_94 (by decide) ?_
                refine x_iald (i := (g.1 + 189)) (k := 30) (j := 0) (f := md1 30 0) hx hb hK hW ⟨⟨hfl, rfl⟩, by decide⟩ (by decide) (rfl) rfl (by unfold vp_in; decide) dX8_setTimes_95 ?_
                refine W.eq (g2 := F0 m 96 ls [.int (md1 30 0 3)]) rfl ?_
                refine lv_iload_n hx hb dX8_setTimes_96 rfl (lv_at hl 3 rfl) ?_
                refine lv_icmp_ne (tgt := 126) hx hb dX8_setTimes_97 (by decide) (fun hc => ?_) (fun hc => ?_)
                · have hf := x_iteF hf hc
                  exact KK7 (()) ls _ _ hl hW hS hf
                · have hf := x_iteT hf hc
                  refine lv_aload_n hx hb dX8_setTimes_100 rfl (lv_at hl 0 rfl) ?_
                  refine x_get (i := (g.1 + 189)) (k := 8) (j := 0) (t := 1) hx hb hts i_8 hown hK hW ⟨⟨hfl, rfl⟩, by decide⟩ rfl ⟨by decide, by decide, rfl⟩ (hts (.fieldLink RX8 7 "OpticalJukeboxModel" "now" "[I") (by decide +kernel)) (v := .ref (adr (g.1 + 189) 30 0)) rfl dX8_setTimes_101 ?_
                  refine lv_iconst (v := 4) hx hb dX8_setTimes_104 (by decide) ?_
                  refine x_iald (i := (g.1 + 189)) (k := 30) (j := 0) (f := md1 30 0) hx hb hK hW ⟨⟨hfl, rfl⟩, by decide⟩ (by decide) (rfl) rfl (by unfold vp_in; decide) dX8_setTimes_105 ?_
                  refine W.eq (g2 := F0 m 106 ls [.int (md1 30 0 4)]) rfl ?_
                  refine lv_iload hx hb dX8_setTimes_106 (lv_at hl 4 rfl) ?_
                  refine lv_icmp_ne (tgt := 126) hx hb dX8_setTimes_108 (by decide) (fun hc => ?_) (fun hc => ?_)
                  · have hf := x_iteF hf hc
                    exact KK7 (()) ls _ _ hl hW hS hf
                  · have hf := x_iteT hf hc
                    refine lv_aload_n hx hb dX8_setTimes_111 rfl (lv_at hl 0 rfl) ?_
                    refine x_get (i := (g.1 + 189)) (k := 8) (j := 0) (t := 1) hx hb hts i_8 hown hK hW ⟨⟨hfl, rfl⟩, by decide⟩ rfl ⟨by decide, by decide, rfl⟩ (hts (.fieldLink RX8 7 "OpticalJukeboxModel" "now" "[I") (by decide +kernel)) (v := .ref (adr (g.1 + 189) 30 0)) rfl dX8_setTimes_112 ?_
                    refine lv_iconst (v := 5) hx hb dX8_setTimes_115 (by decide) ?_
                    refine x_iald (i := (g.1 + 189)) (k := 30) (j := 0) (f := md1 30 0) hx hb hK hW ⟨⟨hfl, rfl⟩, by decide⟩ (by decide) (rfl) rfl (by unfold vp_in; decide) dX8_setTimes_116 ?_
                    refine W.eq (g2 := F0 m 117 ls [.int (md1 30 0 5)]) rfl ?_
                    refine lv_iload hx hb dX8_setTimes_117 (lv_at hl 5 rfl) ?_
                    refine lv_icmp_ne (tgt := 126) hx hb dX8_setTimes_119 (by decide) (fun hc => ?_) (fun hc => ?_)
                    · have hf := x_iteF hf hc
                      exact KK7 (()) ls _ _ hl hW hS hf
                    · have hf := x_iteT hf hc
                      refine lv_ldcw (v := -1000004) hx hb hown (hts (.constant RX8 260 (-1000004)) (by decide +kernel)) dX8_setTimes_122 ?_
                      cases hf
                      exact x_iret hx hb hr hlocks hK hW hS rfl dX8_setTimes_125
          · have hf := x_iteT hf hc
            refine lv_ldc (v := -1000002) hx hb hown (hts (.constant RX8 224 (-1000002)) (by decide +kernel)) dX8_setTimes_67 ?_
            cases hf
            exact x_iret hx hb hr hlocks hK hW hS rfl dX8_setTimes_69
abbrev rm_X8_request : Room := { frames := 3, cells := 0, slots := 0, locals := 64 }
set_option maxRecDepth 100000 in
set_option maxHeartbeats 4000000 in
theorem ct_X8_request (l : Launch) (g : GT) (hfl : 2 ≤ gf g) (w : WT) (md : SD) (mn : Nat → Int64) (mw : Int64) (a1 : Int32) {q : (Int32 × SD)} (hf : f_X8_request md a1 = some q) : Met l yX8_request wsX8_request rm_X8_request (cPre g (wM w md mn mw) [.ref (adr (g.1 + 189) 8 0), .int a1]) (cQi g q.1 (wM w q.2 mn mw)) 0 0 (gA g) := by
  have i_8 : ∀ w ∈ u_ws RX8 TX8 27, w ∈ wsX8_request := by decide +kernel
  refine x_met (by decide) rfl (Nat.le_of_ble_eq_true rfl) ?_
  intro p e s m below meth c hx hb hr hml hts hown hlocks hK hW hS ls hl
  have hown : s.vm.findClass RX8 = some m.cls := hown
  have hl : lv_has ls 2 [(0, .ref (adr (g.1 + 189) 8 0)), (1, .int a1)] := hl
  rw [f_X8_request] at hf
  refine lv_aload_n hx hb dX8_request_0 rfl (lv_at hl 0 rfl) ?_
  refine lv_iconst (v := 0) hx hb dX8_request_1 (by decide) ?_
  obtain ⟨md1, e_md1, hf⟩ := x_letE hf
  refine x_put (i := (g.1 + 189)) (k := 8) (j := 0) (t := 0) (w' := wM w md1 mn mw) hx hb hts i_8 tyX8 tyX8_ok nmX8 hown hK hW ⟨⟨hfl, rfl⟩, by decide⟩ hS rfl ⟨by decide, by decide, rfl⟩ (hts (.fieldLink RX8 51 "OpticalJukeboxModel" "thrown" "I") (by decide +kernel)) rfl (ty := .int) (by decide +kernel) rfl rfl ⟨rfl, rfl⟩ dX8_request_2 (fp_M e_md1 rfl) (fun H locs hW hS => ?_)
  refine lv_aload_n hx hb dX8_request_5 rfl (lv_at hl 0 rfl) ?_
  refine lv_iload_n hx hb dX8_request_6 rfl (lv_at hl 1 rfl) ?_
  obtain ⟨q2, h_q2, hf⟩ := x_bindE hf
  refine x_ci0 (x_rV ⟨hx, hb, hml, hown, hts⟩ (ct_X8_isFile l g hfl w md1 mn mw (a1) h_q2) (cwV 1 hts gX8_request_X8_isFile rfl rfl rfl (by decide +kernel) ⟨Nat.le_of_ble_eq_true rfl, Nat.le_of_ble_eq_true rfl⟩) hK hW hS (x_recv (i := (g.1 + 189)) (k := 8) (j := 0) hK hW ⟨⟨hfl, rfl⟩, by decide⟩ rfl (by decide)) rfl hl.1 (rest := []) rfl (Nat.le_of_ble_eq_true rfl) dX8_request_7 ⟨Nat.le_of_ble_eq_true rfl, Nat.le_of_ble_eq_true rfl⟩) hS (fun H locs hW hS => ?_)
  have hW : World g (wM w md1 mn mw) H := hW
  refine W.eq (g2 := F0 m 10 ls [.int q2]) rfl ?_
  refine lv_if_ne (tgt := 16) hx hb dX8_request_10 (by decide) (fun hc => ?_) (fun hc => ?_)
  · have hf := x_iteF hf hc
    refine lv_aload_n hx hb dX8_request_16 rfl (lv_at hl 0 rfl) ?_
    refine lv_iload_n hx hb dX8_request_17 rfl (lv_at hl 1 rfl) ?_
    obtain ⟨q3, h_q3, hf⟩ := x_bindE hf
    refine x_ci0 (x_rV ⟨hx, hb, hml, hown, hts⟩ (ct_X8_isReadable l g hfl w md1 mn mw (a1) h_q3) (cwV 1 hts gX8_request_X8_isReadable rfl rfl rfl (by decide +kernel) ⟨Nat.le_of_ble_eq_true rfl, Nat.le_of_ble_eq_true rfl⟩) hK hW hS (x_recv (i := (g.1 + 189)) (k := 8) (j := 0) hK hW ⟨⟨hfl, rfl⟩, by decide⟩ rfl (by decide)) rfl hl.1 (rest := []) rfl (Nat.le_of_ble_eq_true rfl) dX8_request_18 ⟨Nat.le_of_ble_eq_true rfl, Nat.le_of_ble_eq_true rfl⟩) hS (fun H locs hW hS => ?_)
    have hW : World g (wM w md1 mn mw) H := hW
    refine W.eq (g2 := F0 m 21 ls [.int q3]) rfl ?_
    refine lv_if_ne (tgt := 27) hx hb dX8_request_21 (by decide) (fun hc => ?_) (fun hc => ?_)
    · have hf := x_iteF hf hc
      refine lv_aload_n hx hb dX8_request_27 rfl (lv_at hl 0 rfl) ?_
      refine x_get (i := (g.1 + 189)) (k := 8) (j := 0) (t := 1) hx hb hts i_8 hown hK hW ⟨⟨hfl, rfl⟩, by decide⟩ rfl ⟨by decide, by decide, rfl⟩ (hts (.fieldLink RX8 7 "OpticalJukeboxModel" "now" "[I") (by decide +kernel)) (v := .ref (adr (g.1 + 189) 30 0)) rfl dX8_request_28 ?_
      refine lv_bipush (v := 16) hx hb dX8_request_31 (by decide) ?_
      refine x_iald (i := (g.1 + 189)) (k := 30) (j := 0) (f := md1 30 0) hx hb hK hW ⟨⟨hfl, rfl⟩, by decide⟩ (by decide) (rfl) rfl (by unfold vp_in; decide) dX8_request_33 ?_
      refine W.eq (g2 := F0 m 34 ls [.int (md1 30 0 16)]) rfl ?_
      refine lv_bipush (v := 16) hx hb dX8_request_34 (by decide) ?_
      refine lv_icmp_ne (tgt := 42) hx hb dX8_request_36 (by decide) (fun hc => ?_) (fun hc => ?_)
      · have hf := x_iteF hf hc
        refine lv_aload_n hx hb dX8_request_42 rfl (lv_at hl 0 rfl) ?_
        obtain ⟨q4, h_q4, hf⟩ := x_bindE hf
        refine x_cv0 (x_rV ⟨hx, hb, hml, hown, hts⟩ (ct_X8_remembers l g hfl w md1 mn mw  h_q4) (cwV 0 hts gX8_request_X8_remembers rfl rfl rfl (by decide +kernel) ⟨Nat.le_of_ble_eq_true rfl, Nat.le_of_ble_eq_true rfl⟩) hK hW hS (x_recv (i := (g.1 + 189)) (k := 8) (j := 0) hK hW ⟨⟨hfl, rfl⟩, by decide⟩ rfl (by decide)) rfl hl.1 (rest := []) rfl (Nat.le_of_ble_eq_true rfl) dX8_request_43 ⟨Nat.le_of_ble_eq_true rfl, Nat.le_of_ble_eq_true rfl⟩) hS (fun H locs hW hS => ?_)
        have hW : World g (wM w q4 mn mw) H := hW
        refine lv_aload_n hx hb dX8_request_46 rfl (lv_at hl 0 rfl) ?_
        refine x_get (i := (g.1 + 189)) (k := 8) (j := 0) (t := 1) hx hb hts i_8 hown hK hW ⟨⟨hfl, rfl⟩, by decide⟩ rfl ⟨by decide, by decide, rfl⟩ (hts (.fieldLink RX8 7 "OpticalJukeboxModel" "now" "[I") (by decide +kernel)) (v := .ref (adr (g.1 + 189) 30 0)) rfl dX8_request_47 ?_
        refine lv_sipush (v := 589) hx hb dX8_request_50 (by decide) ?_
        refine lv_aload_n hx hb dX8_request_53 rfl (lv_at hl 0 rfl) ?_
        refine x_get (i := (g.1 + 189)) (k := 8) (j := 0) (t := 1) hx hb hts i_8 hown hK hW ⟨⟨hfl, rfl⟩, by decide⟩ rfl ⟨by decide, by decide, rfl⟩ (hts (.fieldLink RX8 7 "OpticalJukeboxModel" "now" "[I") (by decide +kernel)) (v := .ref (adr (g.1 + 189) 30 0)) rfl dX8_request_54 ?_
        refine lv_bipush (v := 16) hx hb dX8_request_57 (by decide) ?_
        refine x_iald (i := (g.1 + 189)) (k := 30) (j := 0) (f := q4 30 0) hx hb hK hW ⟨⟨hfl, rfl⟩, by decide⟩ (by decide) (rfl) rfl (by unfold vp_in; decide) dX8_request_59 ?_
        refine W.eq (g2 := F0 m 60 ls [.int (q4 30 0 16), .int (589 : Int32), .ref (adr (g.1 + 189) 30 0)]) rfl ?_
        refine lv_iadd hx hb dX8_request_60 ?_
        refine lv_iload_n hx hb dX8_request_61 rfl (lv_at hl 1 rfl) ?_
        obtain ⟨hg5, hf⟩ := x_guardE hf
        obtain ⟨md6, e_md6, hf⟩ := x_letE hf
        refine x_iast (i := (g.1 + 189)) (k := 30) (j := 0) (w' := wM w md6 mn mw) hx hb hK hW ⟨⟨hfl, rfl⟩, by decide⟩ hS (by decide) rfl rfl rfl hg5 dX8_request_62 (fp_M e_md6 rfl) (fun H locs hW hS => ?_)
        refine lv_aload_n hx hb dX8_request_63 rfl (lv_at hl 0 rfl) ?_
        refine x_get (i := (g.1 + 189)) (k := 8) (j := 0) (t := 1) hx hb hts i_8 hown hK hW ⟨⟨hfl, rfl⟩, by decide⟩ rfl ⟨by decide, by decide, rfl⟩ (hts (.fieldLink RX8 7 "OpticalJukeboxModel" "now" "[I") (by decide +kernel)) (v := .ref (adr (g.1 + 189) 30 0)) rfl dX8_request_64 ?_
        refine lv_bipush (v := 16) hx hb dX8_request_67 (by decide) ?_
        refine lv_dup2_11 hx hb dX8_request_69 rfl rfl ?_
        refine x_iald (i := (g.1 + 189)) (k := 30) (j := 0) (f := md6 30 0) hx hb hK hW ⟨⟨hfl, rfl⟩, by decide⟩ (by decide) (rfl) rfl (by unfold vp_in; decide) dX8_request_70 ?_
        refine W.eq (g2 := F0 m 71 ls [.int (md6 30 0 16), .int (16 : Int32), .ref (adr (g.1 + 189) 30 0)]) rfl ?_
        refine lv_iconst (v := 1) hx hb dX8_request_71 (by decide) ?_
        refine lv_iadd hx hb dX8_request_72 ?_
        obtain ⟨md7, e_md7, hf⟩ := x_letE hf
        refine x_iast (i := (g.1 + 189)) (k := 30) (j := 0) (w' := wM w md7 mn mw) hx hb hK hW ⟨⟨hfl, rfl⟩, by decide⟩ hS (by decide) rfl rfl rfl (by unfold vp_in; decide) dX8_request_73 (fp_M e_md7 rfl) (fun H locs hW hS => ?_)
        refine lv_aload_n hx hb dX8_request_74 rfl (lv_at hl 0 rfl) ?_
        refine x_get (i := (g.1 + 189)) (k := 8) (j := 0) (t := 1) hx hb hts i_8 hown hK hW ⟨⟨hfl, rfl⟩, by decide⟩ rfl ⟨by decide, by decide, rfl⟩ (hts (.fieldLink RX8 7 "OpticalJukeboxModel" "now" "[I") (by decide +kernel)) (v := .ref (adr (g.1 + 189) 30 0)) rfl dX8_request_75 ?_
        refine lv_bipush (v := 16) hx hb dX8_request_78 (by decide) ?_
        refine x_iald (i := (g.1 + 189)) (k := 30) (j := 0) (f := md7 30 0) hx hb hK hW ⟨⟨hfl, rfl⟩, by decide⟩ (by decide) (rfl) rfl (by unfold vp_in; decide) dX8_request_80 ?_
        refine W.eq (g2 := F0 m 81 ls [.int (md7 30 0 16)]) rfl ?_
        cases hf
        exact x_iret hx hb hr hlocks hK hW hS rfl dX8_request_81
      · have hf := x_iteT hf hc
        refine lv_ldc (v := -1000003) hx hb hown (hts (.constant RX8 243 (-1000003)) (by decide +kernel)) dX8_request_39 ?_
        cases hf
        exact x_iret hx hb hr hlocks hK hW hS rfl dX8_request_41
    · have hf := x_iteT hf hc
      refine lv_ldc (v := -1000008) hx hb hown (hts (.constant RX8 182 (-1000008)) (by decide +kernel)) dX8_request_24 ?_
      cases hf
      exact x_iret hx hb hr hlocks hK hW hS rfl dX8_request_26
  · have hf := x_iteT hf hc
    refine lv_ldc (v := -1000001) hx hb hown (hts (.constant RX8 186 (-1000001)) (by decide +kernel)) dX8_request_13 ?_
    cases hf
    exact x_iret hx hb hr hlocks hK hW hS rfl dX8_request_15
abbrev rm_X8_drops : Room := { frames := 0, cells := 0, slots := 0, locals := 0 }
set_option maxRecDepth 100000 in
set_option maxHeartbeats 4000000 in
theorem ct_X8_drops (l : Launch) (g : GT) (hfl : 2 ≤ gf g) (w : WT) (md : SD) (mn : Nat → Int64) (mw : Int64) (a1 : Int32) {q : SD} (hf : f_X8_drops md a1 = some q) : Met l yX8_drops wsX8_drops rm_X8_drops (cPre g (wM w md mn mw) [.ref (adr (g.1 + 189) 8 0), .int a1]) (cQv g (wM w q mn mw)) 0 0 (gA g) := by
  have i_8 : ∀ w ∈ u_ws RX8 TX8 27, w ∈ wsX8_drops := by decide +kernel
  refine x_met (by decide) rfl (Nat.le_of_ble_eq_true rfl) ?_
  intro p e s m below meth c hx hb hr hml hts hown hlocks hK hW hS ls hl
  have hown : s.vm.findClass RX8 = some m.cls := hown
  have hl : lv_has ls 3 [(0, .ref (adr (g.1 + 189) 8 0)), (1, .int a1)] := hl
  rw [f_X8_drops] at hf
  refine lv_aload_n hx hb dX8_drops_0 rfl (lv_at hl 0 rfl) ?_
  refine x_get (i := (g.1 + 189)) (k := 8) (j := 0) (t := 1) hx hb hts i_8 hown hK hW ⟨⟨hfl, rfl⟩, by decide⟩ rfl ⟨by decide, by decide, rfl⟩ (hts (.fieldLink RX8 7 "OpticalJukeboxModel" "now" "[I") (by decide +kernel)) (v := .ref (adr (g.1 + 189) 30 0)) rfl dX8_drops_1 ?_
  refine lv_bipush (v := 16) hx hb dX8_drops_4 (by decide) ?_
  refine lv_dup2_11 hx hb dX8_drops_6 rfl rfl ?_
  refine x_iald (i := (g.1 + 189)) (k := 30) (j := 0) (f := md 30 0) hx hb hK hW ⟨⟨hfl, rfl⟩, by decide⟩ (by decide) (rfl) rfl (by unfold vp_in; decide) dX8_drops_7 ?_
  refine W.eq (g2 := F0 m 8 ls [.int (md 30 0 16), .int (16 : Int32), .ref (adr (g.1 + 189) 30 0)]) rfl ?_
  refine lv_iconst (v := 1) hx hb dX8_drops_8 (by decide) ?_
  refine lv_isub hx hb dX8_drops_9 ?_
  obtain ⟨md1, e_md1, hf⟩ := x_letE hf
  refine x_iast (i := (g.1 + 189)) (k := 30) (j := 0) (w' := wM w md1 mn mw) hx hb hK hW ⟨⟨hfl, rfl⟩, by decide⟩ hS (by decide) rfl rfl rfl (by unfold vp_in; decide) dX8_drops_10 (fp_M e_md1 rfl) (fun H locs hW hS => ?_)
  refine lv_iload_n hx hb dX8_drops_11 rfl (lv_at hl 1 rfl) ?_
  refine lv_istore_n (lv' := [(2, .int a1), (0, .ref (adr (g.1 + 189) 8 0)), (1, .int a1)]) hx hb dX8_drops_12 rfl hl (by decide) rfl (fun ls hl => ?_)
  have L13 : ∀ (n : Nat) (v2_13 : Int32) (md_13 : SD) (ls : Array Slot) (H : Heap) (locs : List Loc), lv_has ls 3 [(0, .ref (adr (g.1 + 189) 8 0)), (1, .int a1), (2, .int v2_13)] → World g (wM w md_13 mn mw) H → va_S (gA g) s.heap H locs → f_X8_drops_L13  n v2_13 md_13 = some q → W p l e rm_X8_drops s m [.ref (adr (g.1 + 189) 8 0), .int a1].toArray below meth c H locs 0 0 (MQ below (cQv g (wM w q mn mw)) [.ref (adr (g.1 + 189) 8 0), .int a1].toArray s 0 0 (gA g)) (F0 m 13 ls []) := by
    clear hW hS hl
    intro n
    induction n with
    | zero => intro v2_13 md_13 ls H locs hl hW hS hf; cases hf
    | succ n_13 ih =>
      intro v2_13 md_13 ls H locs hl hW hS hf
      rw [f_X8_drops_L13] at hf
      refine lv_iload_n hx hb dX8_drops_13 rfl (lv_at hl 2 rfl) ?_
      refine lv_aload_n hx hb dX8_drops_14 rfl (lv_at hl 0 rfl) ?_
      refine x_get (i := (g.1 + 189)) (k := 8) (j := 0) (t := 1) hx hb hts i_8 hown hK hW ⟨⟨hfl, rfl⟩, by decide⟩ rfl ⟨by decide, by decide, rfl⟩ (hts (.fieldLink RX8 7 "OpticalJukeboxModel" "now" "[I") (by decide +kernel)) (v := .ref (adr (g.1 + 189) 30 0)) rfl dX8_drops_15 ?_
      refine lv_bipush (v := 16) hx hb dX8_drops_18 (by decide) ?_
      refine x_iald (i := (g.1 + 189)) (k := 30) (j := 0) (f := md_13 30 0) hx hb hK hW ⟨⟨hfl, rfl⟩, by decide⟩ (by decide) (rfl) rfl (by unfold vp_in; decide) dX8_drops_20 ?_
      refine W.eq (g2 := F0 m 21 ls [.int (md_13 30 0 16), .int v2_13]) rfl ?_
      refine lv_icmp_ge (tgt := 52) hx hb dX8_drops_21 (by decide) (fun hc => ?_) (fun hc => ?_)
      · have hf := x_iteT hf hc
        cases hf
        exact x_vret hx hb hr hlocks hK hW hS dX8_drops_52
      · have hf := x_iteF hf hc
        refine lv_aload_n hx hb dX8_drops_24 rfl (lv_at hl 0 rfl) ?_
        refine x_get (i := (g.1 + 189)) (k := 8) (j := 0) (t := 1) hx hb hts i_8 hown hK hW ⟨⟨hfl, rfl⟩, by decide⟩ rfl ⟨by decide, by decide, rfl⟩ (hts (.fieldLink RX8 7 "OpticalJukeboxModel" "now" "[I") (by decide +kernel)) (v := .ref (adr (g.1 + 189) 30 0)) rfl dX8_drops_25 ?_
        refine lv_sipush (v := 589) hx hb dX8_drops_28 (by decide) ?_
        refine lv_iload_n hx hb dX8_drops_31 rfl (lv_at hl 2 rfl) ?_
        refine lv_iadd hx hb dX8_drops_32 ?_
        refine lv_aload_n hx hb dX8_drops_33 rfl (lv_at hl 0 rfl) ?_
        refine x_get (i := (g.1 + 189)) (k := 8) (j := 0) (t := 1) hx hb hts i_8 hown hK hW ⟨⟨hfl, rfl⟩, by decide⟩ rfl ⟨by decide, by decide, rfl⟩ (hts (.fieldLink RX8 7 "OpticalJukeboxModel" "now" "[I") (by decide +kernel)) (v := .ref (adr (g.1 + 189) 30 0)) rfl dX8_drops_34 ?_
        refine lv_sipush (v := 589) hx hb dX8_drops_37 (by decide) ?_
        refine lv_iload_n hx hb dX8_drops_40 rfl (lv_at hl 2 rfl) ?_
        refine lv_iadd hx hb dX8_drops_41 ?_
        refine lv_iconst (v := 1) hx hb dX8_drops_42 (by decide) ?_
        refine lv_iadd hx hb dX8_drops_43 ?_
        obtain ⟨hg2, hf⟩ := x_guardE hf
        refine x_iald (i := (g.1 + 189)) (k := 30) (j := 0) (f := md_13 30 0) hx hb hK hW ⟨⟨hfl, rfl⟩, by decide⟩ (by decide) (rfl) rfl hg2 dX8_drops_44 ?_
        obtain ⟨hg3, hf⟩ := x_guardE hf
        obtain ⟨md4, e_md4, hf⟩ := x_letE hf
        refine x_iast (i := (g.1 + 189)) (k := 30) (j := 0) (w' := wM w md4 mn mw) hx hb hK hW ⟨⟨hfl, rfl⟩, by decide⟩ hS (by decide) rfl rfl rfl hg3 dX8_drops_45 (fp_M e_md4 rfl) (fun H locs hW hS => ?_)
        obtain ⟨x5, e_x5, hf⟩ := x_letE hf
        refine lv_iinc (v := x5) (lv' := [(2, .int x5), (0, .ref (adr (g.1 + 189) 8 0)), (1, .int a1)]) hx hb dX8_drops_46 hl (k := 2) rfl (by rw [e_x5]; rfl) (by decide) rfl (fun ls hl => ?_)
        refine lv_goto (tgt := 13) hx hb dX8_drops_49 (by decide) ?_
        exact ih (x5) (md4) ls _ _ (lv_sub hl [1, 2, 0] rfl) hW hS hf
  exact L13 fuel (a1) (md1) ls _ _ (lv_sub hl [1, 2, 0] rfl) hW hS hf
abbrev rm_X8_dropRequest : Room := { frames := 2, cells := 0, slots := 0, locals := 46 }
set_option maxRecDepth 100000 in
set_option maxHeartbeats 4000000 in
theorem ct_X8_dropRequest (l : Launch) (g : GT) (hfl : 2 ≤ gf g) (w : WT) (md : SD) (mn : Nat → Int64) (mw : Int64) (a1 : Int32) {q : (Int32 × SD)} (hf : f_X8_dropRequest md a1 = some q) : Met l yX8_dropRequest wsX8_dropRequest rm_X8_dropRequest (cPre g (wM w md mn mw) [.ref (adr (g.1 + 189) 8 0), .int a1]) (cQi g q.1 (wM w q.2 mn mw)) 0 0 (gA g) := by
  have i_8 : ∀ w ∈ u_ws RX8 TX8 27, w ∈ wsX8_dropRequest := by decide +kernel
  refine x_met (by decide) rfl (Nat.le_of_ble_eq_true rfl) ?_
  intro p e s m below meth c hx hb hr hml hts hown hlocks hK hW hS ls hl
  have hown : s.vm.findClass RX8 = some m.cls := hown
  have hl : lv_has ls 3 [(0, .ref (adr (g.1 + 189) 8 0)), (1, .int a1)] := hl
  rw [f_X8_dropRequest] at hf
  refine lv_aload_n hx hb dX8_dropRequest_0 rfl (lv_at hl 0 rfl) ?_
  refine lv_iconst (v := 0) hx hb dX8_dropRequest_1 (by decide) ?_
  obtain ⟨md1, e_md1, hf⟩ := x_letE hf
  refine x_put (i := (g.1 + 189)) (k := 8) (j := 0) (t := 0) (w' := wM w md1 mn mw) hx hb hts i_8 tyX8 tyX8_ok nmX8 hown hK hW ⟨⟨hfl, rfl⟩, by decide⟩ hS rfl ⟨by decide, by decide, rfl⟩ (hts (.fieldLink RX8 51 "OpticalJukeboxModel" "thrown" "I") (by decide +kernel)) rfl (ty := .int) (by decide +kernel) rfl rfl ⟨rfl, rfl⟩ dX8_dropRequest_2 (fp_M e_md1 rfl) (fun H locs hW hS => ?_)
  refine lv_aload_n hx hb dX8_dropRequest_5 rfl (lv_at hl 0 rfl) ?_
  refine lv_iload_n hx hb dX8_dropRequest_6 rfl (lv_at hl 1 rfl) ?_
  obtain ⟨q2, h_q2, hf⟩ := x_bindE hf
  refine x_ci0 (x_rV ⟨hx, hb, hml, hown, hts⟩ (ct_X8_isRequest l g hfl w md1 mn mw (a1) h_q2) (cwV 1 hts gX8_dropRequest_X8_isRequest rfl rfl rfl (by decide +kernel) ⟨Nat.le_of_ble_eq_true rfl, Nat.le_of_ble_eq_true rfl⟩) hK hW hS (x_recv (i := (g.1 + 189)) (k := 8) (j := 0) hK hW ⟨⟨hfl, rfl⟩, by decide⟩ rfl (by decide)) rfl hl.1 (rest := []) rfl (Nat.le_of_ble_eq_true rfl) dX8_dropRequest_7 ⟨Nat.le_of_ble_eq_true rfl, Nat.le_of_ble_eq_true rfl⟩) hS (fun H locs hW hS => ?_)
  have hW : World g (wM w md1 mn mw) H := hW
  refine W.eq (g2 := F0 m 10 ls [.int q2]) rfl ?_
  refine lv_if_ne (tgt := 16) hx hb dX8_dropRequest_10 (by decide) (fun hc => ?_) (fun hc => ?_)
  · have hf := x_iteF hf hc
    refine lv_aload_n hx hb dX8_dropRequest_16 rfl (lv_at hl 0 rfl) ?_
    obtain ⟨q3, h_q3, hf⟩ := x_bindE hf
    refine x_cv0 (x_rV ⟨hx, hb, hml, hown, hts⟩ (ct_X8_remembers l g hfl w md1 mn mw  h_q3) (cwV 0 hts gX8_dropRequest_X8_remembers rfl rfl rfl (by decide +kernel) ⟨Nat.le_of_ble_eq_true rfl, Nat.le_of_ble_eq_true rfl⟩) hK hW hS (x_recv (i := (g.1 + 189)) (k := 8) (j := 0) hK hW ⟨⟨hfl, rfl⟩, by decide⟩ rfl (by decide)) rfl hl.1 (rest := []) rfl (Nat.le_of_ble_eq_true rfl) dX8_dropRequest_17 ⟨Nat.le_of_ble_eq_true rfl, Nat.le_of_ble_eq_true rfl⟩) hS (fun H locs hW hS => ?_)
    have hW : World g (wM w q3 mn mw) H := hW
    refine lv_aload_n hx hb dX8_dropRequest_20 rfl (lv_at hl 0 rfl) ?_
    refine x_get (i := (g.1 + 189)) (k := 8) (j := 0) (t := 1) hx hb hts i_8 hown hK hW ⟨⟨hfl, rfl⟩, by decide⟩ rfl ⟨by decide, by decide, rfl⟩ (hts (.fieldLink RX8 7 "OpticalJukeboxModel" "now" "[I") (by decide +kernel)) (v := .ref (adr (g.1 + 189) 30 0)) rfl dX8_dropRequest_21 ?_
    refine lv_sipush (v := 589) hx hb dX8_dropRequest_24 (by decide) ?_
    refine lv_iload_n hx hb dX8_dropRequest_27 rfl (lv_at hl 1 rfl) ?_
    refine lv_iadd hx hb dX8_dropRequest_28 ?_
    obtain ⟨hg4, hf⟩ := x_guardE hf
    refine x_iald (i := (g.1 + 189)) (k := 30) (j := 0) (f := q3 30 0) hx hb hK hW ⟨⟨hfl, rfl⟩, by decide⟩ (by decide) (rfl) rfl hg4 dX8_dropRequest_29 ?_
    obtain ⟨x5, e_x5, hf⟩ := x_letE hf
    refine x_topi e_x5 ?_
    refine lv_istore_n (lv' := [(2, .int x5), (0, .ref (adr (g.1 + 189) 8 0)), (1, .int a1)]) hx hb dX8_dropRequest_30 rfl hl (by decide) rfl (fun ls hl => ?_)
    refine lv_aload_n hx hb dX8_dropRequest_31 rfl (lv_at hl 1 rfl) ?_
    refine lv_iload_n hx hb dX8_dropRequest_32 rfl (lv_at hl 2 rfl) ?_
    obtain ⟨q6, h_q6, hf⟩ := x_bindE hf
    refine x_cv0 (x_rV ⟨hx, hb, hml, hown, hts⟩ (ct_X8_drops l g hfl w q3 mn mw (a1) h_q6) (cwV 1 hts gX8_dropRequest_X8_drops rfl rfl rfl (by decide +kernel) ⟨Nat.le_of_ble_eq_true rfl, Nat.le_of_ble_eq_true rfl⟩) hK hW hS (x_recv (i := (g.1 + 189)) (k := 8) (j := 0) hK hW ⟨⟨hfl, rfl⟩, by decide⟩ rfl (by decide)) rfl hl.1 (rest := []) rfl (Nat.le_of_ble_eq_true rfl) dX8_dropRequest_33 ⟨Nat.le_of_ble_eq_true rfl, Nat.le_of_ble_eq_true rfl⟩) hS (fun H locs hW hS => ?_)
    have hW : World g (wM w q6 mn mw) H := hW
    refine lv_iload_n hx hb dX8_dropRequest_36 rfl (lv_at hl 0 rfl) ?_
    cases hf
    exact x_iret hx hb hr hlocks hK hW hS rfl dX8_dropRequest_37
  · have hf := x_iteT hf hc
    refine lv_ldc (v := -1000001) hx hb hown (hts (.constant RX8 186 (-1000001)) (by decide +kernel)) dX8_dropRequest_13 ?_
    cases hf
    exact x_iret hx hb hr hlocks hK hW hS rfl dX8_dropRequest_15
abbrev rm_X8_serveBatch : Room := { frames := 8, cells := 0, slots := 0, locals := 174 }
set_option maxRecDepth 100000 in
set_option maxHeartbeats 4000000 in
theorem ct_X8_serveBatch (l : Launch) (g : GT) (hfl : 2 ≤ gf g) (w : WT) (md : SD) (mn : Nat → Int64) (mw : Int64) {q : (Int32 × SD)} (hf : f_X8_serveBatch md  = some q) : Met l yX8_serveBatch wsX8_serveBatch rm_X8_serveBatch (cPre g (wM w md mn mw) [.ref (adr (g.1 + 189) 8 0)]) (cQi g q.1 (wM w q.2 mn mw)) 0 0 (gA g) := by
  have i_8 : ∀ w ∈ u_ws RX8 TX8 27, w ∈ wsX8_serveBatch := by decide +kernel
  refine x_met (by decide) rfl (Nat.le_of_ble_eq_true rfl) ?_
  intro p e s m below meth c hx hb hr hml hts hown hlocks hK hW hS ls hl
  have hown : s.vm.findClass RX8 = some m.cls := hown
  have hl : lv_has ls 3 [(0, .ref (adr (g.1 + 189) 8 0))] := hl
  rw [f_X8_serveBatch] at hf
  refine lv_aload_n hx hb dX8_serveBatch_0 rfl (lv_at hl 0 rfl) ?_
  refine lv_iconst (v := 0) hx hb dX8_serveBatch_1 (by decide) ?_
  obtain ⟨md1, e_md1, hf⟩ := x_letE hf
  refine x_put (i := (g.1 + 189)) (k := 8) (j := 0) (t := 0) (w' := wM w md1 mn mw) hx hb hts i_8 tyX8 tyX8_ok nmX8 hown hK hW ⟨⟨hfl, rfl⟩, by decide⟩ hS rfl ⟨by decide, by decide, rfl⟩ (hts (.fieldLink RX8 51 "OpticalJukeboxModel" "thrown" "I") (by decide +kernel)) rfl (ty := .int) (by decide +kernel) rfl rfl ⟨rfl, rfl⟩ dX8_serveBatch_2 (fp_M e_md1 rfl) (fun H locs hW hS => ?_)
  refine lv_aload_n hx hb dX8_serveBatch_5 rfl (lv_at hl 0 rfl) ?_
  refine lv_iconst (v := 1) hx hb dX8_serveBatch_6 (by decide) ?_
  obtain ⟨q2, h_q2, hf⟩ := x_bindE hf
  refine x_ci0 (x_rV ⟨hx, hb, hml, hown, hts⟩ (ct_X8_whyNotServed l g hfl w md1 mn mw ((1 : Int32)) h_q2) (cwV 1 hts gX8_serveBatch_X8_whyNotServed rfl rfl rfl (by decide +kernel) ⟨Nat.le_of_ble_eq_true rfl, Nat.le_of_ble_eq_true rfl⟩) hK hW hS (x_recv (i := (g.1 + 189)) (k := 8) (j := 0) hK hW ⟨⟨hfl, rfl⟩, by decide⟩ rfl (by decide)) rfl hl.1 (rest := []) rfl (Nat.le_of_ble_eq_true rfl) dX8_serveBatch_7 ⟨Nat.le_of_ble_eq_true rfl, Nat.le_of_ble_eq_true rfl⟩) hS (fun H locs hW hS => ?_)
  have hW : World g (wM w md1 mn mw) H := hW
  refine W.eq (g2 := F0 m 10 ls [.int q2]) rfl ?_
  refine lv_istore_n (lv' := [(1, .int q2), (0, .ref (adr (g.1 + 189) 8 0))]) hx hb dX8_serveBatch_10 rfl hl (by decide) rfl (fun ls hl => ?_)
  refine lv_iload_n hx hb dX8_serveBatch_11 rfl (lv_at hl 0 rfl) ?_
  refine lv_if_eq (tgt := 17) hx hb dX8_serveBatch_12 (by decide) (fun hc => ?_) (fun hc => ?_)
  · have hf := x_iteT hf hc
    refine lv_aload_n hx hb dX8_serveBatch_17 rfl (lv_at hl 1 rfl) ?_
    obtain ⟨q3, h_q3, hf⟩ := x_bindE hf
    refine x_cv0 (x_rV ⟨hx, hb, hml, hown, hts⟩ (ct_X8_remembers l g hfl w md1 mn mw  h_q3) (cwV 0 hts gX8_serveBatch_X8_remembers rfl rfl rfl (by decide +kernel) ⟨Nat.le_of_ble_eq_true rfl, Nat.le_of_ble_eq_true rfl⟩) hK hW hS (x_recv (i := (g.1 + 189)) (k := 8) (j := 0) hK hW ⟨⟨hfl, rfl⟩, by decide⟩ rfl (by decide)) rfl hl.1 (rest := []) rfl (Nat.le_of_ble_eq_true rfl) dX8_serveBatch_18 ⟨Nat.le_of_ble_eq_true rfl, Nat.le_of_ble_eq_true rfl⟩) hS (fun H locs hW hS => ?_)
    have hW : World g (wM w q3 mn mw) H := hW
    refine lv_aload_n hx hb dX8_serveBatch_21 rfl (lv_at hl 1 rfl) ?_
    refine x_get (i := (g.1 + 189)) (k := 8) (j := 0) (t := 1) hx hb hts i_8 hown hK hW ⟨⟨hfl, rfl⟩, by decide⟩ rfl ⟨by decide, by decide, rfl⟩ (hts (.fieldLink RX8 7 "OpticalJukeboxModel" "now" "[I") (by decide +kernel)) (v := .ref (adr (g.1 + 189) 30 0)) rfl dX8_serveBatch_22 ?_
    refine lv_bipush (v := 12) hx hb dX8_serveBatch_25 (by decide) ?_
    refine x_iald (i := (g.1 + 189)) (k := 30) (j := 0) (f := q3 30 0) hx hb hK hW ⟨⟨hfl, rfl⟩, by decide⟩ (by decide) (rfl) rfl (by unfold vp_in; decide) dX8_serveBatch_27 ?_
    refine W.eq (g2 := F0 m 28 ls [.int (q3 30 0 12)]) rfl ?_
    obtain ⟨x4, e_x4, hf⟩ := x_letE hf
    refine x_topi e_x4 ?_
    refine lv_istore_n (lv' := [(2, .int x4), (1, .int q2), (0, .ref (adr (g.1 + 189) 8 0))]) hx hb dX8_serveBatch_28 rfl hl (by decide) rfl (fun ls hl => ?_)
    refine lv_aload_n hx hb dX8_serveBatch_29 rfl (lv_at hl 2 rfl) ?_
    obtain ⟨q5, h_q5, hf⟩ := x_bindE hf
    refine x_cv0 (x_rV ⟨hx, hb, hml, hown, hts⟩ (ct_X8_serves l g hfl w q3 mn mw  h_q5) (cwV 0 hts gX8_serveBatch_X8_serves rfl rfl rfl (by decide +kernel) ⟨Nat.le_of_ble_eq_true rfl, Nat.le_of_ble_eq_true rfl⟩) hK hW hS (x_recv (i := (g.1 + 189)) (k := 8) (j := 0) hK hW ⟨⟨hfl, rfl⟩, by decide⟩ rfl (by decide)) rfl hl.1 (rest := []) rfl (Nat.le_of_ble_eq_true rfl) dX8_serveBatch_30 ⟨Nat.le_of_ble_eq_true rfl, Nat.le_of_ble_eq_true rfl⟩) hS (fun H locs hW hS => ?_)
    have hW : World g (wM w q5 mn mw) H := hW
    refine lv_aload_n hx hb dX8_serveBatch_33 rfl (lv_at hl 2 rfl) ?_
    refine lv_iload_n hx hb dX8_serveBatch_34 rfl (lv_at hl 0 rfl) ?_
    obtain ⟨q6, h_q6, hf⟩ := x_bindE hf
    refine x_ci0 (x_rV ⟨hx, hb, hml, hown, hts⟩ (ct_X8_took l g hfl w q5 mn mw (x4) h_q6) (cwV 1 hts gX8_serveBatch_X8_took rfl rfl rfl (by decide +kernel) ⟨Nat.le_of_ble_eq_true rfl, Nat.le_of_ble_eq_true rfl⟩) hK hW hS (x_recv (i := (g.1 + 189)) (k := 8) (j := 0) hK hW ⟨⟨hfl, rfl⟩, by decide⟩ rfl (by decide)) rfl hl.1 (rest := []) rfl (Nat.le_of_ble_eq_true rfl) dX8_serveBatch_35 ⟨Nat.le_of_ble_eq_true rfl, Nat.le_of_ble_eq_true rfl⟩) hS (fun H locs hW hS => ?_)
    have hW : World g (wM w q5 mn mw) H := hW
    refine W.eq (g2 := F0 m 38 ls [.int q6]) rfl ?_
    cases hf
    exact x_iret hx hb hr hlocks hK hW hS rfl dX8_serveBatch_38
  · have hf := x_iteF hf hc
    refine lv_iload_n hx hb dX8_serveBatch_15 rfl (lv_at hl 0 rfl) ?_
    cases hf
    exact x_iret hx hb hr hlocks hK hW hS rfl dX8_serveBatch_16
abbrev rm_X8_undo : Room := { frames := 0, cells := 0, slots := 0, locals := 0 }
set_option maxRecDepth 100000 in
set_option maxHeartbeats 4000000 in
theorem ct_X8_undo (l : Launch) (g : GT) (hfl : 2 ≤ gf g) (w : WT) (md : SD) (mn : Nat → Int64) (mw : Int64) {q : (Int32 × SD)} (hf : f_X8_undo md  = some q) : Met l yX8_undo wsX8_undo rm_X8_undo (cPre g (wM w md mn mw) [.ref (adr (g.1 + 189) 8 0)]) (cQi g q.1 (wM w q.2 mn mw)) 0 0 (gA g) := by
  have i_8 : ∀ w ∈ u_ws RX8 TX8 27, w ∈ wsX8_undo := by decide +kernel
  refine x_met (by decide) rfl (Nat.le_of_ble_eq_true rfl) ?_
  intro p e s m below meth c hx hb hr hml hts hown hlocks hK hW hS ls hl
  have hown : s.vm.findClass RX8 = some m.cls := hown
  have hl : lv_has ls 2 [(0, .ref (adr (g.1 + 189) 8 0))] := hl
  rw [f_X8_undo] at hf
  refine lv_aload_n hx hb dX8_undo_0 rfl (lv_at hl 0 rfl) ?_
  refine lv_iconst (v := 0) hx hb dX8_undo_1 (by decide) ?_
  obtain ⟨md1, e_md1, hf⟩ := x_letE hf
  refine x_put (i := (g.1 + 189)) (k := 8) (j := 0) (t := 0) (w' := wM w md1 mn mw) hx hb hts i_8 tyX8 tyX8_ok nmX8 hown hK hW ⟨⟨hfl, rfl⟩, by decide⟩ hS rfl ⟨by decide, by decide, rfl⟩ (hts (.fieldLink RX8 51 "OpticalJukeboxModel" "thrown" "I") (by decide +kernel)) rfl (ty := .int) (by decide +kernel) rfl rfl ⟨rfl, rfl⟩ dX8_undo_2 (fp_M e_md1 rfl) (fun H locs hW hS => ?_)
  refine lv_aload_n hx hb dX8_undo_5 rfl (lv_at hl 0 rfl) ?_
  refine x_get (i := (g.1 + 189)) (k := 8) (j := 0) (t := 5) hx hb hts i_8 hown hK hW ⟨⟨hfl, rfl⟩, by decide⟩ rfl ⟨by decide, by decide, rfl⟩ (hts (.fieldLink RX8 54 "OpticalJukeboxModel" "edits" "I") (by decide +kernel)) (rfl) dX8_undo_6 ?_
  refine lv_if_ne (tgt := 15) hx hb dX8_undo_9 (by decide) (fun hc => ?_) (fun hc => ?_)
  · have hf := x_iteF hf hc
    refine lv_aload_n hx hb dX8_undo_15 rfl (lv_at hl 0 rfl) ?_
    refine lv_dup hx hb dX8_undo_16 rfl ?_
    refine x_get (i := (g.1 + 189)) (k := 8) (j := 0) (t := 5) hx hb hts i_8 hown hK hW ⟨⟨hfl, rfl⟩, by decide⟩ rfl ⟨by decide, by decide, rfl⟩ (hts (.fieldLink RX8 54 "OpticalJukeboxModel" "edits" "I") (by decide +kernel)) (rfl) dX8_undo_17 ?_
    refine lv_iconst (v := 1) hx hb dX8_undo_20 (by decide) ?_
    refine lv_isub hx hb dX8_undo_21 ?_
    obtain ⟨md2, e_md2, hf⟩ := x_letE hf
    refine x_put (i := (g.1 + 189)) (k := 8) (j := 0) (t := 5) (w' := wM w md2 mn mw) hx hb hts i_8 tyX8 tyX8_ok nmX8 hown hK hW ⟨⟨hfl, rfl⟩, by decide⟩ hS rfl ⟨by decide, by decide, rfl⟩ (hts (.fieldLink RX8 54 "OpticalJukeboxModel" "edits" "I") (by decide +kernel)) rfl (ty := .int) (by decide +kernel) rfl rfl ⟨rfl, rfl⟩ dX8_undo_22 (fp_M e_md2 rfl) (fun H locs hW hS => ?_)
    refine lv_iconst (v := 0) hx hb dX8_undo_25 (by decide) ?_
    refine lv_istore_n (lv' := [(1, .int (0 : Int32)), (0, .ref (adr (g.1 + 189) 8 0))]) hx hb dX8_undo_26 rfl hl (by decide) rfl (fun ls hl => ?_)
    have L27 : ∀ (n : Nat) (v1_27 : Int32) (md_27 : SD) (ls : Array Slot) (H : Heap) (locs : List Loc), lv_has ls 2 [(0, .ref (adr (g.1 + 189) 8 0)), (1, .int v1_27)] → World g (wM w md_27 mn mw) H → va_S (gA g) s.heap H locs → f_X8_undo_L27  n v1_27 md_27 = some q → W p l e rm_X8_undo s m [.ref (adr (g.1 + 189) 8 0)].toArray below meth c H locs 0 0 (MQ below (cQi g q.1 (wM w q.2 mn mw)) [.ref (adr (g.1 + 189) 8 0)].toArray s 0 0 (gA g)) (F0 m 27 ls []) := by
      clear hW hS hl
      intro n
      induction n with
      | zero => intro v1_27 md_27 ls H locs hl hW hS hf; cases hf
      | succ n_27 ih =>
        intro v1_27 md_27 ls H locs hl hW hS hf
        rw [f_X8_undo_L27] at hf
        refine lv_iload_n hx hb dX8_undo_27 rfl (lv_at hl 1 rfl) ?_
        refine lv_sipush (v := 605) hx hb dX8_undo_28 (by decide) ?_
        refine lv_icmp_ge (tgt := 61) hx hb dX8_undo_31 (by decide) (fun hc => ?_) (fun hc => ?_)
        · have hf := x_iteT hf hc
          refine lv_aload_n hx hb dX8_undo_61 rfl (lv_at hl 0 rfl) ?_
          refine x_get (i := (g.1 + 189)) (k := 8) (j := 0) (t := 5) hx hb hts i_8 hown hK hW ⟨⟨hfl, rfl⟩, by decide⟩ rfl ⟨by decide, by decide, rfl⟩ (hts (.fieldLink RX8 54 "OpticalJukeboxModel" "edits" "I") (by decide +kernel)) (rfl) dX8_undo_62 ?_
          cases hf
          exact x_iret hx hb hr hlocks hK hW hS rfl dX8_undo_65
        · have hf := x_iteF hf hc
          refine lv_aload_n hx hb dX8_undo_34 rfl (lv_at hl 0 rfl) ?_
          refine x_get (i := (g.1 + 189)) (k := 8) (j := 0) (t := 1) hx hb hts i_8 hown hK hW ⟨⟨hfl, rfl⟩, by decide⟩ rfl ⟨by decide, by decide, rfl⟩ (hts (.fieldLink RX8 7 "OpticalJukeboxModel" "now" "[I") (by decide +kernel)) (v := .ref (adr (g.1 + 189) 30 0)) rfl dX8_undo_35 ?_
          refine lv_iload_n hx hb dX8_undo_38 rfl (lv_at hl 1 rfl) ?_
          refine lv_aload_n hx hb dX8_undo_39 rfl (lv_at hl 0 rfl) ?_
          refine x_get (i := (g.1 + 189)) (k := 8) (j := 0) (t := 4) hx hb hts i_8 hown hK hW ⟨⟨hfl, rfl⟩, by decide⟩ rfl ⟨by decide, by decide, rfl⟩ (hts (.fieldLink RX8 19 "OpticalJukeboxModel" "past" "[I") (by decide +kernel)) (v := .ref (adr (g.1 + 189) 33 0)) rfl dX8_undo_40 ?_
          refine lv_sipush (v := 605) hx hb dX8_undo_43 (by decide) ?_
          refine lv_aload_n hx hb dX8_undo_46 rfl (lv_at hl 0 rfl) ?_
          refine x_get (i := (g.1 + 189)) (k := 8) (j := 0) (t := 5) hx hb hts i_8 hown hK hW ⟨⟨hfl, rfl⟩, by decide⟩ rfl ⟨by decide, by decide, rfl⟩ (hts (.fieldLink RX8 54 "OpticalJukeboxModel" "edits" "I") (by decide +kernel)) (rfl) dX8_undo_47 ?_
          refine lv_imul hx hb dX8_undo_50 ?_
          refine lv_iload_n hx hb dX8_undo_51 rfl (lv_at hl 1 rfl) ?_
          refine lv_iadd hx hb dX8_undo_52 ?_
          obtain ⟨hg3, hf⟩ := x_guardE hf
          refine x_iald (i := (g.1 + 189)) (k := 33) (j := 0) (f := md_27 33 0) hx hb hK hW ⟨⟨hfl, rfl⟩, by decide⟩ (by decide) (rfl) rfl hg3 dX8_undo_53 ?_
          obtain ⟨hg4, hf⟩ := x_guardE hf
          obtain ⟨md5, e_md5, hf⟩ := x_letE hf
          refine x_iast (i := (g.1 + 189)) (k := 30) (j := 0) (w' := wM w md5 mn mw) hx hb hK hW ⟨⟨hfl, rfl⟩, by decide⟩ hS (by decide) rfl rfl rfl hg4 dX8_undo_54 (fp_M e_md5 rfl) (fun H locs hW hS => ?_)
          obtain ⟨x6, e_x6, hf⟩ := x_letE hf
          refine lv_iinc (v := x6) (lv' := [(1, .int x6), (0, .ref (adr (g.1 + 189) 8 0))]) hx hb dX8_undo_55 hl (k := 1) rfl (by rw [e_x6]; rfl) (by decide) rfl (fun ls hl => ?_)
          refine lv_goto (tgt := 27) hx hb dX8_undo_58 (by decide) ?_
          exact ih (x6) (md5) ls _ _ (lv_sub hl [1, 0] rfl) hW hS hf
    exact L27 fuel ((0 : Int32)) (md2) ls _ _ (lv_sub hl [1, 0] rfl) hW hS hf
  · have hf := x_iteT hf hc
    refine lv_ldc (v := -1000005) hx hb hown (hts (.constant RX8 42 (-1000005)) (by decide +kernel)) dX8_undo_12 ?_
    cases hf
    exact x_iret hx hb hr hlocks hK hW hS rfl dX8_undo_14
abbrev rm_X8_requestedFile : Room := { frames := 2, cells := 0, slots := 0, locals := 46 }
set_option maxRecDepth 100000 in
set_option maxHeartbeats 4000000 in
theorem ct_X8_requestedFile (l : Launch) (g : GT) (hfl : 2 ≤ gf g) (w : WT) (md : SD) (mn : Nat → Int64) (mw : Int64) (a1 : Int32) {q : (Int32 × SD)} (hf : f_X8_requestedFile md a1 = some q) : Met l yX8_requestedFile wsX8_requestedFile rm_X8_requestedFile (cPre g (wM w md mn mw) [.ref (adr (g.1 + 189) 8 0), .int a1]) (cQi g q.1 (wM w q.2 mn mw)) 0 0 (gA g) := by
  have i_8 : ∀ w ∈ u_ws RX8 TX8 27, w ∈ wsX8_requestedFile := by decide +kernel
  refine x_met (by decide) rfl (Nat.le_of_ble_eq_true rfl) ?_
  intro p e s m below meth c hx hb hr hml hts hown hlocks hK hW hS ls hl
  have hown : s.vm.findClass RX8 = some m.cls := hown
  have hl : lv_has ls 2 [(0, .ref (adr (g.1 + 189) 8 0)), (1, .int a1)] := hl
  rw [f_X8_requestedFile] at hf
  refine lv_aload_n hx hb dX8_requestedFile_0 rfl (lv_at hl 0 rfl) ?_
  refine lv_iconst (v := 0) hx hb dX8_requestedFile_1 (by decide) ?_
  obtain ⟨md1, e_md1, hf⟩ := x_letE hf
  refine x_put (i := (g.1 + 189)) (k := 8) (j := 0) (t := 0) (w' := wM w md1 mn mw) hx hb hts i_8 tyX8 tyX8_ok nmX8 hown hK hW ⟨⟨hfl, rfl⟩, by decide⟩ hS rfl ⟨by decide, by decide, rfl⟩ (hts (.fieldLink RX8 51 "OpticalJukeboxModel" "thrown" "I") (by decide +kernel)) rfl (ty := .int) (by decide +kernel) rfl rfl ⟨rfl, rfl⟩ dX8_requestedFile_2 (fp_M e_md1 rfl) (fun H locs hW hS => ?_)
  refine lv_aload_n hx hb dX8_requestedFile_5 rfl (lv_at hl 0 rfl) ?_
  refine lv_iload_n hx hb dX8_requestedFile_6 rfl (lv_at hl 1 rfl) ?_
  obtain ⟨q2, h_q2, hf⟩ := x_bindE hf
  refine x_ci0 (x_rV ⟨hx, hb, hml, hown, hts⟩ (ct_X8_isRequest l g hfl w md1 mn mw (a1) h_q2) (cwV 1 hts gX8_requestedFile_X8_isRequest rfl rfl rfl (by decide +kernel) ⟨Nat.le_of_ble_eq_true rfl, Nat.le_of_ble_eq_true rfl⟩) hK hW hS (x_recv (i := (g.1 + 189)) (k := 8) (j := 0) hK hW ⟨⟨hfl, rfl⟩, by decide⟩ rfl (by decide)) rfl hl.1 (rest := []) rfl (Nat.le_of_ble_eq_true rfl) dX8_requestedFile_7 ⟨Nat.le_of_ble_eq_true rfl, Nat.le_of_ble_eq_true rfl⟩) hS (fun H locs hW hS => ?_)
  have hW : World g (wM w md1 mn mw) H := hW
  refine W.eq (g2 := F0 m 10 ls [.int q2]) rfl ?_
  refine lv_if_eq (tgt := 26) hx hb dX8_requestedFile_10 (by decide) (fun hc => ?_) (fun hc => ?_)
  · have hf := x_iteT hf hc
    refine lv_ldc (v := -1000001) hx hb hown (hts (.constant RX8 186 (-1000001)) (by decide +kernel)) dX8_requestedFile_26 ?_
    cases hf
    exact x_iret hx hb hr hlocks hK hW hS rfl dX8_requestedFile_28
  · have hf := x_iteF hf hc
    refine lv_aload_n hx hb dX8_requestedFile_13 rfl (lv_at hl 0 rfl) ?_
    refine x_get (i := (g.1 + 189)) (k := 8) (j := 0) (t := 1) hx hb hts i_8 hown hK hW ⟨⟨hfl, rfl⟩, by decide⟩ rfl ⟨by decide, by decide, rfl⟩ (hts (.fieldLink RX8 7 "OpticalJukeboxModel" "now" "[I") (by decide +kernel)) (v := .ref (adr (g.1 + 189) 30 0)) rfl dX8_requestedFile_14 ?_
    refine lv_sipush (v := 589) hx hb dX8_requestedFile_17 (by decide) ?_
    refine lv_iload_n hx hb dX8_requestedFile_20 rfl (lv_at hl 1 rfl) ?_
    refine lv_iadd hx hb dX8_requestedFile_21 ?_
    obtain ⟨hg3, hf⟩ := x_guardE hf
    refine x_iald (i := (g.1 + 189)) (k := 30) (j := 0) (f := md1 30 0) hx hb hK hW ⟨⟨hfl, rfl⟩, by decide⟩ (by decide) (rfl) rfl hg3 dX8_requestedFile_22 ?_
    refine lv_goto (tgt := 28) hx hb dX8_requestedFile_23 (by decide) ?_
    cases hf
    exact x_iret hx hb hr hlocks hK hW hS rfl dX8_requestedFile_28
abbrev rm_X8_batchTime : Room := { frames := 9, cells := 0, slots := 0, locals := 194 }
set_option maxRecDepth 100000 in
set_option maxHeartbeats 4000000 in
theorem ct_X8_batchTime (l : Launch) (g : GT) (hfl : 2 ≤ gf g) (w : WT) (md : SD) (mn : Nat → Int64) (mw : Int64) {q : (Int32 × SD)} (hf : f_X8_batchTime md  = some q) : Met l yX8_batchTime wsX8_batchTime rm_X8_batchTime (cPre g (wM w md mn mw) [.ref (adr (g.1 + 189) 8 0)]) (cQi g q.1 (wM w q.2 mn mw)) 0 0 (gA g) := by
  have i_8 : ∀ w ∈ u_ws RX8 TX8 27, w ∈ wsX8_batchTime := by decide +kernel
  refine x_met (by decide) rfl (Nat.le_of_ble_eq_true rfl) ?_
  intro p e s m below meth c hx hb hr hml hts hown hlocks hK hW hS ls hl
  have hown : s.vm.findClass RX8 = some m.cls := hown
  have hl : lv_has ls 2 [(0, .ref (adr (g.1 + 189) 8 0))] := hl
  rw [f_X8_batchTime] at hf
  refine lv_aload_n hx hb dX8_batchTime_0 rfl (lv_at hl 0 rfl) ?_
  refine lv_iconst (v := 0) hx hb dX8_batchTime_1 (by decide) ?_
  obtain ⟨md1, e_md1, hf⟩ := x_letE hf
  refine x_put (i := (g.1 + 189)) (k := 8) (j := 0) (t := 0) (w' := wM w md1 mn mw) hx hb hts i_8 tyX8 tyX8_ok nmX8 hown hK hW ⟨⟨hfl, rfl⟩, by decide⟩ hS rfl ⟨by decide, by decide, rfl⟩ (hts (.fieldLink RX8 51 "OpticalJukeboxModel" "thrown" "I") (by decide +kernel)) rfl (ty := .int) (by decide +kernel) rfl rfl ⟨rfl, rfl⟩ dX8_batchTime_2 (fp_M e_md1 rfl) (fun H locs hW hS => ?_)
  refine lv_aload_n hx hb dX8_batchTime_5 rfl (lv_at hl 0 rfl) ?_
  refine lv_iconst (v := 1) hx hb dX8_batchTime_6 (by decide) ?_
  obtain ⟨q2, h_q2, hf⟩ := x_bindE hf
  refine x_ci0 (x_rV ⟨hx, hb, hml, hown, hts⟩ (ct_X8_whyNotServed l g hfl w md1 mn mw ((1 : Int32)) h_q2) (cwV 1 hts gX8_batchTime_X8_whyNotServed rfl rfl rfl (by decide +kernel) ⟨Nat.le_of_ble_eq_true rfl, Nat.le_of_ble_eq_true rfl⟩) hK hW hS (x_recv (i := (g.1 + 189)) (k := 8) (j := 0) hK hW ⟨⟨hfl, rfl⟩, by decide⟩ rfl (by decide)) rfl hl.1 (rest := []) rfl (Nat.le_of_ble_eq_true rfl) dX8_batchTime_7 ⟨Nat.le_of_ble_eq_true rfl, Nat.le_of_ble_eq_true rfl⟩) hS (fun H locs hW hS => ?_)
  have hW : World g (wM w md1 mn mw) H := hW
  refine W.eq (g2 := F0 m 10 ls [.int q2]) rfl ?_
  refine lv_istore_n (lv' := [(1, .int q2), (0, .ref (adr (g.1 + 189) 8 0))]) hx hb dX8_batchTime_10 rfl hl (by decide) rfl (fun ls hl => ?_)
  refine lv_iload_n hx hb dX8_batchTime_11 rfl (lv_at hl 0 rfl) ?_
  refine lv_if_eq (tgt := 19) hx hb dX8_batchTime_12 (by decide) (fun hc => ?_) (fun hc => ?_)
  · have hf := x_iteT hf hc
    refine lv_aload_n hx hb dX8_batchTime_19 rfl (lv_at hl 1 rfl) ?_
    obtain ⟨q3, h_q3, hf⟩ := x_bindE hf
    refine x_ci0 (x_rV ⟨hx, hb, hml, hown, hts⟩ (ct_X8_servingTime l g hfl w md1 mn mw  h_q3) (cwV 0 hts gX8_batchTime_X8_servingTime rfl rfl rfl (by decide +kernel) ⟨Nat.le_of_ble_eq_true rfl, Nat.le_of_ble_eq_true rfl⟩) hK hW hS (x_recv (i := (g.1 + 189)) (k := 8) (j := 0) hK hW ⟨⟨hfl, rfl⟩, by decide⟩ rfl (by decide)) rfl hl.1 (rest := []) rfl (Nat.le_of_ble_eq_true rfl) dX8_batchTime_20 ⟨Nat.le_of_ble_eq_true rfl, Nat.le_of_ble_eq_true rfl⟩) hS (fun H locs hW hS => ?_)
    have hW : World g (wM w q3.2 mn mw) H := hW
    refine W.eq (g2 := F0 m 23 ls [.int q3.1]) rfl ?_
    cases hf
    exact x_iret hx hb hr hlocks hK hW hS rfl dX8_batchTime_23
  · have hf := x_iteF hf hc
    refine lv_iload_n hx hb dX8_batchTime_15 rfl (lv_at hl 0 rfl) ?_
    refine lv_goto (tgt := 23) hx hb dX8_batchTime_16 (by decide) ?_
    cases hf
    exact x_iret hx hb hr hlocks hK hW hS rfl dX8_batchTime_23
