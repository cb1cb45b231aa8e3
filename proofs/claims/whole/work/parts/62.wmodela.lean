theorem dX8_defaults_0 : decode cX8_defaults 0 = .ok (.iconst 0, 1) := by decide +kernel
theorem dX8_defaults_1 : decode cX8_defaults 1 = .ok (.istore_n 1, 1) := by decide +kernel
theorem dX8_defaults_2 : decode cX8_defaults 2 = .ok (.iload_n 1, 1) := by decide +kernel
theorem dX8_defaults_3 : decode cX8_defaults 3 = .ok (.sipush 605, 3) := by decide +kernel
theorem dX8_defaults_6 : decode cX8_defaults 6 = .ok (.if_icmp .ge 13, 3) := by decide +kernel
theorem dX8_defaults_9 : decode cX8_defaults 9 = .ok (.aload_n 0, 1) := by decide +kernel
theorem dX8_defaults_10 : decode cX8_defaults 10 = .ok (.iload_n 1, 1) := by decide +kernel
theorem dX8_defaults_11 : decode cX8_defaults 11 = .ok (.iconst 0, 1) := by decide +kernel
theorem dX8_defaults_12 : decode cX8_defaults 12 = .ok (.iastore, 1) := by decide +kernel
theorem dX8_defaults_13 : decode cX8_defaults 13 = .ok (.iinc 1 1, 3) := by decide +kernel
theorem dX8_defaults_16 : decode cX8_defaults 16 = .ok (.goto (-14), 3) := by decide +kernel
theorem dX8_defaults_19 : decode cX8_defaults 19 = .ok (.iconst 0, 1) := by decide +kernel
theorem dX8_defaults_20 : decode cX8_defaults 20 = .ok (.istore_n 1, 1) := by decide +kernel
theorem dX8_defaults_21 : decode cX8_defaults 21 = .ok (.iload_n 1, 1) := by decide +kernel
theorem dX8_defaults_22 : decode cX8_defaults 22 = .ok (.iconst 4, 1) := by decide +kernel
theorem dX8_defaults_23 : decode cX8_defaults 23 = .ok (.if_icmp .ge 16, 3) := by decide +kernel
theorem dX8_defaults_26 : decode cX8_defaults 26 = .ok (.aload_n 0, 1) := by decide +kernel
theorem dX8_defaults_27 : decode cX8_defaults 27 = .ok (.bipush 21, 2) := by decide +kernel
theorem dX8_defaults_29 : decode cX8_defaults 29 = .ok (.iload_n 1, 1) := by decide +kernel
theorem dX8_defaults_30 : decode cX8_defaults 30 = .ok (.iadd, 1) := by decide +kernel
theorem dX8_defaults_31 : decode cX8_defaults 31 = .ok (.iconst (-1), 1) := by decide +kernel
theorem dX8_defaults_32 : decode cX8_defaults 32 = .ok (.iastore, 1) := by decide +kernel
theorem dX8_defaults_33 : decode cX8_defaults 33 = .ok (.iinc 1 1, 3) := by decide +kernel
theorem dX8_defaults_36 : decode cX8_defaults 36 = .ok (.goto (-15), 3) := by decide +kernel
theorem dX8_defaults_39 : decode cX8_defaults 39 = .ok (.aload_n 0, 1) := by decide +kernel
theorem dX8_defaults_40 : decode cX8_defaults 40 = .ok (.iconst 0, 1) := by decide +kernel
theorem dX8_defaults_41 : decode cX8_defaults 41 = .ok (.bipush 12, 2) := by decide +kernel
theorem dX8_defaults_43 : decode cX8_defaults 43 = .ok (.iastore, 1) := by decide +kernel
theorem dX8_defaults_44 : decode cX8_defaults 44 = .ok (.aload_n 0, 1) := by decide +kernel
theorem dX8_defaults_45 : decode cX8_defaults 45 = .ok (.iconst 1, 1) := by decide +kernel
theorem dX8_defaults_46 : decode cX8_defaults 46 = .ok (.iconst 1, 1) := by decide +kernel
theorem dX8_defaults_47 : decode cX8_defaults 47 = .ok (.iastore, 1) := by decide +kernel
theorem dX8_defaults_48 : decode cX8_defaults 48 = .ok (.aload_n 0, 1) := by decide +kernel
theorem dX8_defaults_49 : decode cX8_defaults 49 = .ok (.iconst 2, 1) := by decide +kernel
theorem dX8_defaults_50 : decode cX8_defaults 50 = .ok (.iconst 2, 1) := by decide +kernel
theorem dX8_defaults_51 : decode cX8_defaults 51 = .ok (.iastore, 1) := by decide +kernel
theorem dX8_defaults_52 : decode cX8_defaults 52 = .ok (.aload_n 0, 1) := by decide +kernel
theorem dX8_defaults_53 : decode cX8_defaults 53 = .ok (.iconst 3, 1) := by decide +kernel
theorem dX8_defaults_54 : decode cX8_defaults 54 = .ok (.iconst 5, 1) := by decide +kernel
theorem dX8_defaults_55 : decode cX8_defaults 55 = .ok (.iastore, 1) := by decide +kernel
theorem dX8_defaults_56 : decode cX8_defaults 56 = .ok (.aload_n 0, 1) := by decide +kernel
theorem dX8_defaults_57 : decode cX8_defaults 57 = .ok (.iconst 4, 1) := by decide +kernel
theorem dX8_defaults_58 : decode cX8_defaults 58 = .ok (.iconst 1, 1) := by decide +kernel
theorem dX8_defaults_59 : decode cX8_defaults 59 = .ok (.iastore, 1) := by decide +kernel
theorem dX8_defaults_60 : decode cX8_defaults 60 = .ok (.aload_n 0, 1) := by decide +kernel
theorem dX8_defaults_61 : decode cX8_defaults 61 = .ok (.iconst 5, 1) := by decide +kernel
theorem dX8_defaults_62 : decode cX8_defaults 62 = .ok (.iconst 3, 1) := by decide +kernel
theorem dX8_defaults_63 : decode cX8_defaults 63 = .ok (.iastore, 1) := by decide +kernel
theorem dX8_defaults_64 : decode cX8_defaults 64 = .ok (.return_, 1) := by decide +kernel
theorem dX8_isIn_0 : decode cX8_isIn 0 = .ok (.lload_n 0, 1) := by decide +kernel
theorem dX8_isIn_1 : decode cX8_isIn 1 = .ok (.lload_n 2, 1) := by decide +kernel
theorem dX8_isIn_2 : decode cX8_isIn 2 = .ok (.lcmp, 1) := by decide +kernel
theorem dX8_isIn_3 : decode cX8_isIn 3 = .ok (.ifCond .lt 14, 3) := by decide +kernel
theorem dX8_isIn_6 : decode cX8_isIn 6 = .ok (.lload_n 0, 1) := by decide +kernel
theorem dX8_isIn_7 : decode cX8_isIn 7 = .ok (.lload 4, 2) := by decide +kernel
theorem dX8_isIn_9 : decode cX8_isIn 9 = .ok (.lcmp, 1) := by decide +kernel
theorem dX8_isIn_10 : decode cX8_isIn 10 = .ok (.ifCond .gt 7, 3) := by decide +kernel
theorem dX8_isIn_13 : decode cX8_isIn 13 = .ok (.iconst 1, 1) := by decide +kernel
theorem dX8_isIn_14 : decode cX8_isIn 14 = .ok (.goto 4, 3) := by decide +kernel
theorem dX8_isIn_17 : decode cX8_isIn 17 = .ok (.iconst 0, 1) := by decide +kernel
theorem dX8_isIn_18 : decode cX8_isIn 18 = .ok (.ireturn, 1) := by decide +kernel
theorem dX8_far_0 : decode cX8_far 0 = .ok (.iload_n 0, 1) := by decide +kernel
theorem dX8_far_1 : decode cX8_far 1 = .ok (.iload_n 1, 1) := by decide +kernel
theorem dX8_far_2 : decode cX8_far 2 = .ok (.if_icmp .ge 9, 3) := by decide +kernel
theorem dX8_far_5 : decode cX8_far 5 = .ok (.iload_n 1, 1) := by decide +kernel
theorem dX8_far_6 : decode cX8_far 6 = .ok (.iload_n 0, 1) := by decide +kernel
theorem dX8_far_7 : decode cX8_far 7 = .ok (.isub, 1) := by decide +kernel
theorem dX8_far_8 : decode cX8_far 8 = .ok (.goto 6, 3) := by decide +kernel
theorem dX8_far_11 : decode cX8_far 11 = .ok (.iload_n 0, 1) := by decide +kernel
theorem dX8_far_12 : decode cX8_far 12 = .ok (.iload_n 1, 1) := by decide +kernel
theorem dX8_far_13 : decode cX8_far 13 = .ok (.isub, 1) := by decide +kernel
theorem dX8_far_14 : decode cX8_far 14 = .ok (.ireturn, 1) := by decide +kernel
theorem dX8_copies_0 : decode cX8_copies 0 = .ok (.iconst 0, 1) := by decide +kernel
theorem dX8_copies_1 : decode cX8_copies 1 = .ok (.istore_n 2, 1) := by decide +kernel
theorem dX8_copies_2 : decode cX8_copies 2 = .ok (.iload_n 2, 1) := by decide +kernel
theorem dX8_copies_3 : decode cX8_copies 3 = .ok (.sipush 605, 3) := by decide +kernel
theorem dX8_copies_6 : decode cX8_copies 6 = .ok (.if_icmp .ge 15, 3) := by decide +kernel
theorem dX8_copies_9 : decode cX8_copies 9 = .ok (.aload_n 1, 1) := by decide +kernel
theorem dX8_copies_10 : decode cX8_copies 10 = .ok (.iload_n 2, 1) := by decide +kernel
theorem dX8_copies_11 : decode cX8_copies 11 = .ok (.aload_n 0, 1) := by decide +kernel
theorem dX8_copies_12 : decode cX8_copies 12 = .ok (.iload_n 2, 1) := by decide +kernel
theorem dX8_copies_13 : decode cX8_copies 13 = .ok (.iaload, 1) := by decide +kernel
theorem dX8_copies_14 : decode cX8_copies 14 = .ok (.iastore, 1) := by decide +kernel
theorem dX8_copies_15 : decode cX8_copies 15 = .ok (.iinc 2 1, 3) := by decide +kernel
theorem dX8_copies_18 : decode cX8_copies 18 = .ok (.goto (-16), 3) := by decide +kernel
theorem dX8_copies_21 : decode cX8_copies 21 = .ok (.return_, 1) := by decide +kernel
theorem dX8_remembers_0 : decode cX8_remembers 0 = .ok (.aload_n 0, 1) := by decide +kernel
theorem dX8_remembers_1 : decode cX8_remembers 1 = .ok (.getfield 54, 3) := by decide +kernel
theorem dX8_remembers_4 : decode cX8_remembers 4 = .ok (.bipush 16, 2) := by decide +kernel
theorem dX8_remembers_6 : decode cX8_remembers 6 = .ok (.if_icmp .ne 44, 3) := by decide +kernel
theorem dX8_remembers_9 : decode cX8_remembers 9 = .ok (.iconst 0, 1) := by decide +kernel
theorem dX8_remembers_10 : decode cX8_remembers 10 = .ok (.istore_n 1, 1) := by decide +kernel
theorem dX8_remembers_11 : decode cX8_remembers 11 = .ok (.iload_n 1, 1) := by decide +kernel
theorem dX8_remembers_12 : decode cX8_remembers 12 = .ok (.sipush 9075, 3) := by decide +kernel
theorem dX8_remembers_15 : decode cX8_remembers 15 = .ok (.if_icmp .ge 25, 3) := by decide +kernel
theorem dX8_remembers_18 : decode cX8_remembers 18 = .ok (.aload_n 0, 1) := by decide +kernel
theorem dX8_remembers_19 : decode cX8_remembers 19 = .ok (.getfield 19, 3) := by decide +kernel
theorem dX8_remembers_22 : decode cX8_remembers 22 = .ok (.iload_n 1, 1) := by decide +kernel
theorem dX8_remembers_23 : decode cX8_remembers 23 = .ok (.aload_n 0, 1) := by decide +kernel
theorem dX8_remembers_24 : decode cX8_remembers 24 = .ok (.getfield 19, 3) := by decide +kernel
theorem dX8_remembers_27 : decode cX8_remembers 27 = .ok (.iload_n 1, 1) := by decide +kernel
theorem dX8_remembers_28 : decode cX8_remembers 28 = .ok (.sipush 605, 3) := by decide +kernel
theorem dX8_remembers_31 : decode cX8_remembers 31 = .ok (.iadd, 1) := by decide +kernel
theorem dX8_remembers_32 : decode cX8_remembers 32 = .ok (.iaload, 1) := by decide +kernel
theorem dX8_remembers_33 : decode cX8_remembers 33 = .ok (.iastore, 1) := by decide +kernel
theorem dX8_remembers_34 : decode cX8_remembers 34 = .ok (.iinc 1 1, 3) := by decide +kernel
theorem dX8_remembers_37 : decode cX8_remembers 37 = .ok (.goto (-26), 3) := by decide +kernel
theorem dX8_remembers_40 : decode cX8_remembers 40 = .ok (.aload_n 0, 1) := by decide +kernel
theorem dX8_remembers_41 : decode cX8_remembers 41 = .ok (.dup, 1) := by decide +kernel
theorem dX8_remembers_42 : decode cX8_remembers 42 = .ok (.getfield 54, 3) := by decide +kernel
theorem dX8_remembers_45 : decode cX8_remembers 45 = .ok (.iconst 1, 1) := by decide +kernel
theorem dX8_remembers_46 : decode cX8_remembers 46 = .ok (.isub, 1) := by decide +kernel
theorem dX8_remembers_47 : decode cX8_remembers 47 = .ok (.putfield 54, 3) := by decide +kernel
theorem dX8_remembers_50 : decode cX8_remembers 50 = .ok (.iconst 0, 1) := by decide +kernel
theorem dX8_remembers_51 : decode cX8_remembers 51 = .ok (.istore_n 1, 1) := by decide +kernel
theorem dX8_remembers_52 : decode cX8_remembers 52 = .ok (.iload_n 1, 1) := by decide +kernel
theorem dX8_remembers_53 : decode cX8_remembers 53 = .ok (.sipush 605, 3) := by decide +kernel
theorem dX8_remembers_56 : decode cX8_remembers 56 = .ok (.if_icmp .ge 30, 3) := by decide +kernel
theorem dX8_remembers_59 : decode cX8_remembers 59 = .ok (.aload_n 0, 1) := by decide +kernel
theorem dX8_remembers_60 : decode cX8_remembers 60 = .ok (.getfield 19, 3) := by decide +kernel
theorem dX8_remembers_63 : decode cX8_remembers 63 = .ok (.sipush 605, 3) := by decide +kernel
theorem dX8_remembers_66 : decode cX8_remembers 66 = .ok (.aload_n 0, 1) := by decide +kernel
theorem dX8_remembers_67 : decode cX8_remembers 67 = .ok (.getfield 54, 3) := by decide +kernel
theorem dX8_remembers_70 : decode cX8_remembers 70 = .ok (.imul, 1) := by decide +kernel
theorem dX8_remembers_71 : decode cX8_remembers 71 = .ok (.iload_n 1, 1) := by decide +kernel
theorem dX8_remembers_72 : decode cX8_remembers 72 = .ok (.iadd, 1) := by decide +kernel
theorem dX8_remembers_73 : decode cX8_remembers 73 = .ok (.aload_n 0, 1) := by decide +kernel
theorem dX8_remembers_74 : decode cX8_remembers 74 = .ok (.getfield 7, 3) := by decide +kernel
theorem dX8_remembers_77 : decode cX8_remembers 77 = .ok (.iload_n 1, 1) := by decide +kernel
theorem dX8_remembers_78 : decode cX8_remembers 78 = .ok (.iaload, 1) := by decide +kernel
theorem dX8_remembers_79 : decode cX8_remembers 79 = .ok (.iastore, 1) := by decide +kernel
theorem dX8_remembers_80 : decode cX8_remembers 80 = .ok (.iinc 1 1, 3) := by decide +kernel
theorem dX8_remembers_83 : decode cX8_remembers 83 = .ok (.goto (-31), 3) := by decide +kernel
theorem dX8_remembers_86 : decode cX8_remembers 86 = .ok (.aload_n 0, 1) := by decide +kernel
theorem dX8_remembers_87 : decode cX8_remembers 87 = .ok (.dup, 1) := by decide +kernel
theorem dX8_remembers_88 : decode cX8_remembers 88 = .ok (.getfield 54, 3) := by decide +kernel
theorem dX8_remembers_91 : decode cX8_remembers 91 = .ok (.iconst 1, 1) := by decide +kernel
theorem dX8_remembers_92 : decode cX8_remembers 92 = .ok (.iadd, 1) := by decide +kernel
theorem dX8_remembers_93 : decode cX8_remembers 93 = .ok (.putfield 54, 3) := by decide +kernel
theorem dX8_remembers_96 : decode cX8_remembers 96 = .ok (.return_, 1) := by decide +kernel
set_option maxRecDepth 20000 in
theorem ggX8_isPlatter_X8_isIn : GoodIn wsX8_isPlatter wsX8_isIn := goodIn_r _ [5] (by decide +kernel) (by decide +kernel)
set_option maxRecDepth 20000 in
theorem gX8_isPlatter_X8_isIn : GoodIn wsX8_isPlatter (va_wsS RX8 57 yX8_isIn wsX8_isIn) := goodIn_app (goodIn_of _ (by decide +kernel)) ggX8_isPlatter_X8_isIn
theorem dX8_isPlatter_0 : decode cX8_isPlatter 0 = .ok (.iload_n 1, 1) := by decide +kernel
theorem dX8_isPlatter_1 : decode cX8_isPlatter 1 = .ok (.i2l, 1) := by decide +kernel
theorem dX8_isPlatter_2 : decode cX8_isPlatter 2 = .ok (.lconst 0, 1) := by decide +kernel
theorem dX8_isPlatter_3 : decode cX8_isPlatter 3 = .ok (.aload_n 0, 1) := by decide +kernel
theorem dX8_isPlatter_4 : decode cX8_isPlatter 4 = .ok (.getfield 7, 3) := by decide +kernel
theorem dX8_isPlatter_7 : decode cX8_isPlatter 7 = .ok (.bipush 7, 2) := by decide +kernel
theorem dX8_isPlatter_9 : decode cX8_isPlatter 9 = .ok (.iaload, 1) := by decide +kernel
theorem dX8_isPlatter_10 : decode cX8_isPlatter 10 = .ok (.iconst 1, 1) := by decide +kernel
theorem dX8_isPlatter_11 : decode cX8_isPlatter 11 = .ok (.isub, 1) := by decide +kernel
theorem dX8_isPlatter_12 : decode cX8_isPlatter 12 = .ok (.i2l, 1) := by decide +kernel
theorem dX8_isPlatter_13 : decode cX8_isPlatter 13 = .ok (.invokestatic 57, 3) := by decide +kernel
theorem dX8_isPlatter_16 : decode cX8_isPlatter 16 = .ok (.ireturn, 1) := by decide +kernel
set_option maxRecDepth 20000 in
theorem ggX8_isDrive_X8_isIn : GoodIn wsX8_isDrive wsX8_isIn := goodIn_r _ [5] (by decide +kernel) (by decide +kernel)
set_option maxRecDepth 20000 in
theorem gX8_isDrive_X8_isIn : GoodIn wsX8_isDrive (va_wsS RX8 57 yX8_isIn wsX8_isIn) := goodIn_app (goodIn_of _ (by decide +kernel)) ggX8_isDrive_X8_isIn
theorem dX8_isDrive_0 : decode cX8_isDrive 0 = .ok (.iload_n 1, 1) := by decide +kernel
theorem dX8_isDrive_1 : decode cX8_isDrive 1 = .ok (.i2l, 1) := by decide +kernel
theorem dX8_isDrive_2 : decode cX8_isDrive 2 = .ok (.lconst 0, 1) := by decide +kernel
theorem dX8_isDrive_3 : decode cX8_isDrive 3 = .ok (.aload_n 0, 1) := by decide +kernel
theorem dX8_isDrive_4 : decode cX8_isDrive 4 = .ok (.getfield 7, 3) := by decide +kernel
theorem dX8_isDrive_7 : decode cX8_isDrive 7 = .ok (.bipush 6, 2) := by decide +kernel
theorem dX8_isDrive_9 : decode cX8_isDrive 9 = .ok (.iaload, 1) := by decide +kernel
theorem dX8_isDrive_10 : decode cX8_isDrive 10 = .ok (.iconst 1, 1) := by decide +kernel
theorem dX8_isDrive_11 : decode cX8_isDrive 11 = .ok (.isub, 1) := by decide +kernel
theorem dX8_isDrive_12 : decode cX8_isDrive 12 = .ok (.i2l, 1) := by decide +kernel
theorem dX8_isDrive_13 : decode cX8_isDrive 13 = .ok (.invokestatic 57, 3) := by decide +kernel
theorem dX8_isDrive_16 : decode cX8_isDrive 16 = .ok (.ireturn, 1) := by decide +kernel
set_option maxRecDepth 20000 in
theorem ggX8_isSlot_X8_isIn : GoodIn wsX8_isSlot wsX8_isIn := goodIn_r _ [5] (by decide +kernel) (by decide +kernel)
set_option maxRecDepth 20000 in
theorem gX8_isSlot_X8_isIn : GoodIn wsX8_isSlot (va_wsS RX8 57 yX8_isIn wsX8_isIn) := goodIn_app (goodIn_of _ (by decide +kernel)) ggX8_isSlot_X8_isIn
theorem dX8_isSlot_0 : decode cX8_isSlot 0 = .ok (.iload_n 1, 1) := by decide +kernel
theorem dX8_isSlot_1 : decode cX8_isSlot 1 = .ok (.i2l, 1) := by decide +kernel
theorem dX8_isSlot_2 : decode cX8_isSlot 2 = .ok (.lconst 0, 1) := by decide +kernel
theorem dX8_isSlot_3 : decode cX8_isSlot 3 = .ok (.aload_n 0, 1) := by decide +kernel
theorem dX8_isSlot_4 : decode cX8_isSlot 4 = .ok (.getfield 7, 3) := by decide +kernel
theorem dX8_isSlot_7 : decode cX8_isSlot 7 = .ok (.iconst 0, 1) := by decide +kernel
theorem dX8_isSlot_8 : decode cX8_isSlot 8 = .ok (.iaload, 1) := by decide +kernel
theorem dX8_isSlot_9 : decode cX8_isSlot 9 = .ok (.iconst 1, 1) := by decide +kernel
theorem dX8_isSlot_10 : decode cX8_isSlot 10 = .ok (.isub, 1) := by decide +kernel
theorem dX8_isSlot_11 : decode cX8_isSlot 11 = .ok (.i2l, 1) := by decide +kernel
theorem dX8_isSlot_12 : decode cX8_isSlot 12 = .ok (.invokestatic 57, 3) := by decide +kernel
theorem dX8_isSlot_15 : decode cX8_isSlot 15 = .ok (.ireturn, 1) := by decide +kernel
set_option maxRecDepth 20000 in
theorem ggX8_isFile_X8_isIn : GoodIn wsX8_isFile wsX8_isIn := goodIn_r _ [5] (by decide +kernel) (by decide +kernel)
set_option maxRecDepth 20000 in
theorem gX8_isFile_X8_isIn : GoodIn wsX8_isFile (va_wsS RX8 57 yX8_isIn wsX8_isIn) := goodIn_app (goodIn_of _ (by decide +kernel)) ggX8_isFile_X8_isIn
theorem dX8_isFile_0 : decode cX8_isFile 0 = .ok (.iload_n 1, 1) := by decide +kernel
theorem dX8_isFile_1 : decode cX8_isFile 1 = .ok (.i2l, 1) := by decide +kernel
theorem dX8_isFile_2 : decode cX8_isFile 2 = .ok (.lconst 0, 1) := by decide +kernel
theorem dX8_isFile_3 : decode cX8_isFile 3 = .ok (.aload_n 0, 1) := by decide +kernel
theorem dX8_isFile_4 : decode cX8_isFile 4 = .ok (.getfield 7, 3) := by decide +kernel
theorem dX8_isFile_7 : decode cX8_isFile 7 = .ok (.bipush 9, 2) := by decide +kernel
theorem dX8_isFile_9 : decode cX8_isFile 9 = .ok (.iaload, 1) := by decide +kernel
theorem dX8_isFile_10 : decode cX8_isFile 10 = .ok (.iconst 1, 1) := by decide +kernel
theorem dX8_isFile_11 : decode cX8_isFile 11 = .ok (.isub, 1) := by decide +kernel
theorem dX8_isFile_12 : decode cX8_isFile 12 = .ok (.i2l, 1) := by decide +kernel
theorem dX8_isFile_13 : decode cX8_isFile 13 = .ok (.invokestatic 57, 3) := by decide +kernel
theorem dX8_isFile_16 : decode cX8_isFile 16 = .ok (.ireturn, 1) := by decide +kernel
set_option maxRecDepth 20000 in
theorem ggX8_isSector_X8_isPlatter : GoodIn wsX8_isSector wsX8_isPlatter := goodIn_r _ [6, 1, 7, 8, 5, 9, 10, 11, 12, 13, 14, 15, 16, 17, 18, 19, 20, 21, 22, 23, 24, 25, 26, 27, 28, 29, 30, 31, 32, 33, 34, 35, 36] (by decide +kernel) (by decide +kernel)
set_option maxRecDepth 20000 in
theorem gX8_isSector_X8_isPlatter : GoodIn wsX8_isSector (wsV RX8 61 RX8 yX8_isPlatter wsX8_isPlatter) := goodIn_app (goodIn_of _ (by decide +kernel)) ggX8_isSector_X8_isPlatter
set_option maxRecDepth 20000 in
theorem ggX8_isSector_X8_isIn : GoodIn wsX8_isSector wsX8_isIn := goodIn_r _ [9] (by decide +kernel) (by decide +kernel)
set_option maxRecDepth 20000 in
theorem gX8_isSector_X8_isIn : GoodIn wsX8_isSector (va_wsS RX8 57 yX8_isIn wsX8_isIn) := goodIn_app (goodIn_of _ (by decide +kernel)) ggX8_isSector_X8_isIn
theorem dX8_isSector_0 : decode cX8_isSector 0 = .ok (.aload_n 0, 1) := by decide +kernel
theorem dX8_isSector_1 : decode cX8_isSector 1 = .ok (.iload_n 1, 1) := by decide +kernel
theorem dX8_isSector_2 : decode cX8_isSector 2 = .ok (.invokevirtual 61, 3) := by decide +kernel
theorem dX8_isSector_5 : decode cX8_isSector 5 = .ok (.ifCond .eq 28, 3) := by decide +kernel
theorem dX8_isSector_8 : decode cX8_isSector 8 = .ok (.iload_n 2, 1) := by decide +kernel
theorem dX8_isSector_9 : decode cX8_isSector 9 = .ok (.i2l, 1) := by decide +kernel
theorem dX8_isSector_10 : decode cX8_isSector 10 = .ok (.lconst 0, 1) := by decide +kernel
theorem dX8_isSector_11 : decode cX8_isSector 11 = .ok (.aload_n 0, 1) := by decide +kernel
theorem dX8_isSector_12 : decode cX8_isSector 12 = .ok (.getfield 7, 3) := by decide +kernel
theorem dX8_isSector_15 : decode cX8_isSector 15 = .ok (.bipush 39, 2) := by decide +kernel
theorem dX8_isSector_17 : decode cX8_isSector 17 = .ok (.iload_n 1, 1) := by decide +kernel
theorem dX8_isSector_18 : decode cX8_isSector 18 = .ok (.iadd, 1) := by decide +kernel
theorem dX8_isSector_19 : decode cX8_isSector 19 = .ok (.iaload, 1) := by decide +kernel
theorem dX8_isSector_20 : decode cX8_isSector 20 = .ok (.iconst 1, 1) := by decide +kernel
theorem dX8_isSector_21 : decode cX8_isSector 21 = .ok (.isub, 1) := by decide +kernel
theorem dX8_isSector_22 : decode cX8_isSector 22 = .ok (.i2l, 1) := by decide +kernel
theorem dX8_isSector_23 : decode cX8_isSector 23 = .ok (.invokestatic 57, 3) := by decide +kernel
theorem dX8_isSector_26 : decode cX8_isSector 26 = .ok (.ifCond .eq 7, 3) := by decide +kernel
theorem dX8_isSector_29 : decode cX8_isSector 29 = .ok (.iconst 1, 1) := by decide +kernel
theorem dX8_isSector_30 : decode cX8_isSector 30 = .ok (.goto 4, 3) := by decide +kernel
theorem dX8_isSector_33 : decode cX8_isSector 33 = .ok (.iconst 0, 1) := by decide +kernel
theorem dX8_isSector_34 : decode cX8_isSector 34 = .ok (.ireturn, 1) := by decide +kernel
set_option maxRecDepth 20000 in
theorem ggX8_isRequest_X8_isIn : GoodIn wsX8_isRequest wsX8_isIn := goodIn_r _ [5] (by decide +kernel) (by decide +kernel)
set_option maxRecDepth 20000 in
theorem gX8_isRequest_X8_isIn : GoodIn wsX8_isRequest (va_wsS RX8 57 yX8_isIn wsX8_isIn) := goodIn_app (goodIn_of _ (by decide +kernel)) ggX8_isRequest_X8_isIn
theorem dX8_isRequest_0 : decode cX8_isRequest 0 = .ok (.iload_n 1, 1) := by decide +kernel
theorem dX8_isRequest_1 : decode cX8_isRequest 1 = .ok (.i2l, 1) := by decide +kernel
theorem dX8_isRequest_2 : decode cX8_isRequest 2 = .ok (.lconst 0, 1) := by decide +kernel
theorem dX8_isRequest_3 : decode cX8_isRequest 3 = .ok (.aload_n 0, 1) := by decide +kernel
theorem dX8_isRequest_4 : decode cX8_isRequest 4 = .ok (.getfield 7, 3) := by decide +kernel
theorem dX8_isRequest_7 : decode cX8_isRequest 7 = .ok (.bipush 16, 2) := by decide +kernel
theorem dX8_isRequest_9 : decode cX8_isRequest 9 = .ok (.iaload, 1) := by decide +kernel
theorem dX8_isRequest_10 : decode cX8_isRequest 10 = .ok (.iconst 1, 1) := by decide +kernel
theorem dX8_isRequest_11 : decode cX8_isRequest 11 = .ok (.isub, 1) := by decide +kernel
theorem dX8_isRequest_12 : decode cX8_isRequest 12 = .ok (.i2l, 1) := by decide +kernel
theorem dX8_isRequest_13 : decode cX8_isRequest 13 = .ok (.invokestatic 57, 3) := by decide +kernel
theorem dX8_isRequest_16 : decode cX8_isRequest 16 = .ok (.ireturn, 1) := by decide +kernel
theorem dX8_isBad_0 : decode cX8_isBad 0 = .ok (.iconst 0, 1) := by decide +kernel
theorem dX8_isBad_1 : decode cX8_isBad 1 = .ok (.istore_n 3, 1) := by decide +kernel
theorem dX8_isBad_2 : decode cX8_isBad 2 = .ok (.iload_n 3, 1) := by decide +kernel
theorem dX8_isBad_3 : decode cX8_isBad 3 = .ok (.aload_n 0, 1) := by decide +kernel
theorem dX8_isBad_4 : decode cX8_isBad 4 = .ok (.bipush 8, 2) := by decide +kernel
theorem dX8_isBad_6 : decode cX8_isBad 6 = .ok (.iaload, 1) := by decide +kernel
theorem dX8_isBad_7 : decode cX8_isBad 7 = .ok (.if_icmp .ge 33, 3) := by decide +kernel
theorem dX8_isBad_10 : decode cX8_isBad 10 = .ok (.aload_n 0, 1) := by decide +kernel
theorem dX8_isBad_11 : decode cX8_isBad 11 = .ok (.sipush 249, 3) := by decide +kernel
theorem dX8_isBad_14 : decode cX8_isBad 14 = .ok (.iload_n 3, 1) := by decide +kernel
theorem dX8_isBad_15 : decode cX8_isBad 15 = .ok (.iadd, 1) := by decide +kernel
theorem dX8_isBad_16 : decode cX8_isBad 16 = .ok (.iaload, 1) := by decide +kernel
theorem dX8_isBad_17 : decode cX8_isBad 17 = .ok (.iload_n 1, 1) := by decide +kernel
theorem dX8_isBad_18 : decode cX8_isBad 18 = .ok (.if_icmp .ne 16, 3) := by decide +kernel
theorem dX8_isBad_21 : decode cX8_isBad 21 = .ok (.aload_n 0, 1) := by decide +kernel
theorem dX8_isBad_22 : decode cX8_isBad 22 = .ok (.sipush 269, 3) := by decide +kernel
theorem dX8_isBad_25 : decode cX8_isBad 25 = .ok (.iload_n 3, 1) := by decide +kernel
theorem dX8_isBad_26 : decode cX8_isBad 26 = .ok (.iadd, 1) := by decide +kernel
theorem dX8_isBad_27 : decode cX8_isBad 27 = .ok (.iaload, 1) := by decide +kernel
theorem dX8_isBad_28 : decode cX8_isBad 28 = .ok (.iload_n 2, 1) := by decide +kernel
theorem dX8_isBad_29 : decode cX8_isBad 29 = .ok (.if_icmp .ne 5, 3) := by decide +kernel
theorem dX8_isBad_32 : decode cX8_isBad 32 = .ok (.iconst 1, 1) := by decide +kernel
theorem dX8_isBad_33 : decode cX8_isBad 33 = .ok (.ireturn, 1) := by decide +kernel
theorem dX8_isBad_34 : decode cX8_isBad 34 = .ok (.iinc 3 1, 3) := by decide +kernel
theorem dX8_isBad_37 : decode cX8_isBad 37 = .ok (.goto (-35), 3) := by decide +kernel
theorem dX8_isBad_40 : decode cX8_isBad 40 = .ok (.iconst 0, 1) := by decide +kernel
theorem dX8_isBad_41 : decode cX8_isBad 41 = .ok (.ireturn, 1) := by decide +kernel
set_option maxRecDepth 20000 in
theorem ggX8_badsIn_X8_isIn : GoodIn wsX8_badsIn wsX8_isIn := goodIn_r _ [4] (by decide +kernel) (by decide +kernel)
set_option maxRecDepth 20000 in
theorem gX8_badsIn_X8_isIn : GoodIn wsX8_badsIn (va_wsS RX8 57 yX8_isIn wsX8_isIn) := goodIn_app (goodIn_of _ (by decide +kernel)) ggX8_badsIn_X8_isIn
theorem dX8_badsIn_0 : decode cX8_badsIn 0 = .ok (.iconst 0, 1) := by decide +kernel
theorem dX8_badsIn_1 : decode cX8_badsIn 1 = .ok (.istore 4, 2) := by decide +kernel
theorem dX8_badsIn_3 : decode cX8_badsIn 3 = .ok (.iconst 0, 1) := by decide +kernel
theorem dX8_badsIn_4 : decode cX8_badsIn 4 = .ok (.istore 5, 2) := by decide +kernel
theorem dX8_badsIn_6 : decode cX8_badsIn 6 = .ok (.iload 5, 2) := by decide +kernel
theorem dX8_badsIn_8 : decode cX8_badsIn 8 = .ok (.aload_n 0, 1) := by decide +kernel
theorem dX8_badsIn_9 : decode cX8_badsIn 9 = .ok (.bipush 8, 2) := by decide +kernel
theorem dX8_badsIn_11 : decode cX8_badsIn 11 = .ok (.iaload, 1) := by decide +kernel
theorem dX8_badsIn_12 : decode cX8_badsIn 12 = .ok (.if_icmp .ge 54, 3) := by decide +kernel
theorem dX8_badsIn_15 : decode cX8_badsIn 15 = .ok (.iload 4, 2) := by decide +kernel
theorem dX8_badsIn_17 : decode cX8_badsIn 17 = .ok (.aload_n 0, 1) := by decide +kernel
theorem dX8_badsIn_18 : decode cX8_badsIn 18 = .ok (.sipush 249, 3) := by decide +kernel
theorem dX8_badsIn_21 : decode cX8_badsIn 21 = .ok (.iload 5, 2) := by decide +kernel
theorem dX8_badsIn_23 : decode cX8_badsIn 23 = .ok (.iadd, 1) := by decide +kernel
theorem dX8_badsIn_24 : decode cX8_badsIn 24 = .ok (.iaload, 1) := by decide +kernel
theorem dX8_badsIn_25 : decode cX8_badsIn 25 = .ok (.iload_n 1, 1) := by decide +kernel
theorem dX8_badsIn_26 : decode cX8_badsIn 26 = .ok (.if_icmp .ne 30, 3) := by decide +kernel
theorem dX8_badsIn_29 : decode cX8_badsIn 29 = .ok (.aload_n 0, 1) := by decide +kernel
theorem dX8_badsIn_30 : decode cX8_badsIn 30 = .ok (.sipush 269, 3) := by decide +kernel
theorem dX8_badsIn_33 : decode cX8_badsIn 33 = .ok (.iload 5, 2) := by decide +kernel
theorem dX8_badsIn_35 : decode cX8_badsIn 35 = .ok (.iadd, 1) := by decide +kernel
theorem dX8_badsIn_36 : decode cX8_badsIn 36 = .ok (.iaload, 1) := by decide +kernel
theorem dX8_badsIn_37 : decode cX8_badsIn 37 = .ok (.i2l, 1) := by decide +kernel
theorem dX8_badsIn_38 : decode cX8_badsIn 38 = .ok (.iload_n 2, 1) := by decide +kernel
theorem dX8_badsIn_39 : decode cX8_badsIn 39 = .ok (.i2l, 1) := by decide +kernel
theorem dX8_badsIn_40 : decode cX8_badsIn 40 = .ok (.iload_n 2, 1) := by decide +kernel
theorem dX8_badsIn_41 : decode cX8_badsIn 41 = .ok (.iload_n 3, 1) := by decide +kernel
theorem dX8_badsIn_42 : decode cX8_badsIn 42 = .ok (.iadd, 1) := by decide +kernel
theorem dX8_badsIn_43 : decode cX8_badsIn 43 = .ok (.iconst 1, 1) := by decide +kernel
theorem dX8_badsIn_44 : decode cX8_badsIn 44 = .ok (.isub, 1) := by decide +kernel
theorem dX8_badsIn_45 : decode cX8_badsIn 45 = .ok (.i2l, 1) := by decide +kernel
theorem dX8_badsIn_46 : decode cX8_badsIn 46 = .ok (.invokestatic 57, 3) := by decide +kernel
theorem dX8_badsIn_49 : decode cX8_badsIn 49 = .ok (.ifCond .eq 7, 3) := by decide +kernel
theorem dX8_badsIn_52 : decode cX8_badsIn 52 = .ok (.iconst 1, 1) := by decide +kernel
theorem dX8_badsIn_53 : decode cX8_badsIn 53 = .ok (.goto 4, 3) := by decide +kernel
theorem dX8_badsIn_56 : decode cX8_badsIn 56 = .ok (.iconst 0, 1) := by decide +kernel
theorem dX8_badsIn_57 : decode cX8_badsIn 57 = .ok (.iadd, 1) := by decide +kernel
theorem dX8_badsIn_58 : decode cX8_badsIn 58 = .ok (.istore 4, 2) := by decide +kernel
theorem dX8_badsIn_60 : decode cX8_badsIn 60 = .ok (.iinc 5 1, 3) := by decide +kernel
theorem dX8_badsIn_63 : decode cX8_badsIn 63 = .ok (.goto (-57), 3) := by decide +kernel
theorem dX8_badsIn_66 : decode cX8_badsIn 66 = .ok (.iload 4, 2) := by decide +kernel
theorem dX8_badsIn_68 : decode cX8_badsIn 68 = .ok (.ireturn, 1) := by decide +kernel
set_option maxRecDepth 20000 in
theorem ggX8_canWrite_X8_badsIn : GoodIn wsX8_canWrite wsX8_badsIn := goodIn_r _ [4, 5, 6, 3, 7] (by decide +kernel) (by decide +kernel)
set_option maxRecDepth 20000 in
theorem gX8_canWrite_X8_badsIn : GoodIn wsX8_canWrite (va_wsS RX8 65 yX8_badsIn wsX8_badsIn) := goodIn_app (goodIn_of _ (by decide +kernel)) ggX8_canWrite_X8_badsIn
theorem dX8_canWrite_0 : decode cX8_canWrite 0 = .ok (.aload_n 0, 1) := by decide +kernel
theorem dX8_canWrite_1 : decode cX8_canWrite 1 = .ok (.bipush 79, 2) := by decide +kernel
theorem dX8_canWrite_3 : decode cX8_canWrite 3 = .ok (.iload_n 1, 1) := by decide +kernel
theorem dX8_canWrite_4 : decode cX8_canWrite 4 = .ok (.iadd, 1) := by decide +kernel
theorem dX8_canWrite_5 : decode cX8_canWrite 5 = .ok (.iaload, 1) := by decide +kernel
theorem dX8_canWrite_6 : decode cX8_canWrite 6 = .ok (.ifCond .ne 16, 3) := by decide +kernel
theorem dX8_canWrite_9 : decode cX8_canWrite 9 = .ok (.aload_n 0, 1) := by decide +kernel
theorem dX8_canWrite_10 : decode cX8_canWrite 10 = .ok (.bipush 69, 2) := by decide +kernel
theorem dX8_canWrite_12 : decode cX8_canWrite 12 = .ok (.iload_n 1, 1) := by decide +kernel
theorem dX8_canWrite_13 : decode cX8_canWrite 13 = .ok (.iadd, 1) := by decide +kernel
theorem dX8_canWrite_14 : decode cX8_canWrite 14 = .ok (.iaload, 1) := by decide +kernel
theorem dX8_canWrite_15 : decode cX8_canWrite 15 = .ok (.bipush 8, 2) := by decide +kernel
theorem dX8_canWrite_17 : decode cX8_canWrite 17 = .ok (.if_icmp .ne 5, 3) := by decide +kernel
theorem dX8_canWrite_20 : decode cX8_canWrite 20 = .ok (.iconst 0, 1) := by decide +kernel
theorem dX8_canWrite_21 : decode cX8_canWrite 21 = .ok (.ireturn, 1) := by decide +kernel
theorem dX8_canWrite_22 : decode cX8_canWrite 22 = .ok (.aload_n 0, 1) := by decide +kernel
theorem dX8_canWrite_23 : decode cX8_canWrite 23 = .ok (.bipush 59, 2) := by decide +kernel
theorem dX8_canWrite_25 : decode cX8_canWrite 25 = .ok (.iload_n 1, 1) := by decide +kernel
theorem dX8_canWrite_26 : decode cX8_canWrite 26 = .ok (.iadd, 1) := by decide +kernel
theorem dX8_canWrite_27 : decode cX8_canWrite 27 = .ok (.iaload, 1) := by decide +kernel
theorem dX8_canWrite_28 : decode cX8_canWrite 28 = .ok (.istore_n 3, 1) := by decide +kernel
theorem dX8_canWrite_29 : decode cX8_canWrite 29 = .ok (.iload_n 2, 1) := by decide +kernel
theorem dX8_canWrite_30 : decode cX8_canWrite 30 = .ok (.aload_n 0, 1) := by decide +kernel
theorem dX8_canWrite_31 : decode cX8_canWrite 31 = .ok (.bipush 39, 2) := by decide +kernel
theorem dX8_canWrite_33 : decode cX8_canWrite 33 = .ok (.iload_n 1, 1) := by decide +kernel
theorem dX8_canWrite_34 : decode cX8_canWrite 34 = .ok (.iadd, 1) := by decide +kernel
theorem dX8_canWrite_35 : decode cX8_canWrite 35 = .ok (.iaload, 1) := by decide +kernel
theorem dX8_canWrite_36 : decode cX8_canWrite 36 = .ok (.iload_n 3, 1) := by decide +kernel
theorem dX8_canWrite_37 : decode cX8_canWrite 37 = .ok (.isub, 1) := by decide +kernel
theorem dX8_canWrite_38 : decode cX8_canWrite 38 = .ok (.if_icmp .gt 23, 3) := by decide +kernel
theorem dX8_canWrite_41 : decode cX8_canWrite 41 = .ok (.aload_n 0, 1) := by decide +kernel
theorem dX8_canWrite_42 : decode cX8_canWrite 42 = .ok (.iload_n 1, 1) := by decide +kernel
theorem dX8_canWrite_43 : decode cX8_canWrite 43 = .ok (.iload_n 3, 1) := by decide +kernel
theorem dX8_canWrite_44 : decode cX8_canWrite 44 = .ok (.iload_n 2, 1) := by decide +kernel
theorem dX8_canWrite_45 : decode cX8_canWrite 45 = .ok (.invokestatic 65, 3) := by decide +kernel
theorem dX8_canWrite_48 : decode cX8_canWrite 48 = .ok (.aload_n 0, 1) := by decide +kernel
theorem dX8_canWrite_49 : decode cX8_canWrite 49 = .ok (.bipush 49, 2) := by decide +kernel
theorem dX8_canWrite_51 : decode cX8_canWrite 51 = .ok (.iload_n 1, 1) := by decide +kernel
theorem dX8_canWrite_52 : decode cX8_canWrite 52 = .ok (.iadd, 1) := by decide +kernel
theorem dX8_canWrite_53 : decode cX8_canWrite 53 = .ok (.iaload, 1) := by decide +kernel
theorem dX8_canWrite_54 : decode cX8_canWrite 54 = .ok (.if_icmp .gt 7, 3) := by decide +kernel
theorem dX8_canWrite_57 : decode cX8_canWrite 57 = .ok (.iconst 1, 1) := by decide +kernel
theorem dX8_canWrite_58 : decode cX8_canWrite 58 = .ok (.goto 4, 3) := by decide +kernel
theorem dX8_canWrite_61 : decode cX8_canWrite 61 = .ok (.iconst 0, 1) := by decide +kernel
theorem dX8_canWrite_62 : decode cX8_canWrite 62 = .ok (.ireturn, 1) := by decide +kernel
set_option maxRecDepth 20000 in
theorem ggX8_writesVersion_X8_badsIn : GoodIn wsX8_writesVersion wsX8_badsIn := goodIn_r _ [4, 5, 6, 3, 7] (by decide +kernel) (by decide +kernel)
set_option maxRecDepth 20000 in
theorem gX8_writesVersion_X8_badsIn : GoodIn wsX8_writesVersion (va_wsS RX8 65 yX8_badsIn wsX8_badsIn) := goodIn_app (goodIn_of _ (by decide +kernel)) ggX8_writesVersion_X8_badsIn
theorem dX8_writesVersion_0 : decode cX8_writesVersion 0 = .ok (.aload_n 0, 1) := by decide +kernel
theorem dX8_writesVersion_1 : decode cX8_writesVersion 1 = .ok (.bipush 59, 2) := by decide +kernel
theorem dX8_writesVersion_3 : decode cX8_writesVersion 3 = .ok (.iload_n 2, 1) := by decide +kernel
theorem dX8_writesVersion_4 : decode cX8_writesVersion 4 = .ok (.iadd, 1) := by decide +kernel
theorem dX8_writesVersion_5 : decode cX8_writesVersion 5 = .ok (.iaload, 1) := by decide +kernel
theorem dX8_writesVersion_6 : decode cX8_writesVersion 6 = .ok (.istore 4, 2) := by decide +kernel
theorem dX8_writesVersion_8 : decode cX8_writesVersion 8 = .ok (.aload_n 0, 1) := by decide +kernel
theorem dX8_writesVersion_9 : decode cX8_writesVersion 9 = .ok (.bipush 79, 2) := by decide +kernel
theorem dX8_writesVersion_11 : decode cX8_writesVersion 11 = .ok (.iload_n 2, 1) := by decide +kernel
theorem dX8_writesVersion_12 : decode cX8_writesVersion 12 = .ok (.iadd, 1) := by decide +kernel
theorem dX8_writesVersion_13 : decode cX8_writesVersion 13 = .ok (.iaload, 1) := by decide +kernel
theorem dX8_writesVersion_14 : decode cX8_writesVersion 14 = .ok (.ifCond .ne 56, 3) := by decide +kernel
theorem dX8_writesVersion_17 : decode cX8_writesVersion 17 = .ok (.aload_n 0, 1) := by decide +kernel
theorem dX8_writesVersion_18 : decode cX8_writesVersion 18 = .ok (.bipush 89, 2) := by decide +kernel
theorem dX8_writesVersion_20 : decode cX8_writesVersion 20 = .ok (.bipush 8, 2) := by decide +kernel
theorem dX8_writesVersion_22 : decode cX8_writesVersion 22 = .ok (.iload_n 2, 1) := by decide +kernel
theorem dX8_writesVersion_23 : decode cX8_writesVersion 23 = .ok (.imul, 1) := by decide +kernel
theorem dX8_writesVersion_24 : decode cX8_writesVersion 24 = .ok (.iadd, 1) := by decide +kernel
theorem dX8_writesVersion_25 : decode cX8_writesVersion 25 = .ok (.aload_n 0, 1) := by decide +kernel
theorem dX8_writesVersion_26 : decode cX8_writesVersion 26 = .ok (.bipush 69, 2) := by decide +kernel
theorem dX8_writesVersion_28 : decode cX8_writesVersion 28 = .ok (.iload_n 2, 1) := by decide +kernel
theorem dX8_writesVersion_29 : decode cX8_writesVersion 29 = .ok (.iadd, 1) := by decide +kernel
theorem dX8_writesVersion_30 : decode cX8_writesVersion 30 = .ok (.iaload, 1) := by decide +kernel
theorem dX8_writesVersion_31 : decode cX8_writesVersion 31 = .ok (.iadd, 1) := by decide +kernel
theorem dX8_writesVersion_32 : decode cX8_writesVersion 32 = .ok (.iload 4, 2) := by decide +kernel
theorem dX8_writesVersion_34 : decode cX8_writesVersion 34 = .ok (.iastore, 1) := by decide +kernel
theorem dX8_writesVersion_35 : decode cX8_writesVersion 35 = .ok (.aload_n 0, 1) := by decide +kernel
theorem dX8_writesVersion_36 : decode cX8_writesVersion 36 = .ok (.sipush 169, 3) := by decide +kernel
theorem dX8_writesVersion_39 : decode cX8_writesVersion 39 = .ok (.bipush 8, 2) := by decide +kernel
theorem dX8_writesVersion_41 : decode cX8_writesVersion 41 = .ok (.iload_n 2, 1) := by decide +kernel
theorem dX8_writesVersion_42 : decode cX8_writesVersion 42 = .ok (.imul, 1) := by decide +kernel
theorem dX8_writesVersion_43 : decode cX8_writesVersion 43 = .ok (.iadd, 1) := by decide +kernel
theorem dX8_writesVersion_44 : decode cX8_writesVersion 44 = .ok (.aload_n 0, 1) := by decide +kernel
theorem dX8_writesVersion_45 : decode cX8_writesVersion 45 = .ok (.bipush 69, 2) := by decide +kernel
theorem dX8_writesVersion_47 : decode cX8_writesVersion 47 = .ok (.iload_n 2, 1) := by decide +kernel
theorem dX8_writesVersion_48 : decode cX8_writesVersion 48 = .ok (.iadd, 1) := by decide +kernel
theorem dX8_writesVersion_49 : decode cX8_writesVersion 49 = .ok (.iaload, 1) := by decide +kernel
theorem dX8_writesVersion_50 : decode cX8_writesVersion 50 = .ok (.iadd, 1) := by decide +kernel
theorem dX8_writesVersion_51 : decode cX8_writesVersion 51 = .ok (.iconst 0, 1) := by decide +kernel
theorem dX8_writesVersion_52 : decode cX8_writesVersion 52 = .ok (.iastore, 1) := by decide +kernel
theorem dX8_writesVersion_53 : decode cX8_writesVersion 53 = .ok (.aload_n 0, 1) := by decide +kernel
theorem dX8_writesVersion_54 : decode cX8_writesVersion 54 = .ok (.bipush 69, 2) := by decide +kernel
theorem dX8_writesVersion_56 : decode cX8_writesVersion 56 = .ok (.iload_n 2, 1) := by decide +kernel
theorem dX8_writesVersion_57 : decode cX8_writesVersion 57 = .ok (.iadd, 1) := by decide +kernel
theorem dX8_writesVersion_58 : decode cX8_writesVersion 58 = .ok (.dup2, 1) := by decide +kernel
theorem dX8_writesVersion_59 : decode cX8_writesVersion 59 = .ok (.iaload, 1) := by decide +kernel
theorem dX8_writesVersion_60 : decode cX8_writesVersion 60 = .ok (.iconst 1, 1) := by decide +kernel
theorem dX8_writesVersion_61 : decode cX8_writesVersion 61 = .ok (.iadd, 1) := by decide +kernel
theorem dX8_writesVersion_62 : decode cX8_writesVersion 62 = .ok (.iastore, 1) := by decide +kernel
theorem dX8_writesVersion_63 : decode cX8_writesVersion 63 = .ok (.aload_n 0, 1) := by decide +kernel
theorem dX8_writesVersion_64 : decode cX8_writesVersion 64 = .ok (.bipush 79, 2) := by decide +kernel
theorem dX8_writesVersion_66 : decode cX8_writesVersion 66 = .ok (.iload_n 2, 1) := by decide +kernel
theorem dX8_writesVersion_67 : decode cX8_writesVersion 67 = .ok (.iadd, 1) := by decide +kernel
theorem dX8_writesVersion_68 : decode cX8_writesVersion 68 = .ok (.iconst 1, 1) := by decide +kernel
theorem dX8_writesVersion_69 : decode cX8_writesVersion 69 = .ok (.iastore, 1) := by decide +kernel
theorem dX8_writesVersion_70 : decode cX8_writesVersion 70 = .ok (.aload_n 0, 1) := by decide +kernel
theorem dX8_writesVersion_71 : decode cX8_writesVersion 71 = .ok (.bipush 69, 2) := by decide +kernel
theorem dX8_writesVersion_73 : decode cX8_writesVersion 73 = .ok (.iload_n 2, 1) := by decide +kernel
theorem dX8_writesVersion_74 : decode cX8_writesVersion 74 = .ok (.iadd, 1) := by decide +kernel
theorem dX8_writesVersion_75 : decode cX8_writesVersion 75 = .ok (.iaload, 1) := by decide +kernel
theorem dX8_writesVersion_76 : decode cX8_writesVersion 76 = .ok (.iconst 1, 1) := by decide +kernel
theorem dX8_writesVersion_77 : decode cX8_writesVersion 77 = .ok (.isub, 1) := by decide +kernel
theorem dX8_writesVersion_78 : decode cX8_writesVersion 78 = .ok (.istore 5, 2) := by decide +kernel
theorem dX8_writesVersion_80 : decode cX8_writesVersion 80 = .ok (.aload_n 0, 1) := by decide +kernel
theorem dX8_writesVersion_81 : decode cX8_writesVersion 81 = .ok (.iload_n 2, 1) := by decide +kernel
theorem dX8_writesVersion_82 : decode cX8_writesVersion 82 = .ok (.iload 4, 2) := by decide +kernel
theorem dX8_writesVersion_84 : decode cX8_writesVersion 84 = .ok (.iload_n 3, 1) := by decide +kernel
theorem dX8_writesVersion_85 : decode cX8_writesVersion 85 = .ok (.invokestatic 65, 3) := by decide +kernel
theorem dX8_writesVersion_88 : decode cX8_writesVersion 88 = .ok (.istore 6, 2) := by decide +kernel
theorem dX8_writesVersion_90 : decode cX8_writesVersion 90 = .ok (.aload_n 0, 1) := by decide +kernel
theorem dX8_writesVersion_91 : decode cX8_writesVersion 91 = .ok (.bipush 10, 2) := by decide +kernel
theorem dX8_writesVersion_93 : decode cX8_writesVersion 93 = .ok (.iaload, 1) := by decide +kernel
theorem dX8_writesVersion_94 : decode cX8_writesVersion 94 = .ok (.istore 7, 2) := by decide +kernel
theorem dX8_writesVersion_96 : decode cX8_writesVersion 96 = .ok (.aload_n 0, 1) := by decide +kernel
theorem dX8_writesVersion_97 : decode cX8_writesVersion 97 = .ok (.bipush 10, 2) := by decide +kernel
theorem dX8_writesVersion_99 : decode cX8_writesVersion 99 = .ok (.dup2, 1) := by decide +kernel
theorem dX8_writesVersion_100 : decode cX8_writesVersion 100 = .ok (.iaload, 1) := by decide +kernel
theorem dX8_writesVersion_101 : decode cX8_writesVersion 101 = .ok (.iconst 1, 1) := by decide +kernel
theorem dX8_writesVersion_102 : decode cX8_writesVersion 102 = .ok (.iadd, 1) := by decide +kernel
theorem dX8_writesVersion_103 : decode cX8_writesVersion 103 = .ok (.iastore, 1) := by decide +kernel
theorem dX8_writesVersion_104 : decode cX8_writesVersion 104 = .ok (.aload_n 0, 1) := by decide +kernel
theorem dX8_writesVersion_105 : decode cX8_writesVersion 105 = .ok (.sipush 309, 3) := by decide +kernel
theorem dX8_writesVersion_108 : decode cX8_writesVersion 108 = .ok (.iload 7, 2) := by decide +kernel
theorem dX8_writesVersion_110 : decode cX8_writesVersion 110 = .ok (.iadd, 1) := by decide +kernel
theorem dX8_writesVersion_111 : decode cX8_writesVersion 111 = .ok (.iload_n 1, 1) := by decide +kernel
theorem dX8_writesVersion_112 : decode cX8_writesVersion 112 = .ok (.iastore, 1) := by decide +kernel
theorem dX8_writesVersion_113 : decode cX8_writesVersion 113 = .ok (.aload_n 0, 1) := by decide +kernel
theorem dX8_writesVersion_114 : decode cX8_writesVersion 114 = .ok (.sipush 349, 3) := by decide +kernel
theorem dX8_writesVersion_117 : decode cX8_writesVersion 117 = .ok (.iload 7, 2) := by decide +kernel
theorem dX8_writesVersion_119 : decode cX8_writesVersion 119 = .ok (.iadd, 1) := by decide +kernel
theorem dX8_writesVersion_120 : decode cX8_writesVersion 120 = .ok (.iload_n 2, 1) := by decide +kernel
theorem dX8_writesVersion_121 : decode cX8_writesVersion 121 = .ok (.iastore, 1) := by decide +kernel
theorem dX8_writesVersion_122 : decode cX8_writesVersion 122 = .ok (.aload_n 0, 1) := by decide +kernel
theorem dX8_writesVersion_123 : decode cX8_writesVersion 123 = .ok (.sipush 389, 3) := by decide +kernel
theorem dX8_writesVersion_126 : decode cX8_writesVersion 126 = .ok (.iload 7, 2) := by decide +kernel
theorem dX8_writesVersion_128 : decode cX8_writesVersion 128 = .ok (.iadd, 1) := by decide +kernel
theorem dX8_writesVersion_129 : decode cX8_writesVersion 129 = .ok (.iload 4, 2) := by decide +kernel
theorem dX8_writesVersion_131 : decode cX8_writesVersion 131 = .ok (.iastore, 1) := by decide +kernel
theorem dX8_writesVersion_132 : decode cX8_writesVersion 132 = .ok (.aload_n 0, 1) := by decide +kernel
theorem dX8_writesVersion_133 : decode cX8_writesVersion 133 = .ok (.sipush 429, 3) := by decide +kernel
theorem dX8_writesVersion_136 : decode cX8_writesVersion 136 = .ok (.iload 7, 2) := by decide +kernel
theorem dX8_writesVersion_138 : decode cX8_writesVersion 138 = .ok (.iadd, 1) := by decide +kernel
theorem dX8_writesVersion_139 : decode cX8_writesVersion 139 = .ok (.iload_n 3, 1) := by decide +kernel
theorem dX8_writesVersion_140 : decode cX8_writesVersion 140 = .ok (.iastore, 1) := by decide +kernel
theorem dX8_writesVersion_141 : decode cX8_writesVersion 141 = .ok (.aload_n 0, 1) := by decide +kernel
theorem dX8_writesVersion_142 : decode cX8_writesVersion 142 = .ok (.sipush 469, 3) := by decide +kernel
theorem dX8_writesVersion_145 : decode cX8_writesVersion 145 = .ok (.iload 7, 2) := by decide +kernel
theorem dX8_writesVersion_147 : decode cX8_writesVersion 147 = .ok (.iadd, 1) := by decide +kernel
theorem dX8_writesVersion_148 : decode cX8_writesVersion 148 = .ok (.iload 5, 2) := by decide +kernel
theorem dX8_writesVersion_150 : decode cX8_writesVersion 150 = .ok (.iastore, 1) := by decide +kernel
theorem dX8_writesVersion_151 : decode cX8_writesVersion 151 = .ok (.aload_n 0, 1) := by decide +kernel
theorem dX8_writesVersion_152 : decode cX8_writesVersion 152 = .ok (.sipush 509, 3) := by decide +kernel
theorem dX8_writesVersion_155 : decode cX8_writesVersion 155 = .ok (.iload 7, 2) := by decide +kernel
theorem dX8_writesVersion_157 : decode cX8_writesVersion 157 = .ok (.iadd, 1) := by decide +kernel
theorem dX8_writesVersion_158 : decode cX8_writesVersion 158 = .ok (.iload 6, 2) := by decide +kernel
theorem dX8_writesVersion_160 : decode cX8_writesVersion 160 = .ok (.iastore, 1) := by decide +kernel
theorem dX8_writesVersion_161 : decode cX8_writesVersion 161 = .ok (.aload_n 0, 1) := by decide +kernel
theorem dX8_writesVersion_162 : decode cX8_writesVersion 162 = .ok (.sipush 549, 3) := by decide +kernel
theorem dX8_writesVersion_165 : decode cX8_writesVersion 165 = .ok (.iload 7, 2) := by decide +kernel
theorem dX8_writesVersion_167 : decode cX8_writesVersion 167 = .ok (.iadd, 1) := by decide +kernel
theorem dX8_writesVersion_168 : decode cX8_writesVersion 168 = .ok (.iconst 0, 1) := by decide +kernel
theorem dX8_writesVersion_169 : decode cX8_writesVersion 169 = .ok (.iastore, 1) := by decide +kernel
theorem dX8_writesVersion_170 : decode cX8_writesVersion 170 = .ok (.aload_n 0, 1) := by decide +kernel
theorem dX8_writesVersion_171 : decode cX8_writesVersion 171 = .ok (.sipush 289, 3) := by decide +kernel
theorem dX8_writesVersion_174 : decode cX8_writesVersion 174 = .ok (.iload_n 1, 1) := by decide +kernel
theorem dX8_writesVersion_175 : decode cX8_writesVersion 175 = .ok (.iadd, 1) := by decide +kernel
theorem dX8_writesVersion_176 : decode cX8_writesVersion 176 = .ok (.iload 7, 2) := by decide +kernel
theorem dX8_writesVersion_178 : decode cX8_writesVersion 178 = .ok (.iastore, 1) := by decide +kernel
theorem dX8_writesVersion_179 : decode cX8_writesVersion 179 = .ok (.aload_n 0, 1) := by decide +kernel
theorem dX8_writesVersion_180 : decode cX8_writesVersion 180 = .ok (.bipush 49, 2) := by decide +kernel
theorem dX8_writesVersion_182 : decode cX8_writesVersion 182 = .ok (.iload_n 2, 1) := by decide +kernel
theorem dX8_writesVersion_183 : decode cX8_writesVersion 183 = .ok (.iadd, 1) := by decide +kernel
theorem dX8_writesVersion_184 : decode cX8_writesVersion 184 = .ok (.dup2, 1) := by decide +kernel
theorem dX8_writesVersion_185 : decode cX8_writesVersion 185 = .ok (.iaload, 1) := by decide +kernel
theorem dX8_writesVersion_186 : decode cX8_writesVersion 186 = .ok (.iload 6, 2) := by decide +kernel
theorem dX8_writesVersion_188 : decode cX8_writesVersion 188 = .ok (.isub, 1) := by decide +kernel
theorem dX8_writesVersion_189 : decode cX8_writesVersion 189 = .ok (.iastore, 1) := by decide +kernel
theorem dX8_writesVersion_190 : decode cX8_writesVersion 190 = .ok (.aload_n 0, 1) := by decide +kernel
theorem dX8_writesVersion_191 : decode cX8_writesVersion 191 = .ok (.bipush 59, 2) := by decide +kernel
theorem dX8_writesVersion_193 : decode cX8_writesVersion 193 = .ok (.iload_n 2, 1) := by decide +kernel
theorem dX8_writesVersion_194 : decode cX8_writesVersion 194 = .ok (.iadd, 1) := by decide +kernel
theorem dX8_writesVersion_195 : decode cX8_writesVersion 195 = .ok (.dup2, 1) := by decide +kernel
theorem dX8_writesVersion_196 : decode cX8_writesVersion 196 = .ok (.iaload, 1) := by decide +kernel
theorem dX8_writesVersion_197 : decode cX8_writesVersion 197 = .ok (.iload_n 3, 1) := by decide +kernel
theorem dX8_writesVersion_198 : decode cX8_writesVersion 198 = .ok (.iadd, 1) := by decide +kernel
theorem dX8_writesVersion_199 : decode cX8_writesVersion 199 = .ok (.iastore, 1) := by decide +kernel
theorem dX8_writesVersion_200 : decode cX8_writesVersion 200 = .ok (.aload_n 0, 1) := by decide +kernel
theorem dX8_writesVersion_201 : decode cX8_writesVersion 201 = .ok (.sipush 169, 3) := by decide +kernel
theorem dX8_writesVersion_204 : decode cX8_writesVersion 204 = .ok (.bipush 8, 2) := by decide +kernel
theorem dX8_writesVersion_206 : decode cX8_writesVersion 206 = .ok (.iload_n 2, 1) := by decide +kernel
theorem dX8_writesVersion_207 : decode cX8_writesVersion 207 = .ok (.imul, 1) := by decide +kernel
theorem dX8_writesVersion_208 : decode cX8_writesVersion 208 = .ok (.iadd, 1) := by decide +kernel
theorem dX8_writesVersion_209 : decode cX8_writesVersion 209 = .ok (.iload 5, 2) := by decide +kernel
theorem dX8_writesVersion_211 : decode cX8_writesVersion 211 = .ok (.iadd, 1) := by decide +kernel
theorem dX8_writesVersion_212 : decode cX8_writesVersion 212 = .ok (.dup2, 1) := by decide +kernel
theorem dX8_writesVersion_213 : decode cX8_writesVersion 213 = .ok (.iaload, 1) := by decide +kernel
theorem dX8_writesVersion_214 : decode cX8_writesVersion 214 = .ok (.iload_n 3, 1) := by decide +kernel
theorem dX8_writesVersion_215 : decode cX8_writesVersion 215 = .ok (.iadd, 1) := by decide +kernel
theorem dX8_writesVersion_216 : decode cX8_writesVersion 216 = .ok (.iastore, 1) := by decide +kernel
theorem dX8_writesVersion_217 : decode cX8_writesVersion 217 = .ok (.return_, 1) := by decide +kernel
theorem dX8_leadOut_0 : decode cX8_leadOut 0 = .ok (.iconst 2, 1) := by decide +kernel
theorem dX8_leadOut_1 : decode cX8_leadOut 1 = .ok (.aload_n 0, 1) := by decide +kernel
theorem dX8_leadOut_2 : decode cX8_leadOut 2 = .ok (.bipush 39, 2) := by decide +kernel
theorem dX8_leadOut_4 : decode cX8_leadOut 4 = .ok (.iload_n 1, 1) := by decide +kernel
theorem dX8_leadOut_5 : decode cX8_leadOut 5 = .ok (.iadd, 1) := by decide +kernel
theorem dX8_leadOut_6 : decode cX8_leadOut 6 = .ok (.iaload, 1) := by decide +kernel
theorem dX8_leadOut_7 : decode cX8_leadOut 7 = .ok (.aload_n 0, 1) := by decide +kernel
theorem dX8_leadOut_8 : decode cX8_leadOut 8 = .ok (.bipush 59, 2) := by decide +kernel
theorem dX8_leadOut_10 : decode cX8_leadOut 10 = .ok (.iload_n 1, 1) := by decide +kernel
theorem dX8_leadOut_11 : decode cX8_leadOut 11 = .ok (.iadd, 1) := by decide +kernel
theorem dX8_leadOut_12 : decode cX8_leadOut 12 = .ok (.iaload, 1) := by decide +kernel
theorem dX8_leadOut_13 : decode cX8_leadOut 13 = .ok (.isub, 1) := by decide +kernel
theorem dX8_leadOut_14 : decode cX8_leadOut 14 = .ok (.invokestatic 69, 3) := by decide +kernel
theorem dX8_leadOut_17 : decode cX8_leadOut 17 = .ok (.ireturn, 1) := by decide +kernel
set_option maxRecDepth 20000 in
theorem ggX8_closes_X8_leadOut : GoodIn wsX8_closes wsX8_leadOut := goodIn_r _ [4, 5, 6, 7, 8] (by decide +kernel) (by decide +kernel)
set_option maxRecDepth 20000 in
theorem gX8_closes_X8_leadOut : GoodIn wsX8_closes (va_wsS RX8 75 yX8_leadOut wsX8_leadOut) := goodIn_app (goodIn_of _ (by decide +kernel)) ggX8_closes_X8_leadOut
theorem dX8_closes_0 : decode cX8_closes 0 = .ok (.aload_n 0, 1) := by decide +kernel
theorem dX8_closes_1 : decode cX8_closes 1 = .ok (.iload_n 1, 1) := by decide +kernel
theorem dX8_closes_2 : decode cX8_closes 2 = .ok (.invokestatic 75, 3) := by decide +kernel
theorem dX8_closes_5 : decode cX8_closes 5 = .ok (.istore_n 2, 1) := by decide +kernel
theorem dX8_closes_6 : decode cX8_closes 6 = .ok (.aload_n 0, 1) := by decide +kernel
theorem dX8_closes_7 : decode cX8_closes 7 = .ok (.bipush 59, 2) := by decide +kernel
theorem dX8_closes_9 : decode cX8_closes 9 = .ok (.iload_n 1, 1) := by decide +kernel
theorem dX8_closes_10 : decode cX8_closes 10 = .ok (.iadd, 1) := by decide +kernel
theorem dX8_closes_11 : decode cX8_closes 11 = .ok (.dup2, 1) := by decide +kernel
theorem dX8_closes_12 : decode cX8_closes 12 = .ok (.iaload, 1) := by decide +kernel
theorem dX8_closes_13 : decode cX8_closes 13 = .ok (.iload_n 2, 1) := by decide +kernel
theorem dX8_closes_14 : decode cX8_closes 14 = .ok (.iadd, 1) := by decide +kernel
theorem dX8_closes_15 : decode cX8_closes 15 = .ok (.iastore, 1) := by decide +kernel
theorem dX8_closes_16 : decode cX8_closes 16 = .ok (.aload_n 0, 1) := by decide +kernel
theorem dX8_closes_17 : decode cX8_closes 17 = .ok (.sipush 169, 3) := by decide +kernel
theorem dX8_closes_20 : decode cX8_closes 20 = .ok (.bipush 8, 2) := by decide +kernel
theorem dX8_closes_22 : decode cX8_closes 22 = .ok (.iload_n 1, 1) := by decide +kernel
theorem dX8_closes_23 : decode cX8_closes 23 = .ok (.imul, 1) := by decide +kernel
theorem dX8_closes_24 : decode cX8_closes 24 = .ok (.iadd, 1) := by decide +kernel
theorem dX8_closes_25 : decode cX8_closes 25 = .ok (.aload_n 0, 1) := by decide +kernel
theorem dX8_closes_26 : decode cX8_closes 26 = .ok (.bipush 69, 2) := by decide +kernel
theorem dX8_closes_28 : decode cX8_closes 28 = .ok (.iload_n 1, 1) := by decide +kernel
theorem dX8_closes_29 : decode cX8_closes 29 = .ok (.iadd, 1) := by decide +kernel
theorem dX8_closes_30 : decode cX8_closes 30 = .ok (.iaload, 1) := by decide +kernel
theorem dX8_closes_31 : decode cX8_closes 31 = .ok (.iadd, 1) := by decide +kernel
theorem dX8_closes_32 : decode cX8_closes 32 = .ok (.iconst 1, 1) := by decide +kernel
theorem dX8_closes_33 : decode cX8_closes 33 = .ok (.isub, 1) := by decide +kernel
theorem dX8_closes_34 : decode cX8_closes 34 = .ok (.dup2, 1) := by decide +kernel
theorem dX8_closes_35 : decode cX8_closes 35 = .ok (.iaload, 1) := by decide +kernel
theorem dX8_closes_36 : decode cX8_closes 36 = .ok (.iload_n 2, 1) := by decide +kernel
theorem dX8_closes_37 : decode cX8_closes 37 = .ok (.iadd, 1) := by decide +kernel
theorem dX8_closes_38 : decode cX8_closes 38 = .ok (.iastore, 1) := by decide +kernel
theorem dX8_closes_39 : decode cX8_closes 39 = .ok (.aload_n 0, 1) := by decide +kernel
theorem dX8_closes_40 : decode cX8_closes 40 = .ok (.bipush 79, 2) := by decide +kernel
theorem dX8_closes_42 : decode cX8_closes 42 = .ok (.iload_n 1, 1) := by decide +kernel
theorem dX8_closes_43 : decode cX8_closes 43 = .ok (.iadd, 1) := by decide +kernel
theorem dX8_closes_44 : decode cX8_closes 44 = .ok (.iconst 0, 1) := by decide +kernel
theorem dX8_closes_45 : decode cX8_closes 45 = .ok (.iastore, 1) := by decide +kernel
theorem dX8_closes_46 : decode cX8_closes 46 = .ok (.return_, 1) := by decide +kernel
set_option maxRecDepth 20000 in
theorem ggX8_versionAt_X8_isIn : GoodIn wsX8_versionAt wsX8_isIn := goodIn_r _ [4] (by decide +kernel) (by decide +kernel)
set_option maxRecDepth 20000 in
theorem gX8_versionAt_X8_isIn : GoodIn wsX8_versionAt (va_wsS RX8 57 yX8_isIn wsX8_isIn) := goodIn_app (goodIn_of _ (by decide +kernel)) ggX8_versionAt_X8_isIn
theorem dX8_versionAt_0 : decode cX8_versionAt 0 = .ok (.iconst 0, 1) := by decide +kernel
theorem dX8_versionAt_1 : decode cX8_versionAt 1 = .ok (.istore_n 3, 1) := by decide +kernel
theorem dX8_versionAt_2 : decode cX8_versionAt 2 = .ok (.iload_n 3, 1) := by decide +kernel
theorem dX8_versionAt_3 : decode cX8_versionAt 3 = .ok (.aload_n 0, 1) := by decide +kernel
theorem dX8_versionAt_4 : decode cX8_versionAt 4 = .ok (.bipush 10, 2) := by decide +kernel
theorem dX8_versionAt_6 : decode cX8_versionAt 6 = .ok (.iaload, 1) := by decide +kernel
theorem dX8_versionAt_7 : decode cX8_versionAt 7 = .ok (.if_icmp .ge 56, 3) := by decide +kernel
theorem dX8_versionAt_10 : decode cX8_versionAt 10 = .ok (.aload_n 0, 1) := by decide +kernel
theorem dX8_versionAt_11 : decode cX8_versionAt 11 = .ok (.sipush 349, 3) := by decide +kernel
theorem dX8_versionAt_14 : decode cX8_versionAt 14 = .ok (.iload_n 3, 1) := by decide +kernel
theorem dX8_versionAt_15 : decode cX8_versionAt 15 = .ok (.iadd, 1) := by decide +kernel
theorem dX8_versionAt_16 : decode cX8_versionAt 16 = .ok (.iaload, 1) := by decide +kernel
theorem dX8_versionAt_17 : decode cX8_versionAt 17 = .ok (.iload_n 1, 1) := by decide +kernel
theorem dX8_versionAt_18 : decode cX8_versionAt 18 = .ok (.if_icmp .ne 39, 3) := by decide +kernel
theorem dX8_versionAt_21 : decode cX8_versionAt 21 = .ok (.iload_n 2, 1) := by decide +kernel
theorem dX8_versionAt_22 : decode cX8_versionAt 22 = .ok (.i2l, 1) := by decide +kernel
theorem dX8_versionAt_23 : decode cX8_versionAt 23 = .ok (.aload_n 0, 1) := by decide +kernel
theorem dX8_versionAt_24 : decode cX8_versionAt 24 = .ok (.sipush 389, 3) := by decide +kernel
theorem dX8_versionAt_27 : decode cX8_versionAt 27 = .ok (.iload_n 3, 1) := by decide +kernel
theorem dX8_versionAt_28 : decode cX8_versionAt 28 = .ok (.iadd, 1) := by decide +kernel
theorem dX8_versionAt_29 : decode cX8_versionAt 29 = .ok (.iaload, 1) := by decide +kernel
theorem dX8_versionAt_30 : decode cX8_versionAt 30 = .ok (.i2l, 1) := by decide +kernel
theorem dX8_versionAt_31 : decode cX8_versionAt 31 = .ok (.aload_n 0, 1) := by decide +kernel
theorem dX8_versionAt_32 : decode cX8_versionAt 32 = .ok (.sipush 389, 3) := by decide +kernel
theorem dX8_versionAt_35 : decode cX8_versionAt 35 = .ok (.iload_n 3, 1) := by decide +kernel
theorem dX8_versionAt_36 : decode cX8_versionAt 36 = .ok (.iadd, 1) := by decide +kernel
theorem dX8_versionAt_37 : decode cX8_versionAt 37 = .ok (.iaload, 1) := by decide +kernel
theorem dX8_versionAt_38 : decode cX8_versionAt 38 = .ok (.aload_n 0, 1) := by decide +kernel
theorem dX8_versionAt_39 : decode cX8_versionAt 39 = .ok (.sipush 429, 3) := by decide +kernel
theorem dX8_versionAt_42 : decode cX8_versionAt 42 = .ok (.iload_n 3, 1) := by decide +kernel
theorem dX8_versionAt_43 : decode cX8_versionAt 43 = .ok (.iadd, 1) := by decide +kernel
theorem dX8_versionAt_44 : decode cX8_versionAt 44 = .ok (.iaload, 1) := by decide +kernel
theorem dX8_versionAt_45 : decode cX8_versionAt 45 = .ok (.iadd, 1) := by decide +kernel
theorem dX8_versionAt_46 : decode cX8_versionAt 46 = .ok (.iconst 1, 1) := by decide +kernel
theorem dX8_versionAt_47 : decode cX8_versionAt 47 = .ok (.isub, 1) := by decide +kernel
theorem dX8_versionAt_48 : decode cX8_versionAt 48 = .ok (.i2l, 1) := by decide +kernel
theorem dX8_versionAt_49 : decode cX8_versionAt 49 = .ok (.invokestatic 57, 3) := by decide +kernel
theorem dX8_versionAt_52 : decode cX8_versionAt 52 = .ok (.ifCond .eq 5, 3) := by decide +kernel
theorem dX8_versionAt_55 : decode cX8_versionAt 55 = .ok (.iload_n 3, 1) := by decide +kernel
theorem dX8_versionAt_56 : decode cX8_versionAt 56 = .ok (.ireturn, 1) := by decide +kernel
theorem dX8_versionAt_57 : decode cX8_versionAt 57 = .ok (.iinc 3 1, 3) := by decide +kernel
theorem dX8_versionAt_60 : decode cX8_versionAt 60 = .ok (.goto (-58), 3) := by decide +kernel
theorem dX8_versionAt_63 : decode cX8_versionAt 63 = .ok (.iconst (-1), 1) := by decide +kernel
theorem dX8_versionAt_64 : decode cX8_versionAt 64 = .ok (.ireturn, 1) := by decide +kernel
set_option maxRecDepth 20000 in
theorem ggX8_marks_X8_versionAt : GoodIn wsX8_marks wsX8_versionAt := goodIn_r _ [4, 5, 6, 3, 7] (by decide +kernel) (by decide +kernel)
set_option maxRecDepth 20000 in
theorem gX8_marks_X8_versionAt : GoodIn wsX8_marks (va_wsS RX8 79 yX8_versionAt wsX8_versionAt) := goodIn_app (goodIn_of _ (by decide +kernel)) ggX8_marks_X8_versionAt
theorem dX8_marks_0 : decode cX8_marks 0 = .ok (.aload_n 0, 1) := by decide +kernel
theorem dX8_marks_1 : decode cX8_marks 1 = .ok (.sipush 249, 3) := by decide +kernel
theorem dX8_marks_4 : decode cX8_marks 4 = .ok (.aload_n 0, 1) := by decide +kernel
theorem dX8_marks_5 : decode cX8_marks 5 = .ok (.bipush 8, 2) := by decide +kernel
theorem dX8_marks_7 : decode cX8_marks 7 = .ok (.iaload, 1) := by decide +kernel
theorem dX8_marks_8 : decode cX8_marks 8 = .ok (.iadd, 1) := by decide +kernel
theorem dX8_marks_9 : decode cX8_marks 9 = .ok (.iload_n 1, 1) := by decide +kernel
theorem dX8_marks_10 : decode cX8_marks 10 = .ok (.iastore, 1) := by decide +kernel
theorem dX8_marks_11 : decode cX8_marks 11 = .ok (.aload_n 0, 1) := by decide +kernel
theorem dX8_marks_12 : decode cX8_marks 12 = .ok (.sipush 269, 3) := by decide +kernel
theorem dX8_marks_15 : decode cX8_marks 15 = .ok (.aload_n 0, 1) := by decide +kernel
theorem dX8_marks_16 : decode cX8_marks 16 = .ok (.bipush 8, 2) := by decide +kernel
theorem dX8_marks_18 : decode cX8_marks 18 = .ok (.iaload, 1) := by decide +kernel
theorem dX8_marks_19 : decode cX8_marks 19 = .ok (.iadd, 1) := by decide +kernel
theorem dX8_marks_20 : decode cX8_marks 20 = .ok (.iload_n 2, 1) := by decide +kernel
theorem dX8_marks_21 : decode cX8_marks 21 = .ok (.iastore, 1) := by decide +kernel
theorem dX8_marks_22 : decode cX8_marks 22 = .ok (.aload_n 0, 1) := by decide +kernel
theorem dX8_marks_23 : decode cX8_marks 23 = .ok (.bipush 8, 2) := by decide +kernel
theorem dX8_marks_25 : decode cX8_marks 25 = .ok (.dup2, 1) := by decide +kernel
theorem dX8_marks_26 : decode cX8_marks 26 = .ok (.iaload, 1) := by decide +kernel
theorem dX8_marks_27 : decode cX8_marks 27 = .ok (.iconst 1, 1) := by decide +kernel
theorem dX8_marks_28 : decode cX8_marks 28 = .ok (.iadd, 1) := by decide +kernel
theorem dX8_marks_29 : decode cX8_marks 29 = .ok (.iastore, 1) := by decide +kernel
theorem dX8_marks_30 : decode cX8_marks 30 = .ok (.aload_n 0, 1) := by decide +kernel
theorem dX8_marks_31 : decode cX8_marks 31 = .ok (.iload_n 1, 1) := by decide +kernel
theorem dX8_marks_32 : decode cX8_marks 32 = .ok (.iload_n 2, 1) := by decide +kernel
theorem dX8_marks_33 : decode cX8_marks 33 = .ok (.invokestatic 79, 3) := by decide +kernel
theorem dX8_marks_36 : decode cX8_marks 36 = .ok (.istore_n 3, 1) := by decide +kernel
theorem dX8_marks_37 : decode cX8_marks 37 = .ok (.iload_n 3, 1) := by decide +kernel
theorem dX8_marks_38 : decode cX8_marks 38 = .ok (.iconst (-1), 1) := by decide +kernel
theorem dX8_marks_39 : decode cX8_marks 39 = .ok (.if_icmp .eq 11, 3) := by decide +kernel
theorem dX8_marks_42 : decode cX8_marks 42 = .ok (.aload_n 0, 1) := by decide +kernel
theorem dX8_marks_43 : decode cX8_marks 43 = .ok (.sipush 549, 3) := by decide +kernel
theorem dX8_marks_46 : decode cX8_marks 46 = .ok (.iload_n 3, 1) := by decide +kernel
theorem dX8_marks_47 : decode cX8_marks 47 = .ok (.iadd, 1) := by decide +kernel
theorem dX8_marks_48 : decode cX8_marks 48 = .ok (.iconst 1, 1) := by decide +kernel
theorem dX8_marks_49 : decode cX8_marks 49 = .ok (.iastore, 1) := by decide +kernel
theorem dX8_marks_50 : decode cX8_marks 50 = .ok (.return_, 1) := by decide +kernel
theorem dX8_isCurrent_0 : decode cX8_isCurrent 0 = .ok (.aload_n 0, 1) := by decide +kernel
theorem dX8_isCurrent_1 : decode cX8_isCurrent 1 = .ok (.getfield 7, 3) := by decide +kernel
theorem dX8_isCurrent_4 : decode cX8_isCurrent 4 = .ok (.sipush 289, 3) := by decide +kernel
theorem dX8_isCurrent_7 : decode cX8_isCurrent 7 = .ok (.aload_n 0, 1) := by decide +kernel
theorem dX8_isCurrent_8 : decode cX8_isCurrent 8 = .ok (.getfield 7, 3) := by decide +kernel
theorem dX8_isCurrent_11 : decode cX8_isCurrent 11 = .ok (.sipush 309, 3) := by decide +kernel
theorem dX8_isCurrent_14 : decode cX8_isCurrent 14 = .ok (.iload_n 1, 1) := by decide +kernel
theorem dX8_isCurrent_15 : decode cX8_isCurrent 15 = .ok (.iadd, 1) := by decide +kernel
theorem dX8_isCurrent_16 : decode cX8_isCurrent 16 = .ok (.iaload, 1) := by decide +kernel
theorem dX8_isCurrent_17 : decode cX8_isCurrent 17 = .ok (.iadd, 1) := by decide +kernel
theorem dX8_isCurrent_18 : decode cX8_isCurrent 18 = .ok (.iaload, 1) := by decide +kernel
theorem dX8_isCurrent_19 : decode cX8_isCurrent 19 = .ok (.iload_n 1, 1) := by decide +kernel
theorem dX8_isCurrent_20 : decode cX8_isCurrent 20 = .ok (.if_icmp .ne 7, 3) := by decide +kernel
theorem dX8_isCurrent_23 : decode cX8_isCurrent 23 = .ok (.iconst 1, 1) := by decide +kernel
theorem dX8_isCurrent_24 : decode cX8_isCurrent 24 = .ok (.goto 4, 3) := by decide +kernel
theorem dX8_isCurrent_27 : decode cX8_isCurrent 27 = .ok (.iconst 0, 1) := by decide +kernel
theorem dX8_isCurrent_28 : decode cX8_isCurrent 28 = .ok (.ireturn, 1) := by decide +kernel
theorem dX8_isClosed_0 : decode cX8_isClosed 0 = .ok (.aload_n 0, 1) := by decide +kernel
theorem dX8_isClosed_1 : decode cX8_isClosed 1 = .ok (.getfield 7, 3) := by decide +kernel
theorem dX8_isClosed_4 : decode cX8_isClosed 4 = .ok (.sipush 349, 3) := by decide +kernel
theorem dX8_isClosed_7 : decode cX8_isClosed 7 = .ok (.iload_n 1, 1) := by decide +kernel
theorem dX8_isClosed_8 : decode cX8_isClosed 8 = .ok (.iadd, 1) := by decide +kernel
theorem dX8_isClosed_9 : decode cX8_isClosed 9 = .ok (.iaload, 1) := by decide +kernel
theorem dX8_isClosed_10 : decode cX8_isClosed 10 = .ok (.istore_n 2, 1) := by decide +kernel
theorem dX8_isClosed_11 : decode cX8_isClosed 11 = .ok (.aload_n 0, 1) := by decide +kernel
theorem dX8_isClosed_12 : decode cX8_isClosed 12 = .ok (.getfield 7, 3) := by decide +kernel
theorem dX8_isClosed_15 : decode cX8_isClosed 15 = .ok (.bipush 79, 2) := by decide +kernel
theorem dX8_isClosed_17 : decode cX8_isClosed 17 = .ok (.iload_n 2, 1) := by decide +kernel
theorem dX8_isClosed_18 : decode cX8_isClosed 18 = .ok (.iadd, 1) := by decide +kernel
theorem dX8_isClosed_19 : decode cX8_isClosed 19 = .ok (.iaload, 1) := by decide +kernel
theorem dX8_isClosed_20 : decode cX8_isClosed 20 = .ok (.ifCond .eq 27, 3) := by decide +kernel
theorem dX8_isClosed_23 : decode cX8_isClosed 23 = .ok (.aload_n 0, 1) := by decide +kernel
theorem dX8_isClosed_24 : decode cX8_isClosed 24 = .ok (.getfield 7, 3) := by decide +kernel
theorem dX8_isClosed_27 : decode cX8_isClosed 27 = .ok (.sipush 469, 3) := by decide +kernel
theorem dX8_isClosed_30 : decode cX8_isClosed 30 = .ok (.iload_n 1, 1) := by decide +kernel
theorem dX8_isClosed_31 : decode cX8_isClosed 31 = .ok (.iadd, 1) := by decide +kernel
theorem dX8_isClosed_32 : decode cX8_isClosed 32 = .ok (.iaload, 1) := by decide +kernel
theorem dX8_isClosed_33 : decode cX8_isClosed 33 = .ok (.aload_n 0, 1) := by decide +kernel
theorem dX8_isClosed_34 : decode cX8_isClosed 34 = .ok (.getfield 7, 3) := by decide +kernel
theorem dX8_isClosed_37 : decode cX8_isClosed 37 = .ok (.bipush 69, 2) := by decide +kernel
theorem dX8_isClosed_39 : decode cX8_isClosed 39 = .ok (.iload_n 2, 1) := by decide +kernel
theorem dX8_isClosed_40 : decode cX8_isClosed 40 = .ok (.iadd, 1) := by decide +kernel
theorem dX8_isClosed_41 : decode cX8_isClosed 41 = .ok (.iaload, 1) := by decide +kernel
theorem dX8_isClosed_42 : decode cX8_isClosed 42 = .ok (.iconst 1, 1) := by decide +kernel
theorem dX8_isClosed_43 : decode cX8_isClosed 43 = .ok (.isub, 1) := by decide +kernel
theorem dX8_isClosed_44 : decode cX8_isClosed 44 = .ok (.if_icmp .ge 7, 3) := by decide +kernel
theorem dX8_isClosed_47 : decode cX8_isClosed 47 = .ok (.iconst 1, 1) := by decide +kernel
theorem dX8_isClosed_48 : decode cX8_isClosed 48 = .ok (.goto 4, 3) := by decide +kernel
theorem dX8_isClosed_51 : decode cX8_isClosed 51 = .ok (.iconst 0, 1) := by decide +kernel
theorem dX8_isClosed_52 : decode cX8_isClosed 52 = .ok (.ireturn, 1) := by decide +kernel
set_option maxRecDepth 20000 in
theorem ggX8_isGood_X8_isClosed : GoodIn wsX8_isGood wsX8_isClosed := goodIn_r _ [6, 1, 7, 8, 9, 10, 11, 12, 13, 14, 15, 16, 17, 18, 19, 20, 21, 22, 23, 24, 25, 26, 27, 28, 29, 30, 31, 32, 33] (by decide +kernel) (by decide +kernel)
set_option maxRecDepth 20000 in
theorem gX8_isGood_X8_isClosed : GoodIn wsX8_isGood (wsV RX8 83 RX8 yX8_isClosed wsX8_isClosed) := goodIn_app (goodIn_of _ (by decide +kernel)) ggX8_isGood_X8_isClosed
theorem dX8_isGood_0 : decode cX8_isGood 0 = .ok (.aload_n 0, 1) := by decide +kernel
theorem dX8_isGood_1 : decode cX8_isGood 1 = .ok (.getfield 7, 3) := by decide +kernel
theorem dX8_isGood_4 : decode cX8_isGood 4 = .ok (.sipush 549, 3) := by decide +kernel
theorem dX8_isGood_7 : decode cX8_isGood 7 = .ok (.iload_n 1, 1) := by decide +kernel
theorem dX8_isGood_8 : decode cX8_isGood 8 = .ok (.iadd, 1) := by decide +kernel
theorem dX8_isGood_9 : decode cX8_isGood 9 = .ok (.iaload, 1) := by decide +kernel
theorem dX8_isGood_10 : decode cX8_isGood 10 = .ok (.ifCond .ne 15, 3) := by decide +kernel
theorem dX8_isGood_13 : decode cX8_isGood 13 = .ok (.aload_n 0, 1) := by decide +kernel
theorem dX8_isGood_14 : decode cX8_isGood 14 = .ok (.iload_n 1, 1) := by decide +kernel
theorem dX8_isGood_15 : decode cX8_isGood 15 = .ok (.invokevirtual 83, 3) := by decide +kernel
theorem dX8_isGood_18 : decode cX8_isGood 18 = .ok (.ifCond .eq 7, 3) := by decide +kernel
theorem dX8_isGood_21 : decode cX8_isGood 21 = .ok (.iconst 1, 1) := by decide +kernel
theorem dX8_isGood_22 : decode cX8_isGood 22 = .ok (.goto 4, 3) := by decide +kernel
theorem dX8_isGood_25 : decode cX8_isGood 25 = .ok (.iconst 0, 1) := by decide +kernel
theorem dX8_isGood_26 : decode cX8_isGood 26 = .ok (.ireturn, 1) := by decide +kernel
theorem dX8_version_0 : decode cX8_version 0 = .ok (.aload_n 0, 1) := by decide +kernel
theorem dX8_version_1 : decode cX8_version 1 = .ok (.getfield 7, 3) := by decide +kernel
theorem dX8_version_4 : decode cX8_version 4 = .ok (.sipush 289, 3) := by decide +kernel
theorem dX8_version_7 : decode cX8_version 7 = .ok (.iload_n 1, 1) := by decide +kernel
theorem dX8_version_8 : decode cX8_version 8 = .ok (.iadd, 1) := by decide +kernel
theorem dX8_version_9 : decode cX8_version 9 = .ok (.iaload, 1) := by decide +kernel
theorem dX8_version_10 : decode cX8_version 10 = .ok (.ireturn, 1) := by decide +kernel
set_option maxRecDepth 20000 in
theorem ggX8_isReadable_X8_version : GoodIn wsX8_isReadable wsX8_version := goodIn_r _ [5, 6, 15, 16, 17, 18, 19, 20, 21, 22, 23, 24, 25, 26, 27, 28, 29, 30, 31, 32, 33, 34, 35, 36, 37, 38, 39, 40, 41] (by decide +kernel) (by decide +kernel)
set_option maxRecDepth 20000 in
theorem gX8_isReadable_X8_version : GoodIn wsX8_isReadable (wsV RX8 86 RX8 yX8_version wsX8_version) := goodIn_app (goodIn_of _ (by decide +kernel)) ggX8_isReadable_X8_version
set_option maxRecDepth 20000 in
theorem ggX8_isReadable_X8_isGood : GoodIn wsX8_isReadable wsX8_isGood := goodIn_r _ [10, 6, 11, 12, 13, 4, 14, 15, 16, 17, 18, 19, 20, 21, 22, 23, 24, 25, 26, 27, 28, 29, 30, 31, 32, 33, 34, 35, 36, 37, 38, 39, 40, 41] (by decide +kernel) (by decide +kernel)
set_option maxRecDepth 20000 in
theorem gX8_isReadable_X8_isGood : GoodIn wsX8_isReadable (wsV RX8 90 RX8 yX8_isGood wsX8_isGood) := goodIn_app (goodIn_of _ (by decide +kernel)) ggX8_isReadable_X8_isGood
theorem dX8_isReadable_0 : decode cX8_isReadable 0 = .ok (.aload_n 0, 1) := by decide +kernel
theorem dX8_isReadable_1 : decode cX8_isReadable 1 = .ok (.aload_n 0, 1) := by decide +kernel
theorem dX8_isReadable_2 : decode cX8_isReadable 2 = .ok (.iload_n 1, 1) := by decide +kernel
theorem dX8_isReadable_3 : decode cX8_isReadable 3 = .ok (.invokevirtual 86, 3) := by decide +kernel
theorem dX8_isReadable_6 : decode cX8_isReadable 6 = .ok (.invokevirtual 90, 3) := by decide +kernel
theorem dX8_isReadable_9 : decode cX8_isReadable 9 = .ok (.ireturn, 1) := by decide +kernel
set_option maxRecDepth 20000 in
theorem ggX8_platterOf_X8_version : GoodIn wsX8_platterOf wsX8_version := goodIn_r _ [6, 1, 7, 8, 9, 10, 11, 12, 13, 14, 15, 16, 17, 18, 19, 20, 21, 22, 23, 24, 25, 26, 27, 28, 29, 30, 31, 32, 33] (by decide +kernel) (by decide +kernel)
set_option maxRecDepth 20000 in
theorem gX8_platterOf_X8_version : GoodIn wsX8_platterOf (wsV RX8 86 RX8 yX8_version wsX8_version) := goodIn_app (goodIn_of _ (by decide +kernel)) ggX8_platterOf_X8_version
theorem dX8_platterOf_0 : decode cX8_platterOf 0 = .ok (.aload_n 0, 1) := by decide +kernel
theorem dX8_platterOf_1 : decode cX8_platterOf 1 = .ok (.getfield 7, 3) := by decide +kernel
theorem dX8_platterOf_4 : decode cX8_platterOf 4 = .ok (.sipush 349, 3) := by decide +kernel
theorem dX8_platterOf_7 : decode cX8_platterOf 7 = .ok (.aload_n 0, 1) := by decide +kernel
theorem dX8_platterOf_8 : decode cX8_platterOf 8 = .ok (.iload_n 1, 1) := by decide +kernel
theorem dX8_platterOf_9 : decode cX8_platterOf 9 = .ok (.invokevirtual 86, 3) := by decide +kernel
theorem dX8_platterOf_12 : decode cX8_platterOf 12 = .ok (.iadd, 1) := by decide +kernel
theorem dX8_platterOf_13 : decode cX8_platterOf 13 = .ok (.iaload, 1) := by decide +kernel
theorem dX8_platterOf_14 : decode cX8_platterOf 14 = .ok (.ireturn, 1) := by decide +kernel
theorem dX8_inDrive_0 : decode cX8_inDrive 0 = .ok (.iconst 0, 1) := by decide +kernel
theorem dX8_inDrive_1 : decode cX8_inDrive 1 = .ok (.istore_n 2, 1) := by decide +kernel
theorem dX8_inDrive_2 : decode cX8_inDrive 2 = .ok (.iload_n 2, 1) := by decide +kernel
theorem dX8_inDrive_3 : decode cX8_inDrive 3 = .ok (.aload_n 0, 1) := by decide +kernel
theorem dX8_inDrive_4 : decode cX8_inDrive 4 = .ok (.getfield 7, 3) := by decide +kernel
theorem dX8_inDrive_7 : decode cX8_inDrive 7 = .ok (.bipush 6, 2) := by decide +kernel
theorem dX8_inDrive_9 : decode cX8_inDrive 9 = .ok (.iaload, 1) := by decide +kernel
theorem dX8_inDrive_10 : decode cX8_inDrive 10 = .ok (.if_icmp .ge 24, 3) := by decide +kernel
theorem dX8_inDrive_13 : decode cX8_inDrive 13 = .ok (.aload_n 0, 1) := by decide +kernel
theorem dX8_inDrive_14 : decode cX8_inDrive 14 = .ok (.getfield 7, 3) := by decide +kernel
theorem dX8_inDrive_17 : decode cX8_inDrive 17 = .ok (.bipush 21, 2) := by decide +kernel
theorem dX8_inDrive_19 : decode cX8_inDrive 19 = .ok (.iload_n 2, 1) := by decide +kernel
theorem dX8_inDrive_20 : decode cX8_inDrive 20 = .ok (.iadd, 1) := by decide +kernel
theorem dX8_inDrive_21 : decode cX8_inDrive 21 = .ok (.iaload, 1) := by decide +kernel
theorem dX8_inDrive_22 : decode cX8_inDrive 22 = .ok (.iload_n 1, 1) := by decide +kernel
theorem dX8_inDrive_23 : decode cX8_inDrive 23 = .ok (.if_icmp .ne 5, 3) := by decide +kernel
theorem dX8_inDrive_26 : decode cX8_inDrive 26 = .ok (.iload_n 2, 1) := by decide +kernel
theorem dX8_inDrive_27 : decode cX8_inDrive 27 = .ok (.ireturn, 1) := by decide +kernel
theorem dX8_inDrive_28 : decode cX8_inDrive 28 = .ok (.iinc 2 1, 3) := by decide +kernel
theorem dX8_inDrive_31 : decode cX8_inDrive 31 = .ok (.goto (-29), 3) := by decide +kernel
theorem dX8_inDrive_34 : decode cX8_inDrive 34 = .ok (.iconst (-1), 1) := by decide +kernel
theorem dX8_inDrive_35 : decode cX8_inDrive 35 = .ok (.ireturn, 1) := by decide +kernel
set_option maxRecDepth 20000 in
theorem ggX8_goes_X8_far : GoodIn wsX8_goes wsX8_far := goodIn_r _ [5] (by decide +kernel) (by decide +kernel)
set_option maxRecDepth 20000 in
theorem gX8_goes_X8_far : GoodIn wsX8_goes (va_wsS RX8 93 yX8_far wsX8_far) := goodIn_app (goodIn_of _ (by decide +kernel)) ggX8_goes_X8_far
theorem dX8_goes_0 : decode cX8_goes 0 = .ok (.aload_n 0, 1) := by decide +kernel
theorem dX8_goes_1 : decode cX8_goes 1 = .ok (.getfield 7, 3) := by decide +kernel
theorem dX8_goes_4 : decode cX8_goes 4 = .ok (.bipush 11, 2) := by decide +kernel
theorem dX8_goes_6 : decode cX8_goes 6 = .ok (.iaload, 1) := by decide +kernel
theorem dX8_goes_7 : decode cX8_goes 7 = .ok (.iload_n 1, 1) := by decide +kernel
theorem dX8_goes_8 : decode cX8_goes 8 = .ok (.invokestatic 93, 3) := by decide +kernel
theorem dX8_goes_11 : decode cX8_goes 11 = .ok (.istore_n 2, 1) := by decide +kernel
theorem dX8_goes_12 : decode cX8_goes 12 = .ok (.aload_n 0, 1) := by decide +kernel
theorem dX8_goes_13 : decode cX8_goes 13 = .ok (.getfield 7, 3) := by decide +kernel
theorem dX8_goes_16 : decode cX8_goes 16 = .ok (.bipush 14, 2) := by decide +kernel
theorem dX8_goes_18 : decode cX8_goes 18 = .ok (.dup2, 1) := by decide +kernel
theorem dX8_goes_19 : decode cX8_goes 19 = .ok (.iaload, 1) := by decide +kernel
theorem dX8_goes_20 : decode cX8_goes 20 = .ok (.iload_n 2, 1) := by decide +kernel
theorem dX8_goes_21 : decode cX8_goes 21 = .ok (.iadd, 1) := by decide +kernel
theorem dX8_goes_22 : decode cX8_goes 22 = .ok (.iastore, 1) := by decide +kernel
theorem dX8_goes_23 : decode cX8_goes 23 = .ok (.aload_n 0, 1) := by decide +kernel
theorem dX8_goes_24 : decode cX8_goes 24 = .ok (.getfield 7, 3) := by decide +kernel
theorem dX8_goes_27 : decode cX8_goes 27 = .ok (.bipush 12, 2) := by decide +kernel
theorem dX8_goes_29 : decode cX8_goes 29 = .ok (.dup2, 1) := by decide +kernel
theorem dX8_goes_30 : decode cX8_goes 30 = .ok (.iaload, 1) := by decide +kernel
theorem dX8_goes_31 : decode cX8_goes 31 = .ok (.iload_n 2, 1) := by decide +kernel
theorem dX8_goes_32 : decode cX8_goes 32 = .ok (.aload_n 0, 1) := by decide +kernel
theorem dX8_goes_33 : decode cX8_goes 33 = .ok (.getfield 7, 3) := by decide +kernel
theorem dX8_goes_36 : decode cX8_goes 36 = .ok (.iconst 1, 1) := by decide +kernel
theorem dX8_goes_37 : decode cX8_goes 37 = .ok (.iaload, 1) := by decide +kernel
theorem dX8_goes_38 : decode cX8_goes 38 = .ok (.imul, 1) := by decide +kernel
theorem dX8_goes_39 : decode cX8_goes 39 = .ok (.iadd, 1) := by decide +kernel
theorem dX8_goes_40 : decode cX8_goes 40 = .ok (.iastore, 1) := by decide +kernel
theorem dX8_goes_41 : decode cX8_goes 41 = .ok (.aload_n 0, 1) := by decide +kernel
theorem dX8_goes_42 : decode cX8_goes 42 = .ok (.getfield 7, 3) := by decide +kernel
theorem dX8_goes_45 : decode cX8_goes 45 = .ok (.bipush 11, 2) := by decide +kernel
theorem dX8_goes_47 : decode cX8_goes 47 = .ok (.iload_n 1, 1) := by decide +kernel
theorem dX8_goes_48 : decode cX8_goes 48 = .ok (.iastore, 1) := by decide +kernel
theorem dX8_goes_49 : decode cX8_goes 49 = .ok (.return_, 1) := by decide +kernel
theorem dX8_grips_0 : decode cX8_grips 0 = .ok (.aload_n 0, 1) := by decide +kernel
theorem dX8_grips_1 : decode cX8_grips 1 = .ok (.getfield 7, 3) := by decide +kernel
theorem dX8_grips_4 : decode cX8_grips 4 = .ok (.bipush 12, 2) := by decide +kernel
theorem dX8_grips_6 : decode cX8_grips 6 = .ok (.dup2, 1) := by decide +kernel
theorem dX8_grips_7 : decode cX8_grips 7 = .ok (.iaload, 1) := by decide +kernel
theorem dX8_grips_8 : decode cX8_grips 8 = .ok (.aload_n 0, 1) := by decide +kernel
theorem dX8_grips_9 : decode cX8_grips 9 = .ok (.getfield 7, 3) := by decide +kernel
theorem dX8_grips_12 : decode cX8_grips 12 = .ok (.iconst 2, 1) := by decide +kernel
theorem dX8_grips_13 : decode cX8_grips 13 = .ok (.iaload, 1) := by decide +kernel
theorem dX8_grips_14 : decode cX8_grips 14 = .ok (.iadd, 1) := by decide +kernel
theorem dX8_grips_15 : decode cX8_grips 15 = .ok (.iastore, 1) := by decide +kernel
theorem dX8_grips_16 : decode cX8_grips 16 = .ok (.return_, 1) := by decide +kernel
set_option maxRecDepth 20000 in
theorem ggX8_empties_X8_goes : GoodIn wsX8_empties wsX8_goes := goodIn_r _ [6, 1, 7, 8, 5, 9, 14, 15, 16, 17, 18, 19, 20, 21, 22, 23, 24, 25, 26, 27, 28, 29, 30, 31, 32, 33, 34, 35, 36, 37, 38, 39, 40] (by decide +kernel) (by decide +kernel)
set_option maxRecDepth 20000 in
theorem gX8_empties_X8_goes : GoodIn wsX8_empties (wsV RX8 96 RX8 yX8_goes wsX8_goes) := goodIn_app (goodIn_of _ (by decide +kernel)) ggX8_empties_X8_goes
set_option maxRecDepth 20000 in
theorem ggX8_empties_X8_grips : GoodIn wsX8_empties wsX8_grips := goodIn_r _ [13, 1, 14, 15, 16, 17, 18, 19, 20, 21, 22, 23, 24, 25, 26, 27, 28, 29, 30, 31, 32, 33, 34, 35, 36, 37, 38, 39, 40] (by decide +kernel) (by decide +kernel)
set_option maxRecDepth 20000 in
theorem gX8_empties_X8_grips : GoodIn wsX8_empties (wsV RX8 100 RX8 yX8_grips wsX8_grips) := goodIn_app (goodIn_of _ (by decide +kernel)) ggX8_empties_X8_grips
theorem dX8_empties_0 : decode cX8_empties 0 = .ok (.aload_n 0, 1) := by decide +kernel
theorem dX8_empties_1 : decode cX8_empties 1 = .ok (.aload_n 0, 1) := by decide +kernel
theorem dX8_empties_2 : decode cX8_empties 2 = .ok (.getfield 7, 3) := by decide +kernel
theorem dX8_empties_5 : decode cX8_empties 5 = .ok (.bipush 17, 2) := by decide +kernel
theorem dX8_empties_7 : decode cX8_empties 7 = .ok (.iload_n 1, 1) := by decide +kernel
theorem dX8_empties_8 : decode cX8_empties 8 = .ok (.iadd, 1) := by decide +kernel
theorem dX8_empties_9 : decode cX8_empties 9 = .ok (.iaload, 1) := by decide +kernel
theorem dX8_empties_10 : decode cX8_empties 10 = .ok (.invokevirtual 96, 3) := by decide +kernel
theorem dX8_empties_13 : decode cX8_empties 13 = .ok (.aload_n 0, 1) := by decide +kernel
theorem dX8_empties_14 : decode cX8_empties 14 = .ok (.invokevirtual 100, 3) := by decide +kernel
theorem dX8_empties_17 : decode cX8_empties 17 = .ok (.aload_n 0, 1) := by decide +kernel
theorem dX8_empties_18 : decode cX8_empties 18 = .ok (.aload_n 0, 1) := by decide +kernel
theorem dX8_empties_19 : decode cX8_empties 19 = .ok (.getfield 7, 3) := by decide +kernel
theorem dX8_empties_22 : decode cX8_empties 22 = .ok (.bipush 29, 2) := by decide +kernel
theorem dX8_empties_24 : decode cX8_empties 24 = .ok (.aload_n 0, 1) := by decide +kernel
theorem dX8_empties_25 : decode cX8_empties 25 = .ok (.getfield 7, 3) := by decide +kernel
theorem dX8_empties_28 : decode cX8_empties 28 = .ok (.bipush 21, 2) := by decide +kernel
theorem dX8_empties_30 : decode cX8_empties 30 = .ok (.iload_n 1, 1) := by decide +kernel
theorem dX8_empties_31 : decode cX8_empties 31 = .ok (.iadd, 1) := by decide +kernel
theorem dX8_empties_32 : decode cX8_empties 32 = .ok (.iaload, 1) := by decide +kernel
theorem dX8_empties_33 : decode cX8_empties 33 = .ok (.iadd, 1) := by decide +kernel
theorem dX8_empties_34 : decode cX8_empties 34 = .ok (.iaload, 1) := by decide +kernel
theorem dX8_empties_35 : decode cX8_empties 35 = .ok (.invokevirtual 96, 3) := by decide +kernel
theorem dX8_empties_38 : decode cX8_empties 38 = .ok (.aload_n 0, 1) := by decide +kernel
theorem dX8_empties_39 : decode cX8_empties 39 = .ok (.invokevirtual 100, 3) := by decide +kernel
theorem dX8_empties_42 : decode cX8_empties 42 = .ok (.aload_n 0, 1) := by decide +kernel
theorem dX8_empties_43 : decode cX8_empties 43 = .ok (.getfield 7, 3) := by decide +kernel
theorem dX8_empties_46 : decode cX8_empties 46 = .ok (.bipush 21, 2) := by decide +kernel
theorem dX8_empties_48 : decode cX8_empties 48 = .ok (.iload_n 1, 1) := by decide +kernel
theorem dX8_empties_49 : decode cX8_empties 49 = .ok (.iadd, 1) := by decide +kernel
theorem dX8_empties_50 : decode cX8_empties 50 = .ok (.iconst (-1), 1) := by decide +kernel
theorem dX8_empties_51 : decode cX8_empties 51 = .ok (.iastore, 1) := by decide +kernel
theorem dX8_empties_52 : decode cX8_empties 52 = .ok (.return_, 1) := by decide +kernel
theorem dX8_uses_0 : decode cX8_uses 0 = .ok (.aload_n 0, 1) := by decide +kernel
theorem dX8_uses_1 : decode cX8_uses 1 = .ok (.getfield 7, 3) := by decide +kernel
theorem dX8_uses_4 : decode cX8_uses 4 = .ok (.bipush 15, 2) := by decide +kernel
theorem dX8_uses_6 : decode cX8_uses 6 = .ok (.dup2, 1) := by decide +kernel
theorem dX8_uses_7 : decode cX8_uses 7 = .ok (.iaload, 1) := by decide +kernel
theorem dX8_uses_8 : decode cX8_uses 8 = .ok (.iconst 1, 1) := by decide +kernel
theorem dX8_uses_9 : decode cX8_uses 9 = .ok (.iadd, 1) := by decide +kernel
theorem dX8_uses_10 : decode cX8_uses 10 = .ok (.iastore, 1) := by decide +kernel
theorem dX8_uses_11 : decode cX8_uses 11 = .ok (.aload_n 0, 1) := by decide +kernel
theorem dX8_uses_12 : decode cX8_uses 12 = .ok (.getfield 7, 3) := by decide +kernel
theorem dX8_uses_15 : decode cX8_uses 15 = .ok (.bipush 25, 2) := by decide +kernel
theorem dX8_uses_17 : decode cX8_uses 17 = .ok (.iload_n 1, 1) := by decide +kernel
theorem dX8_uses_18 : decode cX8_uses 18 = .ok (.iadd, 1) := by decide +kernel
theorem dX8_uses_19 : decode cX8_uses 19 = .ok (.aload_n 0, 1) := by decide +kernel
theorem dX8_uses_20 : decode cX8_uses 20 = .ok (.getfield 7, 3) := by decide +kernel
theorem dX8_uses_23 : decode cX8_uses 23 = .ok (.bipush 15, 2) := by decide +kernel
theorem dX8_uses_25 : decode cX8_uses 25 = .ok (.iaload, 1) := by decide +kernel
theorem dX8_uses_26 : decode cX8_uses 26 = .ok (.iastore, 1) := by decide +kernel
theorem dX8_uses_27 : decode cX8_uses 27 = .ok (.return_, 1) := by decide +kernel
set_option maxRecDepth 20000 in
theorem ggX8_brings_X8_empties : GoodIn wsX8_brings wsX8_empties := goodIn_r _ [6, 1, 7, 8, 9, 5, 10, 11, 12, 13, 14, 15, 16, 17, 22, 23, 24, 25, 26, 27, 28, 29, 30, 31, 32, 33, 34, 35, 36, 37, 38, 39, 40, 41, 42, 43, 44, 45, 46, 47, 48] (by decide +kernel) (by decide +kernel)
set_option maxRecDepth 20000 in
theorem gX8_brings_X8_empties : GoodIn wsX8_brings (wsV RX8 103 RX8 yX8_empties wsX8_empties) := goodIn_app (goodIn_of _ (by decide +kernel)) ggX8_brings_X8_empties
set_option maxRecDepth 20000 in
theorem ggX8_brings_X8_goes : GoodIn wsX8_brings wsX8_goes := goodIn_r _ [10, 1, 11, 12, 5, 13, 22, 23, 24, 25, 26, 27, 28, 29, 30, 31, 32, 33, 34, 35, 36, 37, 38, 39, 40, 41, 42, 43, 44, 45, 46, 47, 48] (by decide +kernel) (by decide +kernel)
set_option maxRecDepth 20000 in
theorem gX8_brings_X8_goes : GoodIn wsX8_brings (wsV RX8 96 RX8 yX8_goes wsX8_goes) := goodIn_app (goodIn_of _ (by decide +kernel)) ggX8_brings_X8_goes
set_option maxRecDepth 20000 in
theorem ggX8_brings_X8_grips : GoodIn wsX8_brings wsX8_grips := goodIn_r _ [17, 1, 22, 23, 24, 25, 26, 27, 28, 29, 30, 31, 32, 33, 34, 35, 36, 37, 38, 39, 40, 41, 42, 43, 44, 45, 46, 47, 48] (by decide +kernel) (by decide +kernel)
set_option maxRecDepth 20000 in
theorem gX8_brings_X8_grips : GoodIn wsX8_brings (wsV RX8 100 RX8 yX8_grips wsX8_grips) := goodIn_app (goodIn_of _ (by decide +kernel)) ggX8_brings_X8_grips
set_option maxRecDepth 20000 in
theorem ggX8_brings_X8_uses : GoodIn wsX8_brings wsX8_uses := goodIn_r _ [21, 1, 22, 23, 24, 25, 26, 27, 28, 29, 30, 31, 32, 33, 34, 35, 36, 37, 38, 39, 40, 41, 42, 43, 44, 45, 46, 47, 48] (by decide +kernel) (by decide +kernel)
set_option maxRecDepth 20000 in
theorem gX8_brings_X8_uses : GoodIn wsX8_brings (wsV RX8 106 RX8 yX8_uses wsX8_uses) := goodIn_app (goodIn_of _ (by decide +kernel)) ggX8_brings_X8_uses
theorem dX8_brings_0 : decode cX8_brings 0 = .ok (.aload_n 0, 1) := by decide +kernel
theorem dX8_brings_1 : decode cX8_brings 1 = .ok (.getfield 7, 3) := by decide +kernel
theorem dX8_brings_4 : decode cX8_brings 4 = .ok (.bipush 21, 2) := by decide +kernel
theorem dX8_brings_6 : decode cX8_brings 6 = .ok (.iload_n 2, 1) := by decide +kernel
theorem dX8_brings_7 : decode cX8_brings 7 = .ok (.iadd, 1) := by decide +kernel
theorem dX8_brings_8 : decode cX8_brings 8 = .ok (.iaload, 1) := by decide +kernel
theorem dX8_brings_9 : decode cX8_brings 9 = .ok (.iconst (-1), 1) := by decide +kernel
theorem dX8_brings_10 : decode cX8_brings 10 = .ok (.if_icmp .eq 8, 3) := by decide +kernel
theorem dX8_brings_13 : decode cX8_brings 13 = .ok (.aload_n 0, 1) := by decide +kernel
theorem dX8_brings_14 : decode cX8_brings 14 = .ok (.iload_n 2, 1) := by decide +kernel
theorem dX8_brings_15 : decode cX8_brings 15 = .ok (.invokevirtual 103, 3) := by decide +kernel
theorem dX8_brings_18 : decode cX8_brings 18 = .ok (.aload_n 0, 1) := by decide +kernel
theorem dX8_brings_19 : decode cX8_brings 19 = .ok (.aload_n 0, 1) := by decide +kernel
theorem dX8_brings_20 : decode cX8_brings 20 = .ok (.getfield 7, 3) := by decide +kernel
theorem dX8_brings_23 : decode cX8_brings 23 = .ok (.bipush 29, 2) := by decide +kernel
theorem dX8_brings_25 : decode cX8_brings 25 = .ok (.iload_n 1, 1) := by decide +kernel
theorem dX8_brings_26 : decode cX8_brings 26 = .ok (.iadd, 1) := by decide +kernel
theorem dX8_brings_27 : decode cX8_brings 27 = .ok (.iaload, 1) := by decide +kernel
theorem dX8_brings_28 : decode cX8_brings 28 = .ok (.invokevirtual 96, 3) := by decide +kernel
theorem dX8_brings_31 : decode cX8_brings 31 = .ok (.aload_n 0, 1) := by decide +kernel
theorem dX8_brings_32 : decode cX8_brings 32 = .ok (.invokevirtual 100, 3) := by decide +kernel
theorem dX8_brings_35 : decode cX8_brings 35 = .ok (.aload_n 0, 1) := by decide +kernel
theorem dX8_brings_36 : decode cX8_brings 36 = .ok (.aload_n 0, 1) := by decide +kernel
theorem dX8_brings_37 : decode cX8_brings 37 = .ok (.getfield 7, 3) := by decide +kernel
theorem dX8_brings_40 : decode cX8_brings 40 = .ok (.bipush 17, 2) := by decide +kernel
theorem dX8_brings_42 : decode cX8_brings 42 = .ok (.iload_n 2, 1) := by decide +kernel
theorem dX8_brings_43 : decode cX8_brings 43 = .ok (.iadd, 1) := by decide +kernel
theorem dX8_brings_44 : decode cX8_brings 44 = .ok (.iaload, 1) := by decide +kernel
theorem dX8_brings_45 : decode cX8_brings 45 = .ok (.invokevirtual 96, 3) := by decide +kernel
theorem dX8_brings_48 : decode cX8_brings 48 = .ok (.aload_n 0, 1) := by decide +kernel
theorem dX8_brings_49 : decode cX8_brings 49 = .ok (.invokevirtual 100, 3) := by decide +kernel
theorem dX8_brings_52 : decode cX8_brings 52 = .ok (.aload_n 0, 1) := by decide +kernel
theorem dX8_brings_53 : decode cX8_brings 53 = .ok (.getfield 7, 3) := by decide +kernel
theorem dX8_brings_56 : decode cX8_brings 56 = .ok (.bipush 21, 2) := by decide +kernel
theorem dX8_brings_58 : decode cX8_brings 58 = .ok (.iload_n 2, 1) := by decide +kernel
theorem dX8_brings_59 : decode cX8_brings 59 = .ok (.iadd, 1) := by decide +kernel
theorem dX8_brings_60 : decode cX8_brings 60 = .ok (.iload_n 1, 1) := by decide +kernel
theorem dX8_brings_61 : decode cX8_brings 61 = .ok (.iastore, 1) := by decide +kernel
theorem dX8_brings_62 : decode cX8_brings 62 = .ok (.aload_n 0, 1) := by decide +kernel
theorem dX8_brings_63 : decode cX8_brings 63 = .ok (.getfield 7, 3) := by decide +kernel
theorem dX8_brings_66 : decode cX8_brings 66 = .ok (.bipush 12, 2) := by decide +kernel
theorem dX8_brings_68 : decode cX8_brings 68 = .ok (.dup2, 1) := by decide +kernel
theorem dX8_brings_69 : decode cX8_brings 69 = .ok (.iaload, 1) := by decide +kernel
theorem dX8_brings_70 : decode cX8_brings 70 = .ok (.aload_n 0, 1) := by decide +kernel
theorem dX8_brings_71 : decode cX8_brings 71 = .ok (.getfield 7, 3) := by decide +kernel
theorem dX8_brings_74 : decode cX8_brings 74 = .ok (.iconst 3, 1) := by decide +kernel
theorem dX8_brings_75 : decode cX8_brings 75 = .ok (.iaload, 1) := by decide +kernel
theorem dX8_brings_76 : decode cX8_brings 76 = .ok (.iadd, 1) := by decide +kernel
theorem dX8_brings_77 : decode cX8_brings 77 = .ok (.iastore, 1) := by decide +kernel
theorem dX8_brings_78 : decode cX8_brings 78 = .ok (.aload_n 0, 1) := by decide +kernel
theorem dX8_brings_79 : decode cX8_brings 79 = .ok (.getfield 7, 3) := by decide +kernel
theorem dX8_brings_82 : decode cX8_brings 82 = .ok (.bipush 13, 2) := by decide +kernel
theorem dX8_brings_84 : decode cX8_brings 84 = .ok (.dup2, 1) := by decide +kernel
theorem dX8_brings_85 : decode cX8_brings 85 = .ok (.iaload, 1) := by decide +kernel
theorem dX8_brings_86 : decode cX8_brings 86 = .ok (.iconst 1, 1) := by decide +kernel
theorem dX8_brings_87 : decode cX8_brings 87 = .ok (.iadd, 1) := by decide +kernel
theorem dX8_brings_88 : decode cX8_brings 88 = .ok (.iastore, 1) := by decide +kernel
theorem dX8_brings_89 : decode cX8_brings 89 = .ok (.aload_n 0, 1) := by decide +kernel
theorem dX8_brings_90 : decode cX8_brings 90 = .ok (.iload_n 2, 1) := by decide +kernel
theorem dX8_brings_91 : decode cX8_brings 91 = .ok (.invokevirtual 106, 3) := by decide +kernel
theorem dX8_brings_94 : decode cX8_brings 94 = .ok (.return_, 1) := by decide +kernel
theorem dX8_freeDrive_0 : decode cX8_freeDrive 0 = .ok (.iconst (-1), 1) := by decide +kernel
theorem dX8_freeDrive_1 : decode cX8_freeDrive 1 = .ok (.istore_n 1, 1) := by decide +kernel
theorem dX8_freeDrive_2 : decode cX8_freeDrive 2 = .ok (.aload_n 0, 1) := by decide +kernel
theorem dX8_freeDrive_3 : decode cX8_freeDrive 3 = .ok (.getfield 7, 3) := by decide +kernel
theorem dX8_freeDrive_6 : decode cX8_freeDrive 6 = .ok (.bipush 6, 2) := by decide +kernel
theorem dX8_freeDrive_8 : decode cX8_freeDrive 8 = .ok (.iaload, 1) := by decide +kernel
theorem dX8_freeDrive_9 : decode cX8_freeDrive 9 = .ok (.iconst 1, 1) := by decide +kernel
theorem dX8_freeDrive_10 : decode cX8_freeDrive 10 = .ok (.isub, 1) := by decide +kernel
theorem dX8_freeDrive_11 : decode cX8_freeDrive 11 = .ok (.istore_n 2, 1) := by decide +kernel
theorem dX8_freeDrive_12 : decode cX8_freeDrive 12 = .ok (.iload_n 2, 1) := by decide +kernel
theorem dX8_freeDrive_13 : decode cX8_freeDrive 13 = .ok (.ifCond .lt 24, 3) := by decide +kernel
theorem dX8_freeDrive_16 : decode cX8_freeDrive 16 = .ok (.aload_n 0, 1) := by decide +kernel
theorem dX8_freeDrive_17 : decode cX8_freeDrive 17 = .ok (.getfield 7, 3) := by decide +kernel
theorem dX8_freeDrive_20 : decode cX8_freeDrive 20 = .ok (.bipush 21, 2) := by decide +kernel
theorem dX8_freeDrive_22 : decode cX8_freeDrive 22 = .ok (.iload_n 2, 1) := by decide +kernel
theorem dX8_freeDrive_23 : decode cX8_freeDrive 23 = .ok (.iadd, 1) := by decide +kernel
theorem dX8_freeDrive_24 : decode cX8_freeDrive 24 = .ok (.iaload, 1) := by decide +kernel
theorem dX8_freeDrive_25 : decode cX8_freeDrive 25 = .ok (.iconst (-1), 1) := by decide +kernel
theorem dX8_freeDrive_26 : decode cX8_freeDrive 26 = .ok (.if_icmp .ne 5, 3) := by decide +kernel
theorem dX8_freeDrive_29 : decode cX8_freeDrive 29 = .ok (.iload_n 2, 1) := by decide +kernel
theorem dX8_freeDrive_30 : decode cX8_freeDrive 30 = .ok (.istore_n 1, 1) := by decide +kernel
theorem dX8_freeDrive_31 : decode cX8_freeDrive 31 = .ok (.iinc 2 (-1), 3) := by decide +kernel
theorem dX8_freeDrive_34 : decode cX8_freeDrive 34 = .ok (.goto (-22), 3) := by decide +kernel
theorem dX8_freeDrive_37 : decode cX8_freeDrive 37 = .ok (.iload_n 1, 1) := by decide +kernel
theorem dX8_freeDrive_38 : decode cX8_freeDrive 38 = .ok (.iconst (-1), 1) := by decide +kernel
theorem dX8_freeDrive_39 : decode cX8_freeDrive 39 = .ok (.if_icmp .eq 5, 3) := by decide +kernel
theorem dX8_freeDrive_42 : decode cX8_freeDrive 42 = .ok (.iload_n 1, 1) := by decide +kernel
theorem dX8_freeDrive_43 : decode cX8_freeDrive 43 = .ok (.ireturn, 1) := by decide +kernel
theorem dX8_freeDrive_44 : decode cX8_freeDrive 44 = .ok (.iconst 0, 1) := by decide +kernel
theorem dX8_freeDrive_45 : decode cX8_freeDrive 45 = .ok (.istore_n 1, 1) := by decide +kernel
theorem dX8_freeDrive_46 : decode cX8_freeDrive 46 = .ok (.iconst 1, 1) := by decide +kernel
theorem dX8_freeDrive_47 : decode cX8_freeDrive 47 = .ok (.istore_n 2, 1) := by decide +kernel
theorem dX8_freeDrive_48 : decode cX8_freeDrive 48 = .ok (.iload_n 2, 1) := by decide +kernel
theorem dX8_freeDrive_49 : decode cX8_freeDrive 49 = .ok (.aload_n 0, 1) := by decide +kernel
theorem dX8_freeDrive_50 : decode cX8_freeDrive 50 = .ok (.getfield 7, 3) := by decide +kernel
theorem dX8_freeDrive_53 : decode cX8_freeDrive 53 = .ok (.bipush 6, 2) := by decide +kernel
theorem dX8_freeDrive_55 : decode cX8_freeDrive 55 = .ok (.iaload, 1) := by decide +kernel
theorem dX8_freeDrive_56 : decode cX8_freeDrive 56 = .ok (.if_icmp .ge 32, 3) := by decide +kernel
theorem dX8_freeDrive_59 : decode cX8_freeDrive 59 = .ok (.aload_n 0, 1) := by decide +kernel
theorem dX8_freeDrive_60 : decode cX8_freeDrive 60 = .ok (.getfield 7, 3) := by decide +kernel
theorem dX8_freeDrive_63 : decode cX8_freeDrive 63 = .ok (.bipush 25, 2) := by decide +kernel
theorem dX8_freeDrive_65 : decode cX8_freeDrive 65 = .ok (.iload_n 2, 1) := by decide +kernel
theorem dX8_freeDrive_66 : decode cX8_freeDrive 66 = .ok (.iadd, 1) := by decide +kernel
theorem dX8_freeDrive_67 : decode cX8_freeDrive 67 = .ok (.iaload, 1) := by decide +kernel
theorem dX8_freeDrive_68 : decode cX8_freeDrive 68 = .ok (.aload_n 0, 1) := by decide +kernel
theorem dX8_freeDrive_69 : decode cX8_freeDrive 69 = .ok (.getfield 7, 3) := by decide +kernel
theorem dX8_freeDrive_72 : decode cX8_freeDrive 72 = .ok (.bipush 25, 2) := by decide +kernel
theorem dX8_freeDrive_74 : decode cX8_freeDrive 74 = .ok (.iload_n 1, 1) := by decide +kernel
theorem dX8_freeDrive_75 : decode cX8_freeDrive 75 = .ok (.iadd, 1) := by decide +kernel
theorem dX8_freeDrive_76 : decode cX8_freeDrive 76 = .ok (.iaload, 1) := by decide +kernel
theorem dX8_freeDrive_77 : decode cX8_freeDrive 77 = .ok (.if_icmp .ge 5, 3) := by decide +kernel
theorem dX8_freeDrive_80 : decode cX8_freeDrive 80 = .ok (.iload_n 2, 1) := by decide +kernel
theorem dX8_freeDrive_81 : decode cX8_freeDrive 81 = .ok (.istore_n 1, 1) := by decide +kernel
theorem dX8_freeDrive_82 : decode cX8_freeDrive 82 = .ok (.iinc 2 1, 3) := by decide +kernel
theorem dX8_freeDrive_85 : decode cX8_freeDrive 85 = .ok (.goto (-37), 3) := by decide +kernel
theorem dX8_freeDrive_88 : decode cX8_freeDrive 88 = .ok (.iload_n 1, 1) := by decide +kernel
theorem dX8_freeDrive_89 : decode cX8_freeDrive 89 = .ok (.ireturn, 1) := by decide +kernel
set_option maxRecDepth 20000 in
theorem ggX8_chosen_X8_inDrive : GoodIn wsX8_chosen wsX8_inDrive := goodIn_r _ [5, 6, 11, 12, 13, 14, 15, 16, 17, 18, 19, 20, 21, 22, 23, 24, 25, 26, 27, 28, 29, 30, 31, 32, 33, 34, 35, 36, 37] (by decide +kernel) (by decide +kernel)
set_option maxRecDepth 20000 in
theorem gX8_chosen_X8_inDrive : GoodIn wsX8_chosen (wsV RX8 109 RX8 yX8_inDrive wsX8_inDrive) := goodIn_app (goodIn_of _ (by decide +kernel)) ggX8_chosen_X8_inDrive
set_option maxRecDepth 20000 in
theorem ggX8_chosen_X8_freeDrive : GoodIn wsX8_chosen wsX8_freeDrive := goodIn_r _ [10, 6, 11, 12, 13, 14, 15, 16, 17, 18, 19, 20, 21, 22, 23, 24, 25, 26, 27, 28, 29, 30, 31, 32, 33, 34, 35, 36, 37] (by decide +kernel) (by decide +kernel)
set_option maxRecDepth 20000 in
theorem gX8_chosen_X8_freeDrive : GoodIn wsX8_chosen (wsV RX8 112 RX8 yX8_freeDrive wsX8_freeDrive) := goodIn_app (goodIn_of _ (by decide +kernel)) ggX8_chosen_X8_freeDrive
theorem dX8_chosen_0 : decode cX8_chosen 0 = .ok (.aload_n 0, 1) := by decide +kernel
theorem dX8_chosen_1 : decode cX8_chosen 1 = .ok (.iload_n 1, 1) := by decide +kernel
theorem dX8_chosen_2 : decode cX8_chosen 2 = .ok (.invokevirtual 109, 3) := by decide +kernel
theorem dX8_chosen_5 : decode cX8_chosen 5 = .ok (.istore_n 2, 1) := by decide +kernel
theorem dX8_chosen_6 : decode cX8_chosen 6 = .ok (.iload_n 2, 1) := by decide +kernel
theorem dX8_chosen_7 : decode cX8_chosen 7 = .ok (.iconst (-1), 1) := by decide +kernel
theorem dX8_chosen_8 : decode cX8_chosen 8 = .ok (.if_icmp .eq 7, 3) := by decide +kernel
theorem dX8_chosen_11 : decode cX8_chosen 11 = .ok (.iload_n 2, 1) := by decide +kernel
theorem dX8_chosen_12 : decode cX8_chosen 12 = .ok (.goto 7, 3) := by decide +kernel
theorem dX8_chosen_15 : decode cX8_chosen 15 = .ok (.aload_n 0, 1) := by decide +kernel
theorem dX8_chosen_16 : decode cX8_chosen 16 = .ok (.invokevirtual 112, 3) := by decide +kernel
theorem dX8_chosen_19 : decode cX8_chosen 19 = .ok (.ireturn, 1) := by decide +kernel
set_option maxRecDepth 20000 in
theorem ggX8_mounts_X8_chosen : GoodIn wsX8_mounts wsX8_chosen := goodIn_r _ [5, 6, 7, 8, 4, 9, 10, 11, 12, 13, 14, 38, 39, 40, 41, 42, 43, 44, 45, 46, 47, 48, 49, 50, 51, 52, 53, 54, 55, 56, 57, 58, 59, 60, 61, 62, 63, 64] (by decide +kernel) (by decide +kernel)
set_option maxRecDepth 20000 in
theorem gX8_mounts_X8_chosen : GoodIn wsX8_mounts (wsV RX8 116 RX8 yX8_chosen wsX8_chosen) := goodIn_app (goodIn_of _ (by decide +kernel)) ggX8_mounts_X8_chosen
set_option maxRecDepth 20000 in
theorem ggX8_mounts_X8_inDrive : GoodIn wsX8_mounts wsX8_inDrive := goodIn_r _ [9, 10, 38, 39, 40, 41, 42, 43, 44, 45, 46, 47, 48, 49, 50, 51, 52, 53, 54, 55, 56, 57, 58, 59, 60, 61, 62, 63, 64] (by decide +kernel) (by decide +kernel)
set_option maxRecDepth 20000 in
theorem gX8_mounts_X8_inDrive : GoodIn wsX8_mounts (wsV RX8 109 RX8 yX8_inDrive wsX8_inDrive) := goodIn_app (goodIn_of _ (by decide +kernel)) ggX8_mounts_X8_inDrive
set_option maxRecDepth 20000 in
theorem ggX8_mounts_X8_brings : GoodIn wsX8_mounts wsX8_brings := goodIn_r _ [18, 10, 19, 20, 21, 4, 22, 23, 24, 25, 26, 27, 28, 29, 30, 31, 32, 33, 34, 35, 36, 37, 38, 39, 40, 41, 42, 43, 44, 45, 46, 47, 48, 49, 50, 51, 52, 53, 54, 55, 56, 57, 58, 59, 60, 61, 62, 63, 64] (by decide +kernel) (by decide +kernel)
set_option maxRecDepth 20000 in
theorem gX8_mounts_X8_brings : GoodIn wsX8_mounts (wsV RX8 119 RX8 yX8_brings wsX8_brings) := goodIn_app (goodIn_of _ (by decide +kernel)) ggX8_mounts_X8_brings
set_option maxRecDepth 20000 in
theorem ggX8_mounts_X8_uses : GoodIn wsX8_mounts wsX8_uses := goodIn_r _ [37, 10, 38, 39, 40, 41, 42, 43, 44, 45, 46, 47, 48, 49, 50, 51, 52, 53, 54, 55, 56, 57, 58, 59, 60, 61, 62, 63, 64] (by decide +kernel) (by decide +kernel)
set_option maxRecDepth 20000 in
theorem gX8_mounts_X8_uses : GoodIn wsX8_mounts (wsV RX8 106 RX8 yX8_uses wsX8_uses) := goodIn_app (goodIn_of _ (by decide +kernel)) ggX8_mounts_X8_uses
theorem dX8_mounts_0 : decode cX8_mounts 0 = .ok (.aload_n 0, 1) := by decide +kernel
theorem dX8_mounts_1 : decode cX8_mounts 1 = .ok (.iload_n 1, 1) := by decide +kernel
theorem dX8_mounts_2 : decode cX8_mounts 2 = .ok (.invokevirtual 116, 3) := by decide +kernel
theorem dX8_mounts_5 : decode cX8_mounts 5 = .ok (.istore_n 2, 1) := by decide +kernel
theorem dX8_mounts_6 : decode cX8_mounts 6 = .ok (.aload_n 0, 1) := by decide +kernel
theorem dX8_mounts_7 : decode cX8_mounts 7 = .ok (.iload_n 1, 1) := by decide +kernel
theorem dX8_mounts_8 : decode cX8_mounts 8 = .ok (.invokevirtual 109, 3) := by decide +kernel
theorem dX8_mounts_11 : decode cX8_mounts 11 = .ok (.iconst (-1), 1) := by decide +kernel
theorem dX8_mounts_12 : decode cX8_mounts 12 = .ok (.if_icmp .ne 9, 3) := by decide +kernel
theorem dX8_mounts_15 : decode cX8_mounts 15 = .ok (.aload_n 0, 1) := by decide +kernel
theorem dX8_mounts_16 : decode cX8_mounts 16 = .ok (.iload_n 1, 1) := by decide +kernel
theorem dX8_mounts_17 : decode cX8_mounts 17 = .ok (.iload_n 2, 1) := by decide +kernel
theorem dX8_mounts_18 : decode cX8_mounts 18 = .ok (.invokevirtual 119, 3) := by decide +kernel
theorem dX8_mounts_21 : decode cX8_mounts 21 = .ok (.aload_n 0, 1) := by decide +kernel
theorem dX8_mounts_22 : decode cX8_mounts 22 = .ok (.iload_n 2, 1) := by decide +kernel
theorem dX8_mounts_23 : decode cX8_mounts 23 = .ok (.invokevirtual 106, 3) := by decide +kernel
theorem dX8_mounts_26 : decode cX8_mounts 26 = .ok (.iload_n 2, 1) := by decide +kernel
theorem dX8_mounts_27 : decode cX8_mounts 27 = .ok (.ireturn, 1) := by decide +kernel
set_option maxRecDepth 20000 in
theorem ggX8_reads_X8_platterOf : GoodIn wsX8_reads wsX8_platterOf := goodIn_r _ [6, 1, 7, 8, 9, 5, 10, 50, 51, 52, 53, 54, 55, 56, 57, 58, 59, 60, 61, 62, 63, 64, 65, 66, 67, 68, 69, 70, 71, 72, 73, 74, 75, 76] (by decide +kernel) (by decide +kernel)
set_option maxRecDepth 20000 in
theorem gX8_reads_X8_platterOf : GoodIn wsX8_reads (wsV RX8 123 RX8 yX8_platterOf wsX8_platterOf) := goodIn_app (goodIn_of _ (by decide +kernel)) ggX8_reads_X8_platterOf
set_option maxRecDepth 20000 in
theorem ggX8_reads_X8_mounts : GoodIn wsX8_reads wsX8_mounts := goodIn_r _ [14, 15, 16, 17, 5, 18, 19, 20, 21, 22, 1, 23, 24, 25, 26, 27, 28, 29, 30, 31, 32, 33, 34, 35, 36, 37, 38, 39, 40, 41, 42, 43, 44, 45, 46, 47, 48, 49, 50, 51, 52, 53, 54, 55, 56, 57, 58, 59, 60, 61, 62, 63, 64, 65, 66, 67, 68, 69, 70, 71, 72, 73, 74, 75, 76] (by decide +kernel) (by decide +kernel)
set_option maxRecDepth 20000 in
theorem gX8_reads_X8_mounts : GoodIn wsX8_reads (wsV RX8 126 RX8 yX8_mounts wsX8_mounts) := goodIn_app (goodIn_of _ (by decide +kernel)) ggX8_reads_X8_mounts
set_option maxRecDepth 20000 in
theorem ggX8_reads_X8_version : GoodIn wsX8_reads wsX8_version := goodIn_r _ [10, 1, 50, 51, 52, 53, 54, 55, 56, 57, 58, 59, 60, 61, 62, 63, 64, 65, 66, 67, 68, 69, 70, 71, 72, 73, 74, 75, 76] (by decide +kernel) (by decide +kernel)
set_option maxRecDepth 20000 in
theorem gX8_reads_X8_version : GoodIn wsX8_reads (wsV RX8 86 RX8 yX8_version wsX8_version) := goodIn_app (goodIn_of _ (by decide +kernel)) ggX8_reads_X8_version
theorem dX8_reads_0 : decode cX8_reads 0 = .ok (.aload_n 0, 1) := by decide +kernel
theorem dX8_reads_1 : decode cX8_reads 1 = .ok (.aload_n 0, 1) := by decide +kernel
theorem dX8_reads_2 : decode cX8_reads 2 = .ok (.iload_n 1, 1) := by decide +kernel
theorem dX8_reads_3 : decode cX8_reads 3 = .ok (.invokevirtual 123, 3) := by decide +kernel
theorem dX8_reads_6 : decode cX8_reads 6 = .ok (.invokevirtual 126, 3) := by decide +kernel
theorem dX8_reads_9 : decode cX8_reads 9 = .ok (.pop, 1) := by decide +kernel
theorem dX8_reads_10 : decode cX8_reads 10 = .ok (.aload_n 0, 1) := by decide +kernel
theorem dX8_reads_11 : decode cX8_reads 11 = .ok (.iload_n 1, 1) := by decide +kernel
theorem dX8_reads_12 : decode cX8_reads 12 = .ok (.invokevirtual 86, 3) := by decide +kernel
theorem dX8_reads_15 : decode cX8_reads 15 = .ok (.istore_n 2, 1) := by decide +kernel
theorem dX8_reads_16 : decode cX8_reads 16 = .ok (.aload_n 0, 1) := by decide +kernel
theorem dX8_reads_17 : decode cX8_reads 17 = .ok (.getfield 7, 3) := by decide +kernel
theorem dX8_reads_20 : decode cX8_reads 20 = .ok (.bipush 12, 2) := by decide +kernel
theorem dX8_reads_22 : decode cX8_reads 22 = .ok (.dup2, 1) := by decide +kernel
theorem dX8_reads_23 : decode cX8_reads 23 = .ok (.iaload, 1) := by decide +kernel
theorem dX8_reads_24 : decode cX8_reads 24 = .ok (.aload_n 0, 1) := by decide +kernel
theorem dX8_reads_25 : decode cX8_reads 25 = .ok (.getfield 7, 3) := by decide +kernel
theorem dX8_reads_28 : decode cX8_reads 28 = .ok (.iconst 4, 1) := by decide +kernel
theorem dX8_reads_29 : decode cX8_reads 29 = .ok (.iaload, 1) := by decide +kernel
theorem dX8_reads_30 : decode cX8_reads 30 = .ok (.aload_n 0, 1) := by decide +kernel
theorem dX8_reads_31 : decode cX8_reads 31 = .ok (.getfield 7, 3) := by decide +kernel
theorem dX8_reads_34 : decode cX8_reads 34 = .ok (.sipush 429, 3) := by decide +kernel
theorem dX8_reads_37 : decode cX8_reads 37 = .ok (.iload_n 2, 1) := by decide +kernel
theorem dX8_reads_38 : decode cX8_reads 38 = .ok (.iadd, 1) := by decide +kernel
theorem dX8_reads_39 : decode cX8_reads 39 = .ok (.iaload, 1) := by decide +kernel
theorem dX8_reads_40 : decode cX8_reads 40 = .ok (.aload_n 0, 1) := by decide +kernel
theorem dX8_reads_41 : decode cX8_reads 41 = .ok (.getfield 7, 3) := by decide +kernel
theorem dX8_reads_44 : decode cX8_reads 44 = .ok (.sipush 509, 3) := by decide +kernel
theorem dX8_reads_47 : decode cX8_reads 47 = .ok (.iload_n 2, 1) := by decide +kernel
theorem dX8_reads_48 : decode cX8_reads 48 = .ok (.iadd, 1) := by decide +kernel
theorem dX8_reads_49 : decode cX8_reads 49 = .ok (.iaload, 1) := by decide +kernel
theorem dX8_reads_50 : decode cX8_reads 50 = .ok (.iadd, 1) := by decide +kernel
theorem dX8_reads_51 : decode cX8_reads 51 = .ok (.imul, 1) := by decide +kernel
theorem dX8_reads_52 : decode cX8_reads 52 = .ok (.iadd, 1) := by decide +kernel
theorem dX8_reads_53 : decode cX8_reads 53 = .ok (.iastore, 1) := by decide +kernel
theorem dX8_reads_54 : decode cX8_reads 54 = .ok (.return_, 1) := by decide +kernel
set_option maxRecDepth 20000 in
theorem ggX8_tries_X8_copies : GoodIn wsX8_tries wsX8_copies := goodIn_r _ [7] (by decide +kernel) (by decide +kernel)
set_option maxRecDepth 20000 in
theorem gX8_tries_X8_copies : GoodIn wsX8_tries (va_wsS RX8 129 yX8_copies wsX8_copies) := goodIn_app (goodIn_of _ (by decide +kernel)) ggX8_tries_X8_copies
theorem dX8_tries_0 : decode cX8_tries 0 = .ok (.aload_n 0, 1) := by decide +kernel
theorem dX8_tries_1 : decode cX8_tries 1 = .ok (.getfield 7, 3) := by decide +kernel
theorem dX8_tries_4 : decode cX8_tries 4 = .ok (.aload_n 0, 1) := by decide +kernel
theorem dX8_tries_5 : decode cX8_tries 5 = .ok (.getfield 16, 3) := by decide +kernel
theorem dX8_tries_8 : decode cX8_tries 8 = .ok (.invokestatic 129, 3) := by decide +kernel
theorem dX8_tries_11 : decode cX8_tries 11 = .ok (.aload_n 0, 1) := by decide +kernel
theorem dX8_tries_12 : decode cX8_tries 12 = .ok (.aload_n 0, 1) := by decide +kernel
theorem dX8_tries_13 : decode cX8_tries 13 = .ok (.getfield 7, 3) := by decide +kernel
theorem dX8_tries_16 : decode cX8_tries 16 = .ok (.bipush 12, 2) := by decide +kernel
theorem dX8_tries_18 : decode cX8_tries 18 = .ok (.iaload, 1) := by decide +kernel
theorem dX8_tries_19 : decode cX8_tries 19 = .ok (.putfield 133, 3) := by decide +kernel
theorem dX8_tries_22 : decode cX8_tries 22 = .ok (.return_, 1) := by decide +kernel
abbrev rm_X8_defaults : Room := { frames := 0, cells := 0, slots := 0, locals := 0 }
set_option maxRecDepth 100000 in
set_option maxHeartbeats 4000000 in
theorem ct_X8_defaults (l : Launch) (g : GT) (hfl : 2 ≤ gf g) (w : WT) (md : SD) (mn : Nat → Int64) (mw : Int64) (k0 : Nat) (hk0 : isRow k0) {q : SD} (hf : f_X8_defaults md k0 = some q) : Met l yX8_defaults wsX8_defaults rm_X8_defaults (cPre g (wM w md mn mw) [.ref (adr (g.1 + 189) k0 0)]) (cQv g (wM w q mn mw)) 0 0 (gA g) := by
  refine x_met (by decide) rfl (Nat.le_of_ble_eq_true rfl) ?_
  intro p e s m below meth c hx hb hr hml hts hown hlocks hK hW hS ls hl
  have hown : s.vm.findClass RX8 = some m.cls := hown
  have hl : lv_has ls 2 [(0, .ref (adr (g.1 + 189) k0 0))] := hl
  rw [f_X8_defaults] at hf
  refine lv_iconst (v := 0) hx hb dX8_defaults_0 (by decide) ?_
  refine lv_istore_n (lv' := [(1, .int (0 : Int32)), (0, .ref (adr (g.1 + 189) k0 0))]) hx hb dX8_defaults_1 rfl hl (by decide) rfl (fun ls hl => ?_)
  have L2 : ∀ (n : Nat) (v1_2 : Int32) (md_2 : SD) (ls : Array Slot) (H : Heap) (locs : List Loc), lv_has ls 2 [(0, .ref (adr (g.1 + 189) k0 0)), (1, .int v1_2)] → World g (wM w md_2 mn mw) H → va_S (gA g) s.heap H locs → f_X8_defaults_L2 k0 n v1_2 md_2 = some q → W p l e rm_X8_defaults s m [.ref (adr (g.1 + 189) k0 0)].toArray below meth c H locs 0 0 (MQ below (cQv g (wM w q mn mw)) [.ref (adr (g.1 + 189) k0 0)].toArray s 0 0 (gA g)) (F0 m 2 ls []) := by
    clear hW hS hl
    intro n
    induction n with
    | zero => intro v1_2 md_2 ls H locs hl hW hS hf; cases hf
    | succ n_2 ih =>
      intro v1_2 md_2 ls H locs hl hW hS hf
      rw [f_X8_defaults_L2] at hf
      refine lv_iload_n hx hb dX8_defaults_2 rfl (lv_at hl 1 rfl) ?_
      refine lv_sipush (v := 605) hx hb dX8_defaults_3 (by decide) ?_
      refine lv_icmp_ge (tgt := 19) hx hb dX8_defaults_6 (by decide) (fun hc => ?_) (fun hc => ?_)
      · have hf := x_iteT hf hc
        refine lv_iconst (v := 0) hx hb dX8_defaults_19 (by decide) ?_
        refine lv_istore_n (lv' := [(1, .int (0 : Int32)), (0, .ref (adr (g.1 + 189) k0 0))]) hx hb dX8_defaults_20 rfl hl (by decide) rfl (fun ls hl => ?_)
        have L21 : ∀ (n : Nat) (v1_21 : Int32) (md_21 : SD) (ls : Array Slot) (H : Heap) (locs : List Loc), lv_has ls 2 [(0, .ref (adr (g.1 + 189) k0 0)), (1, .int v1_21)] → World g (wM w md_21 mn mw) H → va_S (gA g) s.heap H locs → f_X8_defaults_L21 k0 n v1_21 md_21 = some q → W p l e rm_X8_defaults s m [.ref (adr (g.1 + 189) k0 0)].toArray below meth c H locs 0 0 (MQ below (cQv g (wM w q mn mw)) [.ref (adr (g.1 + 189) k0 0)].toArray s 0 0 (gA g)) (F0 m 21 ls []) := by
          clear hW hS hl
          intro n
          induction n with
          | zero => intro v1_21 md_21 ls H locs hl hW hS hf; cases hf
          | succ n_21 ih =>
            intro v1_21 md_21 ls H locs hl hW hS hf
            rw [f_X8_defaults_L21] at hf
            refine lv_iload_n hx hb dX8_defaults_21 rfl (lv_at hl 1 rfl) ?_
            refine lv_iconst (v := 4) hx hb dX8_defaults_22 (by decide) ?_
            refine lv_icmp_ge (tgt := 39) hx hb dX8_defaults_23 (by decide) (fun hc => ?_) (fun hc => ?_)
            · have hf := x_iteT hf hc
              refine lv_aload_n hx hb dX8_defaults_39 rfl (lv_at hl 0 rfl) ?_
              refine lv_iconst (v := 0) hx hb dX8_defaults_40 (by decide) ?_
              refine lv_bipush (v := 12) hx hb dX8_defaults_41 (by decide) ?_
              obtain ⟨md1, e_md1, hf⟩ := x_letE hf
              refine x_iast (i := (g.1 + 189)) (k := k0) (j := 0) (w' := wM w md1 mn mw) hx hb hK hW (rw_d hfl hk0) hS (rw_9 hk0) (rw_w hk0) (rw_w hk0) (rw_t hk0) (rw_in hk0 (by unfold vp_in; decide)) dX8_defaults_43 (fp_M e_md1 (rw_g hk0)) (fun H locs hW hS => ?_)
              refine lv_aload_n hx hb dX8_defaults_44 rfl (lv_at hl 0 rfl) ?_
              refine lv_iconst (v := 1) hx hb dX8_defaults_45 (by decide) ?_
              refine lv_iconst (v := 1) hx hb dX8_defaults_46 (by decide) ?_
              obtain ⟨md2, e_md2, hf⟩ := x_letE hf
              refine x_iast (i := (g.1 + 189)) (k := k0) (j := 0) (w' := wM w md2 mn mw) hx hb hK hW (rw_d hfl hk0) hS (rw_9 hk0) (rw_w hk0) (rw_w hk0) (rw_t hk0) (rw_in hk0 (by unfold vp_in; decide)) dX8_defaults_47 (fp_M e_md2 (rw_g hk0)) (fun H locs hW hS => ?_)
              refine lv_aload_n hx hb dX8_defaults_48 rfl (lv_at hl 0 rfl) ?_
              refine lv_iconst (v := 2) hx hb dX8_defaults_49 (by decide) ?_
              refine lv_iconst (v := 2) hx hb dX8_defaults_50 (by decide) ?_
              obtain ⟨md3, e_md3, hf⟩ := x_letE hf
              refine x_iast (i := (g.1 + 189)) (k := k0) (j := 0) (w' := wM w md3 mn mw) hx hb hK hW (rw_d hfl hk0) hS (rw_9 hk0) (rw_w hk0) (rw_w hk0) (rw_t hk0) (rw_in hk0 (by unfold vp_in; decide)) dX8_defaults_51 (fp_M e_md3 (rw_g hk0)) (fun H locs hW hS => ?_)
              refine lv_aload_n hx hb dX8_defaults_52 rfl (lv_at hl 0 rfl) ?_
              refine lv_iconst (v := 3) hx hb dX8_defaults_53 (by decide) ?_
              refine lv_iconst (v := 5) hx hb dX8_defaults_54 (by decide) ?_
              obtain ⟨md4, e_md4, hf⟩ := x_letE hf
              refine x_iast (i := (g.1 + 189)) (k := k0) (j := 0) (w' := wM w md4 mn mw) hx hb hK hW (rw_d hfl hk0) hS (rw_9 hk0) (rw_w hk0) (rw_w hk0) (rw_t hk0) (rw_in hk0 (by unfold vp_in; decide)) dX8_defaults_55 (fp_M e_md4 (rw_g hk0)) (fun H locs hW hS => ?_)
              refine lv_aload_n hx hb dX8_defaults_56 rfl (lv_at hl 0 rfl) ?_
              refine lv_iconst (v := 4) hx hb dX8_defaults_57 (by decide) ?_
              refine lv_iconst (v := 1) hx hb dX8_defaults_58 (by decide) ?_
              obtain ⟨md5, e_md5, hf⟩ := x_letE hf
              refine x_iast (i := (g.1 + 189)) (k := k0) (j := 0) (w' := wM w md5 mn mw) hx hb hK hW (rw_d hfl hk0) hS (rw_9 hk0) (rw_w hk0) (rw_w hk0) (rw_t hk0) (rw_in hk0 (by unfold vp_in; decide)) dX8_defaults_59 (fp_M e_md5 (rw_g hk0)) (fun H locs hW hS => ?_)
              refine lv_aload_n hx hb dX8_defaults_60 rfl (lv_at hl 0 rfl) ?_
              refine lv_iconst (v := 5) hx hb dX8_defaults_61 (by decide) ?_
              refine lv_iconst (v := 3) hx hb dX8_defaults_62 (by decide) ?_
              obtain ⟨md6, e_md6, hf⟩ := x_letE hf
              refine x_iast (i := (g.1 + 189)) (k := k0) (j := 0) (w' := wM w md6 mn mw) hx hb hK hW (rw_d hfl hk0) hS (rw_9 hk0) (rw_w hk0) (rw_w hk0) (rw_t hk0) (rw_in hk0 (by unfold vp_in; decide)) dX8_defaults_63 (fp_M e_md6 (rw_g hk0)) (fun H locs hW hS => ?_)
              cases hf
              exact x_vret hx hb hr hlocks hK hW hS dX8_defaults_64
            · have hf := x_iteF hf hc
              refine lv_aload_n hx hb dX8_defaults_26 rfl (lv_at hl 0 rfl) ?_
              refine lv_bipush (v := 21) hx hb dX8_defaults_27 (by decide) ?_
              refine lv_iload_n hx hb dX8_defaults_29 rfl (lv_at hl 1 rfl) ?_
              refine lv_iadd hx hb dX8_defaults_30 ?_
              refine lv_iconst (v := -1) hx hb dX8_defaults_31 (by decide) ?_
              obtain ⟨hg7, hf⟩ := x_guardE hf
              obtain ⟨md8, e_md8, hf⟩ := x_letE hf
              refine x_iast (i := (g.1 + 189)) (k := k0) (j := 0) (w' := wM w md8 mn mw) hx hb hK hW (rw_d hfl hk0) hS (rw_9 hk0) (rw_w hk0) (rw_w hk0) (rw_t hk0) (rw_in hk0 hg7) dX8_defaults_32 (fp_M e_md8 (rw_g hk0)) (fun H locs hW hS => ?_)
              obtain ⟨x9, e_x9, hf⟩ := x_letE hf
              refine lv_iinc (v := x9) (lv' := [(1, .int x9), (0, .ref (adr (g.1 + 189) k0 0))]) hx hb dX8_defaults_33 hl (k := 1) rfl (by rw [e_x9]; rfl) (by decide) rfl (fun ls hl => ?_)
              refine lv_goto (tgt := 21) hx hb dX8_defaults_36 (by decide) ?_
              exact ih (x9) (md8) ls _ _ (lv_sub hl [1, 0] rfl) hW hS hf
        exact L21 fuel ((0 : Int32)) (md_2) ls _ _ (lv_sub hl [1, 0] rfl) hW hS hf
      · have hf := x_iteF hf hc
        refine lv_aload_n hx hb dX8_defaults_9 rfl (lv_at hl 0 rfl) ?_
        refine lv_iload_n hx hb dX8_defaults_10 rfl (lv_at hl 1 rfl) ?_
        refine lv_iconst (v := 0) hx hb dX8_defaults_11 (by decide) ?_
        obtain ⟨hg10, hf⟩ := x_guardE hf
        obtain ⟨md11, e_md11, hf⟩ := x_letE hf
        refine x_iast (i := (g.1 + 189)) (k := k0) (j := 0) (w' := wM w md11 mn mw) hx hb hK hW (rw_d hfl hk0) hS (rw_9 hk0) (rw_w hk0) (rw_w hk0) (rw_t hk0) (rw_in hk0 hg10) dX8_defaults_12 (fp_M e_md11 (rw_g hk0)) (fun H locs hW hS => ?_)
        obtain ⟨x12, e_x12, hf⟩ := x_letE hf
        refine lv_iinc (v := x12) (lv' := [(1, .int x12), (0, .ref (adr (g.1 + 189) k0 0))]) hx hb dX8_defaults_13 hl (k := 1) rfl (by rw [e_x12]; rfl) (by decide) rfl (fun ls hl => ?_)
        refine lv_goto (tgt := 2) hx hb dX8_defaults_16 (by decide) ?_
        exact ih (x12) (md11) ls _ _ (lv_sub hl [1, 0] rfl) hW hS hf
  exact L2 fuel ((0 : Int32)) (md) ls _ _ (lv_sub hl [1, 0] rfl) hW hS hf
abbrev rm_X8_isIn : Room := { frames := 0, cells := 0, slots := 0, locals := 0 }
set_option maxRecDepth 100000 in
set_option maxHeartbeats 4000000 in
theorem ct_X8_isIn (l : Launch) (g : GT) (w : WT) (a0 : Int64) (a2 : Int64) (a4 : Int64) {q : Int32} (hf : f_X8_isIn  a0 a2 a4 = some q) : Met l yX8_isIn wsX8_isIn rm_X8_isIn (cPre g (w) [.long a0, .long a2, .long a4]) (cQi g q (w)) 0 0 (gA g) := by
  refine x_met (by decide) rfl (Nat.le_of_ble_eq_true rfl) ?_
  intro p e s m below meth c hx hb hr hml hts hown hlocks hK hW hS ls hl
  have hown : s.vm.findClass RX8 = some m.cls := hown
  have hl : lv_has ls 6 [(0, .long a0), (2, .long a2), (4, .long a4)] := hl
  rw [f_X8_isIn] at hf
  refine lv_lload_n hx hb dX8_isIn_0 rfl (lv_at hl 0 rfl) ?_
  refine lv_lload_n hx hb dX8_isIn_1 rfl (lv_at hl 1 rfl) ?_
  refine W.lcmp hx hb dX8_isIn_2 ?_
  refine lv_if_lt (tgt := 17) hx hb dX8_isIn_3 (by decide) (fun hc => ?_) (fun hc => ?_)
  · have hf := x_iteT hf hc
    refine lv_iconst (v := 0) hx hb dX8_isIn_17 (by decide) ?_
    cases hf
    exact x_zret hx hb hr hlocks hK hW hS (Or.inl rfl) rfl dX8_isIn_18
  · have hf := x_iteF hf hc
    refine lv_lload_n hx hb dX8_isIn_6 rfl (lv_at hl 0 rfl) ?_
    refine lv_lload hx hb dX8_isIn_7 (lv_at hl 2 rfl) ?_
    refine W.lcmp hx hb dX8_isIn_9 ?_
    refine lv_if_gt (tgt := 17) hx hb dX8_isIn_10 (by decide) (fun hc => ?_) (fun hc => ?_)
    · have hf := x_iteT hf hc
      refine lv_iconst (v := 0) hx hb dX8_isIn_17 (by decide) ?_
      cases hf
      exact x_zret hx hb hr hlocks hK hW hS (Or.inl rfl) rfl dX8_isIn_18
    · have hf := x_iteF hf hc
      refine lv_iconst (v := 1) hx hb dX8_isIn_13 (by decide) ?_
      refine lv_goto (tgt := 18) hx hb dX8_isIn_14 (by decide) ?_
      cases hf
      exact x_zret hx hb hr hlocks hK hW hS (Or.inr rfl) rfl dX8_isIn_18
abbrev rm_X8_far : Room := { frames := 0, cells := 0, slots := 0, locals := 0 }
set_option maxRecDepth 100000 in
set_option maxHeartbeats 4000000 in
theorem ct_X8_far (l : Launch) (g : GT) (w : WT) (a0 : Int32) (a1 : Int32) {q : Int32} (hf : f_X8_far  a0 a1 = some q) : Met l yX8_far wsX8_far rm_X8_far (cPre g (w) [.int a0, .int a1]) (cQi g q (w)) 0 0 (gA g) := by
  refine x_met (by decide) rfl (Nat.le_of_ble_eq_true rfl) ?_
  intro p e s m below meth c hx hb hr hml hts hown hlocks hK hW hS ls hl
  have hown : s.vm.findClass RX8 = some m.cls := hown
  have hl : lv_has ls 2 [(0, .int a0), (1, .int a1)] := hl
  rw [f_X8_far] at hf
  refine lv_iload_n hx hb dX8_far_0 rfl (lv_at hl 0 rfl) ?_
  refine lv_iload_n hx hb dX8_far_1 rfl (lv_at hl 1 rfl) ?_
  refine lv_icmp_ge (tgt := 11) hx hb dX8_far_2 (by decide) (fun hc => ?_) (fun hc => ?_)
  · have hf := x_iteT hf hc
    refine lv_iload_n hx hb dX8_far_11 rfl (lv_at hl 0 rfl) ?_
    refine lv_iload_n hx hb dX8_far_12 rfl (lv_at hl 1 rfl) ?_
    refine lv_isub hx hb dX8_far_13 ?_
    cases hf
    exact x_iret hx hb hr hlocks hK hW hS rfl dX8_far_14
  · have hf := x_iteF hf hc
    refine lv_iload_n hx hb dX8_far_5 rfl (lv_at hl 1 rfl) ?_
    refine lv_iload_n hx hb dX8_far_6 rfl (lv_at hl 0 rfl) ?_
    refine lv_isub hx hb dX8_far_7 ?_
    refine lv_goto (tgt := 14) hx hb dX8_far_8 (by decide) ?_
    cases hf
    exact x_iret hx hb hr hlocks hK hW hS rfl dX8_far_14
abbrev rm_X8_copies : Room := { frames := 0, cells := 0, slots := 0, locals := 0 }
set_option maxRecDepth 100000 in
set_option maxHeartbeats 4000000 in
theorem ct_X8_copies (l : Launch) (g : GT) (hfl : 2 ≤ gf g) (w : WT) (md : SD) (mn : Nat → Int64) (mw : Int64) (k0 : Nat) (hk0 : isRow k0) (k1 : Nat) (hk1 : isRow k1) {q : SD} (hf : f_X8_copies md k0 k1 = some q) : Met l yX8_copies wsX8_copies rm_X8_copies (cPre g (wM w md mn mw) [.ref (adr (g.1 + 189) k0 0), .ref (adr (g.1 + 189) k1 0)]) (cQv g (wM w q mn mw)) 0 0 (gA g) := by
  refine x_met (by decide) rfl (Nat.le_of_ble_eq_true rfl) ?_
  intro p e s m below meth c hx hb hr hml hts hown hlocks hK hW hS ls hl
  have hown : s.vm.findClass RX8 = some m.cls := hown
  have hl : lv_has ls 3 [(0, .ref (adr (g.1 + 189) k0 0)), (1, .ref (adr (g.1 + 189) k1 0))] := hl
  rw [f_X8_copies] at hf
  refine lv_iconst (v := 0) hx hb dX8_copies_0 (by decide) ?_
  refine lv_istore_n (lv' := [(2, .int (0 : Int32)), (0, .ref (adr (g.1 + 189) k0 0)), (1, .ref (adr (g.1 + 189) k1 0))]) hx hb dX8_copies_1 rfl hl (by decide) rfl (fun ls hl => ?_)
  have L2 : ∀ (n : Nat) (v2_2 : Int32) (md_2 : SD) (ls : Array Slot) (H : Heap) (locs : List Loc), lv_has ls 3 [(0, .ref (adr (g.1 + 189) k0 0)), (1, .ref (adr (g.1 + 189) k1 0)), (2, .int v2_2)] → World g (wM w md_2 mn mw) H → va_S (gA g) s.heap H locs → f_X8_copies_L2 k1 k0 n v2_2 md_2 = some q → W p l e rm_X8_copies s m [.ref (adr (g.1 + 189) k0 0), .ref (adr (g.1 + 189) k1 0)].toArray below meth c H locs 0 0 (MQ below (cQv g (wM w q mn mw)) [.ref (adr (g.1 + 189) k0 0), .ref (adr (g.1 + 189) k1 0)].toArray s 0 0 (gA g)) (F0 m 2 ls []) := by
    clear hW hS hl
    intro n
    induction n with
    | zero => intro v2_2 md_2 ls H locs hl hW hS hf; cases hf
    | succ n_2 ih =>
      intro v2_2 md_2 ls H locs hl hW hS hf
      rw [f_X8_copies_L2] at hf
      refine lv_iload_n hx hb dX8_copies_2 rfl (lv_at hl 2 rfl) ?_
      refine lv_sipush (v := 605) hx hb dX8_copies_3 (by decide) ?_
      refine lv_icmp_ge (tgt := 21) hx hb dX8_copies_6 (by decide) (fun hc => ?_) (fun hc => ?_)
      · have hf := x_iteT hf hc
        cases hf
        exact x_vret hx hb hr hlocks hK hW hS dX8_copies_21
      · have hf := x_iteF hf hc
        refine lv_aload_n hx hb dX8_copies_9 rfl (lv_at hl 1 rfl) ?_
        refine lv_iload_n hx hb dX8_copies_10 rfl (lv_at hl 2 rfl) ?_
        refine lv_aload_n hx hb dX8_copies_11 rfl (lv_at hl 0 rfl) ?_
        refine lv_iload_n hx hb dX8_copies_12 rfl (lv_at hl 2 rfl) ?_
        obtain ⟨hg1, hf⟩ := x_guardE hf
        refine x_iald (i := (g.1 + 189)) (k := k0) (j := 0) (f := md_2 k0 0) hx hb hK hW (rw_d hfl hk0) (rw_9 hk0) (rw_c hk0) (rw_t hk0) (rw_in hk0 hg1) dX8_copies_13 ?_
        obtain ⟨hg2, hf⟩ := x_guardE hf
        obtain ⟨md3, e_md3, hf⟩ := x_letE hf
        refine x_iast (i := (g.1 + 189)) (k := k1) (j := 0) (w' := wM w md3 mn mw) hx hb hK hW (rw_d hfl hk1) hS (rw_9 hk1) (rw_w hk1) (rw_w hk1) (rw_t hk1) (rw_in hk1 hg2) dX8_copies_14 (fp_M e_md3 (rw_g hk1)) (fun H locs hW hS => ?_)
        obtain ⟨x4, e_x4, hf⟩ := x_letE hf
        refine lv_iinc (v := x4) (lv' := [(2, .int x4), (0, .ref (adr (g.1 + 189) k0 0)), (1, .ref (adr (g.1 + 189) k1 0))]) hx hb dX8_copies_15 hl (k := 2) rfl (by rw [e_x4]; rfl) (by decide) rfl (fun ls hl => ?_)
        refine lv_goto (tgt := 2) hx hb dX8_copies_18 (by decide) ?_
        exact ih (x4) (md3) ls _ _ (lv_sub hl [1, 2, 0] rfl) hW hS hf
  exact L2 fuel ((0 : Int32)) (md) ls _ _ (lv_sub hl [1, 2, 0] rfl) hW hS hf
abbrev rm_X8_remembers : Room := { frames := 0, cells := 0, slots := 0, locals := 0 }
set_option maxRecDepth 100000 in
set_option maxHeartbeats 4000000 in
theorem ct_X8_remembers (l : Launch) (g : GT) (hfl : 2 ≤ gf g) (w : WT) (md : SD) (mn : Nat → Int64) (mw : Int64) {q : SD} (hf : f_X8_remembers md  = some q) : Met l yX8_remembers wsX8_remembers rm_X8_remembers (cPre g (wM w md mn mw) [.ref (adr (g.1 + 189) 8 0)]) (cQv g (wM w q mn mw)) 0 0 (gA g) := by
  have i_8 : ∀ w ∈ u_ws RX8 TX8 27, w ∈ wsX8_remembers := by decide +kernel
  refine x_met (by decide) rfl (Nat.le_of_ble_eq_true rfl) ?_
  intro p e s m below meth c hx hb hr hml hts hown hlocks hK hW hS ls hl
  have hown : s.vm.findClass RX8 = some m.cls := hown
  have hl : lv_has ls 2 [(0, .ref (adr (g.1 + 189) 8 0))] := hl
  rw [f_X8_remembers] at hf
  refine lv_aload_n hx hb dX8_remembers_0 rfl (lv_at hl 0 rfl) ?_
  refine x_get (i := (g.1 + 189)) (k := 8) (j := 0) (t := 5) hx hb hts i_8 hown hK hW ⟨⟨hfl, rfl⟩, by decide⟩ rfl ⟨by decide, by decide, rfl⟩ (hts (.fieldLink RX8 54 "OpticalJukeboxModel" "edits" "I") (by decide +kernel)) (rfl) dX8_remembers_1 ?_
  refine lv_bipush (v := 16) hx hb dX8_remembers_4 (by decide) ?_
  refine lv_icmp_ne (tgt := 50) hx hb dX8_remembers_6 (by decide) (fun hc => ?_) (fun hc => ?_)
  · have hf := x_iteF hf hc
    refine lv_iconst (v := 0) hx hb dX8_remembers_50 (by decide) ?_
    refine lv_istore_n (lv' := [(1, .int (0 : Int32)), (0, .ref (adr (g.1 + 189) 8 0))]) hx hb dX8_remembers_51 rfl hl (by decide) rfl (fun ls hl => ?_)
    have L52 : ∀ (n : Nat) (v1_52 : Int32) (md_52 : SD) (ls : Array Slot) (H : Heap) (locs : List Loc), lv_has ls 2 [(0, .ref (adr (g.1 + 189) 8 0)), (1, .int v1_52)] → World g (wM w md_52 mn mw) H → va_S (gA g) s.heap H locs → f_X8_remembers_L52  n v1_52 md_52 = some q → W p l e rm_X8_remembers s m [.ref (adr (g.1 + 189) 8 0)].toArray below meth c H locs 0 0 (MQ below (cQv g (wM w q mn mw)) [.ref (adr (g.1 + 189) 8 0)].toArray s 0 0 (gA g)) (F0 m 52 ls []) := by
      clear hW hS hl
      intro n
      induction n with
      | zero => intro v1_52 md_52 ls H locs hl hW hS hf; cases hf
      | succ n_52 ih =>
        intro v1_52 md_52 ls H locs hl hW hS hf
        rw [f_X8_remembers_L52] at hf
        refine lv_iload_n hx hb dX8_remembers_52 rfl (lv_at hl 1 rfl) ?_
        refine lv_sipush (v := 605) hx hb dX8_remembers_53 (by decide) ?_
        refine lv_icmp_ge (tgt := 86) hx hb dX8_remembers_56 (by decide) (fun hc => ?_) (fun hc => ?_)
        · have hf := x_iteT hf hc
          refine lv_aload_n hx hb dX8_remembers_86 rfl (lv_at hl 0 rfl) ?_
          refine lv_dup hx hb dX8_remembers_87 rfl ?_
          refine x_get (i := (g.1 + 189)) (k := 8) (j := 0) (t := 5) hx hb hts i_8 hown hK hW ⟨⟨hfl, rfl⟩, by decide⟩ rfl ⟨by decide, by decide, rfl⟩ (hts (.fieldLink RX8 54 "OpticalJukeboxModel" "edits" "I") (by decide +kernel)) (rfl) dX8_remembers_88 ?_
          refine lv_iconst (v := 1) hx hb dX8_remembers_91 (by decide) ?_
          refine lv_iadd hx hb dX8_remembers_92 ?_
          obtain ⟨md1, e_md1, hf⟩ := x_letE hf
          refine x_put (i := (g.1 + 189)) (k := 8) (j := 0) (t := 5) (w' := wM w md1 mn mw) hx hb hts i_8 tyX8 tyX8_ok nmX8 hown hK hW ⟨⟨hfl, rfl⟩, by decide⟩ hS rfl ⟨by decide, by decide, rfl⟩ (hts (.fieldLink RX8 54 "OpticalJukeboxModel" "edits" "I") (by decide +kernel)) rfl (ty := .int) (by decide +kernel) rfl rfl ⟨rfl, rfl⟩ dX8_remembers_93 (fp_M e_md1 rfl) (fun H locs hW hS => ?_)
          cases hf
          exact x_vret hx hb hr hlocks hK hW hS dX8_remembers_96
        · have hf := x_iteF hf hc
          refine lv_aload_n hx hb dX8_remembers_59 rfl (lv_at hl 0 rfl) ?_
          refine x_get (i := (g.1 + 189)) (k := 8) (j := 0) (t := 4) hx hb hts i_8 hown hK hW ⟨⟨hfl, rfl⟩, by decide⟩ rfl ⟨by decide, by decide, rfl⟩ (hts (.fieldLink RX8 19 "OpticalJukeboxModel" "past" "[I") (by decide +kernel)) (v := .ref (adr (g.1 + 189) 33 0)) rfl dX8_remembers_60 ?_
          refine lv_sipush (v := 605) hx hb dX8_remembers_63 (by decide) ?_
          refine lv_aload_n hx hb dX8_remembers_66 rfl (lv_at hl 0 rfl) ?_
          refine x_get (i := (g.1 + 189)) (k := 8) (j := 0) (t := 5) hx hb hts i_8 hown hK hW ⟨⟨hfl, rfl⟩, by decide⟩ rfl ⟨by decide, by decide, rfl⟩ (hts (.fieldLink RX8 54 "OpticalJukeboxModel" "edits" "I") (by decide +kernel)) (rfl) dX8_remembers_67 ?_
          refine lv_imul hx hb dX8_remembers_70 ?_
          refine lv_iload_n hx hb dX8_remembers_71 rfl (lv_at hl 1 rfl) ?_
          refine lv_iadd hx hb dX8_remembers_72 ?_
          refine lv_aload_n hx hb dX8_remembers_73 rfl (lv_at hl 0 rfl) ?_
          refine x_get (i := (g.1 + 189)) (k := 8) (j := 0) (t := 1) hx hb hts i_8 hown hK hW ⟨⟨hfl, rfl⟩, by decide⟩ rfl ⟨by decide, by decide, rfl⟩ (hts (.fieldLink RX8 7 "OpticalJukeboxModel" "now" "[I") (by decide +kernel)) (v := .ref (adr (g.1 + 189) 30 0)) rfl dX8_remembers_74 ?_
          refine lv_iload_n hx hb dX8_remembers_77 rfl (lv_at hl 1 rfl) ?_
          obtain ⟨hg2, hf⟩ := x_guardE hf
          refine x_iald (i := (g.1 + 189)) (k := 30) (j := 0) (f := md_52 30 0) hx hb hK hW ⟨⟨hfl, rfl⟩, by decide⟩ (by decide) (rfl) rfl hg2 dX8_remembers_78 ?_
          obtain ⟨hg3, hf⟩ := x_guardE hf
          obtain ⟨md4, e_md4, hf⟩ := x_letE hf
          refine x_iast (i := (g.1 + 189)) (k := 33) (j := 0) (w' := wM w md4 mn mw) hx hb hK hW ⟨⟨hfl, rfl⟩, by decide⟩ hS (by decide) rfl rfl rfl hg3 dX8_remembers_79 (fp_M e_md4 rfl) (fun H locs hW hS => ?_)
          obtain ⟨x5, e_x5, hf⟩ := x_letE hf
          refine lv_iinc (v := x5) (lv' := [(1, .int x5), (0, .ref (adr (g.1 + 189) 8 0))]) hx hb dX8_remembers_80 hl (k := 1) rfl (by rw [e_x5]; rfl) (by decide) rfl (fun ls hl => ?_)
          refine lv_goto (tgt := 52) hx hb dX8_remembers_83 (by decide) ?_
          exact ih (x5) (md4) ls _ _ (lv_sub hl [1, 0] rfl) hW hS hf
    exact L52 fuel ((0 : Int32)) (md) ls _ _ (lv_sub hl [1, 0] rfl) hW hS hf
  · have hf := x_iteT hf hc
    refine lv_iconst (v := 0) hx hb dX8_remembers_9 (by decide) ?_
    refine lv_istore_n (lv' := [(1, .int (0 : Int32)), (0, .ref (adr (g.1 + 189) 8 0))]) hx hb dX8_remembers_10 rfl hl (by decide) rfl (fun ls hl => ?_)
    have L11 : ∀ (n : Nat) (v1_11 : Int32) (md_11 : SD) (ls : Array Slot) (H : Heap) (locs : List Loc), lv_has ls 2 [(0, .ref (adr (g.1 + 189) 8 0)), (1, .int v1_11)] → World g (wM w md_11 mn mw) H → va_S (gA g) s.heap H locs → f_X8_remembers_L11  n v1_11 md_11 = some q → W p l e rm_X8_remembers s m [.ref (adr (g.1 + 189) 8 0)].toArray below meth c H locs 0 0 (MQ below (cQv g (wM w q mn mw)) [.ref (adr (g.1 + 189) 8 0)].toArray s 0 0 (gA g)) (F0 m 11 ls []) := by
      clear hW hS hl
      intro n
      induction n with
      | zero => intro v1_11 md_11 ls H locs hl hW hS hf; cases hf
      | succ n_11 ih =>
        intro v1_11 md_11 ls H locs hl hW hS hf
        rw [f_X8_remembers_L11] at hf
        refine lv_iload_n hx hb dX8_remembers_11 rfl (lv_at hl 1 rfl) ?_
        refine lv_sipush (v := 9075) hx hb dX8_remembers_12 (by decide) ?_
        refine lv_icmp_ge (tgt := 40) hx hb dX8_remembers_15 (by decide) (fun hc => ?_) (fun hc => ?_)
        · have hf := x_iteT hf hc
          refine lv_aload_n hx hb dX8_remembers_40 rfl (lv_at hl 0 rfl) ?_
          refine lv_dup hx hb dX8_remembers_41 rfl ?_
          refine x_get (i := (g.1 + 189)) (k := 8) (j := 0) (t := 5) hx hb hts i_8 hown hK hW ⟨⟨hfl, rfl⟩, by decide⟩ rfl ⟨by decide, by decide, rfl⟩ (hts (.fieldLink RX8 54 "OpticalJukeboxModel" "edits" "I") (by decide +kernel)) (rfl) dX8_remembers_42 ?_
          refine lv_iconst (v := 1) hx hb dX8_remembers_45 (by decide) ?_
          refine lv_isub hx hb dX8_remembers_46 ?_
          obtain ⟨md6, e_md6, hf⟩ := x_letE hf
          refine x_put (i := (g.1 + 189)) (k := 8) (j := 0) (t := 5) (w' := wM w md6 mn mw) hx hb hts i_8 tyX8 tyX8_ok nmX8 hown hK hW ⟨⟨hfl, rfl⟩, by decide⟩ hS rfl ⟨by decide, by decide, rfl⟩ (hts (.fieldLink RX8 54 "OpticalJukeboxModel" "edits" "I") (by decide +kernel)) rfl (ty := .int) (by decide +kernel) rfl rfl ⟨rfl, rfl⟩ dX8_remembers_47 (fp_M e_md6 rfl) (fun H locs hW hS => ?_)
          refine lv_iconst (v := 0) hx hb dX8_remembers_50 (by decide) ?_
          refine lv_istore_n (lv' := [(1, .int (0 : Int32)), (0, .ref (adr (g.1 + 189) 8 0))]) hx hb dX8_remembers_51 rfl hl (by decide) rfl (fun ls hl => ?_)
          have L52 : ∀ (n : Nat) (v1_52 : Int32) (md_52 : SD) (ls : Array Slot) (H : Heap) (locs : List Loc), lv_has ls 2 [(0, .ref (adr (g.1 + 189) 8 0)), (1, .int v1_52)] → World g (wM w md_52 mn mw) H → va_S (gA g) s.heap H locs → f_X8_remembers_L52b  n v1_52 md_52 = some q → W p l e rm_X8_remembers s m [.ref (adr (g.1 + 189) 8 0)].toArray below meth c H locs 0 0 (MQ below (cQv g (wM w q mn mw)) [.ref (adr (g.1 + 189) 8 0)].toArray s 0 0 (gA g)) (F0 m 52 ls []) := by
            clear hW hS hl
            intro n
            induction n with
            | zero => intro v1_52 md_52 ls H locs hl hW hS hf; cases hf
            | succ n_52 ih =>
              intro v1_52 md_52 ls H locs hl hW hS hf
              rw [f_X8_remembers_L52b] at hf
              refine lv_iload_n hx hb dX8_remembers_52 rfl (lv_at hl 1 rfl) ?_
              refine lv_sipush (v := 605) hx hb dX8_remembers_53 (by decide) ?_
              refine lv_icmp_ge (tgt := 86) hx hb dX8_remembers_56 (by decide) (fun hc => ?_) (fun hc => ?_)
              · have hf := x_iteT hf hc
                refine lv_aload_n hx hb dX8_remembers_86 rfl (lv_at hl 0 rfl) ?_
                refine lv_dup hx hb dX8_remembers_87 rfl ?_
                refine x_get (i := (g.1 + 189)) (k := 8) (j := 0) (t := 5) hx hb hts i_8 hown hK hW ⟨⟨hfl, rfl⟩, by decide⟩ rfl ⟨by decide, by decide, rfl⟩ (hts (.fieldLink RX8 54 "OpticalJukeboxModel" "edits" "I") (by decide +kernel)) (rfl) dX8_remembers_88 ?_
                refine lv_iconst (v := 1) hx hb dX8_remembers_91 (by decide) ?_
                refine lv_iadd hx hb dX8_remembers_92 ?_
                obtain ⟨md7, e_md7, hf⟩ := x_letE hf
                refine x_put (i := (g.1 + 189)) (k := 8) (j := 0) (t := 5) (w' := wM w md7 mn mw) hx hb hts i_8 tyX8 tyX8_ok nmX8 hown hK hW ⟨⟨hfl, rfl⟩, by decide⟩ hS rfl ⟨by decide, by decide, rfl⟩ (hts (.fieldLink RX8 54 "OpticalJukeboxModel" "edits" "I") (by decide +kernel)) rfl (ty := .int) (by decide +kernel) rfl rfl ⟨rfl, rfl⟩ dX8_remembers_93 (fp_M e_md7 rfl) (fun H locs hW hS => ?_)
                cases hf
                exact x_vret hx hb hr hlocks hK hW hS dX8_remembers_96
              · have hf := x_iteF hf hc
                refine lv_aload_n hx hb dX8_remembers_59 rfl (lv_at hl 0 rfl) ?_
                refine x_get (i := (g.1 + 189)) (k := 8) (j := 0) (t := 4) hx hb hts i_8 hown hK hW ⟨⟨hfl, rfl⟩, by decide⟩ rfl ⟨by decide, by decide, rfl⟩ (hts (.fieldLink RX8 19 "OpticalJukeboxModel" "past" "[I") (by decide +kernel)) (v := .ref (adr (g.1 + 189) 33 0)) rfl dX8_remembers_60 ?_
                refine lv_sipush (v := 605) hx hb dX8_remembers_63 (by decide) ?_
                refine lv_aload_n hx hb dX8_remembers_66 rfl (lv_at hl 0 rfl) ?_
                refine x_get (i := (g.1 + 189)) (k := 8) (j := 0) (t := 5) hx hb hts i_8 hown hK hW ⟨⟨hfl, rfl⟩, by decide⟩ rfl ⟨by decide, by decide, rfl⟩ (hts (.fieldLink RX8 54 "OpticalJukeboxModel" "edits" "I") (by decide +kernel)) (rfl) dX8_remembers_67 ?_
                refine lv_imul hx hb dX8_remembers_70 ?_
                refine lv_iload_n hx hb dX8_remembers_71 rfl (lv_at hl 1 rfl) ?_
                refine lv_iadd hx hb dX8_remembers_72 ?_
                refine lv_aload_n hx hb dX8_remembers_73 rfl (lv_at hl 0 rfl) ?_
                refine x_get (i := (g.1 + 189)) (k := 8) (j := 0) (t := 1) hx hb hts i_8 hown hK hW ⟨⟨hfl, rfl⟩, by decide⟩ rfl ⟨by decide, by decide, rfl⟩ (hts (.fieldLink RX8 7 "OpticalJukeboxModel" "now" "[I") (by decide +kernel)) (v := .ref (adr (g.1 + 189) 30 0)) rfl dX8_remembers_74 ?_
                refine lv_iload_n hx hb dX8_remembers_77 rfl (lv_at hl 1 rfl) ?_
                obtain ⟨hg8, hf⟩ := x_guardE hf
                refine x_iald (i := (g.1 + 189)) (k := 30) (j := 0) (f := md_52 30 0) hx hb hK hW ⟨⟨hfl, rfl⟩, by decide⟩ (by decide) (rfl) rfl hg8 dX8_remembers_78 ?_
                obtain ⟨hg9, hf⟩ := x_guardE hf
                obtain ⟨md10, e_md10, hf⟩ := x_letE hf
                refine x_iast (i := (g.1 + 189)) (k := 33) (j := 0) (w' := wM w md10 mn mw) hx hb hK hW ⟨⟨hfl, rfl⟩, by decide⟩ hS (by decide) rfl rfl rfl hg9 dX8_remembers_79 (fp_M e_md10 rfl) (fun H locs hW hS => ?_)
                obtain ⟨x11, e_x11, hf⟩ := x_letE hf
                refine lv_iinc (v := x11) (lv' := [(1, .int x11), (0, .ref (adr (g.1 + 189) 8 0))]) hx hb dX8_remembers_80 hl (k := 1) rfl (by rw [e_x11]; rfl) (by decide) rfl (fun ls hl => ?_)
                refine lv_goto (tgt := 52) hx hb dX8_remembers_83 (by decide) ?_
                exact ih (x11) (md10) ls _ _ (lv_sub hl [1, 0] rfl) hW hS hf
          exact L52 fuel ((0 : Int32)) (md6) ls _ _ (lv_sub hl [1, 0] rfl) hW hS hf
        · have hf := x_iteF hf hc
          refine lv_aload_n hx hb dX8_remembers_18 rfl (lv_at hl 0 rfl) ?_
          refine x_get (i := (g.1 + 189)) (k := 8) (j := 0) (t := 4) hx hb hts i_8 hown hK hW ⟨⟨hfl, rfl⟩, by decide⟩ rfl ⟨by decide, by decide, rfl⟩ (hts (.fieldLink RX8 19 "OpticalJukeboxModel" "past" "[I") (by decide +kernel)) (v := .ref (adr (g.1 + 189) 33 0)) rfl dX8_remembers_19 ?_
          refine lv_iload_n hx hb dX8_remembers_22 rfl (lv_at hl 1 rfl) ?_
          refine lv_aload_n hx hb dX8_remembers_23 rfl (lv_at hl 0 rfl) ?_
          refine x_get (i := (g.1 + 189)) (k := 8) (j := 0) (t := 4) hx hb hts i_8 hown hK hW ⟨⟨hfl, rfl⟩, by decide⟩ rfl ⟨by decide, by decide, rfl⟩ (hts (.fieldLink RX8 19 "OpticalJukeboxModel" "past" "[I") (by decide +kernel)) (v := .ref (adr (g.1 + 189) 33 0)) rfl dX8_remembers_24 ?_
          refine lv_iload_n hx hb dX8_remembers_27 rfl (lv_at hl 1 rfl) ?_
          refine lv_sipush (v := 605) hx hb dX8_remembers_28 (by decide) ?_
          refine lv_iadd hx hb dX8_remembers_31 ?_
          obtain ⟨hg12, hf⟩ := x_guardE hf
          refine x_iald (i := (g.1 + 189)) (k := 33) (j := 0) (f := md_11 33 0) hx hb hK hW ⟨⟨hfl, rfl⟩, by decide⟩ (by decide) (rfl) rfl hg12 dX8_remembers_32 ?_
          obtain ⟨hg13, hf⟩ := x_guardE hf
          obtain ⟨md14, e_md14, hf⟩ := x_letE hf
          refine x_iast (i := (g.1 + 189)) (k := 33) (j := 0) (w' := wM w md14 mn mw) hx hb hK hW ⟨⟨hfl, rfl⟩, by decide⟩ hS (by decide) rfl rfl rfl hg13 dX8_remembers_33 (fp_M e_md14 rfl) (fun H locs hW hS => ?_)
          obtain ⟨x15, e_x15, hf⟩ := x_letE hf
          refine lv_iinc (v := x15) (lv' := [(1, .int x15), (0, .ref (adr (g.1 + 189) 8 0))]) hx hb dX8_remembers_34 hl (k := 1) rfl (by rw [e_x15]; rfl) (by decide) rfl (fun ls hl => ?_)
          refine lv_goto (tgt := 11) hx hb dX8_remembers_37 (by decide) ?_
          exact ih (x15) (md14) ls _ _ (lv_sub hl [1, 0] rfl) hW hS hf
    exact L11 fuel ((0 : Int32)) (md) ls _ _ (lv_sub hl [1, 0] rfl) hW hS hf
abbrev rm_X8_isPlatter : Room := { frames := 1, cells := 0, slots := 0, locals := 25 }
set_option maxRecDepth 100000 in
set_option maxHeartbeats 4000000 in
theorem ct_X8_isPlatter (l : Launch) (g : GT) (hfl : 2 ≤ gf g) (w : WT) (md : SD) (mn : Nat → Int64) (mw : Int64) (a1 : Int32) {q : Int32} (hf : f_X8_isPlatter md a1 = some q) : Met l yX8_isPlatter wsX8_isPlatter rm_X8_isPlatter (cPre g (wM w md mn mw) [.ref (adr (g.1 + 189) 8 0), .int a1]) (cQi g q (wM w md mn mw)) 0 0 (gA g) := by
  have i_8 : ∀ w ∈ u_ws RX8 TX8 27, w ∈ wsX8_isPlatter := by decide +kernel
  refine x_met (by decide) rfl (Nat.le_of_ble_eq_true rfl) ?_
  intro p e s m below meth c hx hb hr hml hts hown hlocks hK hW hS ls hl
  have hown : s.vm.findClass RX8 = some m.cls := hown
  have hl : lv_has ls 2 [(0, .ref (adr (g.1 + 189) 8 0)), (1, .int a1)] := hl
  rw [f_X8_isPlatter] at hf
  refine lv_iload_n hx hb dX8_isPlatter_0 rfl (lv_at hl 1 rfl) ?_
  refine lv_i2l hx hb dX8_isPlatter_1 rfl ?_
  refine lv_lconst (v := 0) hx hb dX8_isPlatter_2 (by decide) ?_
  refine lv_aload_n hx hb dX8_isPlatter_3 rfl (lv_at hl 0 rfl) ?_
  refine x_get (i := (g.1 + 189)) (k := 8) (j := 0) (t := 1) hx hb hts i_8 hown hK hW ⟨⟨hfl, rfl⟩, by decide⟩ rfl ⟨by decide, by decide, rfl⟩ (hts (.fieldLink RX8 7 "OpticalJukeboxModel" "now" "[I") (by decide +kernel)) (v := .ref (adr (g.1 + 189) 30 0)) rfl dX8_isPlatter_4 ?_
  refine lv_bipush (v := 7) hx hb dX8_isPlatter_7 (by decide) ?_
  refine x_iald (i := (g.1 + 189)) (k := 30) (j := 0) (f := md 30 0) hx hb hK hW ⟨⟨hfl, rfl⟩, by decide⟩ (by decide) (rfl) rfl (by unfold vp_in; decide) dX8_isPlatter_9 ?_
  refine W.eq (g2 := F0 m 10 ls [.int (md 30 0 7), .long (0 : Int64), .long (a1).toInt64]) rfl ?_
  refine lv_iconst (v := 1) hx hb dX8_isPlatter_10 (by decide) ?_
  refine lv_isub hx hb dX8_isPlatter_11 ?_
  refine lv_i2l hx hb dX8_isPlatter_12 rfl ?_
  obtain ⟨q1, h_q1, hf⟩ := x_bindE hf
  refine x_ci0 (x_rS ⟨hx, hb, hml, hown, hts⟩ (ct_X8_isIn l g (wM w md mn mw) ((a1).toInt64) ((0 : Int64)) ((((md 30 0 7) - (1 : Int32))).toInt64) h_q1) (va_cwS 3 hts gX8_isPlatter_X8_isIn rfl rfl rfl (by decide +kernel) ⟨Nat.le_of_ble_eq_true rfl, Nat.le_of_ble_eq_true rfl⟩) hK hW hS rfl hl.1 (rest := []) rfl (Nat.le_of_ble_eq_true rfl) dX8_isPlatter_13 ⟨Nat.le_of_ble_eq_true rfl, Nat.le_of_ble_eq_true rfl⟩) hS (fun H locs hW hS => ?_)
  have hW : World g (wM w md mn mw) H := hW
  refine W.eq (g2 := F0 m 16 ls [.int q1]) rfl ?_
  obtain ⟨hg2, hf⟩ := x_guardE hf
  cases hf
  exact x_zret hx hb hr hlocks hK hW hS hg2 rfl dX8_isPlatter_16
abbrev rm_X8_isDrive : Room := { frames := 1, cells := 0, slots := 0, locals := 25 }
set_option maxRecDepth 100000 in
set_option maxHeartbeats 4000000 in
theorem ct_X8_isDrive (l : Launch) (g : GT) (hfl : 2 ≤ gf g) (w : WT) (md : SD) (mn : Nat → Int64) (mw : Int64) (a1 : Int32) {q : Int32} (hf : f_X8_isDrive md a1 = some q) : Met l yX8_isDrive wsX8_isDrive rm_X8_isDrive (cPre g (wM w md mn mw) [.ref (adr (g.1 + 189) 8 0), .int a1]) (cQi g q (wM w md mn mw)) 0 0 (gA g) := by
  have i_8 : ∀ w ∈ u_ws RX8 TX8 27, w ∈ wsX8_isDrive := by decide +kernel
  refine x_met (by decide) rfl (Nat.le_of_ble_eq_true rfl) ?_
  intro p e s m below meth c hx hb hr hml hts hown hlocks hK hW hS ls hl
  have hown : s.vm.findClass RX8 = some m.cls := hown
  have hl : lv_has ls 2 [(0, .ref (adr (g.1 + 189) 8 0)), (1, .int a1)] := hl
  rw [f_X8_isDrive] at hf
  refine lv_iload_n hx hb dX8_isDrive_0 rfl (lv_at hl 1 rfl) ?_
  refine lv_i2l hx hb dX8_isDrive_1 rfl ?_
  refine lv_lconst (v := 0) hx hb dX8_isDrive_2 (by decide) ?_
  refine lv_aload_n hx hb dX8_isDrive_3 rfl (lv_at hl 0 rfl) ?_
  refine x_get (i := (g.1 + 189)) (k := 8) (j := 0) (t := 1) hx hb hts i_8 hown hK hW ⟨⟨hfl, rfl⟩, by decide⟩ rfl ⟨by decide, by decide, rfl⟩ (hts (.fieldLink RX8 7 "OpticalJukeboxModel" "now" "[I") (by decide +kernel)) (v := .ref (adr (g.1 + 189) 30 0)) rfl dX8_isDrive_4 ?_
  refine lv_bipush (v := 6) hx hb dX8_isDrive_7 (by decide) ?_
  refine x_iald (i := (g.1 + 189)) (k := 30) (j := 0) (f := md 30 0) hx hb hK hW ⟨⟨hfl, rfl⟩, by decide⟩ (by decide) (rfl) rfl (by unfold vp_in; decide) dX8_isDrive_9 ?_
  refine W.eq (g2 := F0 m 10 ls [.int (md 30 0 6), .long (0 : Int64), .long (a1).toInt64]) rfl ?_
  refine lv_iconst (v := 1) hx hb dX8_isDrive_10 (by decide) ?_
  refine lv_isub hx hb dX8_isDrive_11 ?_
  refine lv_i2l hx hb dX8_isDrive_12 rfl ?_
  obtain ⟨q1, h_q1, hf⟩ := x_bindE hf
  refine x_ci0 (x_rS ⟨hx, hb, hml, hown, hts⟩ (ct_X8_isIn l g (wM w md mn mw) ((a1).toInt64) ((0 : Int64)) ((((md 30 0 6) - (1 : Int32))).toInt64) h_q1) (va_cwS 3 hts gX8_isDrive_X8_isIn rfl rfl rfl (by decide +kernel) ⟨Nat.le_of_ble_eq_true rfl, Nat.le_of_ble_eq_true rfl⟩) hK hW hS rfl hl.1 (rest := []) rfl (Nat.le_of_ble_eq_true rfl) dX8_isDrive_13 ⟨Nat.le_of_ble_eq_true rfl, Nat.le_of_ble_eq_true rfl⟩) hS (fun H locs hW hS => ?_)
  have hW : World g (wM w md mn mw) H := hW
  refine W.eq (g2 := F0 m 16 ls [.int q1]) rfl ?_
  obtain ⟨hg2, hf⟩ := x_guardE hf
  cases hf
  exact x_zret hx hb hr hlocks hK hW hS hg2 rfl dX8_isDrive_16
abbrev rm_X8_isSlot : Room := { frames := 1, cells := 0, slots := 0, locals := 25 }
set_option maxRecDepth 100000 in
set_option maxHeartbeats 4000000 in
theorem ct_X8_isSlot (l : Launch) (g : GT) (hfl : 2 ≤ gf g) (w : WT) (md : SD) (mn : Nat → Int64) (mw : Int64) (a1 : Int32) {q : Int32} (hf : f_X8_isSlot md a1 = some q) : Met l yX8_isSlot wsX8_isSlot rm_X8_isSlot (cPre g (wM w md mn mw) [.ref (adr (g.1 + 189) 8 0), .int a1]) (cQi g q (wM w md mn mw)) 0 0 (gA g) := by
  have i_8 : ∀ w ∈ u_ws RX8 TX8 27, w ∈ wsX8_isSlot := by decide +kernel
  refine x_met (by decide) rfl (Nat.le_of_ble_eq_true rfl) ?_
  intro p e s m below meth c hx hb hr hml hts hown hlocks hK hW hS ls hl
  have hown : s.vm.findClass RX8 = some m.cls := hown
  have hl : lv_has ls 2 [(0, .ref (adr (g.1 + 189) 8 0)), (1, .int a1)] := hl
  rw [f_X8_isSlot] at hf
  refine lv_iload_n hx hb dX8_isSlot_0 rfl (lv_at hl 1 rfl) ?_
  refine lv_i2l hx hb dX8_isSlot_1 rfl ?_
  refine lv_lconst (v := 0) hx hb dX8_isSlot_2 (by decide) ?_
  refine lv_aload_n hx hb dX8_isSlot_3 rfl (lv_at hl 0 rfl) ?_
  refine x_get (i := (g.1 + 189)) (k := 8) (j := 0) (t := 1) hx hb hts i_8 hown hK hW ⟨⟨hfl, rfl⟩, by decide⟩ rfl ⟨by decide, by decide, rfl⟩ (hts (.fieldLink RX8 7 "OpticalJukeboxModel" "now" "[I") (by decide +kernel)) (v := .ref (adr (g.1 + 189) 30 0)) rfl dX8_isSlot_4 ?_
  refine lv_iconst (v := 0) hx hb dX8_isSlot_7 (by decide) ?_
  refine x_iald (i := (g.1 + 189)) (k := 30) (j := 0) (f := md 30 0) hx hb hK hW ⟨⟨hfl, rfl⟩, by decide⟩ (by decide) (rfl) rfl (by unfold vp_in; decide) dX8_isSlot_8 ?_
  refine W.eq (g2 := F0 m 9 ls [.int (md 30 0 0), .long (0 : Int64), .long (a1).toInt64]) rfl ?_
  refine lv_iconst (v := 1) hx hb dX8_isSlot_9 (by decide) ?_
  refine lv_isub hx hb dX8_isSlot_10 ?_
  refine lv_i2l hx hb dX8_isSlot_11 rfl ?_
  obtain ⟨q1, h_q1, hf⟩ := x_bindE hf
  refine x_ci0 (x_rS ⟨hx, hb, hml, hown, hts⟩ (ct_X8_isIn l g (wM w md mn mw) ((a1).toInt64) ((0 : Int64)) ((((md 30 0 0) - (1 : Int32))).toInt64) h_q1) (va_cwS 3 hts gX8_isSlot_X8_isIn rfl rfl rfl (by decide +kernel) ⟨Nat.le_of_ble_eq_true rfl, Nat.le_of_ble_eq_true rfl⟩) hK hW hS rfl hl.1 (rest := []) rfl (Nat.le_of_ble_eq_true rfl) dX8_isSlot_12 ⟨Nat.le_of_ble_eq_true rfl, Nat.le_of_ble_eq_true rfl⟩) hS (fun H locs hW hS => ?_)
  have hW : World g (wM w md mn mw) H := hW
  refine W.eq (g2 := F0 m 15 ls [.int q1]) rfl ?_
  obtain ⟨hg2, hf⟩ := x_guardE hf
  cases hf
  exact x_zret hx hb hr hlocks hK hW hS hg2 rfl dX8_isSlot_15
abbrev rm_X8_isFile : Room := { frames := 1, cells := 0, slots := 0, locals := 25 }
set_option maxRecDepth 100000 in
set_option maxHeartbeats 4000000 in
theorem ct_X8_isFile (l : Launch) (g : GT) (hfl : 2 ≤ gf g) (w : WT) (md : SD) (mn : Nat → Int64) (mw : Int64) (a1 : Int32) {q : Int32} (hf : f_X8_isFile md a1 = some q) : Met l yX8_isFile wsX8_isFile rm_X8_isFile (cPre g (wM w md mn mw) [.ref (adr (g.1 + 189) 8 0), .int a1]) (cQi g q (wM w md mn mw)) 0 0 (gA g) := by
  have i_8 : ∀ w ∈ u_ws RX8 TX8 27, w ∈ wsX8_isFile := by decide +kernel
  refine x_met (by decide) rfl (Nat.le_of_ble_eq_true rfl) ?_
  intro p e s m below meth c hx hb hr hml hts hown hlocks hK hW hS ls hl
  have hown : s.vm.findClass RX8 = some m.cls := hown
  have hl : lv_has ls 2 [(0, .ref (adr (g.1 + 189) 8 0)), (1, .int a1)] := hl
  rw [f_X8_isFile] at hf
  refine lv_iload_n hx hb dX8_isFile_0 rfl (lv_at hl 1 rfl) ?_
  refine lv_i2l hx hb dX8_isFile_1 rfl ?_
  refine lv_lconst (v := 0) hx hb dX8_isFile_2 (by decide) ?_
  refine lv_aload_n hx hb dX8_isFile_3 rfl (lv_at hl 0 rfl) ?_
  refine x_get (i := (g.1 + 189)) (k := 8) (j := 0) (t := 1) hx hb hts i_8 hown hK hW ⟨⟨hfl, rfl⟩, by decide⟩ rfl ⟨by decide, by decide, rfl⟩ (hts (.fieldLink RX8 7 "OpticalJukeboxModel" "now" "[I") (by decide +kernel)) (v := .ref (adr (g.1 + 189) 30 0)) rfl dX8_isFile_4 ?_
  refine lv_bipush (v := 9) hx hb dX8_isFile_7 (by decide) ?_
  refine x_iald (i := (g.1 + 189)) (k := 30) (j := 0) (f := md 30 0) hx hb hK hW ⟨⟨hfl, rfl⟩, by decide⟩ (by decide) (rfl) rfl (by unfold vp_in; decide) dX8_isFile_9 ?_
  refine W.eq (g2 := F0 m 10 ls [.int (md 30 0 9), .long (0 : Int64), .long (a1).toInt64]) rfl ?_
  refine lv_iconst (v := 1) hx hb dX8_isFile_10 (by decide) ?_
  refine lv_isub hx hb dX8_isFile_11 ?_
  refine lv_i2l hx hb dX8_isFile_12 rfl ?_
  obtain ⟨q1, h_q1, hf⟩ := x_bindE hf
  refine x_ci0 (x_rS ⟨hx, hb, hml, hown, hts⟩ (ct_X8_isIn l g (wM w md mn mw) ((a1).toInt64) ((0 : Int64)) ((((md 30 0 9) - (1 : Int32))).toInt64) h_q1) (va_cwS 3 hts gX8_isFile_X8_isIn rfl rfl rfl (by decide +kernel) ⟨Nat.le_of_ble_eq_true rfl, Nat.le_of_ble_eq_true rfl⟩) hK hW hS rfl hl.1 (rest := []) rfl (Nat.le_of_ble_eq_true rfl) dX8_isFile_13 ⟨Nat.le_of_ble_eq_true rfl, Nat.le_of_ble_eq_true rfl⟩) hS (fun H locs hW hS => ?_)
  have hW : World g (wM w md mn mw) H := hW
  refine W.eq (g2 := F0 m 16 ls [.int q1]) rfl ?_
  obtain ⟨hg2, hf⟩ := x_guardE hf
  cases hf
  exact x_zret hx hb hr hlocks hK hW hS hg2 rfl dX8_isFile_16
abbrev rm_X8_isSector : Room := { frames := 2, cells := 0, slots := 0, locals := 46 }
set_option maxRecDepth 100000 in
set_option maxHeartbeats 4000000 in
theorem ct_X8_isSector (l : Launch) (g : GT) (hfl : 2 ≤ gf g) (w : WT) (md : SD) (mn : Nat → Int64) (mw : Int64) (a1 : Int32) (a2 : Int32) {q : Int32} (hf : f_X8_isSector md a1 a2 = some q) : Met l yX8_isSector wsX8_isSector rm_X8_isSector (cPre g (wM w md mn mw) [.ref (adr (g.1 + 189) 8 0), .int a1, .int a2]) (cQi g q (wM w md mn mw)) 0 0 (gA g) := by
  have i_8 : ∀ w ∈ u_ws RX8 TX8 27, w ∈ wsX8_isSector := by decide +kernel
  refine x_met (by decide) rfl (Nat.le_of_ble_eq_true rfl) ?_
  intro p e s m below meth c hx hb hr hml hts hown hlocks hK hW hS ls hl
  have hown : s.vm.findClass RX8 = some m.cls := hown
  have hl : lv_has ls 3 [(0, .ref (adr (g.1 + 189) 8 0)), (1, .int a1), (2, .int a2)] := hl
  rw [f_X8_isSector] at hf
  refine lv_aload_n hx hb dX8_isSector_0 rfl (lv_at hl 0 rfl) ?_
  refine lv_iload_n hx hb dX8_isSector_1 rfl (lv_at hl 1 rfl) ?_
  obtain ⟨q1, h_q1, hf⟩ := x_bindE hf
  refine x_ci0 (x_rV ⟨hx, hb, hml, hown, hts⟩ (ct_X8_isPlatter l g hfl w md mn mw (a1) h_q1) (cwV 1 hts gX8_isSector_X8_isPlatter rfl rfl rfl (by decide +kernel) ⟨Nat.le_of_ble_eq_true rfl, Nat.le_of_ble_eq_true rfl⟩) hK hW hS (x_recv (i := (g.1 + 189)) (k := 8) (j := 0) hK hW ⟨⟨hfl, rfl⟩, by decide⟩ rfl (by decide)) rfl hl.1 (rest := []) rfl (Nat.le_of_ble_eq_true rfl) dX8_isSector_2 ⟨Nat.le_of_ble_eq_true rfl, Nat.le_of_ble_eq_true rfl⟩) hS (fun H locs hW hS => ?_)
  have hW : World g (wM w md mn mw) H := hW
  refine W.eq (g2 := F0 m 5 ls [.int q1]) rfl ?_
  refine lv_if_eq (tgt := 33) hx hb dX8_isSector_5 (by decide) (fun hc => ?_) (fun hc => ?_)
  · have hf := x_iteT hf hc
    refine lv_iconst (v := 0) hx hb dX8_isSector_33 (by decide) ?_
    cases hf
    exact x_zret hx hb hr hlocks hK hW hS (Or.inl rfl) rfl dX8_isSector_34
  · have hf := x_iteF hf hc
    refine lv_iload_n hx hb dX8_isSector_8 rfl (lv_at hl 2 rfl) ?_
    refine lv_i2l hx hb dX8_isSector_9 rfl ?_
    refine lv_lconst (v := 0) hx hb dX8_isSector_10 (by decide) ?_
    refine lv_aload_n hx hb dX8_isSector_11 rfl (lv_at hl 0 rfl) ?_
    refine x_get (i := (g.1 + 189)) (k := 8) (j := 0) (t := 1) hx hb hts i_8 hown hK hW ⟨⟨hfl, rfl⟩, by decide⟩ rfl ⟨by decide, by decide, rfl⟩ (hts (.fieldLink RX8 7 "OpticalJukeboxModel" "now" "[I") (by decide +kernel)) (v := .ref (adr (g.1 + 189) 30 0)) rfl dX8_isSector_12 ?_
    refine lv_bipush (v := 39) hx hb dX8_isSector_15 (by decide) ?_
    refine lv_iload_n hx hb dX8_isSector_17 rfl (lv_at hl 1 rfl) ?_
    refine lv_iadd hx hb dX8_isSector_18 ?_
    obtain ⟨hg2, hf⟩ := x_guardE hf
    refine x_iald (i := (g.1 + 189)) (k := 30) (j := 0) (f := md 30 0) hx hb hK hW ⟨⟨hfl, rfl⟩, by decide⟩ (by decide) (rfl) rfl hg2 dX8_isSector_19 ?_
    refine lv_iconst (v := 1) hx hb dX8_isSector_20 (by decide) ?_
    refine lv_isub hx hb dX8_isSector_21 ?_
    refine lv_i2l hx hb dX8_isSector_22 rfl ?_
    obtain ⟨q3, h_q3, hf⟩ := x_bindE hf
    refine x_ci0 (x_rS ⟨hx, hb, hml, hown, hts⟩ (ct_X8_isIn l g (wM w md mn mw) ((a2).toInt64) ((0 : Int64)) ((((md 30 0 (((39 : Int32) + a1)).toNatClampNeg) - (1 : Int32))).toInt64) h_q3) (va_cwS 3 hts gX8_isSector_X8_isIn rfl rfl rfl (by decide +kernel) ⟨Nat.le_of_ble_eq_true rfl, Nat.le_of_ble_eq_true rfl⟩) hK hW hS rfl hl.1 (rest := []) rfl (Nat.le_of_ble_eq_true rfl) dX8_isSector_23 ⟨Nat.le_of_ble_eq_true rfl, Nat.le_of_ble_eq_true rfl⟩) hS (fun H locs hW hS => ?_)
    have hW : World g (wM w md mn mw) H := hW
    refine W.eq (g2 := F0 m 26 ls [.int q3]) rfl ?_
    refine lv_if_eq (tgt := 33) hx hb dX8_isSector_26 (by decide) (fun hc => ?_) (fun hc => ?_)
    · have hf := x_iteT hf hc
      refine lv_iconst (v := 0) hx hb dX8_isSector_33 (by decide) ?_
      cases hf
      exact x_zret hx hb hr hlocks hK hW hS (Or.inl rfl) rfl dX8_isSector_34
    · have hf := x_iteF hf hc
      refine lv_iconst (v := 1) hx hb dX8_isSector_29 (by decide) ?_
      refine lv_goto (tgt := 34) hx hb dX8_isSector_30 (by decide) ?_
      cases hf
      exact x_zret hx hb hr hlocks hK hW hS (Or.inr rfl) rfl dX8_isSector_34
abbrev rm_X8_isRequest : Room := { frames := 1, cells := 0, slots := 0, locals := 25 }
set_option maxRecDepth 100000 in
set_option maxHeartbeats 4000000 in
theorem ct_X8_isRequest (l : Launch) (g : GT) (hfl : 2 ≤ gf g) (w : WT) (md : SD) (mn : Nat → Int64) (mw : Int64) (a1 : Int32) {q : Int32} (hf : f_X8_isRequest md a1 = some q) : Met l yX8_isRequest wsX8_isRequest rm_X8_isRequest (cPre g (wM w md mn mw) [.ref (adr (g.1 + 189) 8 0), .int a1]) (cQi g q (wM w md mn mw)) 0 0 (gA g) := by
  have i_8 : ∀ w ∈ u_ws RX8 TX8 27, w ∈ wsX8_isRequest := by decide +kernel
  refine x_met (by decide) rfl (Nat.le_of_ble_eq_true rfl) ?_
  intro p e s m below meth c hx hb hr hml hts hown hlocks hK hW hS ls hl
  have hown : s.vm.findClass RX8 = some m.cls := hown
  have hl : lv_has ls 2 [(0, .ref (adr (g.1 + 189) 8 0)), (1, .int a1)] := hl
  rw [f_X8_isRequest] at hf
  refine lv_iload_n hx hb dX8_isRequest_0 rfl (lv_at hl 1 rfl) ?_
  refine lv_i2l hx hb dX8_isRequest_1 rfl ?_
  refine lv_lconst (v := 0) hx hb dX8_isRequest_2 (by decide) ?_
  refine lv_aload_n hx hb dX8_isRequest_3 rfl (lv_at hl 0 rfl) ?_
  refine x_get (i := (g.1 + 189)) (k := 8) (j := 0) (t := 1) hx hb hts i_8 hown hK hW ⟨⟨hfl, rfl⟩, by decide⟩ rfl ⟨by decide, by decide, rfl⟩ (hts (.fieldLink RX8 7 "OpticalJukeboxModel" "now" "[I") (by decide +kernel)) (v := .ref (adr (g.1 + 189) 30 0)) rfl dX8_isRequest_4 ?_
  refine lv_bipush (v := 16) hx hb dX8_isRequest_7 (by decide) ?_
  refine x_iald (i := (g.1 + 189)) (k := 30) (j := 0) (f := md 30 0) hx hb hK hW ⟨⟨hfl, rfl⟩, by decide⟩ (by decide) (rfl) rfl (by unfold vp_in; decide) dX8_isRequest_9 ?_
  refine W.eq (g2 := F0 m 10 ls [.int (md 30 0 16), .long (0 : Int64), .long (a1).toInt64]) rfl ?_
  refine lv_iconst (v := 1) hx hb dX8_isRequest_10 (by decide) ?_
  refine lv_isub hx hb dX8_isRequest_11 ?_
  refine lv_i2l hx hb dX8_isRequest_12 rfl ?_
  obtain ⟨q1, h_q1, hf⟩ := x_bindE hf
  refine x_ci0 (x_rS ⟨hx, hb, hml, hown, hts⟩ (ct_X8_isIn l g (wM w md mn mw) ((a1).toInt64) ((0 : Int64)) ((((md 30 0 16) - (1 : Int32))).toInt64) h_q1) (va_cwS 3 hts gX8_isRequest_X8_isIn rfl rfl rfl (by decide +kernel) ⟨Nat.le_of_ble_eq_true rfl, Nat.le_of_ble_eq_true rfl⟩) hK hW hS rfl hl.1 (rest := []) rfl (Nat.le_of_ble_eq_true rfl) dX8_isRequest_13 ⟨Nat.le_of_ble_eq_true rfl, Nat.le_of_ble_eq_true rfl⟩) hS (fun H locs hW hS => ?_)
  have hW : World g (wM w md mn mw) H := hW
  refine W.eq (g2 := F0 m 16 ls [.int q1]) rfl ?_
  obtain ⟨hg2, hf⟩ := x_guardE hf
  cases hf
  exact x_zret hx hb hr hlocks hK hW hS hg2 rfl dX8_isRequest_16
abbrev rm_X8_isBad : Room := { frames := 0, cells := 0, slots := 0, locals := 0 }
set_option maxRecDepth 100000 in
set_option maxHeartbeats 4000000 in
theorem ct_X8_isBad (l : Launch) (g : GT) (hfl : 2 ≤ gf g) (w : WT) (md : SD) (mn : Nat → Int64) (mw : Int64) (k0 : Nat) (hk0 : isRow k0) (a1 : Int32) (a2 : Int32) {q : Int32} (hf : f_X8_isBad md k0 a1 a2 = some q) : Met l yX8_isBad wsX8_isBad rm_X8_isBad (cPre g (wM w md mn mw) [.ref (adr (g.1 + 189) k0 0), .int a1, .int a2]) (cQi g q (wM w md mn mw)) 0 0 (gA g) := by
  refine x_met (by decide) rfl (Nat.le_of_ble_eq_true rfl) ?_
  intro p e s m below meth c hx hb hr hml hts hown hlocks hK hW hS ls hl
  have hown : s.vm.findClass RX8 = some m.cls := hown
  have hl : lv_has ls 4 [(0, .ref (adr (g.1 + 189) k0 0)), (1, .int a1), (2, .int a2)] := hl
  rw [f_X8_isBad] at hf
  refine lv_iconst (v := 0) hx hb dX8_isBad_0 (by decide) ?_
  refine lv_istore_n (lv' := [(3, .int (0 : Int32)), (0, .ref (adr (g.1 + 189) k0 0)), (1, .int a1), (2, .int a2)]) hx hb dX8_isBad_1 rfl hl (by decide) rfl (fun ls hl => ?_)
  have L2 : ∀ (n : Nat) (v3_2 : Int32) (ls : Array Slot) (H : Heap) (locs : List Loc), lv_has ls 4 [(0, .ref (adr (g.1 + 189) k0 0)), (1, .int a1), (2, .int a2), (3, .int v3_2)] → World g (wM w md mn mw) H → va_S (gA g) s.heap H locs → f_X8_isBad_L2 md k0 a1 a2 n v3_2 = some q → W p l e rm_X8_isBad s m [.ref (adr (g.1 + 189) k0 0), .int a1, .int a2].toArray below meth c H locs 0 0 (MQ below (cQi g q (wM w md mn mw)) [.ref (adr (g.1 + 189) k0 0), .int a1, .int a2].toArray s 0 0 (gA g)) (F0 m 2 ls []) := by
    clear hW hS hl
    intro n
    induction n with
    | zero => intro v3_2 ls H locs hl hW hS hf; cases hf
    | succ n_2 ih =>
      intro v3_2 ls H locs hl hW hS hf
      rw [f_X8_isBad_L2] at hf
      refine lv_iload_n hx hb dX8_isBad_2 rfl (lv_at hl 3 rfl) ?_
      refine lv_aload_n hx hb dX8_isBad_3 rfl (lv_at hl 0 rfl) ?_
      refine lv_bipush (v := 8) hx hb dX8_isBad_4 (by decide) ?_
      refine x_iald (i := (g.1 + 189)) (k := k0) (j := 0) (f := md k0 0) hx hb hK hW (rw_d hfl hk0) (rw_9 hk0) (rw_c hk0) (rw_t hk0) (rw_in hk0 (by unfold vp_in; decide)) dX8_isBad_6 ?_
      refine W.eq (g2 := F0 m 7 ls [.int (md k0 0 8), .int v3_2]) rfl ?_
      refine lv_icmp_ge (tgt := 40) hx hb dX8_isBad_7 (by decide) (fun hc => ?_) (fun hc => ?_)
      · have hf := x_iteT hf hc
        refine lv_iconst (v := 0) hx hb dX8_isBad_40 (by decide) ?_
        cases hf
        exact x_zret hx hb hr hlocks hK hW hS (Or.inl rfl) rfl dX8_isBad_41
      · have hf := x_iteF hf hc
        refine lv_aload_n hx hb dX8_isBad_10 rfl (lv_at hl 0 rfl) ?_
        refine lv_sipush (v := 249) hx hb dX8_isBad_11 (by decide) ?_
        refine lv_iload_n hx hb dX8_isBad_14 rfl (lv_at hl 3 rfl) ?_
        refine lv_iadd hx hb dX8_isBad_15 ?_
        obtain ⟨hg1, hf⟩ := x_guardE hf
        refine x_iald (i := (g.1 + 189)) (k := k0) (j := 0) (f := md k0 0) hx hb hK hW (rw_d hfl hk0) (rw_9 hk0) (rw_c hk0) (rw_t hk0) (rw_in hk0 hg1) dX8_isBad_16 ?_
        refine lv_iload_n hx hb dX8_isBad_17 rfl (lv_at hl 1 rfl) ?_
        refine lv_icmp_ne (tgt := 34) hx hb dX8_isBad_18 (by decide) (fun hc => ?_) (fun hc => ?_)
        · have hf := x_iteF hf hc
          obtain ⟨x2, e_x2, hf⟩ := x_letE hf
          refine lv_iinc (v := x2) (lv' := [(3, .int x2), (0, .ref (adr (g.1 + 189) k0 0)), (1, .int a1), (2, .int a2)]) hx hb dX8_isBad_34 hl (k := 3) rfl (by rw [e_x2]; rfl) (by decide) rfl (fun ls hl => ?_)
          refine lv_goto (tgt := 2) hx hb dX8_isBad_37 (by decide) ?_
          exact ih (x2) ls _ _ (lv_sub hl [1, 2, 3, 0] rfl) hW hS hf
        · have hf := x_iteT hf hc
          refine lv_aload_n hx hb dX8_isBad_21 rfl (lv_at hl 0 rfl) ?_
          refine lv_sipush (v := 269) hx hb dX8_isBad_22 (by decide) ?_
          refine lv_iload_n hx hb dX8_isBad_25 rfl (lv_at hl 3 rfl) ?_
          refine lv_iadd hx hb dX8_isBad_26 ?_
          obtain ⟨hg3, hf⟩ := x_guardE hf
          refine x_iald (i := (g.1 + 189)) (k := k0) (j := 0) (f := md k0 0) hx hb hK hW (rw_d hfl hk0) (rw_9 hk0) (rw_c hk0) (rw_t hk0) (rw_in hk0 hg3) dX8_isBad_27 ?_
          refine lv_iload_n hx hb dX8_isBad_28 rfl (lv_at hl 2 rfl) ?_
          refine lv_icmp_ne (tgt := 34) hx hb dX8_isBad_29 (by decide) (fun hc => ?_) (fun hc => ?_)
          · have hf := x_iteF hf hc
            obtain ⟨x4, e_x4, hf⟩ := x_letE hf
            refine lv_iinc (v := x4) (lv' := [(3, .int x4), (0, .ref (adr (g.1 + 189) k0 0)), (1, .int a1), (2, .int a2)]) hx hb dX8_isBad_34 hl (k := 3) rfl (by rw [e_x4]; rfl) (by decide) rfl (fun ls hl => ?_)
            refine lv_goto (tgt := 2) hx hb dX8_isBad_37 (by decide) ?_
            exact ih (x4) ls _ _ (lv_sub hl [1, 2, 3, 0] rfl) hW hS hf
          · have hf := x_iteT hf hc
            refine lv_iconst (v := 1) hx hb dX8_isBad_32 (by decide) ?_
            cases hf
            exact x_zret hx hb hr hlocks hK hW hS (Or.inr rfl) rfl dX8_isBad_33
  exact L2 fuel ((0 : Int32)) ls _ _ (lv_sub hl [1, 2, 3, 0] rfl) hW hS hf
abbrev rm_X8_badsIn : Room := { frames := 1, cells := 0, slots := 0, locals := 25 }
set_option maxRecDepth 100000 in
set_option maxHeartbeats 4000000 in
theorem ct_X8_badsIn (l : Launch) (g : GT) (hfl : 2 ≤ gf g) (w : WT) (md : SD) (mn : Nat → Int64) (mw : Int64) (k0 : Nat) (hk0 : isRow k0) (a1 : Int32) (a2 : Int32) (a3 : Int32) {q : Int32} (hf : f_X8_badsIn md k0 a1 a2 a3 = some q) : Met l yX8_badsIn wsX8_badsIn rm_X8_badsIn (cPre g (wM w md mn mw) [.ref (adr (g.1 + 189) k0 0), .int a1, .int a2, .int a3]) (cQi g q (wM w md mn mw)) 0 0 (gA g) := by
  refine x_met (by decide) rfl (Nat.le_of_ble_eq_true rfl) ?_
  intro p e s m below meth c hx hb hr hml hts hown hlocks hK hW hS ls hl
  have hown : s.vm.findClass RX8 = some m.cls := hown
  have hl : lv_has ls 6 [(0, .ref (adr (g.1 + 189) k0 0)), (1, .int a1), (2, .int a2), (3, .int a3)] := hl
  rw [f_X8_badsIn] at hf
  refine lv_iconst (v := 0) hx hb dX8_badsIn_0 (by decide) ?_
  refine lv_istore (lv' := [(4, .int (0 : Int32)), (0, .ref (adr (g.1 + 189) k0 0)), (1, .int a1), (2, .int a2), (3, .int a3)]) hx hb dX8_badsIn_1 hl (by decide) rfl (fun ls hl => ?_)
  refine lv_iconst (v := 0) hx hb dX8_badsIn_3 (by decide) ?_
  refine lv_istore (lv' := [(5, .int (0 : Int32)), (4, .int (0 : Int32)), (0, .ref (adr (g.1 + 189) k0 0)), (1, .int a1), (2, .int a2), (3, .int a3)]) hx hb dX8_badsIn_4 hl (by decide) rfl (fun ls hl => ?_)
  have L6 : ∀ (n : Nat) (v4_6 : Int32) (v5_6 : Int32) (ls : Array Slot) (H : Heap) (locs : List Loc), lv_has ls 6 [(0, .ref (adr (g.1 + 189) k0 0)), (1, .int a1), (2, .int a2), (3, .int a3), (4, .int v4_6), (5, .int v5_6)] → World g (wM w md mn mw) H → va_S (gA g) s.heap H locs → f_X8_badsIn_L6 md k0 a1 a2 a3 n v4_6 v5_6 = some q → W p l e rm_X8_badsIn s m [.ref (adr (g.1 + 189) k0 0), .int a1, .int a2, .int a3].toArray below meth c H locs 0 0 (MQ below (cQi g q (wM w md mn mw)) [.ref (adr (g.1 + 189) k0 0), .int a1, .int a2, .int a3].toArray s 0 0 (gA g)) (F0 m 6 ls []) := by
    clear hW hS hl
    intro n
    induction n with
    | zero => intro v4_6 v5_6 ls H locs hl hW hS hf; cases hf
    | succ n_6 ih =>
      intro v4_6 v5_6 ls H locs hl hW hS hf
      rw [f_X8_badsIn_L6] at hf
      refine lv_iload hx hb dX8_badsIn_6 (lv_at hl 5 rfl) ?_
      refine lv_aload_n hx hb dX8_badsIn_8 rfl (lv_at hl 0 rfl) ?_
      refine lv_bipush (v := 8) hx hb dX8_badsIn_9 (by decide) ?_
      refine x_iald (i := (g.1 + 189)) (k := k0) (j := 0) (f := md k0 0) hx hb hK hW (rw_d hfl hk0) (rw_9 hk0) (rw_c hk0) (rw_t hk0) (rw_in hk0 (by unfold vp_in; decide)) dX8_badsIn_11 ?_
      refine W.eq (g2 := F0 m 12 ls [.int (md k0 0 8), .int v5_6]) rfl ?_
      refine lv_icmp_ge (tgt := 66) hx hb dX8_badsIn_12 (by decide) (fun hc => ?_) (fun hc => ?_)
      · have hf := x_iteT hf hc
        refine lv_iload hx hb dX8_badsIn_66 (lv_at hl 4 rfl) ?_
        cases hf
        exact x_iret hx hb hr hlocks hK hW hS rfl dX8_badsIn_68
      · have hf := x_iteF hf hc
        refine lv_iload hx hb dX8_badsIn_15 (lv_at hl 4 rfl) ?_
        refine lv_aload_n hx hb dX8_badsIn_17 rfl (lv_at hl 0 rfl) ?_
        refine lv_sipush (v := 249) hx hb dX8_badsIn_18 (by decide) ?_
        refine lv_iload hx hb dX8_badsIn_21 (lv_at hl 5 rfl) ?_
        refine lv_iadd hx hb dX8_badsIn_23 ?_
        obtain ⟨hg1, hf⟩ := x_guardE hf
        refine x_iald (i := (g.1 + 189)) (k := k0) (j := 0) (f := md k0 0) hx hb hK hW (rw_d hfl hk0) (rw_9 hk0) (rw_c hk0) (rw_t hk0) (rw_in hk0 hg1) dX8_badsIn_24 ?_
        refine lv_iload_n hx hb dX8_badsIn_25 rfl (lv_at hl 1 rfl) ?_
        obtain ⟨K2, eK2, hf⟩ := x_letE hf
        have KK2 : ∀ (y3 : Int32) (ls : Array Slot) (H : Heap) (locs : List Loc), lv_has ls 6 [(0, .ref (adr (g.1 + 189) k0 0)), (1, .int a1), (2, .int a2), (3, .int a3), (4, .int v4_6), (5, .int v5_6)] → World g (wM w md mn mw) H → va_S (gA g) s.heap H locs → K2 y3 = some q → W p l e rm_X8_badsIn s m [.ref (adr (g.1 + 189) k0 0), .int a1, .int a2, .int a3].toArray below meth c H locs 0 0 (MQ below (cQi g q (wM w md mn mw)) [.ref (adr (g.1 + 189) k0 0), .int a1, .int a2, .int a3].toArray s 0 0 (gA g)) (F0 m 57 ls [.int y3, .int v4_6]) := by
          intro y3 ls H locs hl hW hS hf
          subst eK2
          refine lv_iadd hx hb dX8_badsIn_57 ?_
          obtain ⟨x4, e_x4, hf⟩ := x_letE hf
          refine x_topi e_x4 ?_
          refine lv_istore (lv' := [(4, .int x4), (0, .ref (adr (g.1 + 189) k0 0)), (1, .int a1), (2, .int a2), (3, .int a3), (5, .int v5_6)]) hx hb dX8_badsIn_58 hl (by decide) rfl (fun ls hl => ?_)
          obtain ⟨x5, e_x5, hf⟩ := x_letE hf
          refine lv_iinc (v := x5) (lv' := [(5, .int x5), (4, .int x4), (0, .ref (adr (g.1 + 189) k0 0)), (1, .int a1), (2, .int a2), (3, .int a3)]) hx hb dX8_badsIn_60 hl (k := 5) rfl (by rw [e_x5]; rfl) (by decide) rfl (fun ls hl => ?_)
          refine lv_goto (tgt := 6) hx hb dX8_badsIn_63 (by decide) ?_
          exact ih (x4) (x5) ls _ _ (lv_sub hl [2, 3, 4, 5, 1, 0] rfl) hW hS hf
        clear eK2
        obtain ⟨K6, eK6, hf⟩ := x_letE hf
        have KK6 : ∀ (_u : Unit) (ls : Array Slot) (H : Heap) (locs : List Loc), lv_has ls 6 [(0, .ref (adr (g.1 + 189) k0 0)), (1, .int a1), (2, .int a2), (3, .int a3), (4, .int v4_6), (5, .int v5_6)] → World g (wM w md mn mw) H → va_S (gA g) s.heap H locs → K6 _u = some q → W p l e rm_X8_badsIn s m [.ref (adr (g.1 + 189) k0 0), .int a1, .int a2, .int a3].toArray below meth c H locs 0 0 (MQ below (cQi g q (wM w md mn mw)) [.ref (adr (g.1 + 189) k0 0), .int a1, .int a2, .int a3].toArray s 0 0 (gA g)) (F0 m 56 ls [.int v4_6]) := by
          intro _u ls H locs hl hW hS hf
          subst eK6
          refine lv_iconst (v := 0) hx hb dX8_badsIn_56 (by decide) ?_
          exact KK2 ((0 : Int32)) ls _ _ hl hW hS hf
        clear eK6
        refine lv_icmp_ne (tgt := 56) hx hb dX8_badsIn_26 (by decide) (fun hc => ?_) (fun hc => ?_)
        · have hf := x_iteF hf hc
          exact KK6 (()) ls _ _ hl hW hS hf
        · have hf := x_iteT hf hc
          refine lv_aload_n hx hb dX8_badsIn_29 rfl (lv_at hl 0 rfl) ?_
          refine lv_sipush (v := 269) hx hb dX8_badsIn_30 (by decide) ?_
          refine lv_iload hx hb dX8_badsIn_33 (lv_at hl 5 rfl) ?_
          refine lv_iadd hx hb dX8_badsIn_35 ?_
          obtain ⟨hg7, hf⟩ := x_guardE hf
          refine x_iald (i := (g.1 + 189)) (k := k0) (j := 0) (f := md k0 0) hx hb hK hW (rw_d hfl hk0) (rw_9 hk0) (rw_c hk0) (rw_t hk0) (rw_in hk0 hg7) dX8_badsIn_36 ?_
          refine lv_i2l hx hb dX8_badsIn_37 rfl ?_
          refine lv_iload_n hx hb dX8_badsIn_38 rfl (lv_at hl 2 rfl) ?_
          refine lv_i2l hx hb dX8_badsIn_39 rfl ?_
          refine lv_iload_n hx hb dX8_badsIn_40 rfl (lv_at hl 2 rfl) ?_
          refine lv_iload_n hx hb dX8_badsIn_41 rfl (lv_at hl 3 rfl) ?_
          refine lv_iadd hx hb dX8_badsIn_42 ?_
          refine lv_iconst (v := 1) hx hb dX8_badsIn_43 (by decide) ?_
          refine lv_isub hx hb dX8_badsIn_44 ?_
          refine lv_i2l hx hb dX8_badsIn_45 rfl ?_
          obtain ⟨q8, h_q8, hf⟩ := x_bindE hf
          refine x_ci0 (x_rS ⟨hx, hb, hml, hown, hts⟩ (ct_X8_isIn l g (wM w md mn mw) (((md k0 0 (((269 : Int32) + v5_6)).toNatClampNeg)).toInt64) ((a2).toInt64) ((((a2 + a3) - (1 : Int32))).toInt64) h_q8) (va_cwS 3 hts gX8_badsIn_X8_isIn rfl rfl rfl (by decide +kernel) ⟨Nat.le_of_ble_eq_true rfl, Nat.le_of_ble_eq_true rfl⟩) hK hW hS rfl hl.1 (rest := [.int v4_6]) rfl (Nat.le_of_ble_eq_true rfl) dX8_badsIn_46 ⟨Nat.le_of_ble_eq_true rfl, Nat.le_of_ble_eq_true rfl⟩) hS (fun H locs hW hS => ?_)
          have hW : World g (wM w md mn mw) H := hW
          refine W.eq (g2 := F0 m 49 ls [.int q8, .int v4_6]) rfl ?_
          refine lv_if_eq (tgt := 56) hx hb dX8_badsIn_49 (by decide) (fun hc => ?_) (fun hc => ?_)
          · have hf := x_iteT hf hc
            exact KK6 (()) ls _ _ hl hW hS hf
          · have hf := x_iteF hf hc
            refine lv_iconst (v := 1) hx hb dX8_badsIn_52 (by decide) ?_
            refine lv_goto (tgt := 57) hx hb dX8_badsIn_53 (by decide) ?_
            exact KK2 ((1 : Int32)) ls _ _ hl hW hS hf
  exact L6 fuel ((0 : Int32)) ((0 : Int32)) ls _ _ (lv_sub hl [2, 3, 4, 5, 1, 0] rfl) hW hS hf
abbrev rm_X8_canWrite : Room := { frames := 2, cells := 0, slots := 0, locals := 50 }
set_option maxRecDepth 100000 in
set_option maxHeartbeats 4000000 in
theorem ct_X8_canWrite (l : Launch) (g : GT) (hfl : 2 ≤ gf g) (w : WT) (md : SD) (mn : Nat → Int64) (mw : Int64) (k0 : Nat) (hk0 : isRow k0) (a1 : Int32) (a2 : Int32) {q : Int32} (hf : f_X8_canWrite md k0 a1 a2 = some q) : Met l yX8_canWrite wsX8_canWrite rm_X8_canWrite (cPre g (wM w md mn mw) [.ref (adr (g.1 + 189) k0 0), .int a1, .int a2]) (cQi g q (wM w md mn mw)) 0 0 (gA g) := by
  refine x_met (by decide) rfl (Nat.le_of_ble_eq_true rfl) ?_
  intro p e s m below meth c hx hb hr hml hts hown hlocks hK hW hS ls hl
  have hown : s.vm.findClass RX8 = some m.cls := hown
  have hl : lv_has ls 4 [(0, .ref (adr (g.1 + 189) k0 0)), (1, .int a1), (2, .int a2)] := hl
  rw [f_X8_canWrite] at hf
  refine lv_aload_n hx hb dX8_canWrite_0 rfl (lv_at hl 0 rfl) ?_
  refine lv_bipush (v := 79) hx hb dX8_canWrite_1 (by decide) ?_
  refine lv_iload_n hx hb dX8_canWrite_3 rfl (lv_at hl 1 rfl) ?_
  refine lv_iadd hx hb dX8_canWrite_4 ?_
  obtain ⟨hg1, hf⟩ := x_guardE hf
  refine x_iald (i := (g.1 + 189)) (k := k0) (j := 0) (f := md k0 0) hx hb hK hW (rw_d hfl hk0) (rw_9 hk0) (rw_c hk0) (rw_t hk0) (rw_in hk0 hg1) dX8_canWrite_5 ?_
  obtain ⟨K2, eK2, hf⟩ := x_letE hf
  have KK2 : ∀ (_u : Unit) (ls : Array Slot) (H : Heap) (locs : List Loc), lv_has ls 4 [(0, .ref (adr (g.1 + 189) k0 0)), (1, .int a1), (2, .int a2)] → World g (wM w md mn mw) H → va_S (gA g) s.heap H locs → K2 _u = some q → W p l e rm_X8_canWrite s m [.ref (adr (g.1 + 189) k0 0), .int a1, .int a2].toArray below meth c H locs 0 0 (MQ below (cQi g q (wM w md mn mw)) [.ref (adr (g.1 + 189) k0 0), .int a1, .int a2].toArray s 0 0 (gA g)) (F0 m 22 ls []) := by
    intro _u ls H locs hl hW hS hf
    subst eK2
    refine lv_aload_n hx hb dX8_canWrite_22 rfl (lv_at hl 0 rfl) ?_
    refine lv_bipush (v := 59) hx hb dX8_canWrite_23 (by decide) ?_
    refine lv_iload_n hx hb dX8_canWrite_25 rfl (lv_at hl 1 rfl) ?_
    refine lv_iadd hx hb dX8_canWrite_26 ?_
    obtain ⟨hg3, hf⟩ := x_guardE hf
    refine x_iald (i := (g.1 + 189)) (k := k0) (j := 0) (f := md k0 0) hx hb hK hW (rw_d hfl hk0) (rw_9 hk0) (rw_c hk0) (rw_t hk0) (rw_in hk0 hg3) dX8_canWrite_27 ?_
    obtain ⟨x4, e_x4, hf⟩ := x_letE hf
    refine x_topi e_x4 ?_
    refine lv_istore_n (lv' := [(3, .int x4), (0, .ref (adr (g.1 + 189) k0 0)), (1, .int a1), (2, .int a2)]) hx hb dX8_canWrite_28 rfl hl (by decide) rfl (fun ls hl => ?_)
    refine lv_iload_n hx hb dX8_canWrite_29 rfl (lv_at hl 3 rfl) ?_
    refine lv_aload_n hx hb dX8_canWrite_30 rfl (lv_at hl 1 rfl) ?_
    refine lv_bipush (v := 39) hx hb dX8_canWrite_31 (by decide) ?_
    refine lv_iload_n hx hb dX8_canWrite_33 rfl (lv_at hl 2 rfl) ?_
    refine lv_iadd hx hb dX8_canWrite_34 ?_
    obtain ⟨hg5, hf⟩ := x_guardE hf
    refine x_iald (i := (g.1 + 189)) (k := k0) (j := 0) (f := md k0 0) hx hb hK hW (rw_d hfl hk0) (rw_9 hk0) (rw_c hk0) (rw_t hk0) (rw_in hk0 hg5) dX8_canWrite_35 ?_
    refine lv_iload_n hx hb dX8_canWrite_36 rfl (lv_at hl 0 rfl) ?_
    refine lv_isub hx hb dX8_canWrite_37 ?_
    refine lv_icmp_gt (tgt := 61) hx hb dX8_canWrite_38 (by decide) (fun hc => ?_) (fun hc => ?_)
    · have hf := x_iteT hf hc
      refine lv_iconst (v := 0) hx hb dX8_canWrite_61 (by decide) ?_
      cases hf
      exact x_zret hx hb hr hlocks hK hW hS (Or.inl rfl) rfl dX8_canWrite_62
    · have hf := x_iteF hf hc
      refine lv_aload_n hx hb dX8_canWrite_41 rfl (lv_at hl 1 rfl) ?_
      refine lv_iload_n hx hb dX8_canWrite_42 rfl (lv_at hl 2 rfl) ?_
      refine lv_iload_n hx hb dX8_canWrite_43 rfl (lv_at hl 0 rfl) ?_
      refine lv_iload_n hx hb dX8_canWrite_44 rfl (lv_at hl 3 rfl) ?_
      obtain ⟨q6, h_q6, hf⟩ := x_bindE hf
      refine x_ci0 (x_rS ⟨hx, hb, hml, hown, hts⟩ (ct_X8_badsIn l g hfl w md mn mw k0 hk0 (a1) (x4) (a2) h_q6) (va_cwS 4 hts gX8_canWrite_X8_badsIn rfl rfl rfl (by decide +kernel) ⟨Nat.le_of_ble_eq_true rfl, Nat.le_of_ble_eq_true rfl⟩) hK hW hS rfl hl.1 (rest := []) rfl (Nat.le_of_ble_eq_true rfl) dX8_canWrite_45 ⟨Nat.le_of_ble_eq_true rfl, Nat.le_of_ble_eq_true rfl⟩) hS (fun H locs hW hS => ?_)
      have hW : World g (wM w md mn mw) H := hW
      refine W.eq (g2 := F0 m 48 ls [.int q6]) rfl ?_
      refine lv_aload_n hx hb dX8_canWrite_48 rfl (lv_at hl 1 rfl) ?_
      refine lv_bipush (v := 49) hx hb dX8_canWrite_49 (by decide) ?_
      refine lv_iload_n hx hb dX8_canWrite_51 rfl (lv_at hl 2 rfl) ?_
      refine lv_iadd hx hb dX8_canWrite_52 ?_
      obtain ⟨hg7, hf⟩ := x_guardE hf
      refine x_iald (i := (g.1 + 189)) (k := k0) (j := 0) (f := md k0 0) hx hb hK hW (rw_d hfl hk0) (rw_9 hk0) (rw_c hk0) (rw_t hk0) (rw_in hk0 hg7) dX8_canWrite_53 ?_
      refine lv_icmp_gt (tgt := 61) hx hb dX8_canWrite_54 (by decide) (fun hc => ?_) (fun hc => ?_)
      · have hf := x_iteT hf hc
        refine lv_iconst (v := 0) hx hb dX8_canWrite_61 (by decide) ?_
        cases hf
        exact x_zret hx hb hr hlocks hK hW hS (Or.inl rfl) rfl dX8_canWrite_62
      · have hf := x_iteF hf hc
        refine lv_iconst (v := 1) hx hb dX8_canWrite_57 (by decide) ?_
        refine lv_goto (tgt := 62) hx hb dX8_canWrite_58 (by decide) ?_
        cases hf
        exact x_zret hx hb hr hlocks hK hW hS (Or.inr rfl) rfl dX8_canWrite_62
  clear eK2
  refine lv_if_ne (tgt := 22) hx hb dX8_canWrite_6 (by decide) (fun hc => ?_) (fun hc => ?_)
  · have hf := x_iteF hf hc
    exact KK2 (()) ls _ _ hl hW hS hf
  · have hf := x_iteT hf hc
    refine lv_aload_n hx hb dX8_canWrite_9 rfl (lv_at hl 0 rfl) ?_
    refine lv_bipush (v := 69) hx hb dX8_canWrite_10 (by decide) ?_
    refine lv_iload_n hx hb dX8_canWrite_12 rfl (lv_at hl 1 rfl) ?_
    refine lv_iadd hx hb dX8_canWrite_13 ?_
    obtain ⟨hg8, hf⟩ := x_guardE hf
    refine x_iald (i := (g.1 + 189)) (k := k0) (j := 0) (f := md k0 0) hx hb hK hW (rw_d hfl hk0) (rw_9 hk0) (rw_c hk0) (rw_t hk0) (rw_in hk0 hg8) dX8_canWrite_14 ?_
    refine lv_bipush (v := 8) hx hb dX8_canWrite_15 (by decide) ?_
    refine lv_icmp_ne (tgt := 22) hx hb dX8_canWrite_17 (by decide) (fun hc => ?_) (fun hc => ?_)
    · have hf := x_iteF hf hc
      exact KK2 (()) ls _ _ hl hW hS hf
    · have hf := x_iteT hf hc
      refine lv_iconst (v := 0) hx hb dX8_canWrite_20 (by decide) ?_
      cases hf
      exact x_zret hx hb hr hlocks hK hW hS (Or.inl rfl) rfl dX8_canWrite_21
abbrev rm_X8_writesVersion : Room := { frames := 2, cells := 0, slots := 0, locals := 50 }
set_option maxRecDepth 100000 in
set_option maxHeartbeats 4000000 in
theorem ct_X8_writesVersion (l : Launch) (g : GT) (hfl : 2 ≤ gf g) (w : WT) (md : SD) (mn : Nat → Int64) (mw : Int64) (k0 : Nat) (hk0 : isRow k0) (a1 : Int32) (a2 : Int32) (a3 : Int32) {q : SD} (hf : f_X8_writesVersion md k0 a1 a2 a3 = some q) : Met l yX8_writesVersion wsX8_writesVersion rm_X8_writesVersion (cPre g (wM w md mn mw) [.ref (adr (g.1 + 189) k0 0), .int a1, .int a2, .int a3]) (cQv g (wM w q mn mw)) 0 0 (gA g) := by
  refine x_met (by decide) rfl (Nat.le_of_ble_eq_true rfl) ?_
  intro p e s m below meth c hx hb hr hml hts hown hlocks hK hW hS ls hl
  have hown : s.vm.findClass RX8 = some m.cls := hown
  have hl : lv_has ls 8 [(0, .ref (adr (g.1 + 189) k0 0)), (1, .int a1), (2, .int a2), (3, .int a3)] := hl
  rw [f_X8_writesVersion] at hf
  refine lv_aload_n hx hb dX8_writesVersion_0 rfl (lv_at hl 0 rfl) ?_
  refine lv_bipush (v := 59) hx hb dX8_writesVersion_1 (by decide) ?_
  refine lv_iload_n hx hb dX8_writesVersion_3 rfl (lv_at hl 2 rfl) ?_
  refine lv_iadd hx hb dX8_writesVersion_4 ?_
  obtain ⟨hg1, hf⟩ := x_guardE hf
  refine x_iald (i := (g.1 + 189)) (k := k0) (j := 0) (f := md k0 0) hx hb hK hW (rw_d hfl hk0) (rw_9 hk0) (rw_c hk0) (rw_t hk0) (rw_in hk0 hg1) dX8_writesVersion_5 ?_
  obtain ⟨x2, e_x2, hf⟩ := x_letE hf
  refine x_topi e_x2 ?_
  refine lv_istore (lv' := [(4, .int x2), (0, .ref (adr (g.1 + 189) k0 0)), (1, .int a1), (2, .int a2), (3, .int a3)]) hx hb dX8_writesVersion_6 hl (by decide) rfl (fun ls hl => ?_)
  refine lv_aload_n hx hb dX8_writesVersion_8 rfl (lv_at hl 1 rfl) ?_
  refine lv_bipush (v := 79) hx hb dX8_writesVersion_9 (by decide) ?_
  refine lv_iload_n hx hb dX8_writesVersion_11 rfl (lv_at hl 3 rfl) ?_
  refine lv_iadd hx hb dX8_writesVersion_12 ?_
  obtain ⟨hg3, hf⟩ := x_guardE hf
  refine x_iald (i := (g.1 + 189)) (k := k0) (j := 0) (f := md k0 0) hx hb hK hW (rw_d hfl hk0) (rw_9 hk0) (rw_c hk0) (rw_t hk0) (rw_in hk0 hg3) dX8_writesVersion_13 ?_
  obtain ⟨K4, eK4, hf⟩ := x_letE hf
  have KK4 : ∀ (md5 : SD) (ls : Array Slot) (H : Heap) (locs : List Loc), lv_has ls 8 [(0, .ref (adr (g.1 + 189) k0 0)), (1, .int a1), (2, .int a2), (3, .int a3), (4, .int x2)] → World g (wM w md5 mn mw) H → va_S (gA g) s.heap H locs → K4 md5 = some q → W p l e rm_X8_writesVersion s m [.ref (adr (g.1 + 189) k0 0), .int a1, .int a2, .int a3].toArray below meth c H locs 0 0 (MQ below (cQv g (wM w q mn mw)) [.ref (adr (g.1 + 189) k0 0), .int a1, .int a2, .int a3].toArray s 0 0 (gA g)) (F0 m 70 ls []) := by
    intro md5 ls H locs hl hW hS hf
    subst eK4
    refine lv_aload_n hx hb dX8_writesVersion_70 rfl (lv_at hl 0 rfl) ?_
    refine lv_bipush (v := 69) hx hb dX8_writesVersion_71 (by decide) ?_
    refine lv_iload_n hx hb dX8_writesVersion_73 rfl (lv_at hl 2 rfl) ?_
    refine lv_iadd hx hb dX8_writesVersion_74 ?_
    obtain ⟨hg6, hf⟩ := x_guardE hf
    refine x_iald (i := (g.1 + 189)) (k := k0) (j := 0) (f := md5 k0 0) hx hb hK hW (rw_d hfl hk0) (rw_9 hk0) (rw_c hk0) (rw_t hk0) (rw_in hk0 hg6) dX8_writesVersion_75 ?_
    refine lv_iconst (v := 1) hx hb dX8_writesVersion_76 (by decide) ?_
    refine lv_isub hx hb dX8_writesVersion_77 ?_
    obtain ⟨x7, e_x7, hf⟩ := x_letE hf
    refine x_topi e_x7 ?_
    refine lv_istore (lv' := [(5, .int x7), (0, .ref (adr (g.1 + 189) k0 0)), (1, .int a1), (2, .int a2), (3, .int a3), (4, .int x2)]) hx hb dX8_writesVersion_78 hl (by decide) rfl (fun ls hl => ?_)
    refine lv_aload_n hx hb dX8_writesVersion_80 rfl (lv_at hl 1 rfl) ?_
    refine lv_iload_n hx hb dX8_writesVersion_81 rfl (lv_at hl 3 rfl) ?_
    refine lv_iload hx hb dX8_writesVersion_82 (lv_at hl 5 rfl) ?_
    refine lv_iload_n hx hb dX8_writesVersion_84 rfl (lv_at hl 4 rfl) ?_
    obtain ⟨q8, h_q8, hf⟩ := x_bindE hf
    refine x_ci0 (x_rS ⟨hx, hb, hml, hown, hts⟩ (ct_X8_badsIn l g hfl w md5 mn mw k0 hk0 (a2) (x2) (a3) h_q8) (va_cwS 4 hts gX8_writesVersion_X8_badsIn rfl rfl rfl (by decide +kernel) ⟨Nat.le_of_ble_eq_true rfl, Nat.le_of_ble_eq_true rfl⟩) hK hW hS rfl hl.1 (rest := []) rfl (Nat.le_of_ble_eq_true rfl) dX8_writesVersion_85 ⟨Nat.le_of_ble_eq_true rfl, Nat.le_of_ble_eq_true rfl⟩) hS (fun H locs hW hS => ?_)
    have hW : World g (wM w md5 mn mw) H := hW
    refine W.eq (g2 := F0 m 88 ls [.int q8]) rfl ?_
    refine lv_istore (lv' := [(6, .int q8), (5, .int x7), (0, .ref (adr (g.1 + 189) k0 0)), (1, .int a1), (2, .int a2), (3, .int a3), (4, .int x2)]) hx hb dX8_writesVersion_88 hl (by decide) rfl (fun ls hl => ?_)
    refine lv_aload_n hx hb dX8_writesVersion_90 rfl (lv_at hl 2 rfl) ?_
    refine lv_bipush (v := 10) hx hb dX8_writesVersion_91 (by decide) ?_
    refine x_iald (i := (g.1 + 189)) (k := k0) (j := 0) (f := md5 k0 0) hx hb hK hW (rw_d hfl hk0) (rw_9 hk0) (rw_c hk0) (rw_t hk0) (rw_in hk0 (by unfold vp_in; decide)) dX8_writesVersion_93 ?_
    refine W.eq (g2 := F0 m 94 ls [.int (md5 k0 0 10)]) rfl ?_
    obtain ⟨x9, e_x9, hf⟩ := x_letE hf
    refine x_topi e_x9 ?_
    refine lv_istore (lv' := [(7, .int x9), (6, .int q8), (5, .int x7), (0, .ref (adr (g.1 + 189) k0 0)), (1, .int a1), (2, .int a2), (3, .int a3), (4, .int x2)]) hx hb dX8_writesVersion_94 hl (by decide) rfl (fun ls hl => ?_)
    refine lv_aload_n hx hb dX8_writesVersion_96 rfl (lv_at hl 3 rfl) ?_
    refine lv_bipush (v := 10) hx hb dX8_writesVersion_97 (by decide) ?_
    refine lv_dup2_11 hx hb dX8_writesVersion_99 rfl rfl ?_
    refine x_iald (i := (g.1 + 189)) (k := k0) (j := 0) (f := md5 k0 0) hx hb hK hW (rw_d hfl hk0) (rw_9 hk0) (rw_c hk0) (rw_t hk0) (rw_in hk0 (by unfold vp_in; decide)) dX8_writesVersion_100 ?_
    refine W.eq (g2 := F0 m 101 ls [.int (md5 k0 0 10), .int (10 : Int32), .ref (adr (g.1 + 189) k0 0)]) rfl ?_
    refine lv_iconst (v := 1) hx hb dX8_writesVersion_101 (by decide) ?_
    refine lv_iadd hx hb dX8_writesVersion_102 ?_
    obtain ⟨md10, e_md10, hf⟩ := x_letE hf
    refine x_iast (i := (g.1 + 189)) (k := k0) (j := 0) (w' := wM w md10 mn mw) hx hb hK hW (rw_d hfl hk0) hS (rw_9 hk0) (rw_w hk0) (rw_w hk0) (rw_t hk0) (rw_in hk0 (by unfold vp_in; decide)) dX8_writesVersion_103 (fp_M e_md10 (rw_g hk0)) (fun H locs hW hS => ?_)
    refine lv_aload_n hx hb dX8_writesVersion_104 rfl (lv_at hl 3 rfl) ?_
    refine lv_sipush (v := 309) hx hb dX8_writesVersion_105 (by decide) ?_
    refine lv_iload hx hb dX8_writesVersion_108 (lv_at hl 0 rfl) ?_
    refine lv_iadd hx hb dX8_writesVersion_110 ?_
    refine lv_iload_n hx hb dX8_writesVersion_111 rfl (lv_at hl 4 rfl) ?_
    obtain ⟨hg11, hf⟩ := x_guardE hf
    obtain ⟨md12, e_md12, hf⟩ := x_letE hf
    refine x_iast (i := (g.1 + 189)) (k := k0) (j := 0) (w' := wM w md12 mn mw) hx hb hK hW (rw_d hfl hk0) hS (rw_9 hk0) (rw_w hk0) (rw_w hk0) (rw_t hk0) (rw_in hk0 hg11) dX8_writesVersion_112 (fp_M e_md12 (rw_g hk0)) (fun H locs hW hS => ?_)
    refine lv_aload_n hx hb dX8_writesVersion_113 rfl (lv_at hl 3 rfl) ?_
    refine lv_sipush (v := 349) hx hb dX8_writesVersion_114 (by decide) ?_
    refine lv_iload hx hb dX8_writesVersion_117 (lv_at hl 0 rfl) ?_
    refine lv_iadd hx hb dX8_writesVersion_119 ?_
    refine lv_iload_n hx hb dX8_writesVersion_120 rfl (lv_at hl 5 rfl) ?_
    obtain ⟨hg13, hf⟩ := x_guardE hf
    obtain ⟨md14, e_md14, hf⟩ := x_letE hf
    refine x_iast (i := (g.1 + 189)) (k := k0) (j := 0) (w' := wM w md14 mn mw) hx hb hK hW (rw_d hfl hk0) hS (rw_9 hk0) (rw_w hk0) (rw_w hk0) (rw_t hk0) (rw_in hk0 hg13) dX8_writesVersion_121 (fp_M e_md14 (rw_g hk0)) (fun H locs hW hS => ?_)
    refine lv_aload_n hx hb dX8_writesVersion_122 rfl (lv_at hl 3 rfl) ?_
    refine lv_sipush (v := 389) hx hb dX8_writesVersion_123 (by decide) ?_
    refine lv_iload hx hb dX8_writesVersion_126 (lv_at hl 0 rfl) ?_
    refine lv_iadd hx hb dX8_writesVersion_128 ?_
    refine lv_iload hx hb dX8_writesVersion_129 (lv_at hl 7 rfl) ?_
    obtain ⟨hg15, hf⟩ := x_guardE hf
    obtain ⟨md16, e_md16, hf⟩ := x_letE hf
    refine x_iast (i := (g.1 + 189)) (k := k0) (j := 0) (w' := wM w md16 mn mw) hx hb hK hW (rw_d hfl hk0) hS (rw_9 hk0) (rw_w hk0) (rw_w hk0) (rw_t hk0) (rw_in hk0 hg15) dX8_writesVersion_131 (fp_M e_md16 (rw_g hk0)) (fun H locs hW hS => ?_)
    refine lv_aload_n hx hb dX8_writesVersion_132 rfl (lv_at hl 3 rfl) ?_
    refine lv_sipush (v := 429) hx hb dX8_writesVersion_133 (by decide) ?_
    refine lv_iload hx hb dX8_writesVersion_136 (lv_at hl 0 rfl) ?_
    refine lv_iadd hx hb dX8_writesVersion_138 ?_
    refine lv_iload_n hx hb dX8_writesVersion_139 rfl (lv_at hl 6 rfl) ?_
    obtain ⟨hg17, hf⟩ := x_guardE hf
    obtain ⟨md18, e_md18, hf⟩ := x_letE hf
    refine x_iast (i := (g.1 + 189)) (k := k0) (j := 0) (w' := wM w md18 mn mw) hx hb hK hW (rw_d hfl hk0) hS (rw_9 hk0) (rw_w hk0) (rw_w hk0) (rw_t hk0) (rw_in hk0 hg17) dX8_writesVersion_140 (fp_M e_md18 (rw_g hk0)) (fun H locs hW hS => ?_)
    refine lv_aload_n hx hb dX8_writesVersion_141 rfl (lv_at hl 3 rfl) ?_
    refine lv_sipush (v := 469) hx hb dX8_writesVersion_142 (by decide) ?_
    refine lv_iload hx hb dX8_writesVersion_145 (lv_at hl 0 rfl) ?_
    refine lv_iadd hx hb dX8_writesVersion_147 ?_
    refine lv_iload hx hb dX8_writesVersion_148 (lv_at hl 2 rfl) ?_
    obtain ⟨hg19, hf⟩ := x_guardE hf
    obtain ⟨md20, e_md20, hf⟩ := x_letE hf
    refine x_iast (i := (g.1 + 189)) (k := k0) (j := 0) (w' := wM w md20 mn mw) hx hb hK hW (rw_d hfl hk0) hS (rw_9 hk0) (rw_w hk0) (rw_w hk0) (rw_t hk0) (rw_in hk0 hg19) dX8_writesVersion_150 (fp_M e_md20 (rw_g hk0)) (fun H locs hW hS => ?_)
    refine lv_aload_n hx hb dX8_writesVersion_151 rfl (lv_at hl 3 rfl) ?_
    refine lv_sipush (v := 509) hx hb dX8_writesVersion_152 (by decide) ?_
    refine lv_iload hx hb dX8_writesVersion_155 (lv_at hl 0 rfl) ?_
    refine lv_iadd hx hb dX8_writesVersion_157 ?_
    refine lv_iload hx hb dX8_writesVersion_158 (lv_at hl 1 rfl) ?_
    obtain ⟨hg21, hf⟩ := x_guardE hf
    obtain ⟨md22, e_md22, hf⟩ := x_letE hf
    refine x_iast (i := (g.1 + 189)) (k := k0) (j := 0) (w' := wM w md22 mn mw) hx hb hK hW (rw_d hfl hk0) hS (rw_9 hk0) (rw_w hk0) (rw_w hk0) (rw_t hk0) (rw_in hk0 hg21) dX8_writesVersion_160 (fp_M e_md22 (rw_g hk0)) (fun H locs hW hS => ?_)
    refine lv_aload_n hx hb dX8_writesVersion_161 rfl (lv_at hl 3 rfl) ?_
    refine lv_sipush (v := 549) hx hb dX8_writesVersion_162 (by decide) ?_
    refine lv_iload hx hb dX8_writesVersion_165 (lv_at hl 0 rfl) ?_
    refine lv_iadd hx hb dX8_writesVersion_167 ?_
    refine lv_iconst (v := 0) hx hb dX8_writesVersion_168 (by decide) ?_
    obtain ⟨hg23, hf⟩ := x_guardE hf
    obtain ⟨md24, e_md24, hf⟩ := x_letE hf
    refine x_iast (i := (g.1 + 189)) (k := k0) (j := 0) (w' := wM w md24 mn mw) hx hb hK hW (rw_d hfl hk0) hS (rw_9 hk0) (rw_w hk0) (rw_w hk0) (rw_t hk0) (rw_in hk0 hg23) dX8_writesVersion_169 (fp_M e_md24 (rw_g hk0)) (fun H locs hW hS => ?_)
    refine lv_aload_n hx hb dX8_writesVersion_170 rfl (lv_at hl 3 rfl) ?_
    refine lv_sipush (v := 289) hx hb dX8_writesVersion_171 (by decide) ?_
    refine lv_iload_n hx hb dX8_writesVersion_174 rfl (lv_at hl 4 rfl) ?_
    refine lv_iadd hx hb dX8_writesVersion_175 ?_
    refine lv_iload hx hb dX8_writesVersion_176 (lv_at hl 0 rfl) ?_
    obtain ⟨hg25, hf⟩ := x_guardE hf
    obtain ⟨md26, e_md26, hf⟩ := x_letE hf
    refine x_iast (i := (g.1 + 189)) (k := k0) (j := 0) (w' := wM w md26 mn mw) hx hb hK hW (rw_d hfl hk0) hS (rw_9 hk0) (rw_w hk0) (rw_w hk0) (rw_t hk0) (rw_in hk0 hg25) dX8_writesVersion_178 (fp_M e_md26 (rw_g hk0)) (fun H locs hW hS => ?_)
    refine lv_aload_n hx hb dX8_writesVersion_179 rfl (lv_at hl 3 rfl) ?_
    refine lv_bipush (v := 49) hx hb dX8_writesVersion_180 (by decide) ?_
    refine lv_iload_n hx hb dX8_writesVersion_182 rfl (lv_at hl 5 rfl) ?_
    refine lv_iadd hx hb dX8_writesVersion_183 ?_
    refine lv_dup2_11 hx hb dX8_writesVersion_184 rfl rfl ?_
    obtain ⟨hg27, hf⟩ := x_guardE hf
    refine x_iald (i := (g.1 + 189)) (k := k0) (j := 0) (f := md26 k0 0) hx hb hK hW (rw_d hfl hk0) (rw_9 hk0) (rw_c hk0) (rw_t hk0) (rw_in hk0 hg27) dX8_writesVersion_185 ?_
    refine lv_iload hx hb dX8_writesVersion_186 (lv_at hl 1 rfl) ?_
    refine lv_isub hx hb dX8_writesVersion_188 ?_
    obtain ⟨hg28, hf⟩ := x_guardE hf
    obtain ⟨md29, e_md29, hf⟩ := x_letE hf
    refine x_iast (i := (g.1 + 189)) (k := k0) (j := 0) (w' := wM w md29 mn mw) hx hb hK hW (rw_d hfl hk0) hS (rw_9 hk0) (rw_w hk0) (rw_w hk0) (rw_t hk0) (rw_in hk0 hg28) dX8_writesVersion_189 (fp_M e_md29 (rw_g hk0)) (fun H locs hW hS => ?_)
    refine lv_aload_n hx hb dX8_writesVersion_190 rfl (lv_at hl 3 rfl) ?_
    refine lv_bipush (v := 59) hx hb dX8_writesVersion_191 (by decide) ?_
    refine lv_iload_n hx hb dX8_writesVersion_193 rfl (lv_at hl 5 rfl) ?_
    refine lv_iadd hx hb dX8_writesVersion_194 ?_
    refine lv_dup2_11 hx hb dX8_writesVersion_195 rfl rfl ?_
    obtain ⟨hg30, hf⟩ := x_guardE hf
    refine x_iald (i := (g.1 + 189)) (k := k0) (j := 0) (f := md29 k0 0) hx hb hK hW (rw_d hfl hk0) (rw_9 hk0) (rw_c hk0) (rw_t hk0) (rw_in hk0 hg30) dX8_writesVersion_196 ?_
    refine lv_iload_n hx hb dX8_writesVersion_197 rfl (lv_at hl 6 rfl) ?_
    refine lv_iadd hx hb dX8_writesVersion_198 ?_
    obtain ⟨hg31, hf⟩ := x_guardE hf
    obtain ⟨md32, e_md32, hf⟩ := x_letE hf
    refine x_iast (i := (g.1 + 189)) (k := k0) (j := 0) (w' := wM w md32 mn mw) hx hb hK hW (rw_d hfl hk0) hS (rw_9 hk0) (rw_w hk0) (rw_w hk0) (rw_t hk0) (rw_in hk0 hg31) dX8_writesVersion_199 (fp_M e_md32 (rw_g hk0)) (fun H locs hW hS => ?_)
    refine lv_aload_n hx hb dX8_writesVersion_200 rfl (lv_at hl 3 rfl) ?_
    refine lv_sipush (v := 169) hx hb dX8_writesVersion_201 (by decide) ?_
    refine lv_bipush (v := 8) hx hb dX8_writesVersion_204 (by decide) ?_
    refine lv_iload_n hx hb dX8_writesVersion_206 rfl (lv_at hl 5 rfl) ?_
    refine lv_imul hx hb dX8_writesVersion_207 ?_
    refine lv_iadd hx hb dX8_writesVersion_208 ?_
    refine lv_iload hx hb dX8_writesVersion_209 (lv_at hl 2 rfl) ?_
    refine lv_iadd hx hb dX8_writesVersion_211 ?_
    refine lv_dup2_11 hx hb dX8_writesVersion_212 rfl rfl ?_
    obtain ⟨hg33, hf⟩ := x_guardE hf
    refine x_iald (i := (g.1 + 189)) (k := k0) (j := 0) (f := md32 k0 0) hx hb hK hW (rw_d hfl hk0) (rw_9 hk0) (rw_c hk0) (rw_t hk0) (rw_in hk0 hg33) dX8_writesVersion_213 ?_
    refine lv_iload_n hx hb dX8_writesVersion_214 rfl (lv_at hl 6 rfl) ?_
    refine lv_iadd hx hb dX8_writesVersion_215 ?_
    obtain ⟨hg34, hf⟩ := x_guardE hf
    obtain ⟨md35, e_md35, hf⟩ := x_letE hf
    refine x_iast (i := (g.1 + 189)) (k := k0) (j := 0) (w' := wM w md35 mn mw) hx hb hK hW (rw_d hfl hk0) hS (rw_9 hk0) (rw_w hk0) (rw_w hk0) (rw_t hk0) (rw_in hk0 hg34) dX8_writesVersion_216 (fp_M e_md35 (rw_g hk0)) (fun H locs hW hS => ?_)
    cases hf
    exact x_vret hx hb hr hlocks hK hW hS dX8_writesVersion_217
  clear eK4
  refine lv_if_ne (tgt := 70) hx hb dX8_writesVersion_14 (by decide) (fun hc => ?_) (fun hc => ?_)
  · have hf := x_iteF hf hc
    exact KK4 (md) ls _ _ (lv_sub hl [1, 2, 3, 4, 0] rfl) hW hS hf
  · have hf := x_iteT hf hc
    refine lv_aload_n hx hb dX8_writesVersion_17 rfl (lv_at hl 1 rfl) ?_
    refine lv_bipush (v := 89) hx hb dX8_writesVersion_18 (by decide) ?_
    refine lv_bipush (v := 8) hx hb dX8_writesVersion_20 (by decide) ?_
    refine lv_iload_n hx hb dX8_writesVersion_22 rfl (lv_at hl 3 rfl) ?_
    refine lv_imul hx hb dX8_writesVersion_23 ?_
    refine lv_iadd hx hb dX8_writesVersion_24 ?_
    refine lv_aload_n hx hb dX8_writesVersion_25 rfl (lv_at hl 1 rfl) ?_
    refine lv_bipush (v := 69) hx hb dX8_writesVersion_26 (by decide) ?_
    refine lv_iload_n hx hb dX8_writesVersion_28 rfl (lv_at hl 3 rfl) ?_
    refine lv_iadd hx hb dX8_writesVersion_29 ?_
    obtain ⟨hg36, hf⟩ := x_guardE hf
    refine x_iald (i := (g.1 + 189)) (k := k0) (j := 0) (f := md k0 0) hx hb hK hW (rw_d hfl hk0) (rw_9 hk0) (rw_c hk0) (rw_t hk0) (rw_in hk0 hg36) dX8_writesVersion_30 ?_
    refine lv_iadd hx hb dX8_writesVersion_31 ?_
    refine lv_iload hx hb dX8_writesVersion_32 (lv_at hl 0 rfl) ?_
    obtain ⟨hg37, hf⟩ := x_guardE hf
    obtain ⟨md38, e_md38, hf⟩ := x_letE hf
    refine x_iast (i := (g.1 + 189)) (k := k0) (j := 0) (w' := wM w md38 mn mw) hx hb hK hW (rw_d hfl hk0) hS (rw_9 hk0) (rw_w hk0) (rw_w hk0) (rw_t hk0) (rw_in hk0 hg37) dX8_writesVersion_34 (fp_M e_md38 (rw_g hk0)) (fun H locs hW hS => ?_)
    refine lv_aload_n hx hb dX8_writesVersion_35 rfl (lv_at hl 1 rfl) ?_
    refine lv_sipush (v := 169) hx hb dX8_writesVersion_36 (by decide) ?_
    refine lv_bipush (v := 8) hx hb dX8_writesVersion_39 (by decide) ?_
    refine lv_iload_n hx hb dX8_writesVersion_41 rfl (lv_at hl 3 rfl) ?_
    refine lv_imul hx hb dX8_writesVersion_42 ?_
    refine lv_iadd hx hb dX8_writesVersion_43 ?_
    refine lv_aload_n hx hb dX8_writesVersion_44 rfl (lv_at hl 1 rfl) ?_
    refine lv_bipush (v := 69) hx hb dX8_writesVersion_45 (by decide) ?_
    refine lv_iload_n hx hb dX8_writesVersion_47 rfl (lv_at hl 3 rfl) ?_
    refine lv_iadd hx hb dX8_writesVersion_48 ?_
    obtain ⟨hg39, hf⟩ := x_guardE hf
    refine x_iald (i := (g.1 + 189)) (k := k0) (j := 0) (f := md38 k0 0) hx hb hK hW (rw_d hfl hk0) (rw_9 hk0) (rw_c hk0) (rw_t hk0) (rw_in hk0 hg39) dX8_writesVersion_49 ?_
    refine lv_iadd hx hb dX8_writesVersion_50 ?_
    refine lv_iconst (v := 0) hx hb dX8_writesVersion_51 (by decide) ?_
    obtain ⟨hg40, hf⟩ := x_guardE hf
    obtain ⟨md41, e_md41, hf⟩ := x_letE hf
    refine x_iast (i := (g.1 + 189)) (k := k0) (j := 0) (w' := wM w md41 mn mw) hx hb hK hW (rw_d hfl hk0) hS (rw_9 hk0) (rw_w hk0) (rw_w hk0) (rw_t hk0) (rw_in hk0 hg40) dX8_writesVersion_52 (fp_M e_md41 (rw_g hk0)) (fun H locs hW hS => ?_)
    refine lv_aload_n hx hb dX8_writesVersion_53 rfl (lv_at hl 1 rfl) ?_
    refine lv_bipush (v := 69) hx hb dX8_writesVersion_54 (by decide) ?_
    refine lv_iload_n hx hb dX8_writesVersion_56 rfl (lv_at hl 3 rfl) ?_
    refine lv_iadd hx hb dX8_writesVersion_57 ?_
    refine lv_dup2_11 hx hb dX8_writesVersion_58 rfl rfl ?_
    obtain ⟨hg42, hf⟩ := x_guardE hf
    refine x_iald (i := (g.1 + 189)) (k := k0) (j := 0) (f := md41 k0 0) hx hb hK hW (rw_d hfl hk0) (rw_9 hk0) (rw_c hk0) (rw_t hk0) (rw_in hk0 hg42) dX8_writesVersion_59 ?_
    refine lv_iconst (v := 1) hx hb dX8_writesVersion_60 (by decide) ?_
    refine lv_iadd hx hb dX8_writesVersion_61 ?_
    obtain ⟨hg43, hf⟩ := x_guardE hf
    obtain ⟨md44, e_md44, hf⟩ := x_letE hf
    refine x_iast (i := (g.1 + 189)) (k := k0) (j := 0) (w' := wM w md44 mn mw) hx hb hK hW (rw_d hfl hk0) hS (rw_9 hk0) (rw_w hk0) (rw_w hk0) (rw_t hk0) (rw_in hk0 hg43) dX8_writesVersion_62 (fp_M e_md44 (rw_g hk0)) (fun H locs hW hS => ?_)
    refine lv_aload_n hx hb dX8_writesVersion_63 rfl (lv_at hl 1 rfl) ?_
    refine lv_bipush (v := 79) hx hb dX8_writesVersion_64 (by decide) ?_
    refine lv_iload_n hx hb dX8_writesVersion_66 rfl (lv_at hl 3 rfl) ?_
    refine lv_iadd hx hb dX8_writesVersion_67 ?_
    refine lv_iconst (v := 1) hx hb dX8_writesVersion_68 (by decide) ?_
    obtain ⟨hg45, hf⟩ := x_guardE hf
    obtain ⟨md46, e_md46, hf⟩ := x_letE hf
    refine x_iast (i := (g.1 + 189)) (k := k0) (j := 0) (w' := wM w md46 mn mw) hx hb hK hW (rw_d hfl hk0) hS (rw_9 hk0) (rw_w hk0) (rw_w hk0) (rw_t hk0) (rw_in hk0 hg45) dX8_writesVersion_69 (fp_M e_md46 (rw_g hk0)) (fun H locs hW hS => ?_)
    exact KK4 (md46) ls _ _ (lv_sub hl [1, 2, 3, 4, 0] rfl) hW hS hf
abbrev rm_X8_leadOut : Room := { frames := 1, cells := 0, slots := 0, locals := 21 }
set_option maxRecDepth 100000 in
set_option maxHeartbeats 4000000 in
theorem ct_X8_leadOut (l : Launch) (g : GT) (hfl : 2 ≤ gf g) (w : WT) (md : SD) (mn : Nat → Int64) (mw : Int64) (k0 : Nat) (hk0 : isRow k0) (a1 : Int32) {q : Int32} (hf : f_X8_leadOut md k0 a1 = some q) : Met l yX8_leadOut wsX8_leadOut rm_X8_leadOut (cPre g (wM w md mn mw) [.ref (adr (g.1 + 189) k0 0), .int a1]) (cQi g q (wM w md mn mw)) 0 0 (gA g) := by
  refine x_met (by decide) rfl (Nat.le_of_ble_eq_true rfl) ?_
  intro p e s m below meth c hx hb hr hml hts hown hlocks hK hW hS ls hl
  have hown : s.vm.findClass RX8 = some m.cls := hown
  have hl : lv_has ls 2 [(0, .ref (adr (g.1 + 189) k0 0)), (1, .int a1)] := hl
  rw [f_X8_leadOut] at hf
  refine lv_iconst (v := 2) hx hb dX8_leadOut_0 (by decide) ?_
  refine lv_aload_n hx hb dX8_leadOut_1 rfl (lv_at hl 0 rfl) ?_
  refine lv_bipush (v := 39) hx hb dX8_leadOut_2 (by decide) ?_
  refine lv_iload_n hx hb dX8_leadOut_4 rfl (lv_at hl 1 rfl) ?_
  refine lv_iadd hx hb dX8_leadOut_5 ?_
  obtain ⟨hg1, hf⟩ := x_guardE hf
  refine x_iald (i := (g.1 + 189)) (k := k0) (j := 0) (f := md k0 0) hx hb hK hW (rw_d hfl hk0) (rw_9 hk0) (rw_c hk0) (rw_t hk0) (rw_in hk0 hg1) dX8_leadOut_6 ?_
  refine lv_aload_n hx hb dX8_leadOut_7 rfl (lv_at hl 0 rfl) ?_
  refine lv_bipush (v := 59) hx hb dX8_leadOut_8 (by decide) ?_
  refine lv_iload_n hx hb dX8_leadOut_10 rfl (lv_at hl 1 rfl) ?_
  refine lv_iadd hx hb dX8_leadOut_11 ?_
  obtain ⟨hg2, hf⟩ := x_guardE hf
  refine x_iald (i := (g.1 + 189)) (k := k0) (j := 0) (f := md k0 0) hx hb hK hW (rw_d hfl hk0) (rw_9 hk0) (rw_c hk0) (rw_t hk0) (rw_in hk0 hg2) dX8_leadOut_12 ?_
  refine lv_isub hx hb dX8_leadOut_13 ?_
  refine va_mmin hx hb (hml.trans hl.1.symm) hown (hts (.methodLink RX8 69 Lib.Math.min.name) (by decide +kernel)) (hts (.static Lib.Math.min.name) (by decide +kernel)) (hts (.initialized "java/lang/Math") (by decide +kernel)) (hts (.code Lib.Math.min.name Lib.Math.min.code 2 (some .int)) (by decide +kernel)) (Nat.le_of_ble_eq_true rfl) (Nat.le_of_ble_eq_true rfl) (Nat.le_of_ble_eq_true rfl) (Nat.le_of_ble_eq_true rfl) dX8_leadOut_14 ?_
  cases hf
  exact x_iret hx hb hr hlocks hK hW hS rfl dX8_leadOut_17
abbrev rm_X8_closes : Room := { frames := 2, cells := 0, slots := 0, locals := 42 }
set_option maxRecDepth 100000 in
set_option maxHeartbeats 4000000 in
theorem ct_X8_closes (l : Launch) (g : GT) (hfl : 2 ≤ gf g) (w : WT) (md : SD) (mn : Nat → Int64) (mw : Int64) (k0 : Nat) (hk0 : isRow k0) (a1 : Int32) {q : SD} (hf : f_X8_closes md k0 a1 = some q) : Met l yX8_closes wsX8_closes rm_X8_closes (cPre g (wM w md mn mw) [.ref (adr (g.1 + 189) k0 0), .int a1]) (cQv g (wM w q mn mw)) 0 0 (gA g) := by
  refine x_met (by decide) rfl (Nat.le_of_ble_eq_true rfl) ?_
  intro p e s m below meth c hx hb hr hml hts hown hlocks hK hW hS ls hl
  have hown : s.vm.findClass RX8 = some m.cls := hown
  have hl : lv_has ls 3 [(0, .ref (adr (g.1 + 189) k0 0)), (1, .int a1)] := hl
  rw [f_X8_closes] at hf
  refine lv_aload_n hx hb dX8_closes_0 rfl (lv_at hl 0 rfl) ?_
  refine lv_iload_n hx hb dX8_closes_1 rfl (lv_at hl 1 rfl) ?_
  obtain ⟨q1, h_q1, hf⟩ := x_bindE hf
  refine x_ci0 (x_rS ⟨hx, hb, hml, hown, hts⟩ (ct_X8_leadOut l g hfl w md mn mw k0 hk0 (a1) h_q1) (va_cwS 2 hts gX8_closes_X8_leadOut rfl rfl rfl (by decide +kernel) ⟨Nat.le_of_ble_eq_true rfl, Nat.le_of_ble_eq_true rfl⟩) hK hW hS rfl hl.1 (rest := []) rfl (Nat.le_of_ble_eq_true rfl) dX8_closes_2 ⟨Nat.le_of_ble_eq_true rfl, Nat.le_of_ble_eq_true rfl⟩) hS (fun H locs hW hS => ?_)
  have hW : World g (wM w md mn mw) H := hW
  refine W.eq (g2 := F0 m 5 ls [.int q1]) rfl ?_
  refine lv_istore_n (lv' := [(2, .int q1), (0, .ref (adr (g.1 + 189) k0 0)), (1, .int a1)]) hx hb dX8_closes_5 rfl hl (by decide) rfl (fun ls hl => ?_)
  refine lv_aload_n hx hb dX8_closes_6 rfl (lv_at hl 1 rfl) ?_
  refine lv_bipush (v := 59) hx hb dX8_closes_7 (by decide) ?_
  refine lv_iload_n hx hb dX8_closes_9 rfl (lv_at hl 2 rfl) ?_
  refine lv_iadd hx hb dX8_closes_10 ?_
  refine lv_dup2_11 hx hb dX8_closes_11 rfl rfl ?_
  obtain ⟨hg2, hf⟩ := x_guardE hf
  refine x_iald (i := (g.1 + 189)) (k := k0) (j := 0) (f := md k0 0) hx hb hK hW (rw_d hfl hk0) (rw_9 hk0) (rw_c hk0) (rw_t hk0) (rw_in hk0 hg2) dX8_closes_12 ?_
  refine lv_iload_n hx hb dX8_closes_13 rfl (lv_at hl 0 rfl) ?_
  refine lv_iadd hx hb dX8_closes_14 ?_
  obtain ⟨hg3, hf⟩ := x_guardE hf
  obtain ⟨md4, e_md4, hf⟩ := x_letE hf
  refine x_iast (i := (g.1 + 189)) (k := k0) (j := 0) (w' := wM w md4 mn mw) hx hb hK hW (rw_d hfl hk0) hS (rw_9 hk0) (rw_w hk0) (rw_w hk0) (rw_t hk0) (rw_in hk0 hg3) dX8_closes_15 (fp_M e_md4 (rw_g hk0)) (fun H locs hW hS => ?_)
  refine lv_aload_n hx hb dX8_closes_16 rfl (lv_at hl 1 rfl) ?_
  refine lv_sipush (v := 169) hx hb dX8_closes_17 (by decide) ?_
  refine lv_bipush (v := 8) hx hb dX8_closes_20 (by decide) ?_
  refine lv_iload_n hx hb dX8_closes_22 rfl (lv_at hl 2 rfl) ?_
  refine lv_imul hx hb dX8_closes_23 ?_
  refine lv_iadd hx hb dX8_closes_24 ?_
  refine lv_aload_n hx hb dX8_closes_25 rfl (lv_at hl 1 rfl) ?_
  refine lv_bipush (v := 69) hx hb dX8_closes_26 (by decide) ?_
  refine lv_iload_n hx hb dX8_closes_28 rfl (lv_at hl 2 rfl) ?_
  refine lv_iadd hx hb dX8_closes_29 ?_
  obtain ⟨hg5, hf⟩ := x_guardE hf
  refine x_iald (i := (g.1 + 189)) (k := k0) (j := 0) (f := md4 k0 0) hx hb hK hW (rw_d hfl hk0) (rw_9 hk0) (rw_c hk0) (rw_t hk0) (rw_in hk0 hg5) dX8_closes_30 ?_
  refine lv_iadd hx hb dX8_closes_31 ?_
  refine lv_iconst (v := 1) hx hb dX8_closes_32 (by decide) ?_
  refine lv_isub hx hb dX8_closes_33 ?_
  refine lv_dup2_11 hx hb dX8_closes_34 rfl rfl ?_
  obtain ⟨hg6, hf⟩ := x_guardE hf
  refine x_iald (i := (g.1 + 189)) (k := k0) (j := 0) (f := md4 k0 0) hx hb hK hW (rw_d hfl hk0) (rw_9 hk0) (rw_c hk0) (rw_t hk0) (rw_in hk0 hg6) dX8_closes_35 ?_
  refine lv_iload_n hx hb dX8_closes_36 rfl (lv_at hl 0 rfl) ?_
  refine lv_iadd hx hb dX8_closes_37 ?_
  obtain ⟨hg7, hf⟩ := x_guardE hf
  obtain ⟨md8, e_md8, hf⟩ := x_letE hf
  refine x_iast (i := (g.1 + 189)) (k := k0) (j := 0) (w' := wM w md8 mn mw) hx hb hK hW (rw_d hfl hk0) hS (rw_9 hk0) (rw_w hk0) (rw_w hk0) (rw_t hk0) (rw_in hk0 hg7) dX8_closes_38 (fp_M e_md8 (rw_g hk0)) (fun H locs hW hS => ?_)
  refine lv_aload_n hx hb dX8_closes_39 rfl (lv_at hl 1 rfl) ?_
  refine lv_bipush (v := 79) hx hb dX8_closes_40 (by decide) ?_
  refine lv_iload_n hx hb dX8_closes_42 rfl (lv_at hl 2 rfl) ?_
  refine lv_iadd hx hb dX8_closes_43 ?_
  refine lv_iconst (v := 0) hx hb dX8_closes_44 (by decide) ?_
  obtain ⟨hg9, hf⟩ := x_guardE hf
  obtain ⟨md10, e_md10, hf⟩ := x_letE hf
  refine x_iast (i := (g.1 + 189)) (k := k0) (j := 0) (w' := wM w md10 mn mw) hx hb hK hW (rw_d hfl hk0) hS (rw_9 hk0) (rw_w hk0) (rw_w hk0) (rw_t hk0) (rw_in hk0 hg9) dX8_closes_45 (fp_M e_md10 (rw_g hk0)) (fun H locs hW hS => ?_)
  cases hf
  exact x_vret hx hb hr hlocks hK hW hS dX8_closes_46
abbrev rm_X8_versionAt : Room := { frames := 1, cells := 0, slots := 0, locals := 25 }
set_option maxRecDepth 100000 in
set_option maxHeartbeats 4000000 in
theorem ct_X8_versionAt (l : Launch) (g : GT) (hfl : 2 ≤ gf g) (w : WT) (md : SD) (mn : Nat → Int64) (mw : Int64) (k0 : Nat) (hk0 : isRow k0) (a1 : Int32) (a2 : Int32) {q : Int32} (hf : f_X8_versionAt md k0 a1 a2 = some q) : Met l yX8_versionAt wsX8_versionAt rm_X8_versionAt (cPre g (wM w md mn mw) [.ref (adr (g.1 + 189) k0 0), .int a1, .int a2]) (cQi g q (wM w md mn mw)) 0 0 (gA g) := by
  refine x_met (by decide) rfl (Nat.le_of_ble_eq_true rfl) ?_
  intro p e s m below meth c hx hb hr hml hts hown hlocks hK hW hS ls hl
  have hown : s.vm.findClass RX8 = some m.cls := hown
  have hl : lv_has ls 4 [(0, .ref (adr (g.1 + 189) k0 0)), (1, .int a1), (2, .int a2)] := hl
  rw [f_X8_versionAt] at hf
  refine lv_iconst (v := 0) hx hb dX8_versionAt_0 (by decide) ?_
  refine lv_istore_n (lv' := [(3, .int (0 : Int32)), (0, .ref (adr (g.1 + 189) k0 0)), (1, .int a1), (2, .int a2)]) hx hb dX8_versionAt_1 rfl hl (by decide) rfl (fun ls hl => ?_)
  have L2 : ∀ (n : Nat) (v3_2 : Int32) (ls : Array Slot) (H : Heap) (locs : List Loc), lv_has ls 4 [(0, .ref (adr (g.1 + 189) k0 0)), (1, .int a1), (2, .int a2), (3, .int v3_2)] → World g (wM w md mn mw) H → va_S (gA g) s.heap H locs → f_X8_versionAt_L2 md k0 a1 a2 n v3_2 = some q → W p l e rm_X8_versionAt s m [.ref (adr (g.1 + 189) k0 0), .int a1, .int a2].toArray below meth c H locs 0 0 (MQ below (cQi g q (wM w md mn mw)) [.ref (adr (g.1 + 189) k0 0), .int a1, .int a2].toArray s 0 0 (gA g)) (F0 m 2 ls []) := by
    clear hW hS hl
    intro n
    induction n with
    | zero => intro v3_2 ls H locs hl hW hS hf; cases hf
    | succ n_2 ih =>
      intro v3_2 ls H locs hl hW hS hf
      rw [f_X8_versionAt_L2] at hf
      refine lv_iload_n hx hb dX8_versionAt_2 rfl (lv_at hl 3 rfl) ?_
      refine lv_aload_n hx hb dX8_versionAt_3 rfl (lv_at hl 0 rfl) ?_
      refine lv_bipush (v := 10) hx hb dX8_versionAt_4 (by decide) ?_
      refine x_iald (i := (g.1 + 189)) (k := k0) (j := 0) (f := md k0 0) hx hb hK hW (rw_d hfl hk0) (rw_9 hk0) (rw_c hk0) (rw_t hk0) (rw_in hk0 (by unfold vp_in; decide)) dX8_versionAt_6 ?_
      refine W.eq (g2 := F0 m 7 ls [.int (md k0 0 10), .int v3_2]) rfl ?_
      refine lv_icmp_ge (tgt := 63) hx hb dX8_versionAt_7 (by decide) (fun hc => ?_) (fun hc => ?_)
      · have hf := x_iteT hf hc
        refine lv_iconst (v := -1) hx hb dX8_versionAt_63 (by decide) ?_
        cases hf
        exact x_iret hx hb hr hlocks hK hW hS rfl dX8_versionAt_64
      · have hf := x_iteF hf hc
        refine lv_aload_n hx hb dX8_versionAt_10 rfl (lv_at hl 0 rfl) ?_
        refine lv_sipush (v := 349) hx hb dX8_versionAt_11 (by decide) ?_
        refine lv_iload_n hx hb dX8_versionAt_14 rfl (lv_at hl 3 rfl) ?_
        refine lv_iadd hx hb dX8_versionAt_15 ?_
        obtain ⟨hg1, hf⟩ := x_guardE hf
        refine x_iald (i := (g.1 + 189)) (k := k0) (j := 0) (f := md k0 0) hx hb hK hW (rw_d hfl hk0) (rw_9 hk0) (rw_c hk0) (rw_t hk0) (rw_in hk0 hg1) dX8_versionAt_16 ?_
        refine lv_iload_n hx hb dX8_versionAt_17 rfl (lv_at hl 1 rfl) ?_
        refine lv_icmp_ne (tgt := 57) hx hb dX8_versionAt_18 (by decide) (fun hc => ?_) (fun hc => ?_)
        · have hf := x_iteF hf hc
          obtain ⟨x2, e_x2, hf⟩ := x_letE hf
          refine lv_iinc (v := x2) (lv' := [(3, .int x2), (0, .ref (adr (g.1 + 189) k0 0)), (1, .int a1), (2, .int a2)]) hx hb dX8_versionAt_57 hl (k := 3) rfl (by rw [e_x2]; rfl) (by decide) rfl (fun ls hl => ?_)
          refine lv_goto (tgt := 2) hx hb dX8_versionAt_60 (by decide) ?_
          exact ih (x2) ls _ _ (lv_sub hl [1, 2, 3, 0] rfl) hW hS hf
        · have hf := x_iteT hf hc
          refine lv_iload_n hx hb dX8_versionAt_21 rfl (lv_at hl 2 rfl) ?_
          refine lv_i2l hx hb dX8_versionAt_22 rfl ?_
          refine lv_aload_n hx hb dX8_versionAt_23 rfl (lv_at hl 0 rfl) ?_
          refine lv_sipush (v := 389) hx hb dX8_versionAt_24 (by decide) ?_
          refine lv_iload_n hx hb dX8_versionAt_27 rfl (lv_at hl 3 rfl) ?_
          refine lv_iadd hx hb dX8_versionAt_28 ?_
          obtain ⟨hg3, hf⟩ := x_guardE hf
          refine x_iald (i := (g.1 + 189)) (k := k0) (j := 0) (f := md k0 0) hx hb hK hW (rw_d hfl hk0) (rw_9 hk0) (rw_c hk0) (rw_t hk0) (rw_in hk0 hg3) dX8_versionAt_29 ?_
          refine lv_i2l hx hb dX8_versionAt_30 rfl ?_
          refine lv_aload_n hx hb dX8_versionAt_31 rfl (lv_at hl 0 rfl) ?_
          refine lv_sipush (v := 389) hx hb dX8_versionAt_32 (by decide) ?_
          refine lv_iload_n hx hb dX8_versionAt_35 rfl (lv_at hl 3 rfl) ?_
          refine lv_iadd hx hb dX8_versionAt_36 ?_
          obtain ⟨hg4, hf⟩ := x_guardE hf
          refine x_iald (i := (g.1 + 189)) (k := k0) (j := 0) (f := md k0 0) hx hb hK hW (rw_d hfl hk0) (rw_9 hk0) (rw_c hk0) (rw_t hk0) (rw_in hk0 hg4) dX8_versionAt_37 ?_
          refine lv_aload_n hx hb dX8_versionAt_38 rfl (lv_at hl 0 rfl) ?_
          refine lv_sipush (v := 429) hx hb dX8_versionAt_39 (by decide) ?_
          refine lv_iload_n hx hb dX8_versionAt_42 rfl (lv_at hl 3 rfl) ?_
          refine lv_iadd hx hb dX8_versionAt_43 ?_
          obtain ⟨hg5, hf⟩ := x_guardE hf
          refine x_iald (i := (g.1 + 189)) (k := k0) (j := 0) (f := md k0 0) hx hb hK hW (rw_d hfl hk0) (rw_9 hk0) (rw_c hk0) (rw_t hk0) (rw_in hk0 hg5) dX8_versionAt_44 ?_
          refine lv_iadd hx hb dX8_versionAt_45 ?_
          refine lv_iconst (v := 1) hx hb dX8_versionAt_46 (by decide) ?_
          refine lv_isub hx hb dX8_versionAt_47 ?_
          refine lv_i2l hx hb dX8_versionAt_48 rfl ?_
          obtain ⟨q6, h_q6, hf⟩ := x_bindE hf
          refine x_ci0 (x_rS ⟨hx, hb, hml, hown, hts⟩ (ct_X8_isIn l g (wM w md mn mw) ((a2).toInt64) (((md k0 0 (((389 : Int32) + v3_2)).toNatClampNeg)).toInt64) (((((md k0 0 (((389 : Int32) + v3_2)).toNatClampNeg) + (md k0 0 (((429 : Int32) + v3_2)).toNatClampNeg)) - (1 : Int32))).toInt64) h_q6) (va_cwS 3 hts gX8_versionAt_X8_isIn rfl rfl rfl (by decide +kernel) ⟨Nat.le_of_ble_eq_true rfl, Nat.le_of_ble_eq_true rfl⟩) hK hW hS rfl hl.1 (rest := []) rfl (Nat.le_of_ble_eq_true rfl) dX8_versionAt_49 ⟨Nat.le_of_ble_eq_true rfl, Nat.le_of_ble_eq_true rfl⟩) hS (fun H locs hW hS => ?_)
          have hW : World g (wM w md mn mw) H := hW
          refine W.eq (g2 := F0 m 52 ls [.int q6]) rfl ?_
          refine lv_if_eq (tgt := 57) hx hb dX8_versionAt_52 (by decide) (fun hc => ?_) (fun hc => ?_)
          · have hf := x_iteT hf hc
            obtain ⟨x7, e_x7, hf⟩ := x_letE hf
            refine lv_iinc (v := x7) (lv' := [(3, .int x7), (0, .ref (adr (g.1 + 189) k0 0)), (1, .int a1), (2, .int a2)]) hx hb dX8_versionAt_57 hl (k := 3) rfl (by rw [e_x7]; rfl) (by decide) rfl (fun ls hl => ?_)
            refine lv_goto (tgt := 2) hx hb dX8_versionAt_60 (by decide) ?_
            exact ih (x7) ls _ _ (lv_sub hl [1, 2, 3, 0] rfl) hW hS hf
          · have hf := x_iteF hf hc
            refine lv_iload_n hx hb dX8_versionAt_55 rfl (lv_at hl 3 rfl) ?_
            cases hf
            exact x_iret hx hb hr hlocks hK hW hS rfl dX8_versionAt_56
  exact L2 fuel ((0 : Int32)) ls _ _ (lv_sub hl [1, 2, 3, 0] rfl) hW hS hf
abbrev rm_X8_marks : Room := { frames := 2, cells := 0, slots := 0, locals := 48 }
set_option maxRecDepth 100000 in
set_option maxHeartbeats 4000000 in
theorem ct_X8_marks (l : Launch) (g : GT) (hfl : 2 ≤ gf g) (w : WT) (md : SD) (mn : Nat → Int64) (mw : Int64) (k0 : Nat) (hk0 : isRow k0) (a1 : Int32) (a2 : Int32) {q : SD} (hf : f_X8_marks md k0 a1 a2 = some q) : Met l yX8_marks wsX8_marks rm_X8_marks (cPre g (wM w md mn mw) [.ref (adr (g.1 + 189) k0 0), .int a1, .int a2]) (cQv g (wM w q mn mw)) 0 0 (gA g) := by
  refine x_met (by decide) rfl (Nat.le_of_ble_eq_true rfl) ?_
  intro p e s m below meth c hx hb hr hml hts hown hlocks hK hW hS ls hl
  have hown : s.vm.findClass RX8 = some m.cls := hown
  have hl : lv_has ls 4 [(0, .ref (adr (g.1 + 189) k0 0)), (1, .int a1), (2, .int a2)] := hl
  rw [f_X8_marks] at hf
  refine lv_aload_n hx hb dX8_marks_0 rfl (lv_at hl 0 rfl) ?_
  refine lv_sipush (v := 249) hx hb dX8_marks_1 (by decide) ?_
  refine lv_aload_n hx hb dX8_marks_4 rfl (lv_at hl 0 rfl) ?_
  refine lv_bipush (v := 8) hx hb dX8_marks_5 (by decide) ?_
  refine x_iald (i := (g.1 + 189)) (k := k0) (j := 0) (f := md k0 0) hx hb hK hW (rw_d hfl hk0) (rw_9 hk0) (rw_c hk0) (rw_t hk0) (rw_in hk0 (by unfold vp_in; decide)) dX8_marks_7 ?_
  refine W.eq (g2 := F0 m 8 ls [.int (md k0 0 8), .int (249 : Int32), .ref (adr (g.1 + 189) k0 0)]) rfl ?_
  refine lv_iadd hx hb dX8_marks_8 ?_
  refine lv_iload_n hx hb dX8_marks_9 rfl (lv_at hl 1 rfl) ?_
  obtain ⟨hg1, hf⟩ := x_guardE hf
  obtain ⟨md2, e_md2, hf⟩ := x_letE hf
  refine x_iast (i := (g.1 + 189)) (k := k0) (j := 0) (w' := wM w md2 mn mw) hx hb hK hW (rw_d hfl hk0) hS (rw_9 hk0) (rw_w hk0) (rw_w hk0) (rw_t hk0) (rw_in hk0 hg1) dX8_marks_10 (fp_M e_md2 (rw_g hk0)) (fun H locs hW hS => ?_)
  refine lv_aload_n hx hb dX8_marks_11 rfl (lv_at hl 0 rfl) ?_
  refine lv_sipush (v := 269) hx hb dX8_marks_12 (by decide) ?_
  refine lv_aload_n hx hb dX8_marks_15 rfl (lv_at hl 0 rfl) ?_
  refine lv_bipush (v := 8) hx hb dX8_marks_16 (by decide) ?_
  refine x_iald (i := (g.1 + 189)) (k := k0) (j := 0) (f := md2 k0 0) hx hb hK hW (rw_d hfl hk0) (rw_9 hk0) (rw_c hk0) (rw_t hk0) (rw_in hk0 (by unfold vp_in; decide)) dX8_marks_18 ?_
  refine W.eq (g2 := F0 m 19 ls [.int (md2 k0 0 8), .int (269 : Int32), .ref (adr (g.1 + 189) k0 0)]) rfl ?_
  refine lv_iadd hx hb dX8_marks_19 ?_
  refine lv_iload_n hx hb dX8_marks_20 rfl (lv_at hl 2 rfl) ?_
  obtain ⟨hg3, hf⟩ := x_guardE hf
  obtain ⟨md4, e_md4, hf⟩ := x_letE hf
  refine x_iast (i := (g.1 + 189)) (k := k0) (j := 0) (w' := wM w md4 mn mw) hx hb hK hW (rw_d hfl hk0) hS (rw_9 hk0) (rw_w hk0) (rw_w hk0) (rw_t hk0) (rw_in hk0 hg3) dX8_marks_21 (fp_M e_md4 (rw_g hk0)) (fun H locs hW hS => ?_)
  refine lv_aload_n hx hb dX8_marks_22 rfl (lv_at hl 0 rfl) ?_
  refine lv_bipush (v := 8) hx hb dX8_marks_23 (by decide) ?_
  refine lv_dup2_11 hx hb dX8_marks_25 rfl rfl ?_
  refine x_iald (i := (g.1 + 189)) (k := k0) (j := 0) (f := md4 k0 0) hx hb hK hW (rw_d hfl hk0) (rw_9 hk0) (rw_c hk0) (rw_t hk0) (rw_in hk0 (by unfold vp_in; decide)) dX8_marks_26 ?_
  refine W.eq (g2 := F0 m 27 ls [.int (md4 k0 0 8), .int (8 : Int32), .ref (adr (g.1 + 189) k0 0)]) rfl ?_
  refine lv_iconst (v := 1) hx hb dX8_marks_27 (by decide) ?_
  refine lv_iadd hx hb dX8_marks_28 ?_
  obtain ⟨md5, e_md5, hf⟩ := x_letE hf
  refine x_iast (i := (g.1 + 189)) (k := k0) (j := 0) (w' := wM w md5 mn mw) hx hb hK hW (rw_d hfl hk0) hS (rw_9 hk0) (rw_w hk0) (rw_w hk0) (rw_t hk0) (rw_in hk0 (by unfold vp_in; decide)) dX8_marks_29 (fp_M e_md5 (rw_g hk0)) (fun H locs hW hS => ?_)
  refine lv_aload_n hx hb dX8_marks_30 rfl (lv_at hl 0 rfl) ?_
  refine lv_iload_n hx hb dX8_marks_31 rfl (lv_at hl 1 rfl) ?_
  refine lv_iload_n hx hb dX8_marks_32 rfl (lv_at hl 2 rfl) ?_
  obtain ⟨q6, h_q6, hf⟩ := x_bindE hf
  refine x_ci0 (x_rS ⟨hx, hb, hml, hown, hts⟩ (ct_X8_versionAt l g hfl w md5 mn mw k0 hk0 (a1) (a2) h_q6) (va_cwS 3 hts gX8_marks_X8_versionAt rfl rfl rfl (by decide +kernel) ⟨Nat.le_of_ble_eq_true rfl, Nat.le_of_ble_eq_true rfl⟩) hK hW hS rfl hl.1 (rest := []) rfl (Nat.le_of_ble_eq_true rfl) dX8_marks_33 ⟨Nat.le_of_ble_eq_true rfl, Nat.le_of_ble_eq_true rfl⟩) hS (fun H locs hW hS => ?_)
  have hW : World g (wM w md5 mn mw) H := hW
  refine W.eq (g2 := F0 m 36 ls [.int q6]) rfl ?_
  refine lv_istore_n (lv' := [(3, .int q6), (0, .ref (adr (g.1 + 189) k0 0)), (1, .int a1), (2, .int a2)]) hx hb dX8_marks_36 rfl hl (by decide) rfl (fun ls hl => ?_)
  refine lv_iload_n hx hb dX8_marks_37 rfl (lv_at hl 0 rfl) ?_
  refine lv_iconst (v := -1) hx hb dX8_marks_38 (by decide) ?_
  refine lv_icmp_eq (tgt := 50) hx hb dX8_marks_39 (by decide) (fun hc => ?_) (fun hc => ?_)
  · have hf := x_iteT hf hc
    cases hf
    exact x_vret hx hb hr hlocks hK hW hS dX8_marks_50
  · have hf := x_iteF hf hc
    refine lv_aload_n hx hb dX8_marks_42 rfl (lv_at hl 1 rfl) ?_
    refine lv_sipush (v := 549) hx hb dX8_marks_43 (by decide) ?_
    refine lv_iload_n hx hb dX8_marks_46 rfl (lv_at hl 0 rfl) ?_
    refine lv_iadd hx hb dX8_marks_47 ?_
    refine lv_iconst (v := 1) hx hb dX8_marks_48 (by decide) ?_
    obtain ⟨hg7, hf⟩ := x_guardE hf
    obtain ⟨md8, e_md8, hf⟩ := x_letE hf
    refine x_iast (i := (g.1 + 189)) (k := k0) (j := 0) (w' := wM w md8 mn mw) hx hb hK hW (rw_d hfl hk0) hS (rw_9 hk0) (rw_w hk0) (rw_w hk0) (rw_t hk0) (rw_in hk0 hg7) dX8_marks_49 (fp_M e_md8 (rw_g hk0)) (fun H locs hW hS => ?_)
    cases hf
    exact x_vret hx hb hr hlocks hK hW hS dX8_marks_50
abbrev rm_X8_isCurrent : Room := { frames := 0, cells := 0, slots := 0, locals := 0 }
set_option maxRecDepth 100000 in
set_option maxHeartbeats 4000000 in
theorem ct_X8_isCurrent (l : Launch) (g : GT) (hfl : 2 ≤ gf g) (w : WT) (md : SD) (mn : Nat → Int64) (mw : Int64) (a1 : Int32) {q : Int32} (hf : f_X8_isCurrent md a1 = some q) : Met l yX8_isCurrent wsX8_isCurrent rm_X8_isCurrent (cPre g (wM w md mn mw) [.ref (adr (g.1 + 189) 8 0), .int a1]) (cQi g q (wM w md mn mw)) 0 0 (gA g) := by
  have i_8 : ∀ w ∈ u_ws RX8 TX8 27, w ∈ wsX8_isCurrent := by decide +kernel
  refine x_met (by decide) rfl (Nat.le_of_ble_eq_true rfl) ?_
  intro p e s m below meth c hx hb hr hml hts hown hlocks hK hW hS ls hl
  have hown : s.vm.findClass RX8 = some m.cls := hown
  have hl : lv_has ls 2 [(0, .ref (adr (g.1 + 189) 8 0)), (1, .int a1)] := hl
  rw [f_X8_isCurrent] at hf
  refine lv_aload_n hx hb dX8_isCurrent_0 rfl (lv_at hl 0 rfl) ?_
  refine x_get (i := (g.1 + 189)) (k := 8) (j := 0) (t := 1) hx hb hts i_8 hown hK hW ⟨⟨hfl, rfl⟩, by decide⟩ rfl ⟨by decide, by decide, rfl⟩ (hts (.fieldLink RX8 7 "OpticalJukeboxModel" "now" "[I") (by decide +kernel)) (v := .ref (adr (g.1 + 189) 30 0)) rfl dX8_isCurrent_1 ?_
  refine lv_sipush (v := 289) hx hb dX8_isCurrent_4 (by decide) ?_
  refine lv_aload_n hx hb dX8_isCurrent_7 rfl (lv_at hl 0 rfl) ?_
  refine x_get (i := (g.1 + 189)) (k := 8) (j := 0) (t := 1) hx hb hts i_8 hown hK hW ⟨⟨hfl, rfl⟩, by decide⟩ rfl ⟨by decide, by decide, rfl⟩ (hts (.fieldLink RX8 7 "OpticalJukeboxModel" "now" "[I") (by decide +kernel)) (v := .ref (adr (g.1 + 189) 30 0)) rfl dX8_isCurrent_8 ?_
  refine lv_sipush (v := 309) hx hb dX8_isCurrent_11 (by decide) ?_
  refine lv_iload_n hx hb dX8_isCurrent_14 rfl (lv_at hl 1 rfl) ?_
  refine lv_iadd hx hb dX8_isCurrent_15 ?_
  obtain ⟨hg1, hf⟩ := x_guardE hf
  refine x_iald (i := (g.1 + 189)) (k := 30) (j := 0) (f := md 30 0) hx hb hK hW ⟨⟨hfl, rfl⟩, by decide⟩ (by decide) (rfl) rfl hg1 dX8_isCurrent_16 ?_
  refine lv_iadd hx hb dX8_isCurrent_17 ?_
  obtain ⟨hg2, hf⟩ := x_guardE hf
  refine x_iald (i := (g.1 + 189)) (k := 30) (j := 0) (f := md 30 0) hx hb hK hW ⟨⟨hfl, rfl⟩, by decide⟩ (by decide) (rfl) rfl hg2 dX8_isCurrent_18 ?_
  refine lv_iload_n hx hb dX8_isCurrent_19 rfl (lv_at hl 1 rfl) ?_
  refine lv_icmp_ne (tgt := 27) hx hb dX8_isCurrent_20 (by decide) (fun hc => ?_) (fun hc => ?_)
  · have hf := x_iteF hf hc
    refine lv_iconst (v := 0) hx hb dX8_isCurrent_27 (by decide) ?_
    cases hf
    exact x_zret hx hb hr hlocks hK hW hS (Or.inl rfl) rfl dX8_isCurrent_28
  · have hf := x_iteT hf hc
    refine lv_iconst (v := 1) hx hb dX8_isCurrent_23 (by decide) ?_
    refine lv_goto (tgt := 28) hx hb dX8_isCurrent_24 (by decide) ?_
    cases hf
    exact x_zret hx hb hr hlocks hK hW hS (Or.inr rfl) rfl dX8_isCurrent_28
abbrev rm_X8_isClosed : Room := { frames := 0, cells := 0, slots := 0, locals := 0 }
set_option maxRecDepth 100000 in
set_option maxHeartbeats 4000000 in
theorem ct_X8_isClosed (l : Launch) (g : GT) (hfl : 2 ≤ gf g) (w : WT) (md : SD) (mn : Nat → Int64) (mw : Int64) (a1 : Int32) {q : Int32} (hf : f_X8_isClosed md a1 = some q) : Met l yX8_isClosed wsX8_isClosed rm_X8_isClosed (cPre g (wM w md mn mw) [.ref (adr (g.1 + 189) 8 0), .int a1]) (cQi g q (wM w md mn mw)) 0 0 (gA g) := by
  have i_8 : ∀ w ∈ u_ws RX8 TX8 27, w ∈ wsX8_isClosed := by decide +kernel
  refine x_met (by decide) rfl (Nat.le_of_ble_eq_true rfl) ?_
  intro p e s m below meth c hx hb hr hml hts hown hlocks hK hW hS ls hl
  have hown : s.vm.findClass RX8 = some m.cls := hown
  have hl : lv_has ls 3 [(0, .ref (adr (g.1 + 189) 8 0)), (1, .int a1)] := hl
  rw [f_X8_isClosed] at hf
  refine lv_aload_n hx hb dX8_isClosed_0 rfl (lv_at hl 0 rfl) ?_
  refine x_get (i := (g.1 + 189)) (k := 8) (j := 0) (t := 1) hx hb hts i_8 hown hK hW ⟨⟨hfl, rfl⟩, by decide⟩ rfl ⟨by decide, by decide, rfl⟩ (hts (.fieldLink RX8 7 "OpticalJukeboxModel" "now" "[I") (by decide +kernel)) (v := .ref (adr (g.1 + 189) 30 0)) rfl dX8_isClosed_1 ?_
  refine lv_sipush (v := 349) hx hb dX8_isClosed_4 (by decide) ?_
  refine lv_iload_n hx hb dX8_isClosed_7 rfl (lv_at hl 1 rfl) ?_
  refine lv_iadd hx hb dX8_isClosed_8 ?_
  obtain ⟨hg1, hf⟩ := x_guardE hf
  refine x_iald (i := (g.1 + 189)) (k := 30) (j := 0) (f := md 30 0) hx hb hK hW ⟨⟨hfl, rfl⟩, by decide⟩ (by decide) (rfl) rfl hg1 dX8_isClosed_9 ?_
  obtain ⟨x2, e_x2, hf⟩ := x_letE hf
  refine x_topi e_x2 ?_
  refine lv_istore_n (lv' := [(2, .int x2), (0, .ref (adr (g.1 + 189) 8 0)), (1, .int a1)]) hx hb dX8_isClosed_10 rfl hl (by decide) rfl (fun ls hl => ?_)
  refine lv_aload_n hx hb dX8_isClosed_11 rfl (lv_at hl 1 rfl) ?_
  refine x_get (i := (g.1 + 189)) (k := 8) (j := 0) (t := 1) hx hb hts i_8 hown hK hW ⟨⟨hfl, rfl⟩, by decide⟩ rfl ⟨by decide, by decide, rfl⟩ (hts (.fieldLink RX8 7 "OpticalJukeboxModel" "now" "[I") (by decide +kernel)) (v := .ref (adr (g.1 + 189) 30 0)) rfl dX8_isClosed_12 ?_
  refine lv_bipush (v := 79) hx hb dX8_isClosed_15 (by decide) ?_
  refine lv_iload_n hx hb dX8_isClosed_17 rfl (lv_at hl 0 rfl) ?_
  refine lv_iadd hx hb dX8_isClosed_18 ?_
  obtain ⟨hg3, hf⟩ := x_guardE hf
  refine x_iald (i := (g.1 + 189)) (k := 30) (j := 0) (f := md 30 0) hx hb hK hW ⟨⟨hfl, rfl⟩, by decide⟩ (by decide) (rfl) rfl hg3 dX8_isClosed_19 ?_
  refine lv_if_eq (tgt := 47) hx hb dX8_isClosed_20 (by decide) (fun hc => ?_) (fun hc => ?_)
  · have hf := x_iteT hf hc
    refine lv_iconst (v := 1) hx hb dX8_isClosed_47 (by decide) ?_
    refine lv_goto (tgt := 52) hx hb dX8_isClosed_48 (by decide) ?_
    cases hf
    exact x_zret hx hb hr hlocks hK hW hS (Or.inr rfl) rfl dX8_isClosed_52
  · have hf := x_iteF hf hc
    refine lv_aload_n hx hb dX8_isClosed_23 rfl (lv_at hl 1 rfl) ?_
    refine x_get (i := (g.1 + 189)) (k := 8) (j := 0) (t := 1) hx hb hts i_8 hown hK hW ⟨⟨hfl, rfl⟩, by decide⟩ rfl ⟨by decide, by decide, rfl⟩ (hts (.fieldLink RX8 7 "OpticalJukeboxModel" "now" "[I") (by decide +kernel)) (v := .ref (adr (g.1 + 189) 30 0)) rfl dX8_isClosed_24 ?_
    refine lv_sipush (v := 469) hx hb dX8_isClosed_27 (by decide) ?_
    refine lv_iload_n hx hb dX8_isClosed_30 rfl (lv_at hl 2 rfl) ?_
    refine lv_iadd hx hb dX8_isClosed_31 ?_
    obtain ⟨hg4, hf⟩ := x_guardE hf
    refine x_iald (i := (g.1 + 189)) (k := 30) (j := 0) (f := md 30 0) hx hb hK hW ⟨⟨hfl, rfl⟩, by decide⟩ (by decide) (rfl) rfl hg4 dX8_isClosed_32 ?_
    refine lv_aload_n hx hb dX8_isClosed_33 rfl (lv_at hl 1 rfl) ?_
    refine x_get (i := (g.1 + 189)) (k := 8) (j := 0) (t := 1) hx hb hts i_8 hown hK hW ⟨⟨hfl, rfl⟩, by decide⟩ rfl ⟨by decide, by decide, rfl⟩ (hts (.fieldLink RX8 7 "OpticalJukeboxModel" "now" "[I") (by decide +kernel)) (v := .ref (adr (g.1 + 189) 30 0)) rfl dX8_isClosed_34 ?_
    refine lv_bipush (v := 69) hx hb dX8_isClosed_37 (by decide) ?_
    refine lv_iload_n hx hb dX8_isClosed_39 rfl (lv_at hl 0 rfl) ?_
    refine lv_iadd hx hb dX8_isClosed_40 ?_
    obtain ⟨hg5, hf⟩ := x_guardE hf
    refine x_iald (i := (g.1 + 189)) (k := 30) (j := 0) (f := md 30 0) hx hb hK hW ⟨⟨hfl, rfl⟩, by decide⟩ (by decide) (rfl) rfl hg5 dX8_isClosed_41 ?_
    refine lv_iconst (v := 1) hx hb dX8_isClosed_42 (by decide) ?_
    refine lv_isub hx hb dX8_isClosed_43 ?_
    refine lv_icmp_ge (tgt := 51) hx hb dX8_isClosed_44 (by decide) (fun hc => ?_) (fun hc => ?_)
    · have hf := x_iteT hf hc
      refine lv_iconst (v := 0) hx hb dX8_isClosed_51 (by decide) ?_
      cases hf
      exact x_zret hx hb hr hlocks hK hW hS (Or.inl rfl) rfl dX8_isClosed_52
    · have hf := x_iteF hf hc
      refine lv_iconst (v := 1) hx hb dX8_isClosed_47 (by decide) ?_
      refine lv_goto (tgt := 52) hx hb dX8_isClosed_48 (by decide) ?_
      cases hf
      exact x_zret hx hb hr hlocks hK hW hS (Or.inr rfl) rfl dX8_isClosed_52
abbrev rm_X8_isGood : Room := { frames := 1, cells := 0, slots := 0, locals := 22 }
set_option maxRecDepth 100000 in
set_option maxHeartbeats 4000000 in
theorem ct_X8_isGood (l : Launch) (g : GT) (hfl : 2 ≤ gf g) (w : WT) (md : SD) (mn : Nat → Int64) (mw : Int64) (a1 : Int32) {q : Int32} (hf : f_X8_isGood md a1 = some q) : Met l yX8_isGood wsX8_isGood rm_X8_isGood (cPre g (wM w md mn mw) [.ref (adr (g.1 + 189) 8 0), .int a1]) (cQi g q (wM w md mn mw)) 0 0 (gA g) := by
  have i_8 : ∀ w ∈ u_ws RX8 TX8 27, w ∈ wsX8_isGood := by decide +kernel
  refine x_met (by decide) rfl (Nat.le_of_ble_eq_true rfl) ?_
  intro p e s m below meth c hx hb hr hml hts hown hlocks hK hW hS ls hl
  have hown : s.vm.findClass RX8 = some m.cls := hown
  have hl : lv_has ls 2 [(0, .ref (adr (g.1 + 189) 8 0)), (1, .int a1)] := hl
  rw [f_X8_isGood] at hf
  refine lv_aload_n hx hb dX8_isGood_0 rfl (lv_at hl 0 rfl) ?_
  refine x_get (i := (g.1 + 189)) (k := 8) (j := 0) (t := 1) hx hb hts i_8 hown hK hW ⟨⟨hfl, rfl⟩, by decide⟩ rfl ⟨by decide, by decide, rfl⟩ (hts (.fieldLink RX8 7 "OpticalJukeboxModel" "now" "[I") (by decide +kernel)) (v := .ref (adr (g.1 + 189) 30 0)) rfl dX8_isGood_1 ?_
  refine lv_sipush (v := 549) hx hb dX8_isGood_4 (by decide) ?_
  refine lv_iload_n hx hb dX8_isGood_7 rfl (lv_at hl 1 rfl) ?_
  refine lv_iadd hx hb dX8_isGood_8 ?_
  obtain ⟨hg1, hf⟩ := x_guardE hf
  refine x_iald (i := (g.1 + 189)) (k := 30) (j := 0) (f := md 30 0) hx hb hK hW ⟨⟨hfl, rfl⟩, by decide⟩ (by decide) (rfl) rfl hg1 dX8_isGood_9 ?_
  refine lv_if_ne (tgt := 25) hx hb dX8_isGood_10 (by decide) (fun hc => ?_) (fun hc => ?_)
  · have hf := x_iteF hf hc
    refine lv_iconst (v := 0) hx hb dX8_isGood_25 (by decide) ?_
    cases hf
    exact x_zret hx hb hr hlocks hK hW hS (Or.inl rfl) rfl dX8_isGood_26
  · have hf := x_iteT hf hc
    refine lv_aload_n hx hb dX8_isGood_13 rfl (lv_at hl 0 rfl) ?_
    refine lv_iload_n hx hb dX8_isGood_14 rfl (lv_at hl 1 rfl) ?_
    obtain ⟨q2, h_q2, hf⟩ := x_bindE hf
    refine x_ci0 (x_rV ⟨hx, hb, hml, hown, hts⟩ (ct_X8_isClosed l g hfl w md mn mw (a1) h_q2) (cwV 1 hts gX8_isGood_X8_isClosed rfl rfl rfl (by decide +kernel) ⟨Nat.le_of_ble_eq_true rfl, Nat.le_of_ble_eq_true rfl⟩) hK hW hS (x_recv (i := (g.1 + 189)) (k := 8) (j := 0) hK hW ⟨⟨hfl, rfl⟩, by decide⟩ rfl (by decide)) rfl hl.1 (rest := []) rfl (Nat.le_of_ble_eq_true rfl) dX8_isGood_15 ⟨Nat.le_of_ble_eq_true rfl, Nat.le_of_ble_eq_true rfl⟩) hS (fun H locs hW hS => ?_)
    have hW : World g (wM w md mn mw) H := hW
    refine W.eq (g2 := F0 m 18 ls [.int q2]) rfl ?_
    refine lv_if_eq (tgt := 25) hx hb dX8_isGood_18 (by decide) (fun hc => ?_) (fun hc => ?_)
    · have hf := x_iteT hf hc
      refine lv_iconst (v := 0) hx hb dX8_isGood_25 (by decide) ?_
      cases hf
      exact x_zret hx hb hr hlocks hK hW hS (Or.inl rfl) rfl dX8_isGood_26
    · have hf := x_iteF hf hc
      refine lv_iconst (v := 1) hx hb dX8_isGood_21 (by decide) ?_
      refine lv_goto (tgt := 26) hx hb dX8_isGood_22 (by decide) ?_
      cases hf
      exact x_zret hx hb hr hlocks hK hW hS (Or.inr rfl) rfl dX8_isGood_26
abbrev rm_X8_version : Room := { frames := 0, cells := 0, slots := 0, locals := 0 }
set_option maxRecDepth 100000 in
set_option maxHeartbeats 4000000 in
theorem ct_X8_version (l : Launch) (g : GT) (hfl : 2 ≤ gf g) (w : WT) (md : SD) (mn : Nat → Int64) (mw : Int64) (a1 : Int32) {q : Int32} (hf : f_X8_version md a1 = some q) : Met l yX8_version wsX8_version rm_X8_version (cPre g (wM w md mn mw) [.ref (adr (g.1 + 189) 8 0), .int a1]) (cQi g q (wM w md mn mw)) 0 0 (gA g) := by
  have i_8 : ∀ w ∈ u_ws RX8 TX8 27, w ∈ wsX8_version := by decide +kernel
  refine x_met (by decide) rfl (Nat.le_of_ble_eq_true rfl) ?_
  intro p e s m below meth c hx hb hr hml hts hown hlocks hK hW hS ls hl
  have hown : s.vm.findClass RX8 = some m.cls := hown
  have hl : lv_has ls 2 [(0, .ref (adr (g.1 + 189) 8 0)), (1, .int a1)] := hl
  rw [f_X8_version] at hf
  refine lv_aload_n hx hb dX8_version_0 rfl (lv_at hl 0 rfl) ?_
  refine x_get (i := (g.1 + 189)) (k := 8) (j := 0) (t := 1) hx hb hts i_8 hown hK hW ⟨⟨hfl, rfl⟩, by decide⟩ rfl ⟨by decide, by decide, rfl⟩ (hts (.fieldLink RX8 7 "OpticalJukeboxModel" "now" "[I") (by decide +kernel)) (v := .ref (adr (g.1 + 189) 30 0)) rfl dX8_version_1 ?_
  refine lv_sipush (v := 289) hx hb dX8_version_4 (by decide) ?_
  refine lv_iload_n hx hb dX8_version_7 rfl (lv_at hl 1 rfl) ?_
  refine lv_iadd hx hb dX8_version_8 ?_
  obtain ⟨hg1, hf⟩ := x_guardE hf
  refine x_iald (i := (g.1 + 189)) (k := 30) (j := 0) (f := md 30 0) hx hb hK hW ⟨⟨hfl, rfl⟩, by decide⟩ (by decide) (rfl) rfl hg1 dX8_version_9 ?_
  cases hf
  exact x_iret hx hb hr hlocks hK hW hS rfl dX8_version_10
abbrev rm_X8_isReadable : Room := { frames := 2, cells := 0, slots := 0, locals := 43 }
set_option maxRecDepth 100000 in
set_option maxHeartbeats 4000000 in
theorem ct_X8_isReadable (l : Launch) (g : GT) (hfl : 2 ≤ gf g) (w : WT) (md : SD) (mn : Nat → Int64) (mw : Int64) (a1 : Int32) {q : Int32} (hf : f_X8_isReadable md a1 = some q) : Met l yX8_isReadable wsX8_isReadable rm_X8_isReadable (cPre g (wM w md mn mw) [.ref (adr (g.1 + 189) 8 0), .int a1]) (cQi g q (wM w md mn mw)) 0 0 (gA g) := by
  refine x_met (by decide) rfl (Nat.le_of_ble_eq_true rfl) ?_
  intro p e s m below meth c hx hb hr hml hts hown hlocks hK hW hS ls hl
  have hown : s.vm.findClass RX8 = some m.cls := hown
  have hl : lv_has ls 2 [(0, .ref (adr (g.1 + 189) 8 0)), (1, .int a1)] := hl
  rw [f_X8_isReadable] at hf
  refine lv_aload_n hx hb dX8_isReadable_0 rfl (lv_at hl 0 rfl) ?_
  refine lv_aload_n hx hb dX8_isReadable_1 rfl (lv_at hl 0 rfl) ?_
  refine lv_iload_n hx hb dX8_isReadable_2 rfl (lv_at hl 1 rfl) ?_
  obtain ⟨q1, h_q1, hf⟩ := x_bindE hf
  refine x_ci0 (x_rV ⟨hx, hb, hml, hown, hts⟩ (ct_X8_version l g hfl w md mn mw (a1) h_q1) (cwV 1 hts gX8_isReadable_X8_version rfl rfl rfl (by decide +kernel) ⟨Nat.le_of_ble_eq_true rfl, Nat.le_of_ble_eq_true rfl⟩) hK hW hS (x_recv (i := (g.1 + 189)) (k := 8) (j := 0) hK hW ⟨⟨hfl, rfl⟩, by decide⟩ rfl (by decide)) rfl hl.1 (rest := [.ref (adr (g.1 + 189) 8 0)]) rfl (Nat.le_of_ble_eq_true rfl) dX8_isReadable_3 ⟨Nat.le_of_ble_eq_true rfl, Nat.le_of_ble_eq_true rfl⟩) hS (fun H locs hW hS => ?_)
  have hW : World g (wM w md mn mw) H := hW
  refine W.eq (g2 := F0 m 6 ls [.int q1, .ref (adr (g.1 + 189) 8 0)]) rfl ?_
  obtain ⟨q2, h_q2, hf⟩ := x_bindE hf
  refine x_ci0 (x_rV ⟨hx, hb, hml, hown, hts⟩ (ct_X8_isGood l g hfl w md mn mw (q1) h_q2) (cwV 1 hts gX8_isReadable_X8_isGood rfl rfl rfl (by decide +kernel) ⟨Nat.le_of_ble_eq_true rfl, Nat.le_of_ble_eq_true rfl⟩) hK hW hS (x_recv (i := (g.1 + 189)) (k := 8) (j := 0) hK hW ⟨⟨hfl, rfl⟩, by decide⟩ rfl (by decide)) rfl hl.1 (rest := []) rfl (Nat.le_of_ble_eq_true rfl) dX8_isReadable_6 ⟨Nat.le_of_ble_eq_true rfl, Nat.le_of_ble_eq_true rfl⟩) hS (fun H locs hW hS => ?_)
  have hW : World g (wM w md mn mw) H := hW
  refine W.eq (g2 := F0 m 9 ls [.int q2]) rfl ?_
  obtain ⟨hg3, hf⟩ := x_guardE hf
  cases hf
  exact x_zret hx hb hr hlocks hK hW hS hg3 rfl dX8_isReadable_9
abbrev rm_X8_platterOf : Room := { frames := 1, cells := 0, slots := 0, locals := 21 }
set_option maxRecDepth 100000 in
set_option maxHeartbeats 4000000 in
theorem ct_X8_platterOf (l : Launch) (g : GT) (hfl : 2 ≤ gf g) (w : WT) (md : SD) (mn : Nat → Int64) (mw : Int64) (a1 : Int32) {q : Int32} (hf : f_X8_platterOf md a1 = some q) : Met l yX8_platterOf wsX8_platterOf rm_X8_platterOf (cPre g (wM w md mn mw) [.ref (adr (g.1 + 189) 8 0), .int a1]) (cQi g q (wM w md mn mw)) 0 0 (gA g) := by
  have i_8 : ∀ w ∈ u_ws RX8 TX8 27, w ∈ wsX8_platterOf := by decide +kernel
  refine x_met (by decide) rfl (Nat.le_of_ble_eq_true rfl) ?_
  intro p e s m below meth c hx hb hr hml hts hown hlocks hK hW hS ls hl
  have hown : s.vm.findClass RX8 = some m.cls := hown
  have hl : lv_has ls 2 [(0, .ref (adr (g.1 + 189) 8 0)), (1, .int a1)] := hl
  rw [f_X8_platterOf] at hf
  refine lv_aload_n hx hb dX8_platterOf_0 rfl (lv_at hl 0 rfl) ?_
  refine x_get (i := (g.1 + 189)) (k := 8) (j := 0) (t := 1) hx hb hts i_8 hown hK hW ⟨⟨hfl, rfl⟩, by decide⟩ rfl ⟨by decide, by decide, rfl⟩ (hts (.fieldLink RX8 7 "OpticalJukeboxModel" "now" "[I") (by decide +kernel)) (v := .ref (adr (g.1 + 189) 30 0)) rfl dX8_platterOf_1 ?_
  refine lv_sipush (v := 349) hx hb dX8_platterOf_4 (by decide) ?_
  refine lv_aload_n hx hb dX8_platterOf_7 rfl (lv_at hl 0 rfl) ?_
  refine lv_iload_n hx hb dX8_platterOf_8 rfl (lv_at hl 1 rfl) ?_
  obtain ⟨q1, h_q1, hf⟩ := x_bindE hf
  refine x_ci0 (x_rV ⟨hx, hb, hml, hown, hts⟩ (ct_X8_version l g hfl w md mn mw (a1) h_q1) (cwV 1 hts gX8_platterOf_X8_version rfl rfl rfl (by decide +kernel) ⟨Nat.le_of_ble_eq_true rfl, Nat.le_of_ble_eq_true rfl⟩) hK hW hS (x_recv (i := (g.1 + 189)) (k := 8) (j := 0) hK hW ⟨⟨hfl, rfl⟩, by decide⟩ rfl (by decide)) rfl hl.1 (rest := [.int (349 : Int32), .ref (adr (g.1 + 189) 30 0)]) rfl (Nat.le_of_ble_eq_true rfl) dX8_platterOf_9 ⟨Nat.le_of_ble_eq_true rfl, Nat.le_of_ble_eq_true rfl⟩) hS (fun H locs hW hS => ?_)
  have hW : World g (wM w md mn mw) H := hW
  refine W.eq (g2 := F0 m 12 ls [.int q1, .int (349 : Int32), .ref (adr (g.1 + 189) 30 0)]) rfl ?_
  refine lv_iadd hx hb dX8_platterOf_12 ?_
  obtain ⟨hg2, hf⟩ := x_guardE hf
  refine x_iald (i := (g.1 + 189)) (k := 30) (j := 0) (f := md 30 0) hx hb hK hW ⟨⟨hfl, rfl⟩, by decide⟩ (by decide) (rfl) rfl hg2 dX8_platterOf_13 ?_
  cases hf
  exact x_iret hx hb hr hlocks hK hW hS rfl dX8_platterOf_14
abbrev rm_X8_inDrive : Room := { frames := 0, cells := 0, slots := 0, locals := 0 }
set_option maxRecDepth 100000 in
set_option maxHeartbeats 4000000 in
theorem ct_X8_inDrive (l : Launch) (g : GT) (hfl : 2 ≤ gf g) (w : WT) (md : SD) (mn : Nat → Int64) (mw : Int64) (a1 : Int32) {q : Int32} (hf : f_X8_inDrive md a1 = some q) : Met l yX8_inDrive wsX8_inDrive rm_X8_inDrive (cPre g (wM w md mn mw) [.ref (adr (g.1 + 189) 8 0), .int a1]) (cQi g q (wM w md mn mw)) 0 0 (gA g) := by
  have i_8 : ∀ w ∈ u_ws RX8 TX8 27, w ∈ wsX8_inDrive := by decide +kernel
  refine x_met (by decide) rfl (Nat.le_of_ble_eq_true rfl) ?_
  intro p e s m below meth c hx hb hr hml hts hown hlocks hK hW hS ls hl
  have hown : s.vm.findClass RX8 = some m.cls := hown
  have hl : lv_has ls 3 [(0, .ref (adr (g.1 + 189) 8 0)), (1, .int a1)] := hl
  rw [f_X8_inDrive] at hf
  refine lv_iconst (v := 0) hx hb dX8_inDrive_0 (by decide) ?_
  refine lv_istore_n (lv' := [(2, .int (0 : Int32)), (0, .ref (adr (g.1 + 189) 8 0)), (1, .int a1)]) hx hb dX8_inDrive_1 rfl hl (by decide) rfl (fun ls hl => ?_)
  have L2 : ∀ (n : Nat) (v2_2 : Int32) (ls : Array Slot) (H : Heap) (locs : List Loc), lv_has ls 3 [(0, .ref (adr (g.1 + 189) 8 0)), (1, .int a1), (2, .int v2_2)] → World g (wM w md mn mw) H → va_S (gA g) s.heap H locs → f_X8_inDrive_L2 md a1 n v2_2 = some q → W p l e rm_X8_inDrive s m [.ref (adr (g.1 + 189) 8 0), .int a1].toArray below meth c H locs 0 0 (MQ below (cQi g q (wM w md mn mw)) [.ref (adr (g.1 + 189) 8 0), .int a1].toArray s 0 0 (gA g)) (F0 m 2 ls []) := by
    clear hW hS hl
    intro n
    induction n with
    | zero => intro v2_2 ls H locs hl hW hS hf; cases hf
    | succ n_2 ih =>
      intro v2_2 ls H locs hl hW hS hf
      rw [f_X8_inDrive_L2] at hf
      refine lv_iload_n hx hb dX8_inDrive_2 rfl (lv_at hl 2 rfl) ?_
      refine lv_aload_n hx hb dX8_inDrive_3 rfl (lv_at hl 0 rfl) ?_
      refine x_get (i := (g.1 + 189)) (k := 8) (j := 0) (t := 1) hx hb hts i_8 hown hK hW ⟨⟨hfl, rfl⟩, by decide⟩ rfl ⟨by decide, by decide, rfl⟩ (hts (.fieldLink RX8 7 "OpticalJukeboxModel" "now" "[I") (by decide +kernel)) (v := .ref (adr (g.1 + 189) 30 0)) rfl dX8_inDrive_4 ?_
      refine lv_bipush (v := 6) hx hb dX8_inDrive_7 (by decide) ?_
      refine x_iald (i := (g.1 + 189)) (k := 30) (j := 0) (f := md 30 0) hx hb hK hW ⟨⟨hfl, rfl⟩, by decide⟩ (by decide) (rfl) rfl (by unfold vp_in; decide) dX8_inDrive_9 ?_
      refine W.eq (g2 := F0 m 10 ls [.int (md 30 0 6), .int v2_2]) rfl ?_
      refine lv_icmp_ge (tgt := 34) hx hb dX8_inDrive_10 (by decide) (fun hc => ?_) (fun hc => ?_)
      · have hf := x_iteT hf hc
        refine lv_iconst (v := -1) hx hb dX8_inDrive_34 (by decide) ?_
        cases hf
        exact x_iret hx hb hr hlocks hK hW hS rfl dX8_inDrive_35
      · have hf := x_iteF hf hc
        refine lv_aload_n hx hb dX8_inDrive_13 rfl (lv_at hl 0 rfl) ?_
        refine x_get (i := (g.1 + 189)) (k := 8) (j := 0) (t := 1) hx hb hts i_8 hown hK hW ⟨⟨hfl, rfl⟩, by decide⟩ rfl ⟨by decide, by decide, rfl⟩ (hts (.fieldLink RX8 7 "OpticalJukeboxModel" "now" "[I") (by decide +kernel)) (v := .ref (adr (g.1 + 189) 30 0)) rfl dX8_inDrive_14 ?_
        refine lv_bipush (v := 21) hx hb dX8_inDrive_17 (by decide) ?_
        refine lv_iload_n hx hb dX8_inDrive_19 rfl (lv_at hl 2 rfl) ?_
        refine lv_iadd hx hb dX8_inDrive_20 ?_
        obtain ⟨hg1, hf⟩ := x_guardE hf
        refine x_iald (i := (g.1 + 189)) (k := 30) (j := 0) (f := md 30 0) hx hb hK hW ⟨⟨hfl, rfl⟩, by decide⟩ (by decide) (rfl) rfl hg1 dX8_inDrive_21 ?_
        refine lv_iload_n hx hb dX8_inDrive_22 rfl (lv_at hl 1 rfl) ?_
        refine lv_icmp_ne (tgt := 28) hx hb dX8_inDrive_23 (by decide) (fun hc => ?_) (fun hc => ?_)
        · have hf := x_iteF hf hc
          obtain ⟨x2, e_x2, hf⟩ := x_letE hf
          refine lv_iinc (v := x2) (lv' := [(2, .int x2), (0, .ref (adr (g.1 + 189) 8 0)), (1, .int a1)]) hx hb dX8_inDrive_28 hl (k := 2) rfl (by rw [e_x2]; rfl) (by decide) rfl (fun ls hl => ?_)
          refine lv_goto (tgt := 2) hx hb dX8_inDrive_31 (by decide) ?_
          exact ih (x2) ls _ _ (lv_sub hl [1, 2, 0] rfl) hW hS hf
        · have hf := x_iteT hf hc
          refine lv_iload_n hx hb dX8_inDrive_26 rfl (lv_at hl 2 rfl) ?_
          cases hf
          exact x_iret hx hb hr hlocks hK hW hS rfl dX8_inDrive_27
  exact L2 fuel ((0 : Int32)) ls _ _ (lv_sub hl [1, 2, 0] rfl) hW hS hf
abbrev rm_X8_goes : Room := { frames := 1, cells := 0, slots := 0, locals := 21 }
set_option maxRecDepth 100000 in
set_option maxHeartbeats 4000000 in
theorem ct_X8_goes (l : Launch) (g : GT) (hfl : 2 ≤ gf g) (w : WT) (md : SD) (mn : Nat → Int64) (mw : Int64) (a1 : Int32) {q : SD} (hf : f_X8_goes md a1 = some q) : Met l yX8_goes wsX8_goes rm_X8_goes (cPre g (wM w md mn mw) [.ref (adr (g.1 + 189) 8 0), .int a1]) (cQv g (wM w q mn mw)) 0 0 (gA g) := by
  have i_8 : ∀ w ∈ u_ws RX8 TX8 27, w ∈ wsX8_goes := by decide +kernel
  refine x_met (by decide) rfl (Nat.le_of_ble_eq_true rfl) ?_
  intro p e s m below meth c hx hb hr hml hts hown hlocks hK hW hS ls hl
  have hown : s.vm.findClass RX8 = some m.cls := hown
  have hl : lv_has ls 3 [(0, .ref (adr (g.1 + 189) 8 0)), (1, .int a1)] := hl
  rw [f_X8_goes] at hf
  refine lv_aload_n hx hb dX8_goes_0 rfl (lv_at hl 0 rfl) ?_
  refine x_get (i := (g.1 + 189)) (k := 8) (j := 0) (t := 1) hx hb hts i_8 hown hK hW ⟨⟨hfl, rfl⟩, by decide⟩ rfl ⟨by decide, by decide, rfl⟩ (hts (.fieldLink RX8 7 "OpticalJukeboxModel" "now" "[I") (by decide +kernel)) (v := .ref (adr (g.1 + 189) 30 0)) rfl dX8_goes_1 ?_
  refine lv_bipush (v := 11) hx hb dX8_goes_4 (by decide) ?_
  refine x_iald (i := (g.1 + 189)) (k := 30) (j := 0) (f := md 30 0) hx hb hK hW ⟨⟨hfl, rfl⟩, by decide⟩ (by decide) (rfl) rfl (by unfold vp_in; decide) dX8_goes_6 ?_
  refine W.eq (g2 := F0 m 7 ls [.int (md 30 0 11)]) rfl ?_
  refine lv_iload_n hx hb dX8_goes_7 rfl (lv_at hl 1 rfl) ?_
  obtain ⟨q1, h_q1, hf⟩ := x_bindE hf
  refine x_ci0 (x_rS ⟨hx, hb, hml, hown, hts⟩ (ct_X8_far l g (wM w md mn mw) ((md 30 0 11)) (a1) h_q1) (va_cwS 2 hts gX8_goes_X8_far rfl rfl rfl (by decide +kernel) ⟨Nat.le_of_ble_eq_true rfl, Nat.le_of_ble_eq_true rfl⟩) hK hW hS rfl hl.1 (rest := []) rfl (Nat.le_of_ble_eq_true rfl) dX8_goes_8 ⟨Nat.le_of_ble_eq_true rfl, Nat.le_of_ble_eq_true rfl⟩) hS (fun H locs hW hS => ?_)
  have hW : World g (wM w md mn mw) H := hW
  refine W.eq (g2 := F0 m 11 ls [.int q1]) rfl ?_
  refine lv_istore_n (lv' := [(2, .int q1), (0, .ref (adr (g.1 + 189) 8 0)), (1, .int a1)]) hx hb dX8_goes_11 rfl hl (by decide) rfl (fun ls hl => ?_)
  refine lv_aload_n hx hb dX8_goes_12 rfl (lv_at hl 1 rfl) ?_
  refine x_get (i := (g.1 + 189)) (k := 8) (j := 0) (t := 1) hx hb hts i_8 hown hK hW ⟨⟨hfl, rfl⟩, by decide⟩ rfl ⟨by decide, by decide, rfl⟩ (hts (.fieldLink RX8 7 "OpticalJukeboxModel" "now" "[I") (by decide +kernel)) (v := .ref (adr (g.1 + 189) 30 0)) rfl dX8_goes_13 ?_
  refine lv_bipush (v := 14) hx hb dX8_goes_16 (by decide) ?_
  refine lv_dup2_11 hx hb dX8_goes_18 rfl rfl ?_
  refine x_iald (i := (g.1 + 189)) (k := 30) (j := 0) (f := md 30 0) hx hb hK hW ⟨⟨hfl, rfl⟩, by decide⟩ (by decide) (rfl) rfl (by unfold vp_in; decide) dX8_goes_19 ?_
  refine W.eq (g2 := F0 m 20 ls [.int (md 30 0 14), .int (14 : Int32), .ref (adr (g.1 + 189) 30 0)]) rfl ?_
  refine lv_iload_n hx hb dX8_goes_20 rfl (lv_at hl 0 rfl) ?_
  refine lv_iadd hx hb dX8_goes_21 ?_
  obtain ⟨md2, e_md2, hf⟩ := x_letE hf
  refine x_iast (i := (g.1 + 189)) (k := 30) (j := 0) (w' := wM w md2 mn mw) hx hb hK hW ⟨⟨hfl, rfl⟩, by decide⟩ hS (by decide) rfl rfl rfl (by unfold vp_in; decide) dX8_goes_22 (fp_M e_md2 rfl) (fun H locs hW hS => ?_)
  refine lv_aload_n hx hb dX8_goes_23 rfl (lv_at hl 1 rfl) ?_
  refine x_get (i := (g.1 + 189)) (k := 8) (j := 0) (t := 1) hx hb hts i_8 hown hK hW ⟨⟨hfl, rfl⟩, by decide⟩ rfl ⟨by decide, by decide, rfl⟩ (hts (.fieldLink RX8 7 "OpticalJukeboxModel" "now" "[I") (by decide +kernel)) (v := .ref (adr (g.1 + 189) 30 0)) rfl dX8_goes_24 ?_
  refine lv_bipush (v := 12) hx hb dX8_goes_27 (by decide) ?_
  refine lv_dup2_11 hx hb dX8_goes_29 rfl rfl ?_
  refine x_iald (i := (g.1 + 189)) (k := 30) (j := 0) (f := md2 30 0) hx hb hK hW ⟨⟨hfl, rfl⟩, by decide⟩ (by decide) (rfl) rfl (by unfold vp_in; decide) dX8_goes_30 ?_
  refine W.eq (g2 := F0 m 31 ls [.int (md2 30 0 12), .int (12 : Int32), .ref (adr (g.1 + 189) 30 0)]) rfl ?_
  refine lv_iload_n hx hb dX8_goes_31 rfl (lv_at hl 0 rfl) ?_
  refine lv_aload_n hx hb dX8_goes_32 rfl (lv_at hl 1 rfl) ?_
  refine x_get (i := (g.1 + 189)) (k := 8) (j := 0) (t := 1) hx hb hts i_8 hown hK hW ⟨⟨hfl, rfl⟩, by decide⟩ rfl ⟨by decide, by decide, rfl⟩ (hts (.fieldLink RX8 7 "OpticalJukeboxModel" "now" "[I") (by decide +kernel)) (v := .ref (adr (g.1 + 189) 30 0)) rfl dX8_goes_33 ?_
  refine lv_iconst (v := 1) hx hb dX8_goes_36 (by decide) ?_
  refine x_iald (i := (g.1 + 189)) (k := 30) (j := 0) (f := md2 30 0) hx hb hK hW ⟨⟨hfl, rfl⟩, by decide⟩ (by decide) (rfl) rfl (by unfold vp_in; decide) dX8_goes_37 ?_
  refine W.eq (g2 := F0 m 38 ls [.int (md2 30 0 1), .int q1, .int (md2 30 0 12), .int (12 : Int32), .ref (adr (g.1 + 189) 30 0)]) rfl ?_
  refine lv_imul hx hb dX8_goes_38 ?_
  refine lv_iadd hx hb dX8_goes_39 ?_
  obtain ⟨md3, e_md3, hf⟩ := x_letE hf
  refine x_iast (i := (g.1 + 189)) (k := 30) (j := 0) (w' := wM w md3 mn mw) hx hb hK hW ⟨⟨hfl, rfl⟩, by decide⟩ hS (by decide) rfl rfl rfl (by unfold vp_in; decide) dX8_goes_40 (fp_M e_md3 rfl) (fun H locs hW hS => ?_)
  refine lv_aload_n hx hb dX8_goes_41 rfl (lv_at hl 1 rfl) ?_
  refine x_get (i := (g.1 + 189)) (k := 8) (j := 0) (t := 1) hx hb hts i_8 hown hK hW ⟨⟨hfl, rfl⟩, by decide⟩ rfl ⟨by decide, by decide, rfl⟩ (hts (.fieldLink RX8 7 "OpticalJukeboxModel" "now" "[I") (by decide +kernel)) (v := .ref (adr (g.1 + 189) 30 0)) rfl dX8_goes_42 ?_
  refine lv_bipush (v := 11) hx hb dX8_goes_45 (by decide) ?_
  refine lv_iload_n hx hb dX8_goes_47 rfl (lv_at hl 2 rfl) ?_
  obtain ⟨md4, e_md4, hf⟩ := x_letE hf
  refine x_iast (i := (g.1 + 189)) (k := 30) (j := 0) (w' := wM w md4 mn mw) hx hb hK hW ⟨⟨hfl, rfl⟩, by decide⟩ hS (by decide) rfl rfl rfl (by unfold vp_in; decide) dX8_goes_48 (fp_M e_md4 rfl) (fun H locs hW hS => ?_)
  cases hf
  exact x_vret hx hb hr hlocks hK hW hS dX8_goes_49
abbrev rm_X8_grips : Room := { frames := 0, cells := 0, slots := 0, locals := 0 }
set_option maxRecDepth 100000 in
set_option maxHeartbeats 4000000 in
theorem ct_X8_grips (l : Launch) (g : GT) (hfl : 2 ≤ gf g) (w : WT) (md : SD) (mn : Nat → Int64) (mw : Int64) {q : SD} (hf : f_X8_grips md  = some q) : Met l yX8_grips wsX8_grips rm_X8_grips (cPre g (wM w md mn mw) [.ref (adr (g.1 + 189) 8 0)]) (cQv g (wM w q mn mw)) 0 0 (gA g) := by
  have i_8 : ∀ w ∈ u_ws RX8 TX8 27, w ∈ wsX8_grips := by decide +kernel
  refine x_met (by decide) rfl (Nat.le_of_ble_eq_true rfl) ?_
  intro p e s m below meth c hx hb hr hml hts hown hlocks hK hW hS ls hl
  have hown : s.vm.findClass RX8 = some m.cls := hown
  have hl : lv_has ls 1 [(0, .ref (adr (g.1 + 189) 8 0))] := hl
  rw [f_X8_grips] at hf
  refine lv_aload_n hx hb dX8_grips_0 rfl (lv_at hl 0 rfl) ?_
  refine x_get (i := (g.1 + 189)) (k := 8) (j := 0) (t := 1) hx hb hts i_8 hown hK hW ⟨⟨hfl, rfl⟩, by decide⟩ rfl ⟨by decide, by decide, rfl⟩ (hts (.fieldLink RX8 7 "OpticalJukeboxModel" "now" "[I") (by decide +kernel)) (v := .ref (adr (g.1 + 189) 30 0)) rfl dX8_grips_1 ?_
  refine lv_bipush (v := 12) hx hb dX8_grips_4 (by decide) ?_
  refine lv_dup2_11 hx hb dX8_grips_6 rfl rfl ?_
  refine x_iald (i := (g.1 + 189)) (k := 30) (j := 0) (f := md 30 0) hx hb hK hW ⟨⟨hfl, rfl⟩, by decide⟩ (by decide) (rfl) rfl (by unfold vp_in; decide) dX8_grips_7 ?_
  refine W.eq (g2 := F0 m 8 ls [.int (md 30 0 12), .int (12 : Int32), .ref (adr (g.1 + 189) 30 0)]) rfl ?_
  refine lv_aload_n hx hb dX8_grips_8 rfl (lv_at hl 0 rfl) ?_
  refine x_get (i := (g.1 + 189)) (k := 8) (j := 0) (t := 1) hx hb hts i_8 hown hK hW ⟨⟨hfl, rfl⟩, by decide⟩ rfl ⟨by decide, by decide, rfl⟩ (hts (.fieldLink RX8 7 "OpticalJukeboxModel" "now" "[I") (by decide +kernel)) (v := .ref (adr (g.1 + 189) 30 0)) rfl dX8_grips_9 ?_
  refine lv_iconst (v := 2) hx hb dX8_grips_12 (by decide) ?_
  refine x_iald (i := (g.1 + 189)) (k := 30) (j := 0) (f := md 30 0) hx hb hK hW ⟨⟨hfl, rfl⟩, by decide⟩ (by decide) (rfl) rfl (by unfold vp_in; decide) dX8_grips_13 ?_
  refine W.eq (g2 := F0 m 14 ls [.int (md 30 0 2), .int (md 30 0 12), .int (12 : Int32), .ref (adr (g.1 + 189) 30 0)]) rfl ?_
  refine lv_iadd hx hb dX8_grips_14 ?_
  obtain ⟨md1, e_md1, hf⟩ := x_letE hf
  refine x_iast (i := (g.1 + 189)) (k := 30) (j := 0) (w' := wM w md1 mn mw) hx hb hK hW ⟨⟨hfl, rfl⟩, by decide⟩ hS (by decide) rfl rfl rfl (by unfold vp_in; decide) dX8_grips_15 (fp_M e_md1 rfl) (fun H locs hW hS => ?_)
  cases hf
  exact x_vret hx hb hr hlocks hK hW hS dX8_grips_16
abbrev rm_X8_empties : Room := { frames := 2, cells := 0, slots := 0, locals := 43 }
set_option maxRecDepth 100000 in
set_option maxHeartbeats 4000000 in
theorem ct_X8_empties (l : Launch) (g : GT) (hfl : 2 ≤ gf g) (w : WT) (md : SD) (mn : Nat → Int64) (mw : Int64) (a1 : Int32) {q : SD} (hf : f_X8_empties md a1 = some q) : Met l yX8_empties wsX8_empties rm_X8_empties (cPre g (wM w md mn mw) [.ref (adr (g.1 + 189) 8 0), .int a1]) (cQv g (wM w q mn mw)) 0 0 (gA g) := by
  have i_8 : ∀ w ∈ u_ws RX8 TX8 27, w ∈ wsX8_empties := by decide +kernel
  refine x_met (by decide) rfl (Nat.le_of_ble_eq_true rfl) ?_
  intro p e s m below meth c hx hb hr hml hts hown hlocks hK hW hS ls hl
  have hown : s.vm.findClass RX8 = some m.cls := hown
  have hl : lv_has ls 2 [(0, .ref (adr (g.1 + 189) 8 0)), (1, .int a1)] := hl
  rw [f_X8_empties] at hf
  refine lv_aload_n hx hb dX8_empties_0 rfl (lv_at hl 0 rfl) ?_
  refine lv_aload_n hx hb dX8_empties_1 rfl (lv_at hl 0 rfl) ?_
  refine x_get (i := (g.1 + 189)) (k := 8) (j := 0) (t := 1) hx hb hts i_8 hown hK hW ⟨⟨hfl, rfl⟩, by decide⟩ rfl ⟨by decide, by decide, rfl⟩ (hts (.fieldLink RX8 7 "OpticalJukeboxModel" "now" "[I") (by decide +kernel)) (v := .ref (adr (g.1 + 189) 30 0)) rfl dX8_empties_2 ?_
  refine lv_bipush (v := 17) hx hb dX8_empties_5 (by decide) ?_
  refine lv_iload_n hx hb dX8_empties_7 rfl (lv_at hl 1 rfl) ?_
  refine lv_iadd hx hb dX8_empties_8 ?_
  obtain ⟨hg1, hf⟩ := x_guardE hf
  refine x_iald (i := (g.1 + 189)) (k := 30) (j := 0) (f := md 30 0) hx hb hK hW ⟨⟨hfl, rfl⟩, by decide⟩ (by decide) (rfl) rfl hg1 dX8_empties_9 ?_
  obtain ⟨q2, h_q2, hf⟩ := x_bindE hf
  refine x_cv0 (x_rV ⟨hx, hb, hml, hown, hts⟩ (ct_X8_goes l g hfl w md mn mw ((md 30 0 (((17 : Int32) + a1)).toNatClampNeg)) h_q2) (cwV 1 hts gX8_empties_X8_goes rfl rfl rfl (by decide +kernel) ⟨Nat.le_of_ble_eq_true rfl, Nat.le_of_ble_eq_true rfl⟩) hK hW hS (x_recv (i := (g.1 + 189)) (k := 8) (j := 0) hK hW ⟨⟨hfl, rfl⟩, by decide⟩ rfl (by decide)) rfl hl.1 (rest := []) rfl (Nat.le_of_ble_eq_true rfl) dX8_empties_10 ⟨Nat.le_of_ble_eq_true rfl, Nat.le_of_ble_eq_true rfl⟩) hS (fun H locs hW hS => ?_)
  have hW : World g (wM w q2 mn mw) H := hW
  refine lv_aload_n hx hb dX8_empties_13 rfl (lv_at hl 0 rfl) ?_
  obtain ⟨q3, h_q3, hf⟩ := x_bindE hf
  refine x_cv0 (x_rV ⟨hx, hb, hml, hown, hts⟩ (ct_X8_grips l g hfl w q2 mn mw  h_q3) (cwV 0 hts gX8_empties_X8_grips rfl rfl rfl (by decide +kernel) ⟨Nat.le_of_ble_eq_true rfl, Nat.le_of_ble_eq_true rfl⟩) hK hW hS (x_recv (i := (g.1 + 189)) (k := 8) (j := 0) hK hW ⟨⟨hfl, rfl⟩, by decide⟩ rfl (by decide)) rfl hl.1 (rest := []) rfl (Nat.le_of_ble_eq_true rfl) dX8_empties_14 ⟨Nat.le_of_ble_eq_true rfl, Nat.le_of_ble_eq_true rfl⟩) hS (fun H locs hW hS => ?_)
  have hW : World g (wM w q3 mn mw) H := hW
  refine lv_aload_n hx hb dX8_empties_17 rfl (lv_at hl 0 rfl) ?_
  refine lv_aload_n hx hb dX8_empties_18 rfl (lv_at hl 0 rfl) ?_
  refine x_get (i := (g.1 + 189)) (k := 8) (j := 0) (t := 1) hx hb hts i_8 hown hK hW ⟨⟨hfl, rfl⟩, by decide⟩ rfl ⟨by decide, by decide, rfl⟩ (hts (.fieldLink RX8 7 "OpticalJukeboxModel" "now" "[I") (by decide +kernel)) (v := .ref (adr (g.1 + 189) 30 0)) rfl dX8_empties_19 ?_
  refine lv_bipush (v := 29) hx hb dX8_empties_22 (by decide) ?_
  refine lv_aload_n hx hb dX8_empties_24 rfl (lv_at hl 0 rfl) ?_
  refine x_get (i := (g.1 + 189)) (k := 8) (j := 0) (t := 1) hx hb hts i_8 hown hK hW ⟨⟨hfl, rfl⟩, by decide⟩ rfl ⟨by decide, by decide, rfl⟩ (hts (.fieldLink RX8 7 "OpticalJukeboxModel" "now" "[I") (by decide +kernel)) (v := .ref (adr (g.1 + 189) 30 0)) rfl dX8_empties_25 ?_
  refine lv_bipush (v := 21) hx hb dX8_empties_28 (by decide) ?_
  refine lv_iload_n hx hb dX8_empties_30 rfl (lv_at hl 1 rfl) ?_
  refine lv_iadd hx hb dX8_empties_31 ?_
  obtain ⟨hg4, hf⟩ := x_guardE hf
  refine x_iald (i := (g.1 + 189)) (k := 30) (j := 0) (f := q3 30 0) hx hb hK hW ⟨⟨hfl, rfl⟩, by decide⟩ (by decide) (rfl) rfl hg4 dX8_empties_32 ?_
  refine lv_iadd hx hb dX8_empties_33 ?_
  obtain ⟨hg5, hf⟩ := x_guardE hf
  refine x_iald (i := (g.1 + 189)) (k := 30) (j := 0) (f := q3 30 0) hx hb hK hW ⟨⟨hfl, rfl⟩, by decide⟩ (by decide) (rfl) rfl hg5 dX8_empties_34 ?_
  obtain ⟨q6, h_q6, hf⟩ := x_bindE hf
  refine x_cv0 (x_rV ⟨hx, hb, hml, hown, hts⟩ (ct_X8_goes l g hfl w q3 mn mw ((q3 30 0 (((29 : Int32) + (q3 30 0 (((21 : Int32) + a1)).toNatClampNeg))).toNatClampNeg)) h_q6) (cwV 1 hts gX8_empties_X8_goes rfl rfl rfl (by decide +kernel) ⟨Nat.le_of_ble_eq_true rfl, Nat.le_of_ble_eq_true rfl⟩) hK hW hS (x_recv (i := (g.1 + 189)) (k := 8) (j := 0) hK hW ⟨⟨hfl, rfl⟩, by decide⟩ rfl (by decide)) rfl hl.1 (rest := []) rfl (Nat.le_of_ble_eq_true rfl) dX8_empties_35 ⟨Nat.le_of_ble_eq_true rfl, Nat.le_of_ble_eq_true rfl⟩) hS (fun H locs hW hS => ?_)
  have hW : World g (wM w q6 mn mw) H := hW
  refine lv_aload_n hx hb dX8_empties_38 rfl (lv_at hl 0 rfl) ?_
  obtain ⟨q7, h_q7, hf⟩ := x_bindE hf
  refine x_cv0 (x_rV ⟨hx, hb, hml, hown, hts⟩ (ct_X8_grips l g hfl w q6 mn mw  h_q7) (cwV 0 hts gX8_empties_X8_grips rfl rfl rfl (by decide +kernel) ⟨Nat.le_of_ble_eq_true rfl, Nat.le_of_ble_eq_true rfl⟩) hK hW hS (x_recv (i := (g.1 + 189)) (k := 8) (j := 0) hK hW ⟨⟨hfl, rfl⟩, by decide⟩ rfl (by decide)) rfl hl.1 (rest := []) rfl (Nat.le_of_ble_eq_true rfl) dX8_empties_39 ⟨Nat.le_of_ble_eq_true rfl, Nat.le_of_ble_eq_true rfl⟩) hS (fun H locs hW hS => ?_)
  have hW : World g (wM w q7 mn mw) H := hW
  refine lv_aload_n hx hb dX8_empties_42 rfl (lv_at hl 0 rfl) ?_
  refine x_get (i := (g.1 + 189)) (k := 8) (j := 0) (t := 1) hx hb hts i_8 hown hK hW ⟨⟨hfl, rfl⟩, by decide⟩ rfl ⟨by decide, by decide, rfl⟩ (hts (.fieldLink RX8 7 "OpticalJukeboxModel" "now" "[I") (by decide +kernel)) (v := .ref (adr (g.1 + 189) 30 0)) rfl dX8_empties_43 ?_
  refine lv_bipush (v := 21) hx hb dX8_empties_46 (by decide) ?_
  refine lv_iload_n hx hb dX8_empties_48 rfl (lv_at hl 1 rfl) ?_
  refine lv_iadd hx hb dX8_empties_49 ?_
  refine lv_iconst (v := -1) hx hb dX8_empties_50 (by decide) ?_
  obtain ⟨hg8, hf⟩ := x_guardE hf
  obtain ⟨md9, e_md9, hf⟩ := x_letE hf
  refine x_iast (i := (g.1 + 189)) (k := 30) (j := 0) (w' := wM w md9 mn mw) hx hb hK hW ⟨⟨hfl, rfl⟩, by decide⟩ hS (by decide) rfl rfl rfl hg8 dX8_empties_51 (fp_M e_md9 rfl) (fun H locs hW hS => ?_)
  cases hf
  exact x_vret hx hb hr hlocks hK hW hS dX8_empties_52
abbrev rm_X8_uses : Room := { frames := 0, cells := 0, slots := 0, locals := 0 }
set_option maxRecDepth 100000 in
set_option maxHeartbeats 4000000 in
theorem ct_X8_uses (l : Launch) (g : GT) (hfl : 2 ≤ gf g) (w : WT) (md : SD) (mn : Nat → Int64) (mw : Int64) (a1 : Int32) {q : SD} (hf : f_X8_uses md a1 = some q) : Met l yX8_uses wsX8_uses rm_X8_uses (cPre g (wM w md mn mw) [.ref (adr (g.1 + 189) 8 0), .int a1]) (cQv g (wM w q mn mw)) 0 0 (gA g) := by
  have i_8 : ∀ w ∈ u_ws RX8 TX8 27, w ∈ wsX8_uses := by decide +kernel
  refine x_met (by decide) rfl (Nat.le_of_ble_eq_true rfl) ?_
  intro p e s m below meth c hx hb hr hml hts hown hlocks hK hW hS ls hl
  have hown : s.vm.findClass RX8 = some m.cls := hown
  have hl : lv_has ls 2 [(0, .ref (adr (g.1 + 189) 8 0)), (1, .int a1)] := hl
  rw [f_X8_uses] at hf
  refine lv_aload_n hx hb dX8_uses_0 rfl (lv_at hl 0 rfl) ?_
  refine x_get (i := (g.1 + 189)) (k := 8) (j := 0) (t := 1) hx hb hts i_8 hown hK hW ⟨⟨hfl, rfl⟩, by decide⟩ rfl ⟨by decide, by decide, rfl⟩ (hts (.fieldLink RX8 7 "OpticalJukeboxModel" "now" "[I") (by decide +kernel)) (v := .ref (adr (g.1 + 189) 30 0)) rfl dX8_uses_1 ?_
  refine lv_bipush (v := 15) hx hb dX8_uses_4 (by decide) ?_
  refine lv_dup2_11 hx hb dX8_uses_6 rfl rfl ?_
  refine x_iald (i := (g.1 + 189)) (k := 30) (j := 0) (f := md 30 0) hx hb hK hW ⟨⟨hfl, rfl⟩, by decide⟩ (by decide) (rfl) rfl (by unfold vp_in; decide) dX8_uses_7 ?_
  refine W.eq (g2 := F0 m 8 ls [.int (md 30 0 15), .int (15 : Int32), .ref (adr (g.1 + 189) 30 0)]) rfl ?_
  refine lv_iconst (v := 1) hx hb dX8_uses_8 (by decide) ?_
  refine lv_iadd hx hb dX8_uses_9 ?_
  obtain ⟨md1, e_md1, hf⟩ := x_letE hf
  refine x_iast (i := (g.1 + 189)) (k := 30) (j := 0) (w' := wM w md1 mn mw) hx hb hK hW ⟨⟨hfl, rfl⟩, by decide⟩ hS (by decide) rfl rfl rfl (by unfold vp_in; decide) dX8_uses_10 (fp_M e_md1 rfl) (fun H locs hW hS => ?_)
  refine lv_aload_n hx hb dX8_uses_11 rfl (lv_at hl 0 rfl) ?_
  refine x_get (i := (g.1 + 189)) (k := 8) (j := 0) (t := 1) hx hb hts i_8 hown hK hW ⟨⟨hfl, rfl⟩, by decide⟩ rfl ⟨by decide, by decide, rfl⟩ (hts (.fieldLink RX8 7 "OpticalJukeboxModel" "now" "[I") (by decide +kernel)) (v := .ref (adr (g.1 + 189) 30 0)) rfl dX8_uses_12 ?_
  refine lv_bipush (v := 25) hx hb dX8_uses_15 (by decide) ?_
  refine lv_iload_n hx hb dX8_uses_17 rfl (lv_at hl 1 rfl) ?_
  refine lv_iadd hx hb dX8_uses_18 ?_
  refine lv_aload_n hx hb dX8_uses_19 rfl (lv_at hl 0 rfl) ?_
  refine x_get (i := (g.1 + 189)) (k := 8) (j := 0) (t := 1) hx hb hts i_8 hown hK hW ⟨⟨hfl, rfl⟩, by decide⟩ rfl ⟨by decide, by decide, rfl⟩ (hts (.fieldLink RX8 7 "OpticalJukeboxModel" "now" "[I") (by decide +kernel)) (v := .ref (adr (g.1 + 189) 30 0)) rfl dX8_uses_20 ?_
  refine lv_bipush (v := 15) hx hb dX8_uses_23 (by decide) ?_
  refine x_iald (i := (g.1 + 189)) (k := 30) (j := 0) (f := md1 30 0) hx hb hK hW ⟨⟨hfl, rfl⟩, by decide⟩ (by decide) (rfl) rfl (by unfold vp_in; decide) dX8_uses_25 ?_
  refine W.eq (g2 := F0 m 26 ls [.int (md1 30 0 15), .int ((25 : Int32) + a1), .ref (adr (g.1 + 189) 30 0)]) rfl ?_
  obtain ⟨hg2, hf⟩ := x_guardE hf
  obtain ⟨md3, e_md3, hf⟩ := x_letE hf
  refine x_iast (i := (g.1 + 189)) (k := 30) (j := 0) (w' := wM w md3 mn mw) hx hb hK hW ⟨⟨hfl, rfl⟩, by decide⟩ hS (by decide) rfl rfl rfl hg2 dX8_uses_26 (fp_M e_md3 rfl) (fun H locs hW hS => ?_)
  cases hf
  exact x_vret hx hb hr hlocks hK hW hS dX8_uses_27
abbrev rm_X8_brings : Room := { frames := 3, cells := 0, slots := 0, locals := 64 }
set_option maxRecDepth 100000 in
set_option maxHeartbeats 4000000 in
theorem ct_X8_brings (l : Launch) (g : GT) (hfl : 2 ≤ gf g) (w : WT) (md : SD) (mn : Nat → Int64) (mw : Int64) (a1 : Int32) (a2 : Int32) {q : SD} (hf : f_X8_brings md a1 a2 = some q) : Met l yX8_brings wsX8_brings rm_X8_brings (cPre g (wM w md mn mw) [.ref (adr (g.1 + 189) 8 0), .int a1, .int a2]) (cQv g (wM w q mn mw)) 0 0 (gA g) := by
  have i_8 : ∀ w ∈ u_ws RX8 TX8 27, w ∈ wsX8_brings := by decide +kernel
  refine x_met (by decide) rfl (Nat.le_of_ble_eq_true rfl) ?_
  intro p e s m below meth c hx hb hr hml hts hown hlocks hK hW hS ls hl
  have hown : s.vm.findClass RX8 = some m.cls := hown
  have hl : lv_has ls 3 [(0, .ref (adr (g.1 + 189) 8 0)), (1, .int a1), (2, .int a2)] := hl
  rw [f_X8_brings] at hf
  refine lv_aload_n hx hb dX8_brings_0 rfl (lv_at hl 0 rfl) ?_
  refine x_get (i := (g.1 + 189)) (k := 8) (j := 0) (t := 1) hx hb hts i_8 hown hK hW ⟨⟨hfl, rfl⟩, by decide⟩ rfl ⟨by decide, by decide, rfl⟩ (hts (.fieldLink RX8 7 "OpticalJukeboxModel" "now" "[I") (by decide +kernel)) (v := .ref (adr (g.1 + 189) 30 0)) rfl dX8_brings_1 ?_
  refine lv_bipush (v := 21) hx hb dX8_brings_4 (by decide) ?_
  refine lv_iload_n hx hb dX8_brings_6 rfl (lv_at hl 2 rfl) ?_
  refine lv_iadd hx hb dX8_brings_7 ?_
  obtain ⟨hg1, hf⟩ := x_guardE hf
  refine x_iald (i := (g.1 + 189)) (k := 30) (j := 0) (f := md 30 0) hx hb hK hW ⟨⟨hfl, rfl⟩, by decide⟩ (by decide) (rfl) rfl hg1 dX8_brings_8 ?_
  refine lv_iconst (v := -1) hx hb dX8_brings_9 (by decide) ?_
  obtain ⟨K2, eK2, hf⟩ := x_letE hf
  have KK2 : ∀ (md3 : SD) (ls : Array Slot) (H : Heap) (locs : List Loc), lv_has ls 3 [(0, .ref (adr (g.1 + 189) 8 0)), (1, .int a1), (2, .int a2)] → World g (wM w md3 mn mw) H → va_S (gA g) s.heap H locs → K2 md3 = some q → W p l e rm_X8_brings s m [.ref (adr (g.1 + 189) 8 0), .int a1, .int a2].toArray below meth c H locs 0 0 (MQ below (cQv g (wM w q mn mw)) [.ref (adr (g.1 + 189) 8 0), .int a1, .int a2].toArray s 0 0 (gA g)) (F0 m 18 ls []) := by
    intro md3 ls H locs hl hW hS hf
    subst eK2
    refine lv_aload_n hx hb dX8_brings_18 rfl (lv_at hl 0 rfl) ?_
    refine lv_aload_n hx hb dX8_brings_19 rfl (lv_at hl 0 rfl) ?_
    refine x_get (i := (g.1 + 189)) (k := 8) (j := 0) (t := 1) hx hb hts i_8 hown hK hW ⟨⟨hfl, rfl⟩, by decide⟩ rfl ⟨by decide, by decide, rfl⟩ (hts (.fieldLink RX8 7 "OpticalJukeboxModel" "now" "[I") (by decide +kernel)) (v := .ref (adr (g.1 + 189) 30 0)) rfl dX8_brings_20 ?_
    refine lv_bipush (v := 29) hx hb dX8_brings_23 (by decide) ?_
    refine lv_iload_n hx hb dX8_brings_25 rfl (lv_at hl 1 rfl) ?_
    refine lv_iadd hx hb dX8_brings_26 ?_
    obtain ⟨hg4, hf⟩ := x_guardE hf
    refine x_iald (i := (g.1 + 189)) (k := 30) (j := 0) (f := md3 30 0) hx hb hK hW ⟨⟨hfl, rfl⟩, by decide⟩ (by decide) (rfl) rfl hg4 dX8_brings_27 ?_
    obtain ⟨q5, h_q5, hf⟩ := x_bindE hf
    refine x_cv0 (x_rV ⟨hx, hb, hml, hown, hts⟩ (ct_X8_goes l g hfl w md3 mn mw ((md3 30 0 (((29 : Int32) + a1)).toNatClampNeg)) h_q5) (cwV 1 hts gX8_brings_X8_goes rfl rfl rfl (by decide +kernel) ⟨Nat.le_of_ble_eq_true rfl, Nat.le_of_ble_eq_true rfl⟩) hK hW hS (x_recv (i := (g.1 + 189)) (k := 8) (j := 0) hK hW ⟨⟨hfl, rfl⟩, by decide⟩ rfl (by decide)) rfl hl.1 (rest := []) rfl (Nat.le_of_ble_eq_true rfl) dX8_brings_28 ⟨Nat.le_of_ble_eq_true rfl, Nat.le_of_ble_eq_true rfl⟩) hS (fun H locs hW hS => ?_)
    have hW : World g (wM w q5 mn mw) H := hW
    refine lv_aload_n hx hb dX8_brings_31 rfl (lv_at hl 0 rfl) ?_
    obtain ⟨q6, h_q6, hf⟩ := x_bindE hf
    refine x_cv0 (x_rV ⟨hx, hb, hml, hown, hts⟩ (ct_X8_grips l g hfl w q5 mn mw  h_q6) (cwV 0 hts gX8_brings_X8_grips rfl rfl rfl (by decide +kernel) ⟨Nat.le_of_ble_eq_true rfl, Nat.le_of_ble_eq_true rfl⟩) hK hW hS (x_recv (i := (g.1 + 189)) (k := 8) (j := 0) hK hW ⟨⟨hfl, rfl⟩, by decide⟩ rfl (by decide)) rfl hl.1 (rest := []) rfl (Nat.le_of_ble_eq_true rfl) dX8_brings_32 ⟨Nat.le_of_ble_eq_true rfl, Nat.le_of_ble_eq_true rfl⟩) hS (fun H locs hW hS => ?_)
    have hW : World g (wM w q6 mn mw) H := hW
    refine lv_aload_n hx hb dX8_brings_35 rfl (lv_at hl 0 rfl) ?_
    refine lv_aload_n hx hb dX8_brings_36 rfl (lv_at hl 0 rfl) ?_
    refine x_get (i := (g.1 + 189)) (k := 8) (j := 0) (t := 1) hx hb hts i_8 hown hK hW ⟨⟨hfl, rfl⟩, by decide⟩ rfl ⟨by decide, by decide, rfl⟩ (hts (.fieldLink RX8 7 "OpticalJukeboxModel" "now" "[I") (by decide +kernel)) (v := .ref (adr (g.1 + 189) 30 0)) rfl dX8_brings_37 ?_
    refine lv_bipush (v := 17) hx hb dX8_brings_40 (by decide) ?_
    refine lv_iload_n hx hb dX8_brings_42 rfl (lv_at hl 2 rfl) ?_
    refine lv_iadd hx hb dX8_brings_43 ?_
    obtain ⟨hg7, hf⟩ := x_guardE hf
    refine x_iald (i := (g.1 + 189)) (k := 30) (j := 0) (f := q6 30 0) hx hb hK hW ⟨⟨hfl, rfl⟩, by decide⟩ (by decide) (rfl) rfl hg7 dX8_brings_44 ?_
    obtain ⟨q8, h_q8, hf⟩ := x_bindE hf
    refine x_cv0 (x_rV ⟨hx, hb, hml, hown, hts⟩ (ct_X8_goes l g hfl w q6 mn mw ((q6 30 0 (((17 : Int32) + a2)).toNatClampNeg)) h_q8) (cwV 1 hts gX8_brings_X8_goes rfl rfl rfl (by decide +kernel) ⟨Nat.le_of_ble_eq_true rfl, Nat.le_of_ble_eq_true rfl⟩) hK hW hS (x_recv (i := (g.1 + 189)) (k := 8) (j := 0) hK hW ⟨⟨hfl, rfl⟩, by decide⟩ rfl (by decide)) rfl hl.1 (rest := []) rfl (Nat.le_of_ble_eq_true rfl) dX8_brings_45 ⟨Nat.le_of_ble_eq_true rfl, Nat.le_of_ble_eq_true rfl⟩) hS (fun H locs hW hS => ?_)
    have hW : World g (wM w q8 mn mw) H := hW
    refine lv_aload_n hx hb dX8_brings_48 rfl (lv_at hl 0 rfl) ?_
    obtain ⟨q9, h_q9, hf⟩ := x_bindE hf
    refine x_cv0 (x_rV ⟨hx, hb, hml, hown, hts⟩ (ct_X8_grips l g hfl w q8 mn mw  h_q9) (cwV 0 hts gX8_brings_X8_grips rfl rfl rfl (by decide +kernel) ⟨Nat.le_of_ble_eq_true rfl, Nat.le_of_ble_eq_true rfl⟩) hK hW hS (x_recv (i := (g.1 + 189)) (k := 8) (j := 0) hK hW ⟨⟨hfl, rfl⟩, by decide⟩ rfl (by decide)) rfl hl.1 (rest := []) rfl (Nat.le_of_ble_eq_true rfl) dX8_brings_49 ⟨Nat.le_of_ble_eq_true rfl, Nat.le_of_ble_eq_true rfl⟩) hS (fun H locs hW hS => ?_)
    have hW : World g (wM w q9 mn mw) H := hW
    refine lv_aload_n hx hb dX8_brings_52 rfl (lv_at hl 0 rfl) ?_
    refine x_get (i := (g.1 + 189)) (k := 8) (j := 0) (t := 1) hx hb hts i_8 hown hK hW ⟨⟨hfl, rfl⟩, by decide⟩ rfl ⟨by decide, by decide, rfl⟩ (hts (.fieldLink RX8 7 "OpticalJukeboxModel" "now" "[I") (by decide +kernel)) (v := .ref (adr (g.1 + 189) 30 0)) rfl dX8_brings_53 ?_
    refine lv_bipush (v := 21) hx hb dX8_brings_56 (by decide) ?_
    refine lv_iload_n hx hb dX8_brings_58 rfl (lv_at hl 2 rfl) ?_
    refine lv_iadd hx hb dX8_brings_59 ?_
    refine lv_iload_n hx hb dX8_brings_60 rfl (lv_at hl 1 rfl) ?_
    obtain ⟨hg10, hf⟩ := x_guardE hf
    obtain ⟨md11, e_md11, hf⟩ := x_letE hf
    refine x_iast (i := (g.1 + 189)) (k := 30) (j := 0) (w' := wM w md11 mn mw) hx hb hK hW ⟨⟨hfl, rfl⟩, by decide⟩ hS (by decide) rfl rfl rfl hg10 dX8_brings_61 (fp_M e_md11 rfl) (fun H locs hW hS => ?_)
    refine lv_aload_n hx hb dX8_brings_62 rfl (lv_at hl 0 rfl) ?_
    refine x_get (i := (g.1 + 189)) (k := 8) (j := 0) (t := 1) hx hb hts i_8 hown hK hW ⟨⟨hfl, rfl⟩, by decide⟩ rfl ⟨by decide, by decide, rfl⟩ (hts (.fieldLink RX8 7 "OpticalJukeboxModel" "now" "[I") (by decide +kernel)) (v := .ref (adr (g.1 + 189) 30 0)) rfl dX8_brings_63 ?_
    refine lv_bipush (v := 12) hx hb dX8_brings_66 (by decide) ?_
    refine lv_dup2_11 hx hb dX8_brings_68 rfl rfl ?_
    refine x_iald (i := (g.1 + 189)) (k := 30) (j := 0) (f := md11 30 0) hx hb hK hW ⟨⟨hfl, rfl⟩, by decide⟩ (by decide) (rfl) rfl (by unfold vp_in; decide) dX8_brings_69 ?_
    refine W.eq (g2 := F0 m 70 ls [.int (md11 30 0 12), .int (12 : Int32), .ref (adr (g.1 + 189) 30 0)]) rfl ?_
    refine lv_aload_n hx hb dX8_brings_70 rfl (lv_at hl 0 rfl) ?_
    refine x_get (i := (g.1 + 189)) (k := 8) (j := 0) (t := 1) hx hb hts i_8 hown hK hW ⟨⟨hfl, rfl⟩, by decide⟩ rfl ⟨by decide, by decide, rfl⟩ (hts (.fieldLink RX8 7 "OpticalJukeboxModel" "now" "[I") (by decide +kernel)) (v := .ref (adr (g.1 + 189) 30 0)) rfl dX8_brings_71 ?_
    refine lv_iconst (v := 3) hx hb dX8_brings_74 (by decide) ?_
    refine x_iald (i := (g.1 + 189)) (k := 30) (j := 0) (f := md11 30 0) hx hb hK hW ⟨⟨hfl, rfl⟩, by decide⟩ (by decide) (rfl) rfl (by unfold vp_in; decide) dX8_brings_75 ?_
    refine W.eq (g2 := F0 m 76 ls [.int (md11 30 0 3), .int (md11 30 0 12), .int (12 : Int32), .ref (adr (g.1 + 189) 30 0)]) rfl ?_
    refine lv_iadd hx hb dX8_brings_76 ?_
    obtain ⟨md12, e_md12, hf⟩ := x_letE hf
    refine x_iast (i := (g.1 + 189)) (k := 30) (j := 0) (w' := wM w md12 mn mw) hx hb hK hW ⟨⟨hfl, rfl⟩, by decide⟩ hS (by decide) rfl rfl rfl (by unfold vp_in; decide) dX8_brings_77 (fp_M e_md12 rfl) (fun H locs hW hS => ?_)
    refine lv_aload_n hx hb dX8_brings_78 rfl (lv_at hl 0 rfl) ?_
    refine x_get (i := (g.1 + 189)) (k := 8) (j := 0) (t := 1) hx hb hts i_8 hown hK hW ⟨⟨hfl, rfl⟩, by decide⟩ rfl ⟨by decide, by decide, rfl⟩ (hts (.fieldLink RX8 7 "OpticalJukeboxModel" "now" "[I") (by decide +kernel)) (v := .ref (adr (g.1 + 189) 30 0)) rfl dX8_brings_79 ?_
    refine lv_bipush (v := 13) hx hb dX8_brings_82 (by decide) ?_
    refine lv_dup2_11 hx hb dX8_brings_84 rfl rfl ?_
    refine x_iald (i := (g.1 + 189)) (k := 30) (j := 0) (f := md12 30 0) hx hb hK hW ⟨⟨hfl, rfl⟩, by decide⟩ (by decide) (rfl) rfl (by unfold vp_in; decide) dX8_brings_85 ?_
    refine W.eq (g2 := F0 m 86 ls [.int (md12 30 0 13), .int (13 : Int32), .ref (adr (g.1 + 189) 30 0)]) rfl ?_
    refine lv_iconst (v := 1) hx hb dX8_brings_86 (by decide) ?_
    refine lv_iadd hx hb dX8_brings_87 ?_
    obtain ⟨md13, e_md13, hf⟩ := x_letE hf
    refine x_iast (i := (g.1 + 189)) (k := 30) (j := 0) (w' := wM w md13 mn mw) hx hb hK hW ⟨⟨hfl, rfl⟩, by decide⟩ hS (by decide) rfl rfl rfl (by unfold vp_in; decide) dX8_brings_88 (fp_M e_md13 rfl) (fun H locs hW hS => ?_)
    refine lv_aload_n hx hb dX8_brings_89 rfl (lv_at hl 0 rfl) ?_
    refine lv_iload_n hx hb dX8_brings_90 rfl (lv_at hl 2 rfl) ?_
    obtain ⟨q14, h_q14, hf⟩ := x_bindE hf
    refine x_cv0 (x_rV ⟨hx, hb, hml, hown, hts⟩ (ct_X8_uses l g hfl w md13 mn mw (a2) h_q14) (cwV 1 hts gX8_brings_X8_uses rfl rfl rfl (by decide +kernel) ⟨Nat.le_of_ble_eq_true rfl, Nat.le_of_ble_eq_true rfl⟩) hK hW hS (x_recv (i := (g.1 + 189)) (k := 8) (j := 0) hK hW ⟨⟨hfl, rfl⟩, by decide⟩ rfl (by decide)) rfl hl.1 (rest := []) rfl (Nat.le_of_ble_eq_true rfl) dX8_brings_91 ⟨Nat.le_of_ble_eq_true rfl, Nat.le_of_ble_eq_true rfl⟩) hS (fun H locs hW hS => ?_)
    have hW : World g (wM w q14 mn mw) H := hW
    cases hf
    exact x_vret hx hb hr hlocks hK hW hS dX8_brings_94
  clear eK2
  refine lv_icmp_eq (tgt := 18) hx hb dX8_brings_10 (by decide) (fun hc => ?_) (fun hc => ?_)
  · have hf := x_iteT hf hc
    exact KK2 (md) ls _ _ hl hW hS hf
  · have hf := x_iteF hf hc
    refine lv_aload_n hx hb dX8_brings_13 rfl (lv_at hl 0 rfl) ?_
    refine lv_iload_n hx hb dX8_brings_14 rfl (lv_at hl 2 rfl) ?_
    obtain ⟨q15, h_q15, hf⟩ := x_bindE hf
    refine x_cv0 (x_rV ⟨hx, hb, hml, hown, hts⟩ (ct_X8_empties l g hfl w md mn mw (a2) h_q15) (cwV 1 hts gX8_brings_X8_empties rfl rfl rfl (by decide +kernel) ⟨Nat.le_of_ble_eq_true rfl, Nat.le_of_ble_eq_true rfl⟩) hK hW hS (x_recv (i := (g.1 + 189)) (k := 8) (j := 0) hK hW ⟨⟨hfl, rfl⟩, by decide⟩ rfl (by decide)) rfl hl.1 (rest := []) rfl (Nat.le_of_ble_eq_true rfl) dX8_brings_15 ⟨Nat.le_of_ble_eq_true rfl, Nat.le_of_ble_eq_true rfl⟩) hS (fun H locs hW hS => ?_)
    have hW : World g (wM w q15 mn mw) H := hW
    exact KK2 (q15) ls _ _ hl hW hS hf
abbrev rm_X8_freeDrive : Room := { frames := 0, cells := 0, slots := 0, locals := 0 }
set_option maxRecDepth 100000 in
set_option maxHeartbeats 4000000 in
theorem ct_X8_freeDrive (l : Launch) (g : GT) (hfl : 2 ≤ gf g) (w : WT) (md : SD) (mn : Nat → Int64) (mw : Int64) {q : Int32} (hf : f_X8_freeDrive md  = some q) : Met l yX8_freeDrive wsX8_freeDrive rm_X8_freeDrive (cPre g (wM w md mn mw) [.ref (adr (g.1 + 189) 8 0)]) (cQi g q (wM w md mn mw)) 0 0 (gA g) := by
  have i_8 : ∀ w ∈ u_ws RX8 TX8 27, w ∈ wsX8_freeDrive := by decide +kernel
  refine x_met (by decide) rfl (Nat.le_of_ble_eq_true rfl) ?_
  intro p e s m below meth c hx hb hr hml hts hown hlocks hK hW hS ls hl
  have hown : s.vm.findClass RX8 = some m.cls := hown
  have hl : lv_has ls 3 [(0, .ref (adr (g.1 + 189) 8 0))] := hl
  rw [f_X8_freeDrive] at hf
  refine lv_iconst (v := -1) hx hb dX8_freeDrive_0 (by decide) ?_
  refine lv_istore_n (lv' := [(1, .int (-1 : Int32)), (0, .ref (adr (g.1 + 189) 8 0))]) hx hb dX8_freeDrive_1 rfl hl (by decide) rfl (fun ls hl => ?_)
  refine lv_aload_n hx hb dX8_freeDrive_2 rfl (lv_at hl 1 rfl) ?_
  refine x_get (i := (g.1 + 189)) (k := 8) (j := 0) (t := 1) hx hb hts i_8 hown hK hW ⟨⟨hfl, rfl⟩, by decide⟩ rfl ⟨by decide, by decide, rfl⟩ (hts (.fieldLink RX8 7 "OpticalJukeboxModel" "now" "[I") (by decide +kernel)) (v := .ref (adr (g.1 + 189) 30 0)) rfl dX8_freeDrive_3 ?_
  refine lv_bipush (v := 6) hx hb dX8_freeDrive_6 (by decide) ?_
  refine x_iald (i := (g.1 + 189)) (k := 30) (j := 0) (f := md 30 0) hx hb hK hW ⟨⟨hfl, rfl⟩, by decide⟩ (by decide) (rfl) rfl (by unfold vp_in; decide) dX8_freeDrive_8 ?_
  refine W.eq (g2 := F0 m 9 ls [.int (md 30 0 6)]) rfl ?_
  refine lv_iconst (v := 1) hx hb dX8_freeDrive_9 (by decide) ?_
  refine lv_isub hx hb dX8_freeDrive_10 ?_
  obtain ⟨x1, e_x1, hf⟩ := x_letE hf
  refine x_topi e_x1 ?_
  refine lv_istore_n (lv' := [(2, .int x1), (1, .int (-1 : Int32)), (0, .ref (adr (g.1 + 189) 8 0))]) hx hb dX8_freeDrive_11 rfl hl (by decide) rfl (fun ls hl => ?_)
  have L12 : ∀ (n : Nat) (v1_12 : Int32) (v2_12 : Int32) (ls : Array Slot) (H : Heap) (locs : List Loc), lv_has ls 3 [(0, .ref (adr (g.1 + 189) 8 0)), (1, .int v1_12), (2, .int v2_12)] → World g (wM w md mn mw) H → va_S (gA g) s.heap H locs → f_X8_freeDrive_L12 md n v1_12 v2_12 = some q → W p l e rm_X8_freeDrive s m [.ref (adr (g.1 + 189) 8 0)].toArray below meth c H locs 0 0 (MQ below (cQi g q (wM w md mn mw)) [.ref (adr (g.1 + 189) 8 0)].toArray s 0 0 (gA g)) (F0 m 12 ls []) := by
    clear hW hS hl
    intro n
    induction n with
    | zero => intro v1_12 v2_12 ls H locs hl hW hS hf; cases hf
    | succ n_12 ih =>
      intro v1_12 v2_12 ls H locs hl hW hS hf
      rw [f_X8_freeDrive_L12] at hf
      refine lv_iload_n hx hb dX8_freeDrive_12 rfl (lv_at hl 2 rfl) ?_
      refine lv_if_lt (tgt := 37) hx hb dX8_freeDrive_13 (by decide) (fun hc => ?_) (fun hc => ?_)
      · have hf := x_iteT hf hc
        refine lv_iload_n hx hb dX8_freeDrive_37 rfl (lv_at hl 1 rfl) ?_
        refine lv_iconst (v := -1) hx hb dX8_freeDrive_38 (by decide) ?_
        refine lv_icmp_eq (tgt := 44) hx hb dX8_freeDrive_39 (by decide) (fun hc => ?_) (fun hc => ?_)
        · have hf := x_iteT hf hc
          refine lv_iconst (v := 0) hx hb dX8_freeDrive_44 (by decide) ?_
          refine lv_istore_n (lv' := [(1, .int (0 : Int32)), (0, .ref (adr (g.1 + 189) 8 0)), (2, .int v2_12)]) hx hb dX8_freeDrive_45 rfl hl (by decide) rfl (fun ls hl => ?_)
          refine lv_iconst (v := 1) hx hb dX8_freeDrive_46 (by decide) ?_
          refine lv_istore_n (lv' := [(2, .int (1 : Int32)), (1, .int (0 : Int32)), (0, .ref (adr (g.1 + 189) 8 0))]) hx hb dX8_freeDrive_47 rfl hl (by decide) rfl (fun ls hl => ?_)
          have L48 : ∀ (n : Nat) (v1_48 : Int32) (v2_48 : Int32) (ls : Array Slot) (H : Heap) (locs : List Loc), lv_has ls 3 [(0, .ref (adr (g.1 + 189) 8 0)), (1, .int v1_48), (2, .int v2_48)] → World g (wM w md mn mw) H → va_S (gA g) s.heap H locs → f_X8_freeDrive_L48 md n v1_48 v2_48 = some q → W p l e rm_X8_freeDrive s m [.ref (adr (g.1 + 189) 8 0)].toArray below meth c H locs 0 0 (MQ below (cQi g q (wM w md mn mw)) [.ref (adr (g.1 + 189) 8 0)].toArray s 0 0 (gA g)) (F0 m 48 ls []) := by
            clear hW hS hl
            intro n
            induction n with
            | zero => intro v1_48 v2_48 ls H locs hl hW hS hf; cases hf
            | succ n_48 ih =>
              intro v1_48 v2_48 ls H locs hl hW hS hf
              rw [f_X8_freeDrive_L48] at hf
              refine lv_iload_n hx hb dX8_freeDrive_48 rfl (lv_at hl 2 rfl) ?_
              refine lv_aload_n hx hb dX8_freeDrive_49 rfl (lv_at hl 0 rfl) ?_
              refine x_get (i := (g.1 + 189)) (k := 8) (j := 0) (t := 1) hx hb hts i_8 hown hK hW ⟨⟨hfl, rfl⟩, by decide⟩ rfl ⟨by decide, by decide, rfl⟩ (hts (.fieldLink RX8 7 "OpticalJukeboxModel" "now" "[I") (by decide +kernel)) (v := .ref (adr (g.1 + 189) 30 0)) rfl dX8_freeDrive_50 ?_
              refine lv_bipush (v := 6) hx hb dX8_freeDrive_53 (by decide) ?_
              refine x_iald (i := (g.1 + 189)) (k := 30) (j := 0) (f := md 30 0) hx hb hK hW ⟨⟨hfl, rfl⟩, by decide⟩ (by decide) (rfl) rfl (by unfold vp_in; decide) dX8_freeDrive_55 ?_
              refine W.eq (g2 := F0 m 56 ls [.int (md 30 0 6), .int v2_48]) rfl ?_
              refine lv_icmp_ge (tgt := 88) hx hb dX8_freeDrive_56 (by decide) (fun hc => ?_) (fun hc => ?_)
              · have hf := x_iteT hf hc
                refine lv_iload_n hx hb dX8_freeDrive_88 rfl (lv_at hl 1 rfl) ?_
                cases hf
                exact x_iret hx hb hr hlocks hK hW hS rfl dX8_freeDrive_89
              · have hf := x_iteF hf hc
                refine lv_aload_n hx hb dX8_freeDrive_59 rfl (lv_at hl 0 rfl) ?_
                refine x_get (i := (g.1 + 189)) (k := 8) (j := 0) (t := 1) hx hb hts i_8 hown hK hW ⟨⟨hfl, rfl⟩, by decide⟩ rfl ⟨by decide, by decide, rfl⟩ (hts (.fieldLink RX8 7 "OpticalJukeboxModel" "now" "[I") (by decide +kernel)) (v := .ref (adr (g.1 + 189) 30 0)) rfl dX8_freeDrive_60 ?_
                refine lv_bipush (v := 25) hx hb dX8_freeDrive_63 (by decide) ?_
                refine lv_iload_n hx hb dX8_freeDrive_65 rfl (lv_at hl 2 rfl) ?_
                refine lv_iadd hx hb dX8_freeDrive_66 ?_
                obtain ⟨hg2, hf⟩ := x_guardE hf
                refine x_iald (i := (g.1 + 189)) (k := 30) (j := 0) (f := md 30 0) hx hb hK hW ⟨⟨hfl, rfl⟩, by decide⟩ (by decide) (rfl) rfl hg2 dX8_freeDrive_67 ?_
                refine lv_aload_n hx hb dX8_freeDrive_68 rfl (lv_at hl 0 rfl) ?_
                refine x_get (i := (g.1 + 189)) (k := 8) (j := 0) (t := 1) hx hb hts i_8 hown hK hW ⟨⟨hfl, rfl⟩, by decide⟩ rfl ⟨by decide, by decide, rfl⟩ (hts (.fieldLink RX8 7 "OpticalJukeboxModel" "now" "[I") (by decide +kernel)) (v := .ref (adr (g.1 + 189) 30 0)) rfl dX8_freeDrive_69 ?_
                refine lv_bipush (v := 25) hx hb dX8_freeDrive_72 (by decide) ?_
                refine lv_iload_n hx hb dX8_freeDrive_74 rfl (lv_at hl 1 rfl) ?_
                refine lv_iadd hx hb dX8_freeDrive_75 ?_
                obtain ⟨hg3, hf⟩ := x_guardE hf
                refine x_iald (i := (g.1 + 189)) (k := 30) (j := 0) (f := md 30 0) hx hb hK hW ⟨⟨hfl, rfl⟩, by decide⟩ (by decide) (rfl) rfl hg3 dX8_freeDrive_76 ?_
                refine lv_icmp_ge (tgt := 82) hx hb dX8_freeDrive_77 (by decide) (fun hc => ?_) (fun hc => ?_)
                · have hf := x_iteT hf hc
                  obtain ⟨x4, e_x4, hf⟩ := x_letE hf
                  refine lv_iinc (v := x4) (lv' := [(2, .int x4), (0, .ref (adr (g.1 + 189) 8 0)), (1, .int v1_48)]) hx hb dX8_freeDrive_82 hl (k := 2) rfl (by rw [e_x4]; rfl) (by decide) rfl (fun ls hl => ?_)
                  refine lv_goto (tgt := 48) hx hb dX8_freeDrive_85 (by decide) ?_
                  exact ih (v1_48) (x4) ls _ _ (lv_sub hl [1, 2, 0] rfl) hW hS hf
                · have hf := x_iteF hf hc
                  refine lv_iload_n hx hb dX8_freeDrive_80 rfl (lv_at hl 2 rfl) ?_
                  refine lv_istore_n (lv' := [(1, .int v2_48), (0, .ref (adr (g.1 + 189) 8 0)), (2, .int v2_48)]) hx hb dX8_freeDrive_81 rfl hl (by decide) rfl (fun ls hl => ?_)
                  obtain ⟨x5, e_x5, hf⟩ := x_letE hf
                  refine lv_iinc (v := x5) (lv' := [(2, .int x5), (1, .int v2_48), (0, .ref (adr (g.1 + 189) 8 0))]) hx hb dX8_freeDrive_82 hl (k := 2) rfl (by rw [e_x5]; rfl) (by decide) rfl (fun ls hl => ?_)
                  refine lv_goto (tgt := 48) hx hb dX8_freeDrive_85 (by decide) ?_
                  exact ih (v2_48) (x5) ls _ _ (lv_sub hl [2, 1, 0] rfl) hW hS hf
          exact L48 fuel ((0 : Int32)) ((1 : Int32)) ls _ _ (lv_sub hl [2, 1, 0] rfl) hW hS hf
        · have hf := x_iteF hf hc
          refine lv_iload_n hx hb dX8_freeDrive_42 rfl (lv_at hl 1 rfl) ?_
          cases hf
          exact x_iret hx hb hr hlocks hK hW hS rfl dX8_freeDrive_43
      · have hf := x_iteF hf hc
        refine lv_aload_n hx hb dX8_freeDrive_16 rfl (lv_at hl 0 rfl) ?_
        refine x_get (i := (g.1 + 189)) (k := 8) (j := 0) (t := 1) hx hb hts i_8 hown hK hW ⟨⟨hfl, rfl⟩, by decide⟩ rfl ⟨by decide, by decide, rfl⟩ (hts (.fieldLink RX8 7 "OpticalJukeboxModel" "now" "[I") (by decide +kernel)) (v := .ref (adr (g.1 + 189) 30 0)) rfl dX8_freeDrive_17 ?_
        refine lv_bipush (v := 21) hx hb dX8_freeDrive_20 (by decide) ?_
        refine lv_iload_n hx hb dX8_freeDrive_22 rfl (lv_at hl 2 rfl) ?_
        refine lv_iadd hx hb dX8_freeDrive_23 ?_
        obtain ⟨hg6, hf⟩ := x_guardE hf
        refine x_iald (i := (g.1 + 189)) (k := 30) (j := 0) (f := md 30 0) hx hb hK hW ⟨⟨hfl, rfl⟩, by decide⟩ (by decide) (rfl) rfl hg6 dX8_freeDrive_24 ?_
        refine lv_iconst (v := -1) hx hb dX8_freeDrive_25 (by decide) ?_
        refine lv_icmp_ne (tgt := 31) hx hb dX8_freeDrive_26 (by decide) (fun hc => ?_) (fun hc => ?_)
        · have hf := x_iteF hf hc
          obtain ⟨x7, e_x7, hf⟩ := x_letE hf
          refine lv_iinc (v := x7) (lv' := [(2, .int x7), (0, .ref (adr (g.1 + 189) 8 0)), (1, .int v1_12)]) hx hb dX8_freeDrive_31 hl (k := 2) rfl (by rw [e_x7]; rfl) (by decide) rfl (fun ls hl => ?_)
          refine lv_goto (tgt := 12) hx hb dX8_freeDrive_34 (by decide) ?_
          exact ih (v1_12) (x7) ls _ _ (lv_sub hl [1, 2, 0] rfl) hW hS hf
        · have hf := x_iteT hf hc
          refine lv_iload_n hx hb dX8_freeDrive_29 rfl (lv_at hl 2 rfl) ?_
          refine lv_istore_n (lv' := [(1, .int v2_12), (0, .ref (adr (g.1 + 189) 8 0)), (2, .int v2_12)]) hx hb dX8_freeDrive_30 rfl hl (by decide) rfl (fun ls hl => ?_)
          obtain ⟨x8, e_x8, hf⟩ := x_letE hf
          refine lv_iinc (v := x8) (lv' := [(2, .int x8), (1, .int v2_12), (0, .ref (adr (g.1 + 189) 8 0))]) hx hb dX8_freeDrive_31 hl (k := 2) rfl (by rw [e_x8]; rfl) (by decide) rfl (fun ls hl => ?_)
          refine lv_goto (tgt := 12) hx hb dX8_freeDrive_34 (by decide) ?_
          exact ih (v2_12) (x8) ls _ _ (lv_sub hl [2, 1, 0] rfl) hW hS hf
  exact L12 fuel ((-1 : Int32)) (x1) ls _ _ (lv_sub hl [2, 1, 0] rfl) hW hS hf
abbrev rm_X8_chosen : Room := { frames := 1, cells := 0, slots := 0, locals := 22 }
set_option maxRecDepth 100000 in
set_option maxHeartbeats 4000000 in
theorem ct_X8_chosen (l : Launch) (g : GT) (hfl : 2 ≤ gf g) (w : WT) (md : SD) (mn : Nat → Int64) (mw : Int64) (a1 : Int32) {q : Int32} (hf : f_X8_chosen md a1 = some q) : Met l yX8_chosen wsX8_chosen rm_X8_chosen (cPre g (wM w md mn mw) [.ref (adr (g.1 + 189) 8 0), .int a1]) (cQi g q (wM w md mn mw)) 0 0 (gA g) := by
  refine x_met (by decide) rfl (Nat.le_of_ble_eq_true rfl) ?_
  intro p e s m below meth c hx hb hr hml hts hown hlocks hK hW hS ls hl
  have hown : s.vm.findClass RX8 = some m.cls := hown
  have hl : lv_has ls 3 [(0, .ref (adr (g.1 + 189) 8 0)), (1, .int a1)] := hl
  rw [f_X8_chosen] at hf
  refine lv_aload_n hx hb dX8_chosen_0 rfl (lv_at hl 0 rfl) ?_
  refine lv_iload_n hx hb dX8_chosen_1 rfl (lv_at hl 1 rfl) ?_
  obtain ⟨q1, h_q1, hf⟩ := x_bindE hf
  refine x_ci0 (x_rV ⟨hx, hb, hml, hown, hts⟩ (ct_X8_inDrive l g hfl w md mn mw (a1) h_q1) (cwV 1 hts gX8_chosen_X8_inDrive rfl rfl rfl (by decide +kernel) ⟨Nat.le_of_ble_eq_true rfl, Nat.le_of_ble_eq_true rfl⟩) hK hW hS (x_recv (i := (g.1 + 189)) (k := 8) (j := 0) hK hW ⟨⟨hfl, rfl⟩, by decide⟩ rfl (by decide)) rfl hl.1 (rest := []) rfl (Nat.le_of_ble_eq_true rfl) dX8_chosen_2 ⟨Nat.le_of_ble_eq_true rfl, Nat.le_of_ble_eq_true rfl⟩) hS (fun H locs hW hS => ?_)
  have hW : World g (wM w md mn mw) H := hW
  refine W.eq (g2 := F0 m 5 ls [.int q1]) rfl ?_
  refine lv_istore_n (lv' := [(2, .int q1), (0, .ref (adr (g.1 + 189) 8 0)), (1, .int a1)]) hx hb dX8_chosen_5 rfl hl (by decide) rfl (fun ls hl => ?_)
  refine lv_iload_n hx hb dX8_chosen_6 rfl (lv_at hl 0 rfl) ?_
  refine lv_iconst (v := -1) hx hb dX8_chosen_7 (by decide) ?_
  refine lv_icmp_eq (tgt := 15) hx hb dX8_chosen_8 (by decide) (fun hc => ?_) (fun hc => ?_)
  · have hf := x_iteT hf hc
    refine lv_aload_n hx hb dX8_chosen_15 rfl (lv_at hl 1 rfl) ?_
    obtain ⟨q2, h_q2, hf⟩ := x_bindE hf
    refine x_ci0 (x_rV ⟨hx, hb, hml, hown, hts⟩ (ct_X8_freeDrive l g hfl w md mn mw  h_q2) (cwV 0 hts gX8_chosen_X8_freeDrive rfl rfl rfl (by decide +kernel) ⟨Nat.le_of_ble_eq_true rfl, Nat.le_of_ble_eq_true rfl⟩) hK hW hS (x_recv (i := (g.1 + 189)) (k := 8) (j := 0) hK hW ⟨⟨hfl, rfl⟩, by decide⟩ rfl (by decide)) rfl hl.1 (rest := []) rfl (Nat.le_of_ble_eq_true rfl) dX8_chosen_16 ⟨Nat.le_of_ble_eq_true rfl, Nat.le_of_ble_eq_true rfl⟩) hS (fun H locs hW hS => ?_)
    have hW : World g (wM w md mn mw) H := hW
    refine W.eq (g2 := F0 m 19 ls [.int q2]) rfl ?_
    cases hf
    exact x_iret hx hb hr hlocks hK hW hS rfl dX8_chosen_19
  · have hf := x_iteF hf hc
    refine lv_iload_n hx hb dX8_chosen_11 rfl (lv_at hl 0 rfl) ?_
    refine lv_goto (tgt := 19) hx hb dX8_chosen_12 (by decide) ?_
    cases hf
    exact x_iret hx hb hr hlocks hK hW hS rfl dX8_chosen_19
abbrev rm_X8_mounts : Room := { frames := 4, cells := 0, slots := 0, locals := 86 }
set_option maxRecDepth 100000 in
set_option maxHeartbeats 4000000 in
theorem ct_X8_mounts (l : Launch) (g : GT) (hfl : 2 ≤ gf g) (w : WT) (md : SD) (mn : Nat → Int64) (mw : Int64) (a1 : Int32) {q : (Int32 × SD)} (hf : f_X8_mounts md a1 = some q) : Met l yX8_mounts wsX8_mounts rm_X8_mounts (cPre g (wM w md mn mw) [.ref (adr (g.1 + 189) 8 0), .int a1]) (cQi g q.1 (wM w q.2 mn mw)) 0 0 (gA g) := by
  refine x_met (by decide) rfl (Nat.le_of_ble_eq_true rfl) ?_
  intro p e s m below meth c hx hb hr hml hts hown hlocks hK hW hS ls hl
  have hown : s.vm.findClass RX8 = some m.cls := hown
  have hl : lv_has ls 3 [(0, .ref (adr (g.1 + 189) 8 0)), (1, .int a1)] := hl
  rw [f_X8_mounts] at hf
  refine lv_aload_n hx hb dX8_mounts_0 rfl (lv_at hl 0 rfl) ?_
  refine lv_iload_n hx hb dX8_mounts_1 rfl (lv_at hl 1 rfl) ?_
  obtain ⟨q1, h_q1, hf⟩ := x_bindE hf
  refine x_ci0 (x_rV ⟨hx, hb, hml, hown, hts⟩ (ct_X8_chosen l g hfl w md mn mw (a1) h_q1) (cwV 1 hts gX8_mounts_X8_chosen rfl rfl rfl (by decide +kernel) ⟨Nat.le_of_ble_eq_true rfl, Nat.le_of_ble_eq_true rfl⟩) hK hW hS (x_recv (i := (g.1 + 189)) (k := 8) (j := 0) hK hW ⟨⟨hfl, rfl⟩, by decide⟩ rfl (by decide)) rfl hl.1 (rest := []) rfl (Nat.le_of_ble_eq_true rfl) dX8_mounts_2 ⟨Nat.le_of_ble_eq_true rfl, Nat.le_of_ble_eq_true rfl⟩) hS (fun H locs hW hS => ?_)
  have hW : World g (wM w md mn mw) H := hW
  refine W.eq (g2 := F0 m 5 ls [.int q1]) rfl ?_
  refine lv_istore_n (lv' := [(2, .int q1), (0, .ref (adr (g.1 + 189) 8 0)), (1, .int a1)]) hx hb dX8_mounts_5 rfl hl (by decide) rfl (fun ls hl => ?_)
  refine lv_aload_n hx hb dX8_mounts_6 rfl (lv_at hl 1 rfl) ?_
  refine lv_iload_n hx hb dX8_mounts_7 rfl (lv_at hl 2 rfl) ?_
  obtain ⟨q2, h_q2, hf⟩ := x_bindE hf
  refine x_ci0 (x_rV ⟨hx, hb, hml, hown, hts⟩ (ct_X8_inDrive l g hfl w md mn mw (a1) h_q2) (cwV 1 hts gX8_mounts_X8_inDrive rfl rfl rfl (by decide +kernel) ⟨Nat.le_of_ble_eq_true rfl, Nat.le_of_ble_eq_true rfl⟩) hK hW hS (x_recv (i := (g.1 + 189)) (k := 8) (j := 0) hK hW ⟨⟨hfl, rfl⟩, by decide⟩ rfl (by decide)) rfl hl.1 (rest := []) rfl (Nat.le_of_ble_eq_true rfl) dX8_mounts_8 ⟨Nat.le_of_ble_eq_true rfl, Nat.le_of_ble_eq_true rfl⟩) hS (fun H locs hW hS => ?_)
  have hW : World g (wM w md mn mw) H := hW
  refine W.eq (g2 := F0 m 11 ls [.int q2]) rfl ?_
  refine lv_iconst (v := -1) hx hb dX8_mounts_11 (by decide) ?_
  obtain ⟨K3, eK3, hf⟩ := x_letE hf
  have KK3 : ∀ (md4 : SD) (ls : Array Slot) (H : Heap) (locs : List Loc), lv_has ls 3 [(0, .ref (adr (g.1 + 189) 8 0)), (1, .int a1), (2, .int q1)] → World g (wM w md4 mn mw) H → va_S (gA g) s.heap H locs → K3 md4 = some q → W p l e rm_X8_mounts s m [.ref (adr (g.1 + 189) 8 0), .int a1].toArray below meth c H locs 0 0 (MQ below (cQi g q.1 (wM w q.2 mn mw)) [.ref (adr (g.1 + 189) 8 0), .int a1].toArray s 0 0 (gA g)) (F0 m 21 ls []) := by
    intro md4 ls H locs hl hW hS hf
    subst eK3
    refine lv_aload_n hx hb dX8_mounts_21 rfl (lv_at hl 0 rfl) ?_
    refine lv_iload_n hx hb dX8_mounts_22 rfl (lv_at hl 2 rfl) ?_
    obtain ⟨q5, h_q5, hf⟩ := x_bindE hf
    refine x_cv0 (x_rV ⟨hx, hb, hml, hown, hts⟩ (ct_X8_uses l g hfl w md4 mn mw (q1) h_q5) (cwV 1 hts gX8_mounts_X8_uses rfl rfl rfl (by decide +kernel) ⟨Nat.le_of_ble_eq_true rfl, Nat.le_of_ble_eq_true rfl⟩) hK hW hS (x_recv (i := (g.1 + 189)) (k := 8) (j := 0) hK hW ⟨⟨hfl, rfl⟩, by decide⟩ rfl (by decide)) rfl hl.1 (rest := []) rfl (Nat.le_of_ble_eq_true rfl) dX8_mounts_23 ⟨Nat.le_of_ble_eq_true rfl, Nat.le_of_ble_eq_true rfl⟩) hS (fun H locs hW hS => ?_)
    have hW : World g (wM w q5 mn mw) H := hW
    refine lv_iload_n hx hb dX8_mounts_26 rfl (lv_at hl 2 rfl) ?_
    cases hf
    exact x_iret hx hb hr hlocks hK hW hS rfl dX8_mounts_27
  clear eK3
  refine lv_icmp_ne (tgt := 21) hx hb dX8_mounts_12 (by decide) (fun hc => ?_) (fun hc => ?_)
  · have hf := x_iteF hf hc
    exact KK3 (md) ls _ _ (lv_sub hl [1, 2, 0] rfl) hW hS hf
  · have hf := x_iteT hf hc
    refine lv_aload_n hx hb dX8_mounts_15 rfl (lv_at hl 1 rfl) ?_
    refine lv_iload_n hx hb dX8_mounts_16 rfl (lv_at hl 2 rfl) ?_
    refine lv_iload_n hx hb dX8_mounts_17 rfl (lv_at hl 0 rfl) ?_
    obtain ⟨q6, h_q6, hf⟩ := x_bindE hf
    refine x_cv0 (x_rV ⟨hx, hb, hml, hown, hts⟩ (ct_X8_brings l g hfl w md mn mw (a1) (q1) h_q6) (cwV 2 hts gX8_mounts_X8_brings rfl rfl rfl (by decide +kernel) ⟨Nat.le_of_ble_eq_true rfl, Nat.le_of_ble_eq_true rfl⟩) hK hW hS (x_recv (i := (g.1 + 189)) (k := 8) (j := 0) hK hW ⟨⟨hfl, rfl⟩, by decide⟩ rfl (by decide)) rfl hl.1 (rest := []) rfl (Nat.le_of_ble_eq_true rfl) dX8_mounts_18 ⟨Nat.le_of_ble_eq_true rfl, Nat.le_of_ble_eq_true rfl⟩) hS (fun H locs hW hS => ?_)
    have hW : World g (wM w q6 mn mw) H := hW
    exact KK3 (q6) ls _ _ (lv_sub hl [1, 2, 0] rfl) hW hS hf
abbrev rm_X8_reads : Room := { frames := 5, cells := 0, slots := 0, locals := 108 }
set_option maxRecDepth 100000 in
set_option maxHeartbeats 4000000 in
theorem ct_X8_reads (l : Launch) (g : GT) (hfl : 2 ≤ gf g) (w : WT) (md : SD) (mn : Nat → Int64) (mw : Int64) (a1 : Int32) {q : SD} (hf : f_X8_reads md a1 = some q) : Met l yX8_reads wsX8_reads rm_X8_reads (cPre g (wM w md mn mw) [.ref (adr (g.1 + 189) 8 0), .int a1]) (cQv g (wM w q mn mw)) 0 0 (gA g) := by
  have i_8 : ∀ w ∈ u_ws RX8 TX8 27, w ∈ wsX8_reads := by decide +kernel
  refine x_met (by decide) rfl (Nat.le_of_ble_eq_true rfl) ?_
  intro p e s m below meth c hx hb hr hml hts hown hlocks hK hW hS ls hl
  have hown : s.vm.findClass RX8 = some m.cls := hown
  have hl : lv_has ls 3 [(0, .ref (adr (g.1 + 189) 8 0)), (1, .int a1)] := hl
  rw [f_X8_reads] at hf
  refine lv_aload_n hx hb dX8_reads_0 rfl (lv_at hl 0 rfl) ?_
  refine lv_aload_n hx hb dX8_reads_1 rfl (lv_at hl 0 rfl) ?_
  refine lv_iload_n hx hb dX8_reads_2 rfl (lv_at hl 1 rfl) ?_
  obtain ⟨q1, h_q1, hf⟩ := x_bindE hf
  refine x_ci0 (x_rV ⟨hx, hb, hml, hown, hts⟩ (ct_X8_platterOf l g hfl w md mn mw (a1) h_q1) (cwV 1 hts gX8_reads_X8_platterOf rfl rfl rfl (by decide +kernel) ⟨Nat.le_of_ble_eq_true rfl, Nat.le_of_ble_eq_true rfl⟩) hK hW hS (x_recv (i := (g.1 + 189)) (k := 8) (j := 0) hK hW ⟨⟨hfl, rfl⟩, by decide⟩ rfl (by decide)) rfl hl.1 (rest := [.ref (adr (g.1 + 189) 8 0)]) rfl (Nat.le_of_ble_eq_true rfl) dX8_reads_3 ⟨Nat.le_of_ble_eq_true rfl, Nat.le_of_ble_eq_true rfl⟩) hS (fun H locs hW hS => ?_)
  have hW : World g (wM w md mn mw) H := hW
  refine W.eq (g2 := F0 m 6 ls [.int q1, .ref (adr (g.1 + 189) 8 0)]) rfl ?_
  obtain ⟨q2, h_q2, hf⟩ := x_bindE hf
  refine x_ci0 (x_rV ⟨hx, hb, hml, hown, hts⟩ (ct_X8_mounts l g hfl w md mn mw (q1) h_q2) (cwV 1 hts gX8_reads_X8_mounts rfl rfl rfl (by decide +kernel) ⟨Nat.le_of_ble_eq_true rfl, Nat.le_of_ble_eq_true rfl⟩) hK hW hS (x_recv (i := (g.1 + 189)) (k := 8) (j := 0) hK hW ⟨⟨hfl, rfl⟩, by decide⟩ rfl (by decide)) rfl hl.1 (rest := []) rfl (Nat.le_of_ble_eq_true rfl) dX8_reads_6 ⟨Nat.le_of_ble_eq_true rfl, Nat.le_of_ble_eq_true rfl⟩) hS (fun H locs hW hS => ?_)
  have hW : World g (wM w q2.2 mn mw) H := hW
  refine W.eq (g2 := F0 m 9 ls [.int q2.1]) rfl ?_
  refine lv_pop hx hb dX8_reads_9 rfl ?_
  refine lv_aload_n hx hb dX8_reads_10 rfl (lv_at hl 0 rfl) ?_
  refine lv_iload_n hx hb dX8_reads_11 rfl (lv_at hl 1 rfl) ?_
  obtain ⟨q3, h_q3, hf⟩ := x_bindE hf
  refine x_ci0 (x_rV ⟨hx, hb, hml, hown, hts⟩ (ct_X8_version l g hfl w q2.2 mn mw (a1) h_q3) (cwV 1 hts gX8_reads_X8_version rfl rfl rfl (by decide +kernel) ⟨Nat.le_of_ble_eq_true rfl, Nat.le_of_ble_eq_true rfl⟩) hK hW hS (x_recv (i := (g.1 + 189)) (k := 8) (j := 0) hK hW ⟨⟨hfl, rfl⟩, by decide⟩ rfl (by decide)) rfl hl.1 (rest := []) rfl (Nat.le_of_ble_eq_true rfl) dX8_reads_12 ⟨Nat.le_of_ble_eq_true rfl, Nat.le_of_ble_eq_true rfl⟩) hS (fun H locs hW hS => ?_)
  have hW : World g (wM w q2.2 mn mw) H := hW
  refine W.eq (g2 := F0 m 15 ls [.int q3]) rfl ?_
  refine lv_istore_n (lv' := [(2, .int q3), (0, .ref (adr (g.1 + 189) 8 0)), (1, .int a1)]) hx hb dX8_reads_15 rfl hl (by decide) rfl (fun ls hl => ?_)
  refine lv_aload_n hx hb dX8_reads_16 rfl (lv_at hl 1 rfl) ?_
  refine x_get (i := (g.1 + 189)) (k := 8) (j := 0) (t := 1) hx hb hts i_8 hown hK hW ⟨⟨hfl, rfl⟩, by decide⟩ rfl ⟨by decide, by decide, rfl⟩ (hts (.fieldLink RX8 7 "OpticalJukeboxModel" "now" "[I") (by decide +kernel)) (v := .ref (adr (g.1 + 189) 30 0)) rfl dX8_reads_17 ?_
  refine lv_bipush (v := 12) hx hb dX8_reads_20 (by decide) ?_
  refine lv_dup2_11 hx hb dX8_reads_22 rfl rfl ?_
  refine x_iald (i := (g.1 + 189)) (k := 30) (j := 0) (f := q2.2 30 0) hx hb hK hW ⟨⟨hfl, rfl⟩, by decide⟩ (by decide) (rfl) rfl (by unfold vp_in; decide) dX8_reads_23 ?_
  refine W.eq (g2 := F0 m 24 ls [.int (q2.2 30 0 12), .int (12 : Int32), .ref (adr (g.1 + 189) 30 0)]) rfl ?_
  refine lv_aload_n hx hb dX8_reads_24 rfl (lv_at hl 1 rfl) ?_
  refine x_get (i := (g.1 + 189)) (k := 8) (j := 0) (t := 1) hx hb hts i_8 hown hK hW ⟨⟨hfl, rfl⟩, by decide⟩ rfl ⟨by decide, by decide, rfl⟩ (hts (.fieldLink RX8 7 "OpticalJukeboxModel" "now" "[I") (by decide +kernel)) (v := .ref (adr (g.1 + 189) 30 0)) rfl dX8_reads_25 ?_
  refine lv_iconst (v := 4) hx hb dX8_reads_28 (by decide) ?_
  refine x_iald (i := (g.1 + 189)) (k := 30) (j := 0) (f := q2.2 30 0) hx hb hK hW ⟨⟨hfl, rfl⟩, by decide⟩ (by decide) (rfl) rfl (by unfold vp_in; decide) dX8_reads_29 ?_
  refine W.eq (g2 := F0 m 30 ls [.int (q2.2 30 0 4), .int (q2.2 30 0 12), .int (12 : Int32), .ref (adr (g.1 + 189) 30 0)]) rfl ?_
  refine lv_aload_n hx hb dX8_reads_30 rfl (lv_at hl 1 rfl) ?_
  refine x_get (i := (g.1 + 189)) (k := 8) (j := 0) (t := 1) hx hb hts i_8 hown hK hW ⟨⟨hfl, rfl⟩, by decide⟩ rfl ⟨by decide, by decide, rfl⟩ (hts (.fieldLink RX8 7 "OpticalJukeboxModel" "now" "[I") (by decide +kernel)) (v := .ref (adr (g.1 + 189) 30 0)) rfl dX8_reads_31 ?_
  refine lv_sipush (v := 429) hx hb dX8_reads_34 (by decide) ?_
  refine lv_iload_n hx hb dX8_reads_37 rfl (lv_at hl 0 rfl) ?_
  refine lv_iadd hx hb dX8_reads_38 ?_
  obtain ⟨hg4, hf⟩ := x_guardE hf
  refine x_iald (i := (g.1 + 189)) (k := 30) (j := 0) (f := q2.2 30 0) hx hb hK hW ⟨⟨hfl, rfl⟩, by decide⟩ (by decide) (rfl) rfl hg4 dX8_reads_39 ?_
  refine lv_aload_n hx hb dX8_reads_40 rfl (lv_at hl 1 rfl) ?_
  refine x_get (i := (g.1 + 189)) (k := 8) (j := 0) (t := 1) hx hb hts i_8 hown hK hW ⟨⟨hfl, rfl⟩, by decide⟩ rfl ⟨by decide, by decide, rfl⟩ (hts (.fieldLink RX8 7 "OpticalJukeboxModel" "now" "[I") (by decide +kernel)) (v := .ref (adr (g.1 + 189) 30 0)) rfl dX8_reads_41 ?_
  refine lv_sipush (v := 509) hx hb dX8_reads_44 (by decide) ?_
  refine lv_iload_n hx hb dX8_reads_47 rfl (lv_at hl 0 rfl) ?_
  refine lv_iadd hx hb dX8_reads_48 ?_
  obtain ⟨hg5, hf⟩ := x_guardE hf
  refine x_iald (i := (g.1 + 189)) (k := 30) (j := 0) (f := q2.2 30 0) hx hb hK hW ⟨⟨hfl, rfl⟩, by decide⟩ (by decide) (rfl) rfl hg5 dX8_reads_49 ?_
  refine lv_iadd hx hb dX8_reads_50 ?_
  refine lv_imul hx hb dX8_reads_51 ?_
  refine lv_iadd hx hb dX8_reads_52 ?_
  obtain ⟨md6, e_md6, hf⟩ := x_letE hf
  refine x_iast (i := (g.1 + 189)) (k := 30) (j := 0) (w' := wM w md6 mn mw) hx hb hK hW ⟨⟨hfl, rfl⟩, by decide⟩ hS (by decide) rfl rfl rfl (by unfold vp_in; decide) dX8_reads_53 (fp_M e_md6 rfl) (fun H locs hW hS => ?_)
  cases hf
  exact x_vret hx hb hr hlocks hK hW hS dX8_reads_54
abbrev rm_X8_tries : Room := { frames := 1, cells := 0, slots := 0, locals := 22 }
set_option maxRecDepth 100000 in
set_option maxHeartbeats 4000000 in
theorem ct_X8_tries (l : Launch) (g : GT) (hfl : 2 ≤ gf g) (w : WT) (md : SD) (mn : Nat → Int64) (mw : Int64) {q : SD} (hf : f_X8_tries md  = some q) : Met l yX8_tries wsX8_tries rm_X8_tries (cPre g (wM w md mn mw) [.ref (adr (g.1 + 189) 8 0)]) (cQv g (wM w q mn mw)) 0 0 (gA g) := by
  have i_8 : ∀ w ∈ u_ws RX8 TX8 27, w ∈ wsX8_tries := by decide +kernel
  refine x_met (by decide) rfl (Nat.le_of_ble_eq_true rfl) ?_
  intro p e s m below meth c hx hb hr hml hts hown hlocks hK hW hS ls hl
  have hown : s.vm.findClass RX8 = some m.cls := hown
  have hl : lv_has ls 1 [(0, .ref (adr (g.1 + 189) 8 0))] := hl
  rw [f_X8_tries] at hf
  refine lv_aload_n hx hb dX8_tries_0 rfl (lv_at hl 0 rfl) ?_
  refine x_get (i := (g.1 + 189)) (k := 8) (j := 0) (t := 1) hx hb hts i_8 hown hK hW ⟨⟨hfl, rfl⟩, by decide⟩ rfl ⟨by decide, by decide, rfl⟩ (hts (.fieldLink RX8 7 "OpticalJukeboxModel" "now" "[I") (by decide +kernel)) (v := .ref (adr (g.1 + 189) 30 0)) rfl dX8_tries_1 ?_
  refine lv_aload_n hx hb dX8_tries_4 rfl (lv_at hl 0 rfl) ?_
  refine x_get (i := (g.1 + 189)) (k := 8) (j := 0) (t := 3) hx hb hts i_8 hown hK hW ⟨⟨hfl, rfl⟩, by decide⟩ rfl ⟨by decide, by decide, rfl⟩ (hts (.fieldLink RX8 16 "OpticalJukeboxModel" "kept" "[I") (by decide +kernel)) (v := .ref (adr (g.1 + 189) 32 0)) rfl dX8_tries_5 ?_
  obtain ⟨q1, h_q1, hf⟩ := x_bindE hf
  refine x_cv0 (x_rS ⟨hx, hb, hml, hown, hts⟩ (ct_X8_copies l g hfl w md mn mw 30 isRow_30 32 isRow_32 h_q1) (va_cwS 2 hts gX8_tries_X8_copies rfl rfl rfl (by decide +kernel) ⟨Nat.le_of_ble_eq_true rfl, Nat.le_of_ble_eq_true rfl⟩) hK hW hS rfl hl.1 (rest := []) rfl (Nat.le_of_ble_eq_true rfl) dX8_tries_8 ⟨Nat.le_of_ble_eq_true rfl, Nat.le_of_ble_eq_true rfl⟩) hS (fun H locs hW hS => ?_)
  have hW : World g (wM w q1 mn mw) H := hW
  refine lv_aload_n hx hb dX8_tries_11 rfl (lv_at hl 0 rfl) ?_
  refine lv_aload_n hx hb dX8_tries_12 rfl (lv_at hl 0 rfl) ?_
  refine x_get (i := (g.1 + 189)) (k := 8) (j := 0) (t := 1) hx hb hts i_8 hown hK hW ⟨⟨hfl, rfl⟩, by decide⟩ rfl ⟨by decide, by decide, rfl⟩ (hts (.fieldLink RX8 7 "OpticalJukeboxModel" "now" "[I") (by decide +kernel)) (v := .ref (adr (g.1 + 189) 30 0)) rfl dX8_tries_13 ?_
  refine lv_bipush (v := 12) hx hb dX8_tries_16 (by decide) ?_
  refine x_iald (i := (g.1 + 189)) (k := 30) (j := 0) (f := q1 30 0) hx hb hK hW ⟨⟨hfl, rfl⟩, by decide⟩ (by decide) (rfl) rfl (by unfold vp_in; decide) dX8_tries_18 ?_
  refine W.eq (g2 := F0 m 19 ls [.int (q1 30 0 12), .ref (adr (g.1 + 189) 8 0)]) rfl ?_
  obtain ⟨md2, e_md2, hf⟩ := x_letE hf
  refine x_put (i := (g.1 + 189)) (k := 8) (j := 0) (t := 6) (w' := wM w md2 mn mw) hx hb hts i_8 tyX8 tyX8_ok nmX8 hown hK hW ⟨⟨hfl, rfl⟩, by decide⟩ hS rfl ⟨by decide, by decide, rfl⟩ (hts (.fieldLink RX8 133 "OpticalJukeboxModel" "begun" "I") (by decide +kernel)) rfl (ty := .int) (by decide +kernel) rfl rfl ⟨rfl, rfl⟩ dX8_tries_19 (fp_M e_md2 rfl) (fun H locs hW hS => ?_)
  cases hf
  exact x_vret hx hb hr hlocks hK hW hS dX8_tries_22
