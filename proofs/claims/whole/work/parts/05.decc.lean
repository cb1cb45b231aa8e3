theorem dX8_init_0 : decode cX8_init 0 = .ok (.aload_n 0, 1) := by decide +kernel
theorem dX8_init_1 : decode cX8_init 1 = .ok (.invokespecial 1, 3) := by decide +kernel
theorem dX8_init_4 : decode cX8_init 4 = .ok (.aload_n 0, 1) := by decide +kernel
theorem dX8_init_5 : decode cX8_init 5 = .ok (.sipush 605, 3) := by decide +kernel
theorem dX8_init_8 : decode cX8_init 8 = .ok (.newarray .int, 2) := by decide +kernel
theorem dX8_init_10 : decode cX8_init 10 = .ok (.putfield 7, 3) := by decide +kernel
theorem dX8_init_13 : decode cX8_init 13 = .ok (.aload_n 0, 1) := by decide +kernel
theorem dX8_init_14 : decode cX8_init 14 = .ok (.sipush 605, 3) := by decide +kernel
theorem dX8_init_17 : decode cX8_init 17 = .ok (.newarray .int, 2) := by decide +kernel
theorem dX8_init_19 : decode cX8_init 19 = .ok (.putfield 13, 3) := by decide +kernel
theorem dX8_init_22 : decode cX8_init 22 = .ok (.aload_n 0, 1) := by decide +kernel
theorem dX8_init_23 : decode cX8_init 23 = .ok (.sipush 605, 3) := by decide +kernel
theorem dX8_init_26 : decode cX8_init 26 = .ok (.newarray .int, 2) := by decide +kernel
theorem dX8_init_28 : decode cX8_init 28 = .ok (.putfield 16, 3) := by decide +kernel
theorem dX8_init_31 : decode cX8_init 31 = .ok (.aload_n 0, 1) := by decide +kernel
theorem dX8_init_32 : decode cX8_init 32 = .ok (.sipush 9680, 3) := by decide +kernel
theorem dX8_init_35 : decode cX8_init 35 = .ok (.newarray .int, 2) := by decide +kernel
theorem dX8_init_37 : decode cX8_init 37 = .ok (.putfield 19, 3) := by decide +kernel
theorem dX8_init_40 : decode cX8_init 40 = .ok (.aload_n 0, 1) := by decide +kernel
theorem dX8_init_41 : decode cX8_init 41 = .ok (.bipush 10, 2) := by decide +kernel
theorem dX8_init_43 : decode cX8_init 43 = .ok (.newarray .int, 2) := by decide +kernel
theorem dX8_init_45 : decode cX8_init 45 = .ok (.putfield 22, 3) := by decide +kernel
theorem dX8_init_48 : decode cX8_init 48 = .ok (.aload_n 0, 1) := by decide +kernel
theorem dX8_init_49 : decode cX8_init 49 = .ok (.bipush 10, 2) := by decide +kernel
theorem dX8_init_51 : decode cX8_init 51 = .ok (.newarray .int, 2) := by decide +kernel
theorem dX8_init_53 : decode cX8_init 53 = .ok (.putfield 25, 3) := by decide +kernel
theorem dX8_init_56 : decode cX8_init 56 = .ok (.aload_n 0, 1) := by decide +kernel
theorem dX8_init_57 : decode cX8_init 57 = .ok (.sipush 10240, 3) := by decide +kernel
theorem dX8_init_60 : decode cX8_init 60 = .ok (.newarray .int, 2) := by decide +kernel
theorem dX8_init_62 : decode cX8_init 62 = .ok (.putfield 28, 3) := by decide +kernel
theorem dX8_init_65 : decode cX8_init 65 = .ok (.aload_n 0, 1) := by decide +kernel
theorem dX8_init_66 : decode cX8_init 66 = .ok (.sipush 600, 3) := by decide +kernel
theorem dX8_init_69 : decode cX8_init 69 = .ok (.newarray .byte, 2) := by decide +kernel
theorem dX8_init_71 : decode cX8_init 71 = .ok (.putfield 31, 3) := by decide +kernel
theorem dX8_init_74 : decode cX8_init 74 = .ok (.aload_n 0, 1) := by decide +kernel
theorem dX8_init_75 : decode cX8_init 75 = .ok (.sipush 900, 3) := by decide +kernel
theorem dX8_init_78 : decode cX8_init 78 = .ok (.newarray .byte, 2) := by decide +kernel
theorem dX8_init_80 : decode cX8_init 80 = .ok (.putfield 35, 3) := by decide +kernel
theorem dX8_init_83 : decode cX8_init 83 = .ok (.aload_n 0, 1) := by decide +kernel
theorem dX8_init_84 : decode cX8_init 84 = .ok (.bipush 20, 2) := by decide +kernel
theorem dX8_init_86 : decode cX8_init 86 = .ok (.newarray .long, 2) := by decide +kernel
theorem dX8_init_88 : decode cX8_init 88 = .ok (.putfield 38, 3) := by decide +kernel
theorem dX8_init_91 : decode cX8_init 91 = .ok (.aload_n 0, 1) := by decide +kernel
theorem dX8_init_92 : decode cX8_init 92 = .ok (.ldc 42, 2) := by decide +kernel
theorem dX8_init_94 : decode cX8_init 94 = .ok (.putfield 43, 3) := by decide +kernel
theorem dX8_init_97 : decode cX8_init 97 = .ok (.aload_n 0, 1) := by decide +kernel
theorem dX8_init_98 : decode cX8_init 98 = .ok (.getfield 7, 3) := by decide +kernel
theorem dX8_init_101 : decode cX8_init 101 = .ok (.invokestatic 47, 3) := by decide +kernel
theorem dX8_init_104 : decode cX8_init 104 = .ok (.return_, 1) := by decide +kernel
theorem dX8_isIn_0 : decode cX8_isIn 0 = .ok (.lload_n 0, 1) := by decide +kernel
theorem dX8_isIn_1 : decode cX8_isIn 1 = .ok (.lload_n 2, 1) := by decide +kernel
theorem dX8_isIn_2 : decode cX8_isIn 2 = .ok (.lcmp, 1) := by decide +kernel
theorem dX8_isIn_3 : decode cX8_isIn 3 = .ok (.ifCond .lt 14, 3) := by decide +kernel
theorem dX8_isIn_6 : decode cX8_isIn 6 = .ok (.lload_n 0, 1) := by decide +kernel
theorem dX8_isIn_7 : decode cX8_isIn 7 = .ok (.lload 4, 2) := by decide +kernel
theorem dX8_isIn_9 : decode cX8_isIn 9 = .ok (.lcmp, 1) := by decide +kernel
theorem dX8_isIn_10 : decode cX8_isIn 10 = .ok (.ifCond .gt 7, 3) := by decide +kernel
theorem dX8_isIn_13 : decode cX8_isIn 13 = .ok (.iconst 1, 1) := by decide +kernel
theorem dX8_isIn_14 : decode cX8_isIn 14 = .ok (.goto 4, 3) := by decide +kernel
theorem dX8_isIn_17 : decode cX8_isIn 17 = .ok (.iconst 0, 1) := by decide +kernel
theorem dX8_isIn_18 : decode cX8_isIn 18 = .ok (.ireturn, 1) := by decide +kernel
theorem dX8_far_0 : decode cX8_far 0 = .ok (.iload_n 0, 1) := by decide +kernel
theorem dX8_far_1 : decode cX8_far 1 = .ok (.iload_n 1, 1) := by decide +kernel
theorem dX8_far_2 : decode cX8_far 2 = .ok (.if_icmp .ge 9, 3) := by decide +kernel
theorem dX8_far_5 : decode cX8_far 5 = .ok (.iload_n 1, 1) := by decide +kernel
theorem dX8_far_6 : decode cX8_far 6 = .ok (.iload_n 0, 1) := by decide +kernel
theorem dX8_far_7 : decode cX8_far 7 = .ok (.isub, 1) := by decide +kernel
theorem dX8_far_8 : decode cX8_far 8 = .ok (.goto 6, 3) := by decide +kernel
theorem dX8_far_11 : decode cX8_far 11 = .ok (.iload_n 0, 1) := by decide +kernel
theorem dX8_far_12 : decode cX8_far 12 = .ok (.iload_n 1, 1) := by decide +kernel
theorem dX8_far_13 : decode cX8_far 13 = .ok (.isub, 1) := by decide +kernel
theorem dX8_far_14 : decode cX8_far 14 = .ok (.ireturn, 1) := by decide +kernel
theorem dX8_defaults_0 : decode cX8_defaults 0 = .ok (.iconst 0, 1) := by decide +kernel
theorem dX8_defaults_1 : decode cX8_defaults 1 = .ok (.istore_n 1, 1) := by decide +kernel
theorem dX8_defaults_2 : decode cX8_defaults 2 = .ok (.iload_n 1, 1) := by decide +kernel
theorem dX8_defaults_3 : decode cX8_defaults 3 = .ok (.sipush 605, 3) := by decide +kernel
theorem dX8_defaults_6 : decode cX8_defaults 6 = .ok (.if_icmp .ge 13, 3) := by decide +kernel
theorem dX8_defaults_9 : decode cX8_defaults 9 = .ok (.aload_n 0, 1) := by decide +kernel
theorem dX8_defaults_10 : decode cX8_defaults 10 = .ok (.iload_n 1, 1) := by decide +kernel
theorem dX8_defaults_11 : decode cX8_defaults 11 = .ok (.iconst 0, 1) := by decide +kernel
theorem dX8_defaults_12 : decode cX8_defaults 12 = .ok (.iastore, 1) := by decide +kernel
theorem dX8_defaults_13 : decode cX8_defaults 13 = .ok (.iinc 1 1, 3) := by decide +kernel
theorem dX8_defaults_16 : decode cX8_defaults 16 = .ok (.goto (-14), 3) := by decide +kernel
theorem dX8_defaults_19 : decode cX8_defaults 19 = .ok (.iconst 0, 1) := by decide +kernel
theorem dX8_defaults_20 : decode cX8_defaults 20 = .ok (.istore_n 1, 1) := by decide +kernel
theorem dX8_defaults_21 : decode cX8_defaults 21 = .ok (.iload_n 1, 1) := by decide +kernel
theorem dX8_defaults_22 : decode cX8_defaults 22 = .ok (.iconst 4, 1) := by decide +kernel
theorem dX8_defaults_23 : decode cX8_defaults 23 = .ok (.if_icmp .ge 16, 3) := by decide +kernel
theorem dX8_defaults_26 : decode cX8_defaults 26 = .ok (.aload_n 0, 1) := by decide +kernel
theorem dX8_defaults_27 : decode cX8_defaults 27 = .ok (.bipush 21, 2) := by decide +kernel
theorem dX8_defaults_29 : decode cX8_defaults 29 = .ok (.iload_n 1, 1) := by decide +kernel
theorem dX8_defaults_30 : decode cX8_defaults 30 = .ok (.iadd, 1) := by decide +kernel
theorem dX8_defaults_31 : decode cX8_defaults 31 = .ok (.iconst (-1), 1) := by decide +kernel
theorem dX8_defaults_32 : decode cX8_defaults 32 = .ok (.iastore, 1) := by decide +kernel
theorem dX8_defaults_33 : decode cX8_defaults 33 = .ok (.iinc 1 1, 3) := by decide +kernel
theorem dX8_defaults_36 : decode cX8_defaults 36 = .ok (.goto (-15), 3) := by decide +kernel
theorem dX8_defaults_39 : decode cX8_defaults 39 = .ok (.aload_n 0, 1) := by decide +kernel
theorem dX8_defaults_40 : decode cX8_defaults 40 = .ok (.iconst 0, 1) := by decide +kernel
theorem dX8_defaults_41 : decode cX8_defaults 41 = .ok (.bipush 12, 2) := by decide +kernel
theorem dX8_defaults_43 : decode cX8_defaults 43 = .ok (.iastore, 1) := by decide +kernel
theorem dX8_defaults_44 : decode cX8_defaults 44 = .ok (.aload_n 0, 1) := by decide +kernel
theorem dX8_defaults_45 : decode cX8_defaults 45 = .ok (.iconst 1, 1) := by decide +kernel
theorem dX8_defaults_46 : decode cX8_defaults 46 = .ok (.iconst 1, 1) := by decide +kernel
theorem dX8_defaults_47 : decode cX8_defaults 47 = .ok (.iastore, 1) := by decide +kernel
theorem dX8_defaults_48 : decode cX8_defaults 48 = .ok (.aload_n 0, 1) := by decide +kernel
theorem dX8_defaults_49 : decode cX8_defaults 49 = .ok (.iconst 2, 1) := by decide +kernel
theorem dX8_defaults_50 : decode cX8_defaults 50 = .ok (.iconst 2, 1) := by decide +kernel
theorem dX8_defaults_51 : decode cX8_defaults 51 = .ok (.iastore, 1) := by decide +kernel
theorem dX8_defaults_52 : decode cX8_defaults 52 = .ok (.aload_n 0, 1) := by decide +kernel
theorem dX8_defaults_53 : decode cX8_defaults 53 = .ok (.iconst 3, 1) := by decide +kernel
theorem dX8_defaults_54 : decode cX8_defaults 54 = .ok (.iconst 5, 1) := by decide +kernel
theorem dX8_defaults_55 : decode cX8_defaults 55 = .ok (.iastore, 1) := by decide +kernel
theorem dX8_defaults_56 : decode cX8_defaults 56 = .ok (.aload_n 0, 1) := by decide +kernel
theorem dX8_defaults_57 : decode cX8_defaults 57 = .ok (.iconst 4, 1) := by decide +kernel
theorem dX8_defaults_58 : decode cX8_defaults 58 = .ok (.iconst 1, 1) := by decide +kernel
theorem dX8_defaults_59 : decode cX8_defaults 59 = .ok (.iastore, 1) := by decide +kernel
theorem dX8_defaults_60 : decode cX8_defaults 60 = .ok (.aload_n 0, 1) := by decide +kernel
theorem dX8_defaults_61 : decode cX8_defaults 61 = .ok (.iconst 5, 1) := by decide +kernel
theorem dX8_defaults_62 : decode cX8_defaults 62 = .ok (.iconst 3, 1) := by decide +kernel
theorem dX8_defaults_63 : decode cX8_defaults 63 = .ok (.iastore, 1) := by decide +kernel
theorem dX8_defaults_64 : decode cX8_defaults 64 = .ok (.return_, 1) := by decide +kernel
theorem dX8_copies_0 : decode cX8_copies 0 = .ok (.iconst 0, 1) := by decide +kernel
theorem dX8_copies_1 : decode cX8_copies 1 = .ok (.istore_n 2, 1) := by decide +kernel
theorem dX8_copies_2 : decode cX8_copies 2 = .ok (.iload_n 2, 1) := by decide +kernel
theorem dX8_copies_3 : decode cX8_copies 3 = .ok (.sipush 605, 3) := by decide +kernel
theorem dX8_copies_6 : decode cX8_copies 6 = .ok (.if_icmp .ge 15, 3) := by decide +kernel
theorem dX8_copies_9 : decode cX8_copies 9 = .ok (.aload_n 1, 1) := by decide +kernel
theorem dX8_copies_10 : decode cX8_copies 10 = .ok (.iload_n 2, 1) := by decide +kernel
theorem dX8_copies_11 : decode cX8_copies 11 = .ok (.aload_n 0, 1) := by decide +kernel
theorem dX8_copies_12 : decode cX8_copies 12 = .ok (.iload_n 2, 1) := by decide +kernel
theorem dX8_copies_13 : decode cX8_copies 13 = .ok (.iaload, 1) := by decide +kernel
theorem dX8_copies_14 : decode cX8_copies 14 = .ok (.iastore, 1) := by decide +kernel
theorem dX8_copies_15 : decode cX8_copies 15 = .ok (.iinc 2 1, 3) := by decide +kernel
theorem dX8_copies_18 : decode cX8_copies 18 = .ok (.goto (-16), 3) := by decide +kernel
theorem dX8_copies_21 : decode cX8_copies 21 = .ok (.return_, 1) := by decide +kernel
theorem dX8_remembers_0 : decode cX8_remembers 0 = .ok (.aload_n 0, 1) := by decide +kernel
theorem dX8_remembers_1 : decode cX8_remembers 1 = .ok (.getfield 54, 3) := by decide +kernel
theorem dX8_remembers_4 : decode cX8_remembers 4 = .ok (.bipush 16, 2) := by decide +kernel
theorem dX8_remembers_6 : decode cX8_remembers 6 = .ok (.if_icmp .ne 44, 3) := by decide +kernel
theorem dX8_remembers_9 : decode cX8_remembers 9 = .ok (.iconst 0, 1) := by decide +kernel
theorem dX8_remembers_10 : decode cX8_remembers 10 = .ok (.istore_n 1, 1) := by decide +kernel
theorem dX8_remembers_11 : decode cX8_remembers 11 = .ok (.iload_n 1, 1) := by decide +kernel
theorem dX8_remembers_12 : decode cX8_remembers 12 = .ok (.sipush 9075, 3) := by decide +kernel
theorem dX8_remembers_15 : decode cX8_remembers 15 = .ok (.if_icmp .ge 25, 3) := by decide +kernel
theorem dX8_remembers_18 : decode cX8_remembers 18 = .ok (.aload_n 0, 1) := by decide +kernel
theorem dX8_remembers_19 : decode cX8_remembers 19 = .ok (.getfield 19, 3) := by decide +kernel
theorem dX8_remembers_22 : decode cX8_remembers 22 = .ok (.iload_n 1, 1) := by decide +kernel
theorem dX8_remembers_23 : decode cX8_remembers 23 = .ok (.aload_n 0, 1) := by decide +kernel
theorem dX8_remembers_24 : decode cX8_remembers 24 = .ok (.getfield 19, 3) := by decide +kernel
theorem dX8_remembers_27 : decode cX8_remembers 27 = .ok (.iload_n 1, 1) := by decide +kernel
theorem dX8_remembers_28 : decode cX8_remembers 28 = .ok (.sipush 605, 3) := by decide +kernel
theorem dX8_remembers_31 : decode cX8_remembers 31 = .ok (.iadd, 1) := by decide +kernel
theorem dX8_remembers_32 : decode cX8_remembers 32 = .ok (.iaload, 1) := by decide +kernel
theorem dX8_remembers_33 : decode cX8_remembers 33 = .ok (.iastore, 1) := by decide +kernel
theorem dX8_remembers_34 : decode cX8_remembers 34 = .ok (.iinc 1 1, 3) := by decide +kernel
theorem dX8_remembers_37 : decode cX8_remembers 37 = .ok (.goto (-26), 3) := by decide +kernel
theorem dX8_remembers_40 : decode cX8_remembers 40 = .ok (.aload_n 0, 1) := by decide +kernel
theorem dX8_remembers_41 : decode cX8_remembers 41 = .ok (.dup, 1) := by decide +kernel
theorem dX8_remembers_42 : decode cX8_remembers 42 = .ok (.getfield 54, 3) := by decide +kernel
theorem dX8_remembers_45 : decode cX8_remembers 45 = .ok (.iconst 1, 1) := by decide +kernel
theorem dX8_remembers_46 : decode cX8_remembers 46 = .ok (.isub, 1) := by decide +kernel
theorem dX8_remembers_47 : decode cX8_remembers 47 = .ok (.putfield 54, 3) := by decide +kernel
theorem dX8_remembers_50 : decode cX8_remembers 50 = .ok (.iconst 0, 1) := by decide +kernel
theorem dX8_remembers_51 : decode cX8_remembers 51 = .ok (.istore_n 1, 1) := by decide +kernel
theorem dX8_remembers_52 : decode cX8_remembers 52 = .ok (.iload_n 1, 1) := by decide +kernel
theorem dX8_remembers_53 : decode cX8_remembers 53 = .ok (.sipush 605, 3) := by decide +kernel
theorem dX8_remembers_56 : decode cX8_remembers 56 = .ok (.if_icmp .ge 30, 3) := by decide +kernel
theorem dX8_remembers_59 : decode cX8_remembers 59 = .ok (.aload_n 0, 1) := by decide +kernel
theorem dX8_remembers_60 : decode cX8_remembers 60 = .ok (.getfield 19, 3) := by decide +kernel
theorem dX8_remembers_63 : decode cX8_remembers 63 = .ok (.sipush 605, 3) := by decide +kernel
theorem dX8_remembers_66 : decode cX8_remembers 66 = .ok (.aload_n 0, 1) := by decide +kernel
theorem dX8_remembers_67 : decode cX8_remembers 67 = .ok (.getfield 54, 3) := by decide +kernel
theorem dX8_remembers_70 : decode cX8_remembers 70 = .ok (.imul, 1) := by decide +kernel
theorem dX8_remembers_71 : decode cX8_remembers 71 = .ok (.iload_n 1, 1) := by decide +kernel
theorem dX8_remembers_72 : decode cX8_remembers 72 = .ok (.iadd, 1) := by decide +kernel
theorem dX8_remembers_73 : decode cX8_remembers 73 = .ok (.aload_n 0, 1) := by decide +kernel
theorem dX8_remembers_74 : decode cX8_remembers 74 = .ok (.getfield 7, 3) := by decide +kernel
theorem dX8_remembers_77 : decode cX8_remembers 77 = .ok (.iload_n 1, 1) := by decide +kernel
theorem dX8_remembers_78 : decode cX8_remembers 78 = .ok (.iaload, 1) := by decide +kernel
theorem dX8_remembers_79 : decode cX8_remembers 79 = .ok (.iastore, 1) := by decide +kernel
theorem dX8_remembers_80 : decode cX8_remembers 80 = .ok (.iinc 1 1, 3) := by decide +kernel
theorem dX8_remembers_83 : decode cX8_remembers 83 = .ok (.goto (-31), 3) := by decide +kernel
theorem dX8_remembers_86 : decode cX8_remembers 86 = .ok (.aload_n 0, 1) := by decide +kernel
theorem dX8_remembers_87 : decode cX8_remembers 87 = .ok (.dup, 1) := by decide +kernel
theorem dX8_remembers_88 : decode cX8_remembers 88 = .ok (.getfield 54, 3) := by decide +kernel
theorem dX8_remembers_91 : decode cX8_remembers 91 = .ok (.iconst 1, 1) := by decide +kernel
theorem dX8_remembers_92 : decode cX8_remembers 92 = .ok (.iadd, 1) := by decide +kernel
theorem dX8_remembers_93 : decode cX8_remembers 93 = .ok (.putfield 54, 3) := by decide +kernel
theorem dX8_remembers_96 : decode cX8_remembers 96 = .ok (.return_, 1) := by decide +kernel
set_option maxRecDepth 20000 in
theorem ggX8_isPlatter_X8_isIn : GoodIn wsX8_isPlatter wsX8_isIn := goodIn_r _ [5] (by decide +kernel) (by decide +kernel)
set_option maxRecDepth 20000 in
theorem gX8_isPlatter_X8_isIn : GoodIn wsX8_isPlatter (va_wsS RX8 57 yX8_isIn wsX8_isIn) := goodIn_app (goodIn_of _ (by decide +kernel)) ggX8_isPlatter_X8_isIn
theorem dX8_isPlatter_0 : decode cX8_isPlatter 0 = .ok (.iload_n 1, 1) := by decide +kernel
theorem dX8_isPlatter_1 : decode cX8_isPlatter 1 = .ok (.i2l, 1) := by decide +kernel
theorem dX8_isPlatter_2 : decode cX8_isPlatter 2 = .ok (.lconst 0, 1) := by decide +kernel
theorem dX8_isPlatter_3 : decode cX8_isPlatter 3 = .ok (.aload_n 0, 1) := by decide +kernel
theorem dX8_isPlatter_4 : decode cX8_isPlatter 4 = .ok (.getfield 7, 3) := by decide +kernel
theorem dX8_isPlatter_7 : decode cX8_isPlatter 7 = .ok (.bipush 7, 2) := by decide +kernel
theorem dX8_isPlatter_9 : decode cX8_isPlatter 9 = .ok (.iaload, 1) := by decide +kernel
theorem dX8_isPlatter_10 : decode cX8_isPlatter 10 = .ok (.iconst 1, 1) := by decide +kernel
theorem dX8_isPlatter_11 : decode cX8_isPlatter 11 = .ok (.isub, 1) := by decide +kernel
theorem dX8_isPlatter_12 : decode cX8_isPlatter 12 = .ok (.i2l, 1) := by decide +kernel
theorem dX8_isPlatter_13 : decode cX8_isPlatter 13 = .ok (.invokestatic 57, 3) := by decide +kernel
theorem dX8_isPlatter_16 : decode cX8_isPlatter 16 = .ok (.ireturn, 1) := by decide +kernel
set_option maxRecDepth 20000 in
theorem ggX8_isDrive_X8_isIn : GoodIn wsX8_isDrive wsX8_isIn := goodIn_r _ [5] (by decide +kernel) (by decide +kernel)
set_option maxRecDepth 20000 in
theorem gX8_isDrive_X8_isIn : GoodIn wsX8_isDrive (va_wsS RX8 57 yX8_isIn wsX8_isIn) := goodIn_app (goodIn_of _ (by decide +kernel)) ggX8_isDrive_X8_isIn
theorem dX8_isDrive_0 : decode cX8_isDrive 0 = .ok (.iload_n 1, 1) := by decide +kernel
theorem dX8_isDrive_1 : decode cX8_isDrive 1 = .ok (.i2l, 1) := by decide +kernel
theorem dX8_isDrive_2 : decode cX8_isDrive 2 = .ok (.lconst 0, 1) := by decide +kernel
theorem dX8_isDrive_3 : decode cX8_isDrive 3 = .ok (.aload_n 0, 1) := by decide +kernel
theorem dX8_isDrive_4 : decode cX8_isDrive 4 = .ok (.getfield 7, 3) := by decide +kernel
theorem dX8_isDrive_7 : decode cX8_isDrive 7 = .ok (.bipush 6, 2) := by decide +kernel
theorem dX8_isDrive_9 : decode cX8_isDrive 9 = .ok (.iaload, 1) := by decide +kernel
theorem dX8_isDrive_10 : decode cX8_isDrive 10 = .ok (.iconst 1, 1) := by decide +kernel
theorem dX8_isDrive_11 : decode cX8_isDrive 11 = .ok (.isub, 1) := by decide +kernel
theorem dX8_isDrive_12 : decode cX8_isDrive 12 = .ok (.i2l, 1) := by decide +kernel
theorem dX8_isDrive_13 : decode cX8_isDrive 13 = .ok (.invokestatic 57, 3) := by decide +kernel
theorem dX8_isDrive_16 : decode cX8_isDrive 16 = .ok (.ireturn, 1) := by decide +kernel
set_option maxRecDepth 20000 in
theorem ggX8_isSlot_X8_isIn : GoodIn wsX8_isSlot wsX8_isIn := goodIn_r _ [5] (by decide +kernel) (by decide +kernel)
set_option maxRecDepth 20000 in
theorem gX8_isSlot_X8_isIn : GoodIn wsX8_isSlot (va_wsS RX8 57 yX8_isIn wsX8_isIn) := goodIn_app (goodIn_of _ (by decide +kernel)) ggX8_isSlot_X8_isIn
theorem dX8_isSlot_0 : decode cX8_isSlot 0 = .ok (.iload_n 1, 1) := by decide +kernel
theorem dX8_isSlot_1 : decode cX8_isSlot 1 = .ok (.i2l, 1) := by decide +kernel
theorem dX8_isSlot_2 : decode cX8_isSlot 2 = .ok (.lconst 0, 1) := by decide +kernel
theorem dX8_isSlot_3 : decode cX8_isSlot 3 = .ok (.aload_n 0, 1) := by decide +kernel
theorem dX8_isSlot_4 : decode cX8_isSlot 4 = .ok (.getfield 7, 3) := by decide +kernel
theorem dX8_isSlot_7 : decode cX8_isSlot 7 = .ok (.iconst 0, 1) := by decide +kernel
theorem dX8_isSlot_8 : decode cX8_isSlot 8 = .ok (.iaload, 1) := by decide +kernel
theorem dX8_isSlot_9 : decode cX8_isSlot 9 = .ok (.iconst 1, 1) := by decide +kernel
theorem dX8_isSlot_10 : decode cX8_isSlot 10 = .ok (.isub, 1) := by decide +kernel
theorem dX8_isSlot_11 : decode cX8_isSlot 11 = .ok (.i2l, 1) := by decide +kernel
theorem dX8_isSlot_12 : decode cX8_isSlot 12 = .ok (.invokestatic 57, 3) := by decide +kernel
theorem dX8_isSlot_15 : decode cX8_isSlot 15 = .ok (.ireturn, 1) := by decide +kernel
set_option maxRecDepth 20000 in
theorem ggX8_isFile_X8_isIn : GoodIn wsX8_isFile wsX8_isIn := goodIn_r _ [5] (by decide +kernel) (by decide +kernel)
set_option maxRecDepth 20000 in
theorem gX8_isFile_X8_isIn : GoodIn wsX8_isFile (va_wsS RX8 57 yX8_isIn wsX8_isIn) := goodIn_app (goodIn_of _ (by decide +kernel)) ggX8_isFile_X8_isIn
theorem dX8_isFile_0 : decode cX8_isFile 0 = .ok (.iload_n 1, 1) := by decide +kernel
theorem dX8_isFile_1 : decode cX8_isFile 1 = .ok (.i2l, 1) := by decide +kernel
theorem dX8_isFile_2 : decode cX8_isFile 2 = .ok (.lconst 0, 1) := by decide +kernel
theorem dX8_isFile_3 : decode cX8_isFile 3 = .ok (.aload_n 0, 1) := by decide +kernel
theorem dX8_isFile_4 : decode cX8_isFile 4 = .ok (.getfield 7, 3) := by decide +kernel
theorem dX8_isFile_7 : decode cX8_isFile 7 = .ok (.bipush 9, 2) := by decide +kernel
theorem dX8_isFile_9 : decode cX8_isFile 9 = .ok (.iaload, 1) := by decide +kernel
theorem dX8_isFile_10 : decode cX8_isFile 10 = .ok (.iconst 1, 1) := by decide +kernel
theorem dX8_isFile_11 : decode cX8_isFile 11 = .ok (.isub, 1) := by decide +kernel
theorem dX8_isFile_12 : decode cX8_isFile 12 = .ok (.i2l, 1) := by decide +kernel
theorem dX8_isFile_13 : decode cX8_isFile 13 = .ok (.invokestatic 57, 3) := by decide +kernel
theorem dX8_isFile_16 : decode cX8_isFile 16 = .ok (.ireturn, 1) := by decide +kernel
set_option maxRecDepth 20000 in
theorem ggX8_isSector_X8_isPlatter : GoodIn wsX8_isSector wsX8_isPlatter := goodIn_r _ [6, 1, 7, 8, 5, 9, 10, 11, 12, 13, 14, 15, 16, 17, 18, 19, 20, 21, 22, 23, 24, 25, 26, 27, 28, 29, 30, 31, 32, 33, 34, 35, 36] (by decide +kernel) (by decide +kernel)
set_option maxRecDepth 20000 in
theorem gX8_isSector_X8_isPlatter : GoodIn wsX8_isSector (wsV RX8 61 RX8 yX8_isPlatter wsX8_isPlatter) := goodIn_app (goodIn_of _ (by decide +kernel)) ggX8_isSector_X8_isPlatter
set_option maxRecDepth 20000 in
theorem ggX8_isSector_X8_isIn : GoodIn wsX8_isSector wsX8_isIn := goodIn_r _ [9] (by decide +kernel) (by decide +kernel)
set_option maxRecDepth 20000 in
theorem gX8_isSector_X8_isIn : GoodIn wsX8_isSector (va_wsS RX8 57 yX8_isIn wsX8_isIn) := goodIn_app (goodIn_of _ (by decide +kernel)) ggX8_isSector_X8_isIn
theorem dX8_isSector_0 : decode cX8_isSector 0 = .ok (.aload_n 0, 1) := by decide +kernel
theorem dX8_isSector_1 : decode cX8_isSector 1 = .ok (.iload_n 1, 1) := by decide +kernel
theorem dX8_isSector_2 : decode cX8_isSector 2 = .ok (.invokevirtual 61, 3) := by decide +kernel
theorem dX8_isSector_5 : decode cX8_isSector 5 = .ok (.ifCond .eq 28, 3) := by decide +kernel
theorem dX8_isSector_8 : decode cX8_isSector 8 = .ok (.iload_n 2, 1) := by decide +kernel
theorem dX8_isSector_9 : decode cX8_isSector 9 = .ok (.i2l, 1) := by decide +kernel
theorem dX8_isSector_10 : decode cX8_isSector 10 = .ok (.lconst 0, 1) := by decide +kernel
theorem dX8_isSector_11 : decode cX8_isSector 11 = .ok (.aload_n 0, 1) := by decide +kernel
theorem dX8_isSector_12 : decode cX8_isSector 12 = .ok (.getfield 7, 3) := by decide +kernel
theorem dX8_isSector_15 : decode cX8_isSector 15 = .ok (.bipush 39, 2) := by decide +kernel
theorem dX8_isSector_17 : decode cX8_isSector 17 = .ok (.iload_n 1, 1) := by decide +kernel
theorem dX8_isSector_18 : decode cX8_isSector 18 = .ok (.iadd, 1) := by decide +kernel
theorem dX8_isSector_19 : decode cX8_isSector 19 = .ok (.iaload, 1) := by decide +kernel
theorem dX8_isSector_20 : decode cX8_isSector 20 = .ok (.iconst 1, 1) := by decide +kernel
theorem dX8_isSector_21 : decode cX8_isSector 21 = .ok (.isub, 1) := by decide +kernel
theorem dX8_isSector_22 : decode cX8_isSector 22 = .ok (.i2l, 1) := by decide +kernel
theorem dX8_isSector_23 : decode cX8_isSector 23 = .ok (.invokestatic 57, 3) := by decide +kernel
theorem dX8_isSector_26 : decode cX8_isSector 26 = .ok (.ifCond .eq 7, 3) := by decide +kernel
theorem dX8_isSector_29 : decode cX8_isSector 29 = .ok (.iconst 1, 1) := by decide +kernel
theorem dX8_isSector_30 : decode cX8_isSector 30 = .ok (.goto 4, 3) := by decide +kernel
theorem dX8_isSector_33 : decode cX8_isSector 33 = .ok (.iconst 0, 1) := by decide +kernel
theorem dX8_isSector_34 : decode cX8_isSector 34 = .ok (.ireturn, 1) := by decide +kernel
set_option maxRecDepth 20000 in
theorem ggX8_isRequest_X8_isIn : GoodIn wsX8_isRequest wsX8_isIn := goodIn_r _ [5] (by decide +kernel) (by decide +kernel)
set_option maxRecDepth 20000 in
theorem gX8_isRequest_X8_isIn : GoodIn wsX8_isRequest (va_wsS RX8 57 yX8_isIn wsX8_isIn) := goodIn_app (goodIn_of _ (by decide +kernel)) ggX8_isRequest_X8_isIn
theorem dX8_isRequest_0 : decode cX8_isRequest 0 = .ok (.iload_n 1, 1) := by decide +kernel
theorem dX8_isRequest_1 : decode cX8_isRequest 1 = .ok (.i2l, 1) := by decide +kernel
theorem dX8_isRequest_2 : decode cX8_isRequest 2 = .ok (.lconst 0, 1) := by decide +kernel
theorem dX8_isRequest_3 : decode cX8_isRequest 3 = .ok (.aload_n 0, 1) := by decide +kernel
theorem dX8_isRequest_4 : decode cX8_isRequest 4 = .ok (.getfield 7, 3) := by decide +kernel
theorem dX8_isRequest_7 : decode cX8_isRequest 7 = .ok (.bipush 16, 2) := by decide +kernel
theorem dX8_isRequest_9 : decode cX8_isRequest 9 = .ok (.iaload, 1) := by decide +kernel
theorem dX8_isRequest_10 : decode cX8_isRequest 10 = .ok (.iconst 1, 1) := by decide +kernel
theorem dX8_isRequest_11 : decode cX8_isRequest 11 = .ok (.isub, 1) := by decide +kernel
theorem dX8_isRequest_12 : decode cX8_isRequest 12 = .ok (.i2l, 1) := by decide +kernel
theorem dX8_isRequest_13 : decode cX8_isRequest 13 = .ok (.invokestatic 57, 3) := by decide +kernel
theorem dX8_isRequest_16 : decode cX8_isRequest 16 = .ok (.ireturn, 1) := by decide +kernel
theorem dX8_isBad_0 : decode cX8_isBad 0 = .ok (.iconst 0, 1) := by decide +kernel
theorem dX8_isBad_1 : decode cX8_isBad 1 = .ok (.istore_n 3, 1) := by decide +kernel
theorem dX8_isBad_2 : decode cX8_isBad 2 = .ok (.iload_n 3, 1) := by decide +kernel
theorem dX8_isBad_3 : decode cX8_isBad 3 = .ok (.aload_n 0, 1) := by decide +kernel
theorem dX8_isBad_4 : decode cX8_isBad 4 = .ok (.bipush 8, 2) := by decide +kernel
theorem dX8_isBad_6 : decode cX8_isBad 6 = .ok (.iaload, 1) := by decide +kernel
theorem dX8_isBad_7 : decode cX8_isBad 7 = .ok (.if_icmp .ge 33, 3) := by decide +kernel
theorem dX8_isBad_10 : decode cX8_isBad 10 = .ok (.aload_n 0, 1) := by decide +kernel
theorem dX8_isBad_11 : decode cX8_isBad 11 = .ok (.sipush 249, 3) := by decide +kernel
theorem dX8_isBad_14 : decode cX8_isBad 14 = .ok (.iload_n 3, 1) := by decide +kernel
theorem dX8_isBad_15 : decode cX8_isBad 15 = .ok (.iadd, 1) := by decide +kernel
theorem dX8_isBad_16 : decode cX8_isBad 16 = .ok (.iaload, 1) := by decide +kernel
theorem dX8_isBad_17 : decode cX8_isBad 17 = .ok (.iload_n 1, 1) := by decide +kernel
theorem dX8_isBad_18 : decode cX8_isBad 18 = .ok (.if_icmp .ne 16, 3) := by decide +kernel
theorem dX8_isBad_21 : decode cX8_isBad 21 = .ok (.aload_n 0, 1) := by decide +kernel
theorem dX8_isBad_22 : decode cX8_isBad 22 = .ok (.sipush 269, 3) := by decide +kernel
theorem dX8_isBad_25 : decode cX8_isBad 25 = .ok (.iload_n 3, 1) := by decide +kernel
theorem dX8_isBad_26 : decode cX8_isBad 26 = .ok (.iadd, 1) := by decide +kernel
theorem dX8_isBad_27 : decode cX8_isBad 27 = .ok (.iaload, 1) := by decide +kernel
theorem dX8_isBad_28 : decode cX8_isBad 28 = .ok (.iload_n 2, 1) := by decide +kernel
theorem dX8_isBad_29 : decode cX8_isBad 29 = .ok (.if_icmp .ne 5, 3) := by decide +kernel
theorem dX8_isBad_32 : decode cX8_isBad 32 = .ok (.iconst 1, 1) := by decide +kernel
theorem dX8_isBad_33 : decode cX8_isBad 33 = .ok (.ireturn, 1) := by decide +kernel
theorem dX8_isBad_34 : decode cX8_isBad 34 = .ok (.iinc 3 1, 3) := by decide +kernel
theorem dX8_isBad_37 : decode cX8_isBad 37 = .ok (.goto (-35), 3) := by decide +kernel
theorem dX8_isBad_40 : decode cX8_isBad 40 = .ok (.iconst 0, 1) := by decide +kernel
theorem dX8_isBad_41 : decode cX8_isBad 41 = .ok (.ireturn, 1) := by decide +kernel
set_option maxRecDepth 20000 in
theorem ggX8_badsIn_X8_isIn : GoodIn wsX8_badsIn wsX8_isIn := goodIn_r _ [4] (by decide +kernel) (by decide +kernel)
set_option maxRecDepth 20000 in
theorem gX8_badsIn_X8_isIn : GoodIn wsX8_badsIn (va_wsS RX8 57 yX8_isIn wsX8_isIn) := goodIn_app (goodIn_of _ (by decide +kernel)) ggX8_badsIn_X8_isIn
theorem dX8_badsIn_0 : decode cX8_badsIn 0 = .ok (.iconst 0, 1) := by decide +kernel
theorem dX8_badsIn_1 : decode cX8_badsIn 1 = .ok (.istore 4, 2) := by decide +kernel
theorem dX8_badsIn_3 : decode cX8_badsIn 3 = .ok (.iconst 0, 1) := by decide +kernel
theorem dX8_badsIn_4 : decode cX8_badsIn 4 = .ok (.istore 5, 2) := by decide +kernel
theorem dX8_badsIn_6 : decode cX8_badsIn 6 = .ok (.iload 5, 2) := by decide +kernel
theorem dX8_badsIn_8 : decode cX8_badsIn 8 = .ok (.aload_n 0, 1) := by decide +kernel
theorem dX8_badsIn_9 : decode cX8_badsIn 9 = .ok (.bipush 8, 2) := by decide +kernel
theorem dX8_badsIn_11 : decode cX8_badsIn 11 = .ok (.iaload, 1) := by decide +kernel
theorem dX8_badsIn_12 : decode cX8_badsIn 12 = .ok (.if_icmp .ge 54, 3) := by decide +kernel
theorem dX8_badsIn_15 : decode cX8_badsIn 15 = .ok (.iload 4, 2) := by decide +kernel
theorem dX8_badsIn_17 : decode cX8_badsIn 17 = .ok (.aload_n 0, 1) := by decide +kernel
theorem dX8_badsIn_18 : decode cX8_badsIn 18 = .ok (.sipush 249, 3) := by decide +kernel
theorem dX8_badsIn_21 : decode cX8_badsIn 21 = .ok (.iload 5, 2) := by decide +kernel
theorem dX8_badsIn_23 : decode cX8_badsIn 23 = .ok (.iadd, 1) := by decide +kernel
theorem dX8_badsIn_24 : decode cX8_badsIn 24 = .ok (.iaload, 1) := by decide +kernel
theorem dX8_badsIn_25 : decode cX8_badsIn 25 = .ok (.iload_n 1, 1) := by decide +kernel
theorem dX8_badsIn_26 : decode cX8_badsIn 26 = .ok (.if_icmp .ne 30, 3) := by decide +kernel
theorem dX8_badsIn_29 : decode cX8_badsIn 29 = .ok (.aload_n 0, 1) := by decide +kernel
theorem dX8_badsIn_30 : decode cX8_badsIn 30 = .ok (.sipush 269, 3) := by decide +kernel
theorem dX8_badsIn_33 : decode cX8_badsIn 33 = .ok (.iload 5, 2) := by decide +kernel
theorem dX8_badsIn_35 : decode cX8_badsIn 35 = .ok (.iadd, 1) := by decide +kernel
theorem dX8_badsIn_36 : decode cX8_badsIn 36 = .ok (.iaload, 1) := by decide +kernel
theorem dX8_badsIn_37 : decode cX8_badsIn 37 = .ok (.i2l, 1) := by decide +kernel
theorem dX8_badsIn_38 : decode cX8_badsIn 38 = .ok (.iload_n 2, 1) := by decide +kernel
theorem dX8_badsIn_39 : decode cX8_badsIn 39 = .ok (.i2l, 1) := by decide +kernel
theorem dX8_badsIn_40 : decode cX8_badsIn 40 = .ok (.iload_n 2, 1) := by decide +kernel
theorem dX8_badsIn_41 : decode cX8_badsIn 41 = .ok (.iload_n 3, 1) := by decide +kernel
theorem dX8_badsIn_42 : decode cX8_badsIn 42 = .ok (.iadd, 1) := by decide +kernel
theorem dX8_badsIn_43 : decode cX8_badsIn 43 = .ok (.iconst 1, 1) := by decide +kernel
theorem dX8_badsIn_44 : decode cX8_badsIn 44 = .ok (.isub, 1) := by decide +kernel
theorem dX8_badsIn_45 : decode cX8_badsIn 45 = .ok (.i2l, 1) := by decide +kernel
theorem dX8_badsIn_46 : decode cX8_badsIn 46 = .ok (.invokestatic 57, 3) := by decide +kernel
theorem dX8_badsIn_49 : decode cX8_badsIn 49 = .ok (.ifCond .eq 7, 3) := by decide +kernel
theorem dX8_badsIn_52 : decode cX8_badsIn 52 = .ok (.iconst 1, 1) := by decide +kernel
theorem dX8_badsIn_53 : decode cX8_badsIn 53 = .ok (.goto 4, 3) := by decide +kernel
theorem dX8_badsIn_56 : decode cX8_badsIn 56 = .ok (.iconst 0, 1) := by decide +kernel
theorem dX8_badsIn_57 : decode cX8_badsIn 57 = .ok (.iadd, 1) := by decide +kernel
theorem dX8_badsIn_58 : decode cX8_badsIn 58 = .ok (.istore 4, 2) := by decide +kernel
theorem dX8_badsIn_60 : decode cX8_badsIn 60 = .ok (.iinc 5 1, 3) := by decide +kernel
theorem dX8_badsIn_63 : decode cX8_badsIn 63 = .ok (.goto (-57), 3) := by decide +kernel
theorem dX8_badsIn_66 : decode cX8_badsIn 66 = .ok (.iload 4, 2) := by decide +kernel
theorem dX8_badsIn_68 : decode cX8_badsIn 68 = .ok (.ireturn, 1) := by decide +kernel
set_option maxRecDepth 20000 in
theorem ggX8_canWrite_X8_badsIn : GoodIn wsX8_canWrite wsX8_badsIn := goodIn_r _ [4, 5, 6, 3, 7] (by decide +kernel) (by decide +kernel)
set_option maxRecDepth 20000 in
theorem gX8_canWrite_X8_badsIn : GoodIn wsX8_canWrite (va_wsS RX8 65 yX8_badsIn wsX8_badsIn) := goodIn_app (goodIn_of _ (by decide +kernel)) ggX8_canWrite_X8_badsIn
theorem dX8_canWrite_0 : decode cX8_canWrite 0 = .ok (.aload_n 0, 1) := by decide +kernel
theorem dX8_canWrite_1 : decode cX8_canWrite 1 = .ok (.bipush 79, 2) := by decide +kernel
theorem dX8_canWrite_3 : decode cX8_canWrite 3 = .ok (.iload_n 1, 1) := by decide +kernel
theorem dX8_canWrite_4 : decode cX8_canWrite 4 = .ok (.iadd, 1) := by decide +kernel
theorem dX8_canWrite_5 : decode cX8_canWrite 5 = .ok (.iaload, 1) := by decide +kernel
theorem dX8_canWrite_6 : decode cX8_canWrite 6 = .ok (.ifCond .ne 16, 3) := by decide +kernel
theorem dX8_canWrite_9 : decode cX8_canWrite 9 = .ok (.aload_n 0, 1) := by decide +kernel
theorem dX8_canWrite_10 : decode cX8_canWrite 10 = .ok (.bipush 69, 2) := by decide +kernel
theorem dX8_canWrite_12 : decode cX8_canWrite 12 = .ok (.iload_n 1, 1) := by decide +kernel
theorem dX8_canWrite_13 : decode cX8_canWrite 13 = .ok (.iadd, 1) := by decide +kernel
theorem dX8_canWrite_14 : decode cX8_canWrite 14 = .ok (.iaload, 1) := by decide +kernel
theorem dX8_canWrite_15 : decode cX8_canWrite 15 = .ok (.bipush 8, 2) := by decide +kernel
theorem dX8_canWrite_17 : decode cX8_canWrite 17 = .ok (.if_icmp .ne 5, 3) := by decide +kernel
theorem dX8_canWrite_20 : decode cX8_canWrite 20 = .ok (.iconst 0, 1) := by decide +kernel
theorem dX8_canWrite_21 : decode cX8_canWrite 21 = .ok (.ireturn, 1) := by decide +kernel
theorem dX8_canWrite_22 : decode cX8_canWrite 22 = .ok (.aload_n 0, 1) := by decide +kernel
theorem dX8_canWrite_23 : decode cX8_canWrite 23 = .ok (.bipush 59, 2) := by decide +kernel
theorem dX8_canWrite_25 : decode cX8_canWrite 25 = .ok (.iload_n 1, 1) := by decide +kernel
theorem dX8_canWrite_26 : decode cX8_canWrite 26 = .ok (.iadd, 1) := by decide +kernel
theorem dX8_canWrite_27 : decode cX8_canWrite 27 = .ok (.iaload, 1) := by decide +kernel
theorem dX8_canWrite_28 : decode cX8_canWrite 28 = .ok (.istore_n 3, 1) := by decide +kernel
theorem dX8_canWrite_29 : decode cX8_canWrite 29 = .ok (.iload_n 2, 1) := by decide +kernel
theorem dX8_canWrite_30 : decode cX8_canWrite 30 = .ok (.aload_n 0, 1) := by decide +kernel
theorem dX8_canWrite_31 : decode cX8_canWrite 31 = .ok (.bipush 39, 2) := by decide +kernel
theorem dX8_canWrite_33 : decode cX8_canWrite 33 = .ok (.iload_n 1, 1) := by decide +kernel
theorem dX8_canWrite_34 : decode cX8_canWrite 34 = .ok (.iadd, 1) := by decide +kernel
theorem dX8_canWrite_35 : decode cX8_canWrite 35 = .ok (.iaload, 1) := by decide +kernel
theorem dX8_canWrite_36 : decode cX8_canWrite 36 = .ok (.iload_n 3, 1) := by decide +kernel
theorem dX8_canWrite_37 : decode cX8_canWrite 37 = .ok (.isub, 1) := by decide +kernel
theorem dX8_canWrite_38 : decode cX8_canWrite 38 = .ok (.if_icmp .gt 23, 3) := by decide +kernel
theorem dX8_canWrite_41 : decode cX8_canWrite 41 = .ok (.aload_n 0, 1) := by decide +kernel
theorem dX8_canWrite_42 : decode cX8_canWrite 42 = .ok (.iload_n 1, 1) := by decide +kernel
theorem dX8_canWrite_43 : decode cX8_canWrite 43 = .ok (.iload_n 3, 1) := by decide +kernel
theorem dX8_canWrite_44 : decode cX8_canWrite 44 = .ok (.iload_n 2, 1) := by decide +kernel
theorem dX8_canWrite_45 : decode cX8_canWrite 45 = .ok (.invokestatic 65, 3) := by decide +kernel
theorem dX8_canWrite_48 : decode cX8_canWrite 48 = .ok (.aload_n 0, 1) := by decide +kernel
theorem dX8_canWrite_49 : decode cX8_canWrite 49 = .ok (.bipush 49, 2) := by decide +kernel
theorem dX8_canWrite_51 : decode cX8_canWrite 51 = .ok (.iload_n 1, 1) := by decide +kernel
theorem dX8_canWrite_52 : decode cX8_canWrite 52 = .ok (.iadd, 1) := by decide +kernel
theorem dX8_canWrite_53 : decode cX8_canWrite 53 = .ok (.iaload, 1) := by decide +kernel
theorem dX8_canWrite_54 : decode cX8_canWrite 54 = .ok (.if_icmp .gt 7, 3) := by decide +kernel
theorem dX8_canWrite_57 : decode cX8_canWrite 57 = .ok (.iconst 1, 1) := by decide +kernel
theorem dX8_canWrite_58 : decode cX8_canWrite 58 = .ok (.goto 4, 3) := by decide +kernel
theorem dX8_canWrite_61 : decode cX8_canWrite 61 = .ok (.iconst 0, 1) := by decide +kernel
theorem dX8_canWrite_62 : decode cX8_canWrite 62 = .ok (.ireturn, 1) := by decide +kernel
set_option maxRecDepth 20000 in
theorem ggX8_writesVersion_X8_badsIn : GoodIn wsX8_writesVersion wsX8_badsIn := goodIn_r _ [4, 5, 6, 3, 7] (by decide +kernel) (by decide +kernel)
set_option maxRecDepth 20000 in
theorem gX8_writesVersion_X8_badsIn : GoodIn wsX8_writesVersion (va_wsS RX8 65 yX8_badsIn wsX8_badsIn) := goodIn_app (goodIn_of _ (by decide +kernel)) ggX8_writesVersion_X8_badsIn
theorem dX8_writesVersion_0 : decode cX8_writesVersion 0 = .ok (.aload_n 0, 1) := by decide +kernel
theorem dX8_writesVersion_1 : decode cX8_writesVersion 1 = .ok (.bipush 59, 2) := by decide +kernel
theorem dX8_writesVersion_3 : decode cX8_writesVersion 3 = .ok (.iload_n 2, 1) := by decide +kernel
theorem dX8_writesVersion_4 : decode cX8_writesVersion 4 = .ok (.iadd, 1) := by decide +kernel
theorem dX8_writesVersion_5 : decode cX8_writesVersion 5 = .ok (.iaload, 1) := by decide +kernel
theorem dX8_writesVersion_6 : decode cX8_writesVersion 6 = .ok (.istore 4, 2) := by decide +kernel
theorem dX8_writesVersion_8 : decode cX8_writesVersion 8 = .ok (.aload_n 0, 1) := by decide +kernel
theorem dX8_writesVersion_9 : decode cX8_writesVersion 9 = .ok (.bipush 79, 2) := by decide +kernel
theorem dX8_writesVersion_11 : decode cX8_writesVersion 11 = .ok (.iload_n 2, 1) := by decide +kernel
theorem dX8_writesVersion_12 : decode cX8_writesVersion 12 = .ok (.iadd, 1) := by decide +kernel
theorem dX8_writesVersion_13 : decode cX8_writesVersion 13 = .ok (.iaload, 1) := by decide +kernel
theorem dX8_writesVersion_14 : decode cX8_writesVersion 14 = .ok (.ifCond .ne 56, 3) := by decide +kernel
theorem dX8_writesVersion_17 : decode cX8_writesVersion 17 = .ok (.aload_n 0, 1) := by decide +kernel
theorem dX8_writesVersion_18 : decode cX8_writesVersion 18 = .ok (.bipush 89, 2) := by decide +kernel
theorem dX8_writesVersion_20 : decode cX8_writesVersion 20 = .ok (.bipush 8, 2) := by decide +kernel
theorem dX8_writesVersion_22 : decode cX8_writesVersion 22 = .ok (.iload_n 2, 1) := by decide +kernel
theorem dX8_writesVersion_23 : decode cX8_writesVersion 23 = .ok (.imul, 1) := by decide +kernel
theorem dX8_writesVersion_24 : decode cX8_writesVersion 24 = .ok (.iadd, 1) := by decide +kernel
theorem dX8_writesVersion_25 : decode cX8_writesVersion 25 = .ok (.aload_n 0, 1) := by decide +kernel
theorem dX8_writesVersion_26 : decode cX8_writesVersion 26 = .ok (.bipush 69, 2) := by decide +kernel
theorem dX8_writesVersion_28 : decode cX8_writesVersion 28 = .ok (.iload_n 2, 1) := by decide +kernel
theorem dX8_writesVersion_29 : decode cX8_writesVersion 29 = .ok (.iadd, 1) := by decide +kernel
theorem dX8_writesVersion_30 : decode cX8_writesVersion 30 = .ok (.iaload, 1) := by decide +kernel
theorem dX8_writesVersion_31 : decode cX8_writesVersion 31 = .ok (.iadd, 1) := by decide +kernel
theorem dX8_writesVersion_32 : decode cX8_writesVersion 32 = .ok (.iload 4, 2) := by decide +kernel
theorem dX8_writesVersion_34 : decode cX8_writesVersion 34 = .ok (.iastore, 1) := by decide +kernel
theorem dX8_writesVersion_35 : decode cX8_writesVersion 35 = .ok (.aload_n 0, 1) := by decide +kernel
theorem dX8_writesVersion_36 : decode cX8_writesVersion 36 = .ok (.sipush 169, 3) := by decide +kernel
theorem dX8_writesVersion_39 : decode cX8_writesVersion 39 = .ok (.bipush 8, 2) := by decide +kernel
theorem dX8_writesVersion_41 : decode cX8_writesVersion 41 = .ok (.iload_n 2, 1) := by decide +kernel
theorem dX8_writesVersion_42 : decode cX8_writesVersion 42 = .ok (.imul, 1) := by decide +kernel
theorem dX8_writesVersion_43 : decode cX8_writesVersion 43 = .ok (.iadd, 1) := by decide +kernel
theorem dX8_writesVersion_44 : decode cX8_writesVersion 44 = .ok (.aload_n 0, 1) := by decide +kernel
theorem dX8_writesVersion_45 : decode cX8_writesVersion 45 = .ok (.bipush 69, 2) := by decide +kernel
theorem dX8_writesVersion_47 : decode cX8_writesVersion 47 = .ok (.iload_n 2, 1) := by decide +kernel
theorem dX8_writesVersion_48 : decode cX8_writesVersion 48 = .ok (.iadd, 1) := by decide +kernel
theorem dX8_writesVersion_49 : decode cX8_writesVersion 49 = .ok (.iaload, 1) := by decide +kernel
theorem dX8_writesVersion_50 : decode cX8_writesVersion 50 = .ok (.iadd, 1) := by decide +kernel
theorem dX8_writesVersion_51 : decode cX8_writesVersion 51 = .ok (.iconst 0, 1) := by decide +kernel
theorem dX8_writesVersion_52 : decode cX8_writesVersion 52 = .ok (.iastore, 1) := by decide +kernel
theorem dX8_writesVersion_53 : decode cX8_writesVersion 53 = .ok (.aload_n 0, 1) := by decide +kernel
theorem dX8_writesVersion_54 : decode cX8_writesVersion 54 = .ok (.bipush 69, 2) := by decide +kernel
theorem dX8_writesVersion_56 : decode cX8_writesVersion 56 = .ok (.iload_n 2, 1) := by decide +kernel
theorem dX8_writesVersion_57 : decode cX8_writesVersion 57 = .ok (.iadd, 1) := by decide +kernel
theorem dX8_writesVersion_58 : decode cX8_writesVersion 58 = .ok (.dup2, 1) := by decide +kernel
theorem dX8_writesVersion_59 : decode cX8_writesVersion 59 = .ok (.iaload, 1) := by decide +kernel
theorem dX8_writesVersion_60 : decode cX8_writesVersion 60 = .ok (.iconst 1, 1) := by decide +kernel
theorem dX8_writesVersion_61 : decode cX8_writesVersion 61 = .ok (.iadd, 1) := by decide +kernel
theorem dX8_writesVersion_62 : decode cX8_writesVersion 62 = .ok (.iastore, 1) := by decide +kernel
theorem dX8_writesVersion_63 : decode cX8_writesVersion 63 = .ok (.aload_n 0, 1) := by decide +kernel
theorem dX8_writesVersion_64 : decode cX8_writesVersion 64 = .ok (.bipush 79, 2) := by decide +kernel
theorem dX8_writesVersion_66 : decode cX8_writesVersion 66 = .ok (.iload_n 2, 1) := by decide +kernel
theorem dX8_writesVersion_67 : decode cX8_writesVersion 67 = .ok (.iadd, 1) := by decide +kernel
theorem dX8_writesVersion_68 : decode cX8_writesVersion 68 = .ok (.iconst 1, 1) := by decide +kernel
theorem dX8_writesVersion_69 : decode cX8_writesVersion 69 = .ok (.iastore, 1) := by decide +kernel
theorem dX8_writesVersion_70 : decode cX8_writesVersion 70 = .ok (.aload_n 0, 1) := by decide +kernel
theorem dX8_writesVersion_71 : decode cX8_writesVersion 71 = .ok (.bipush 69, 2) := by decide +kernel
theorem dX8_writesVersion_73 : decode cX8_writesVersion 73 = .ok (.iload_n 2, 1) := by decide +kernel
theorem dX8_writesVersion_74 : decode cX8_writesVersion 74 = .ok (.iadd, 1) := by decide +kernel
theorem dX8_writesVersion_75 : decode cX8_writesVersion 75 = .ok (.iaload, 1) := by decide +kernel
theorem dX8_writesVersion_76 : decode cX8_writesVersion 76 = .ok (.iconst 1, 1) := by decide +kernel
theorem dX8_writesVersion_77 : decode cX8_writesVersion 77 = .ok (.isub, 1) := by decide +kernel
theorem dX8_writesVersion_78 : decode cX8_writesVersion 78 = .ok (.istore 5, 2) := by decide +kernel
theorem dX8_writesVersion_80 : decode cX8_writesVersion 80 = .ok (.aload_n 0, 1) := by decide +kernel
theorem dX8_writesVersion_81 : decode cX8_writesVersion 81 = .ok (.iload_n 2, 1) := by decide +kernel
theorem dX8_writesVersion_82 : decode cX8_writesVersion 82 = .ok (.iload 4, 2) := by decide +kernel
theorem dX8_writesVersion_84 : decode cX8_writesVersion 84 = .ok (.iload_n 3, 1) := by decide +kernel
theorem dX8_writesVersion_85 : decode cX8_writesVersion 85 = .ok (.invokestatic 65, 3) := by decide +kernel
theorem dX8_writesVersion_88 : decode cX8_writesVersion 88 = .ok (.istore 6, 2) := by decide +kernel
theorem dX8_writesVersion_90 : decode cX8_writesVersion 90 = .ok (.aload_n 0, 1) := by decide +kernel
theorem dX8_writesVersion_91 : decode cX8_writesVersion 91 = .ok (.bipush 10, 2) := by decide +kernel
theorem dX8_writesVersion_93 : decode cX8_writesVersion 93 = .ok (.iaload, 1) := by decide +kernel
theorem dX8_writesVersion_94 : decode cX8_writesVersion 94 = .ok (.istore 7, 2) := by decide +kernel
theorem dX8_writesVersion_96 : decode cX8_writesVersion 96 = .ok (.aload_n 0, 1) := by decide +kernel
theorem dX8_writesVersion_97 : decode cX8_writesVersion 97 = .ok (.bipush 10, 2) := by decide +kernel
theorem dX8_writesVersion_99 : decode cX8_writesVersion 99 = .ok (.dup2, 1) := by decide +kernel
theorem dX8_writesVersion_100 : decode cX8_writesVersion 100 = .ok (.iaload, 1) := by decide +kernel
theorem dX8_writesVersion_101 : decode cX8_writesVersion 101 = .ok (.iconst 1, 1) := by decide +kernel
theorem dX8_writesVersion_102 : decode cX8_writesVersion 102 = .ok (.iadd, 1) := by decide +kernel
theorem dX8_writesVersion_103 : decode cX8_writesVersion 103 = .ok (.iastore, 1) := by decide +kernel
theorem dX8_writesVersion_104 : decode cX8_writesVersion 104 = .ok (.aload_n 0, 1) := by decide +kernel
theorem dX8_writesVersion_105 : decode cX8_writesVersion 105 = .ok (.sipush 309, 3) := by decide +kernel
theorem dX8_writesVersion_108 : decode cX8_writesVersion 108 = .ok (.iload 7, 2) := by decide +kernel
theorem dX8_writesVersion_110 : decode cX8_writesVersion 110 = .ok (.iadd, 1) := by decide +kernel
theorem dX8_writesVersion_111 : decode cX8_writesVersion 111 = .ok (.iload_n 1, 1) := by decide +kernel
theorem dX8_writesVersion_112 : decode cX8_writesVersion 112 = .ok (.iastore, 1) := by decide +kernel
theorem dX8_writesVersion_113 : decode cX8_writesVersion 113 = .ok (.aload_n 0, 1) := by decide +kernel
theorem dX8_writesVersion_114 : decode cX8_writesVersion 114 = .ok (.sipush 349, 3) := by decide +kernel
theorem dX8_writesVersion_117 : decode cX8_writesVersion 117 = .ok (.iload 7, 2) := by decide +kernel
theorem dX8_writesVersion_119 : decode cX8_writesVersion 119 = .ok (.iadd, 1) := by decide +kernel
theorem dX8_writesVersion_120 : decode cX8_writesVersion 120 = .ok (.iload_n 2, 1) := by decide +kernel
theorem dX8_writesVersion_121 : decode cX8_writesVersion 121 = .ok (.iastore, 1) := by decide +kernel
theorem dX8_writesVersion_122 : decode cX8_writesVersion 122 = .ok (.aload_n 0, 1) := by decide +kernel
theorem dX8_writesVersion_123 : decode cX8_writesVersion 123 = .ok (.sipush 389, 3) := by decide +kernel
theorem dX8_writesVersion_126 : decode cX8_writesVersion 126 = .ok (.iload 7, 2) := by decide +kernel
theorem dX8_writesVersion_128 : decode cX8_writesVersion 128 = .ok (.iadd, 1) := by decide +kernel
theorem dX8_writesVersion_129 : decode cX8_writesVersion 129 = .ok (.iload 4, 2) := by decide +kernel
theorem dX8_writesVersion_131 : decode cX8_writesVersion 131 = .ok (.iastore, 1) := by decide +kernel
theorem dX8_writesVersion_132 : decode cX8_writesVersion 132 = .ok (.aload_n 0, 1) := by decide +kernel
theorem dX8_writesVersion_133 : decode cX8_writesVersion 133 = .ok (.sipush 429, 3) := by decide +kernel
theorem dX8_writesVersion_136 : decode cX8_writesVersion 136 = .ok (.iload 7, 2) := by decide +kernel
theorem dX8_writesVersion_138 : decode cX8_writesVersion 138 = .ok (.iadd, 1) := by decide +kernel
theorem dX8_writesVersion_139 : decode cX8_writesVersion 139 = .ok (.iload_n 3, 1) := by decide +kernel
theorem dX8_writesVersion_140 : decode cX8_writesVersion 140 = .ok (.iastore, 1) := by decide +kernel
theorem dX8_writesVersion_141 : decode cX8_writesVersion 141 = .ok (.aload_n 0, 1) := by decide +kernel
theorem dX8_writesVersion_142 : decode cX8_writesVersion 142 = .ok (.sipush 469, 3) := by decide +kernel
theorem dX8_writesVersion_145 : decode cX8_writesVersion 145 = .ok (.iload 7, 2) := by decide +kernel
theorem dX8_writesVersion_147 : decode cX8_writesVersion 147 = .ok (.iadd, 1) := by decide +kernel
theorem dX8_writesVersion_148 : decode cX8_writesVersion 148 = .ok (.iload 5, 2) := by decide +kernel
theorem dX8_writesVersion_150 : decode cX8_writesVersion 150 = .ok (.iastore, 1) := by decide +kernel
theorem dX8_writesVersion_151 : decode cX8_writesVersion 151 = .ok (.aload_n 0, 1) := by decide +kernel
theorem dX8_writesVersion_152 : decode cX8_writesVersion 152 = .ok (.sipush 509, 3) := by decide +kernel
theorem dX8_writesVersion_155 : decode cX8_writesVersion 155 = .ok (.iload 7, 2) := by decide +kernel
theorem dX8_writesVersion_157 : decode cX8_writesVersion 157 = .ok (.iadd, 1) := by decide +kernel
theorem dX8_writesVersion_158 : decode cX8_writesVersion 158 = .ok (.iload 6, 2) := by decide +kernel
theorem dX8_writesVersion_160 : decode cX8_writesVersion 160 = .ok (.iastore, 1) := by decide +kernel
theorem dX8_writesVersion_161 : decode cX8_writesVersion 161 = .ok (.aload_n 0, 1) := by decide +kernel
theorem dX8_writesVersion_162 : decode cX8_writesVersion 162 = .ok (.sipush 549, 3) := by decide +kernel
theorem dX8_writesVersion_165 : decode cX8_writesVersion 165 = .ok (.iload 7, 2) := by decide +kernel
theorem dX8_writesVersion_167 : decode cX8_writesVersion 167 = .ok (.iadd, 1) := by decide +kernel
theorem dX8_writesVersion_168 : decode cX8_writesVersion 168 = .ok (.iconst 0, 1) := by decide +kernel
theorem dX8_writesVersion_169 : decode cX8_writesVersion 169 = .ok (.iastore, 1) := by decide +kernel
theorem dX8_writesVersion_170 : decode cX8_writesVersion 170 = .ok (.aload_n 0, 1) := by decide +kernel
theorem dX8_writesVersion_171 : decode cX8_writesVersion 171 = .ok (.sipush 289, 3) := by decide +kernel
theorem dX8_writesVersion_174 : decode cX8_writesVersion 174 = .ok (.iload_n 1, 1) := by decide +kernel
theorem dX8_writesVersion_175 : decode cX8_writesVersion 175 = .ok (.iadd, 1) := by decide +kernel
theorem dX8_writesVersion_176 : decode cX8_writesVersion 176 = .ok (.iload 7, 2) := by decide +kernel
theorem dX8_writesVersion_178 : decode cX8_writesVersion 178 = .ok (.iastore, 1) := by decide +kernel
theorem dX8_writesVersion_179 : decode cX8_writesVersion 179 = .ok (.aload_n 0, 1) := by decide +kernel
theorem dX8_writesVersion_180 : decode cX8_writesVersion 180 = .ok (.bipush 49, 2) := by decide +kernel
theorem dX8_writesVersion_182 : decode cX8_writesVersion 182 = .ok (.iload_n 2, 1) := by decide +kernel
theorem dX8_writesVersion_183 : decode cX8_writesVersion 183 = .ok (.iadd, 1) := by decide +kernel
theorem dX8_writesVersion_184 : decode cX8_writesVersion 184 = .ok (.dup2, 1) := by decide +kernel
theorem dX8_writesVersion_185 : decode cX8_writesVersion 185 = .ok (.iaload, 1) := by decide +kernel
theorem dX8_writesVersion_186 : decode cX8_writesVersion 186 = .ok (.iload 6, 2) := by decide +kernel
theorem dX8_writesVersion_188 : decode cX8_writesVersion 188 = .ok (.isub, 1) := by decide +kernel
theorem dX8_writesVersion_189 : decode cX8_writesVersion 189 = .ok (.iastore, 1) := by decide +kernel
theorem dX8_writesVersion_190 : decode cX8_writesVersion 190 = .ok (.aload_n 0, 1) := by decide +kernel
theorem dX8_writesVersion_191 : decode cX8_writesVersion 191 = .ok (.bipush 59, 2) := by decide +kernel
theorem dX8_writesVersion_193 : decode cX8_writesVersion 193 = .ok (.iload_n 2, 1) := by decide +kernel
theorem dX8_writesVersion_194 : decode cX8_writesVersion 194 = .ok (.iadd, 1) := by decide +kernel
theorem dX8_writesVersion_195 : decode cX8_writesVersion 195 = .ok (.dup2, 1) := by decide +kernel
theorem dX8_writesVersion_196 : decode cX8_writesVersion 196 = .ok (.iaload, 1) := by decide +kernel
theorem dX8_writesVersion_197 : decode cX8_writesVersion 197 = .ok (.iload_n 3, 1) := by decide +kernel
theorem dX8_writesVersion_198 : decode cX8_writesVersion 198 = .ok (.iadd, 1) := by decide +kernel
theorem dX8_writesVersion_199 : decode cX8_writesVersion 199 = .ok (.iastore, 1) := by decide +kernel
theorem dX8_writesVersion_200 : decode cX8_writesVersion 200 = .ok (.aload_n 0, 1) := by decide +kernel
theorem dX8_writesVersion_201 : decode cX8_writesVersion 201 = .ok (.sipush 169, 3) := by decide +kernel
theorem dX8_writesVersion_204 : decode cX8_writesVersion 204 = .ok (.bipush 8, 2) := by decide +kernel
theorem dX8_writesVersion_206 : decode cX8_writesVersion 206 = .ok (.iload_n 2, 1) := by decide +kernel
theorem dX8_writesVersion_207 : decode cX8_writesVersion 207 = .ok (.imul, 1) := by decide +kernel
theorem dX8_writesVersion_208 : decode cX8_writesVersion 208 = .ok (.iadd, 1) := by decide +kernel
theorem dX8_writesVersion_209 : decode cX8_writesVersion 209 = .ok (.iload 5, 2) := by decide +kernel
theorem dX8_writesVersion_211 : decode cX8_writesVersion 211 = .ok (.iadd, 1) := by decide +kernel
theorem dX8_writesVersion_212 : decode cX8_writesVersion 212 = .ok (.dup2, 1) := by decide +kernel
theorem dX8_writesVersion_213 : decode cX8_writesVersion 213 = .ok (.iaload, 1) := by decide +kernel
theorem dX8_writesVersion_214 : decode cX8_writesVersion 214 = .ok (.iload_n 3, 1) := by decide +kernel
theorem dX8_writesVersion_215 : decode cX8_writesVersion 215 = .ok (.iadd, 1) := by decide +kernel
theorem dX8_writesVersion_216 : decode cX8_writesVersion 216 = .ok (.iastore, 1) := by decide +kernel
theorem dX8_writesVersion_217 : decode cX8_writesVersion 217 = .ok (.return_, 1) := by decide +kernel
theorem dX8_leadOut_0 : decode cX8_leadOut 0 = .ok (.iconst 2, 1) := by decide +kernel
theorem dX8_leadOut_1 : decode cX8_leadOut 1 = .ok (.aload_n 0, 1) := by decide +kernel
theorem dX8_leadOut_2 : decode cX8_leadOut 2 = .ok (.bipush 39, 2) := by decide +kernel
theorem dX8_leadOut_4 : decode cX8_leadOut 4 = .ok (.iload_n 1, 1) := by decide +kernel
theorem dX8_leadOut_5 : decode cX8_leadOut 5 = .ok (.iadd, 1) := by decide +kernel
theorem dX8_leadOut_6 : decode cX8_leadOut 6 = .ok (.iaload, 1) := by decide +kernel
theorem dX8_leadOut_7 : decode cX8_leadOut 7 = .ok (.aload_n 0, 1) := by decide +kernel
theorem dX8_leadOut_8 : decode cX8_leadOut 8 = .ok (.bipush 59, 2) := by decide +kernel
theorem dX8_leadOut_10 : decode cX8_leadOut 10 = .ok (.iload_n 1, 1) := by decide +kernel
theorem dX8_leadOut_11 : decode cX8_leadOut 11 = .ok (.iadd, 1) := by decide +kernel
theorem dX8_leadOut_12 : decode cX8_leadOut 12 = .ok (.iaload, 1) := by decide +kernel
theorem dX8_leadOut_13 : decode cX8_leadOut 13 = .ok (.isub, 1) := by decide +kernel
theorem dX8_leadOut_14 : decode cX8_leadOut 14 = .ok (.invokestatic 69, 3) := by decide +kernel
theorem dX8_leadOut_17 : decode cX8_leadOut 17 = .ok (.ireturn, 1) := by decide +kernel
set_option maxRecDepth 20000 in
theorem ggX8_closes_X8_leadOut : GoodIn wsX8_closes wsX8_leadOut := goodIn_r _ [4, 5, 6, 7, 8] (by decide +kernel) (by decide +kernel)
set_option maxRecDepth 20000 in
theorem gX8_closes_X8_leadOut : GoodIn wsX8_closes (va_wsS RX8 75 yX8_leadOut wsX8_leadOut) := goodIn_app (goodIn_of _ (by decide +kernel)) ggX8_closes_X8_leadOut
theorem dX8_closes_0 : decode cX8_closes 0 = .ok (.aload_n 0, 1) := by decide +kernel
theorem dX8_closes_1 : decode cX8_closes 1 = .ok (.iload_n 1, 1) := by decide +kernel
theorem dX8_closes_2 : decode cX8_closes 2 = .ok (.invokestatic 75, 3) := by decide +kernel
theorem dX8_closes_5 : decode cX8_closes 5 = .ok (.istore_n 2, 1) := by decide +kernel
theorem dX8_closes_6 : decode cX8_closes 6 = .ok (.aload_n 0, 1) := by decide +kernel
theorem dX8_closes_7 : decode cX8_closes 7 = .ok (.bipush 59, 2) := by decide +kernel
theorem dX8_closes_9 : decode cX8_closes 9 = .ok (.iload_n 1, 1) := by decide +kernel
theorem dX8_closes_10 : decode cX8_closes 10 = .ok (.iadd, 1) := by decide +kernel
theorem dX8_closes_11 : decode cX8_closes 11 = .ok (.dup2, 1) := by decide +kernel
theorem dX8_closes_12 : decode cX8_closes 12 = .ok (.iaload, 1) := by decide +kernel
theorem dX8_closes_13 : decode cX8_closes 13 = .ok (.iload_n 2, 1) := by decide +kernel
theorem dX8_closes_14 : decode cX8_closes 14 = .ok (.iadd, 1) := by decide +kernel
theorem dX8_closes_15 : decode cX8_closes 15 = .ok (.iastore, 1) := by decide +kernel
theorem dX8_closes_16 : decode cX8_closes 16 = .ok (.aload_n 0, 1) := by decide +kernel
theorem dX8_closes_17 : decode cX8_closes 17 = .ok (.sipush 169, 3) := by decide +kernel
theorem dX8_closes_20 : decode cX8_closes 20 = .ok (.bipush 8, 2) := by decide +kernel
theorem dX8_closes_22 : decode cX8_closes 22 = .ok (.iload_n 1, 1) := by decide +kernel
theorem dX8_closes_23 : decode cX8_closes 23 = .ok (.imul, 1) := by decide +kernel
theorem dX8_closes_24 : decode cX8_closes 24 = .ok (.iadd, 1) := by decide +kernel
theorem dX8_closes_25 : decode cX8_closes 25 = .ok (.aload_n 0, 1) := by decide +kernel
theorem dX8_closes_26 : decode cX8_closes 26 = .ok (.bipush 69, 2) := by decide +kernel
theorem dX8_closes_28 : decode cX8_closes 28 = .ok (.iload_n 1, 1) := by decide +kernel
theorem dX8_closes_29 : decode cX8_closes 29 = .ok (.iadd, 1) := by decide +kernel
theorem dX8_closes_30 : decode cX8_closes 30 = .ok (.iaload, 1) := by decide +kernel
theorem dX8_closes_31 : decode cX8_closes 31 = .ok (.iadd, 1) := by decide +kernel
theorem dX8_closes_32 : decode cX8_closes 32 = .ok (.iconst 1, 1) := by decide +kernel
theorem dX8_closes_33 : decode cX8_closes 33 = .ok (.isub, 1) := by decide +kernel
theorem dX8_closes_34 : decode cX8_closes 34 = .ok (.dup2, 1) := by decide +kernel
theorem dX8_closes_35 : decode cX8_closes 35 = .ok (.iaload, 1) := by decide +kernel
theorem dX8_closes_36 : decode cX8_closes 36 = .ok (.iload_n 2, 1) := by decide +kernel
theorem dX8_closes_37 : decode cX8_closes 37 = .ok (.iadd, 1) := by decide +kernel
theorem dX8_closes_38 : decode cX8_closes 38 = .ok (.iastore, 1) := by decide +kernel
theorem dX8_closes_39 : decode cX8_closes 39 = .ok (.aload_n 0, 1) := by decide +kernel
theorem dX8_closes_40 : decode cX8_closes 40 = .ok (.bipush 79, 2) := by decide +kernel
theorem dX8_closes_42 : decode cX8_closes 42 = .ok (.iload_n 1, 1) := by decide +kernel
theorem dX8_closes_43 : decode cX8_closes 43 = .ok (.iadd, 1) := by decide +kernel
theorem dX8_closes_44 : decode cX8_closes 44 = .ok (.iconst 0, 1) := by decide +kernel
theorem dX8_closes_45 : decode cX8_closes 45 = .ok (.iastore, 1) := by decide +kernel
theorem dX8_closes_46 : decode cX8_closes 46 = .ok (.return_, 1) := by decide +kernel
set_option maxRecDepth 20000 in
theorem ggX8_versionAt_X8_isIn : GoodIn wsX8_versionAt wsX8_isIn := goodIn_r _ [4] (by decide +kernel) (by decide +kernel)
set_option maxRecDepth 20000 in
theorem gX8_versionAt_X8_isIn : GoodIn wsX8_versionAt (va_wsS RX8 57 yX8_isIn wsX8_isIn) := goodIn_app (goodIn_of _ (by decide +kernel)) ggX8_versionAt_X8_isIn
theorem dX8_versionAt_0 : decode cX8_versionAt 0 = .ok (.iconst 0, 1) := by decide +kernel
theorem dX8_versionAt_1 : decode cX8_versionAt 1 = .ok (.istore_n 3, 1) := by decide +kernel
theorem dX8_versionAt_2 : decode cX8_versionAt 2 = .ok (.iload_n 3, 1) := by decide +kernel
theorem dX8_versionAt_3 : decode cX8_versionAt 3 = .ok (.aload_n 0, 1) := by decide +kernel
theorem dX8_versionAt_4 : decode cX8_versionAt 4 = .ok (.bipush 10, 2) := by decide +kernel
theorem dX8_versionAt_6 : decode cX8_versionAt 6 = .ok (.iaload, 1) := by decide +kernel
theorem dX8_versionAt_7 : decode cX8_versionAt 7 = .ok (.if_icmp .ge 56, 3) := by decide +kernel
theorem dX8_versionAt_10 : decode cX8_versionAt 10 = .ok (.aload_n 0, 1) := by decide +kernel
theorem dX8_versionAt_11 : decode cX8_versionAt 11 = .ok (.sipush 349, 3) := by decide +kernel
theorem dX8_versionAt_14 : decode cX8_versionAt 14 = .ok (.iload_n 3, 1) := by decide +kernel
theorem dX8_versionAt_15 : decode cX8_versionAt 15 = .ok (.iadd, 1) := by decide +kernel
theorem dX8_versionAt_16 : decode cX8_versionAt 16 = .ok (.iaload, 1) := by decide +kernel
theorem dX8_versionAt_17 : decode cX8_versionAt 17 = .ok (.iload_n 1, 1) := by decide +kernel
theorem dX8_versionAt_18 : decode cX8_versionAt 18 = .ok (.if_icmp .ne 39, 3) := by decide +kernel
theorem dX8_versionAt_21 : decode cX8_versionAt 21 = .ok (.iload_n 2, 1) := by decide +kernel
theorem dX8_versionAt_22 : decode cX8_versionAt 22 = .ok (.i2l, 1) := by decide +kernel
theorem dX8_versionAt_23 : decode cX8_versionAt 23 = .ok (.aload_n 0, 1) := by decide +kernel
theorem dX8_versionAt_24 : decode cX8_versionAt 24 = .ok (.sipush 389, 3) := by decide +kernel
theorem dX8_versionAt_27 : decode cX8_versionAt 27 = .ok (.iload_n 3, 1) := by decide +kernel
theorem dX8_versionAt_28 : decode cX8_versionAt 28 = .ok (.iadd, 1) := by decide +kernel
theorem dX8_versionAt_29 : decode cX8_versionAt 29 = .ok (.iaload, 1) := by decide +kernel
theorem dX8_versionAt_30 : decode cX8_versionAt 30 = .ok (.i2l, 1) := by decide +kernel
theorem dX8_versionAt_31 : decode cX8_versionAt 31 = .ok (.aload_n 0, 1) := by decide +kernel
theorem dX8_versionAt_32 : decode cX8_versionAt 32 = .ok (.sipush 389, 3) := by decide +kernel
theorem dX8_versionAt_35 : decode cX8_versionAt 35 = .ok (.iload_n 3, 1) := by decide +kernel
theorem dX8_versionAt_36 : decode cX8_versionAt 36 = .ok (.iadd, 1) := by decide +kernel
theorem dX8_versionAt_37 : decode cX8_versionAt 37 = .ok (.iaload, 1) := by decide +kernel
theorem dX8_versionAt_38 : decode cX8_versionAt 38 = .ok (.aload_n 0, 1) := by decide +kernel
theorem dX8_versionAt_39 : decode cX8_versionAt 39 = .ok (.sipush 429, 3) := by decide +kernel
theorem dX8_versionAt_42 : decode cX8_versionAt 42 = .ok (.iload_n 3, 1) := by decide +kernel
theorem dX8_versionAt_43 : decode cX8_versionAt 43 = .ok (.iadd, 1) := by decide +kernel
theorem dX8_versionAt_44 : decode cX8_versionAt 44 = .ok (.iaload, 1) := by decide +kernel
theorem dX8_versionAt_45 : decode cX8_versionAt 45 = .ok (.iadd, 1) := by decide +kernel
theorem dX8_versionAt_46 : decode cX8_versionAt 46 = .ok (.iconst 1, 1) := by decide +kernel
theorem dX8_versionAt_47 : decode cX8_versionAt 47 = .ok (.isub, 1) := by decide +kernel
theorem dX8_versionAt_48 : decode cX8_versionAt 48 = .ok (.i2l, 1) := by decide +kernel
theorem dX8_versionAt_49 : decode cX8_versionAt 49 = .ok (.invokestatic 57, 3) := by decide +kernel
theorem dX8_versionAt_52 : decode cX8_versionAt 52 = .ok (.ifCond .eq 5, 3) := by decide +kernel
theorem dX8_versionAt_55 : decode cX8_versionAt 55 = .ok (.iload_n 3, 1) := by decide +kernel
theorem dX8_versionAt_56 : decode cX8_versionAt 56 = .ok (.ireturn, 1) := by decide +kernel
theorem dX8_versionAt_57 : decode cX8_versionAt 57 = .ok (.iinc 3 1, 3) := by decide +kernel
theorem dX8_versionAt_60 : decode cX8_versionAt 60 = .ok (.goto (-58), 3) := by decide +kernel
theorem dX8_versionAt_63 : decode cX8_versionAt 63 = .ok (.iconst (-1), 1) := by decide +kernel
theorem dX8_versionAt_64 : decode cX8_versionAt 64 = .ok (.ireturn, 1) := by decide +kernel
set_option maxRecDepth 20000 in
theorem ggX8_marks_X8_versionAt : GoodIn wsX8_marks wsX8_versionAt := goodIn_r _ [4, 5, 6, 3, 7] (by decide +kernel) (by decide +kernel)
set_option maxRecDepth 20000 in
theorem gX8_marks_X8_versionAt : GoodIn wsX8_marks (va_wsS RX8 79 yX8_versionAt wsX8_versionAt) := goodIn_app (goodIn_of _ (by decide +kernel)) ggX8_marks_X8_versionAt
theorem dX8_marks_0 : decode cX8_marks 0 = .ok (.aload_n 0, 1) := by decide +kernel
theorem dX8_marks_1 : decode cX8_marks 1 = .ok (.sipush 249, 3) := by decide +kernel
theorem dX8_marks_4 : decode cX8_marks 4 = .ok (.aload_n 0, 1) := by decide +kernel
theorem dX8_marks_5 : decode cX8_marks 5 = .ok (.bipush 8, 2) := by decide +kernel
theorem dX8_marks_7 : decode cX8_marks 7 = .ok (.iaload, 1) := by decide +kernel
theorem dX8_marks_8 : decode cX8_marks 8 = .ok (.iadd, 1) := by decide +kernel
theorem dX8_marks_9 : decode cX8_marks 9 = .ok (.iload_n 1, 1) := by decide +kernel
theorem dX8_marks_10 : decode cX8_marks 10 = .ok (.iastore, 1) := by decide +kernel
theorem dX8_marks_11 : decode cX8_marks 11 = .ok (.aload_n 0, 1) := by decide +kernel
theorem dX8_marks_12 : decode cX8_marks 12 = .ok (.sipush 269, 3) := by decide +kernel
theorem dX8_marks_15 : decode cX8_marks 15 = .ok (.aload_n 0, 1) := by decide +kernel
theorem dX8_marks_16 : decode cX8_marks 16 = .ok (.bipush 8, 2) := by decide +kernel
theorem dX8_marks_18 : decode cX8_marks 18 = .ok (.iaload, 1) := by decide +kernel
theorem dX8_marks_19 : decode cX8_marks 19 = .ok (.iadd, 1) := by decide +kernel
theorem dX8_marks_20 : decode cX8_marks 20 = .ok (.iload_n 2, 1) := by decide +kernel
theorem dX8_marks_21 : decode cX8_marks 21 = .ok (.iastore, 1) := by decide +kernel
theorem dX8_marks_22 : decode cX8_marks 22 = .ok (.aload_n 0, 1) := by decide +kernel
theorem dX8_marks_23 : decode cX8_marks 23 = .ok (.bipush 8, 2) := by decide +kernel
theorem dX8_marks_25 : decode cX8_marks 25 = .ok (.dup2, 1) := by decide +kernel
theorem dX8_marks_26 : decode cX8_marks 26 = .ok (.iaload, 1) := by decide +kernel
theorem dX8_marks_27 : decode cX8_marks 27 = .ok (.iconst 1, 1) := by decide +kernel
theorem dX8_marks_28 : decode cX8_marks 28 = .ok (.iadd, 1) := by decide +kernel
theorem dX8_marks_29 : decode cX8_marks 29 = .ok (.iastore, 1) := by decide +kernel
theorem dX8_marks_30 : decode cX8_marks 30 = .ok (.aload_n 0, 1) := by decide +kernel
theorem dX8_marks_31 : decode cX8_marks 31 = .ok (.iload_n 1, 1) := by decide +kernel
theorem dX8_marks_32 : decode cX8_marks 32 = .ok (.iload_n 2, 1) := by decide +kernel
theorem dX8_marks_33 : decode cX8_marks 33 = .ok (.invokestatic 79, 3) := by decide +kernel
theorem dX8_marks_36 : decode cX8_marks 36 = .ok (.istore_n 3, 1) := by decide +kernel
theorem dX8_marks_37 : decode cX8_marks 37 = .ok (.iload_n 3, 1) := by decide +kernel
theorem dX8_marks_38 : decode cX8_marks 38 = .ok (.iconst (-1), 1) := by decide +kernel
theorem dX8_marks_39 : decode cX8_marks 39 = .ok (.if_icmp .eq 11, 3) := by decide +kernel
theorem dX8_marks_42 : decode cX8_marks 42 = .ok (.aload_n 0, 1) := by decide +kernel
theorem dX8_marks_43 : decode cX8_marks 43 = .ok (.sipush 549, 3) := by decide +kernel
theorem dX8_marks_46 : decode cX8_marks 46 = .ok (.iload_n 3, 1) := by decide +kernel
theorem dX8_marks_47 : decode cX8_marks 47 = .ok (.iadd, 1) := by decide +kernel
theorem dX8_marks_48 : decode cX8_marks 48 = .ok (.iconst 1, 1) := by decide +kernel
theorem dX8_marks_49 : decode cX8_marks 49 = .ok (.iastore, 1) := by decide +kernel
theorem dX8_marks_50 : decode cX8_marks 50 = .ok (.return_, 1) := by decide +kernel
theorem dX8_isCurrent_0 : decode cX8_isCurrent 0 = .ok (.aload_n 0, 1) := by decide +kernel
theorem dX8_isCurrent_1 : decode cX8_isCurrent 1 = .ok (.getfield 7, 3) := by decide +kernel
theorem dX8_isCurrent_4 : decode cX8_isCurrent 4 = .ok (.sipush 289, 3) := by decide +kernel
theorem dX8_isCurrent_7 : decode cX8_isCurrent 7 = .ok (.aload_n 0, 1) := by decide +kernel
theorem dX8_isCurrent_8 : decode cX8_isCurrent 8 = .ok (.getfield 7, 3) := by decide +kernel
theorem dX8_isCurrent_11 : decode cX8_isCurrent 11 = .ok (.sipush 309, 3) := by decide +kernel
theorem dX8_isCurrent_14 : decode cX8_isCurrent 14 = .ok (.iload_n 1, 1) := by decide +kernel
theorem dX8_isCurrent_15 : decode cX8_isCurrent 15 = .ok (.iadd, 1) := by decide +kernel
theorem dX8_isCurrent_16 : decode cX8_isCurrent 16 = .ok (.iaload, 1) := by decide +kernel
theorem dX8_isCurrent_17 : decode cX8_isCurrent 17 = .ok (.iadd, 1) := by decide +kernel
theorem dX8_isCurrent_18 : decode cX8_isCurrent 18 = .ok (.iaload, 1) := by decide +kernel
theorem dX8_isCurrent_19 : decode cX8_isCurrent 19 = .ok (.iload_n 1, 1) := by decide +kernel
theorem dX8_isCurrent_20 : decode cX8_isCurrent 20 = .ok (.if_icmp .ne 7, 3) := by decide +kernel
theorem dX8_isCurrent_23 : decode cX8_isCurrent 23 = .ok (.iconst 1, 1) := by decide +kernel
theorem dX8_isCurrent_24 : decode cX8_isCurrent 24 = .ok (.goto 4, 3) := by decide +kernel
theorem dX8_isCurrent_27 : decode cX8_isCurrent 27 = .ok (.iconst 0, 1) := by decide +kernel
theorem dX8_isCurrent_28 : decode cX8_isCurrent 28 = .ok (.ireturn, 1) := by decide +kernel
theorem dX8_isClosed_0 : decode cX8_isClosed 0 = .ok (.aload_n 0, 1) := by decide +kernel
theorem dX8_isClosed_1 : decode cX8_isClosed 1 = .ok (.getfield 7, 3) := by decide +kernel
theorem dX8_isClosed_4 : decode cX8_isClosed 4 = .ok (.sipush 349, 3) := by decide +kernel
theorem dX8_isClosed_7 : decode cX8_isClosed 7 = .ok (.iload_n 1, 1) := by decide +kernel
theorem dX8_isClosed_8 : decode cX8_isClosed 8 = .ok (.iadd, 1) := by decide +kernel
theorem dX8_isClosed_9 : decode cX8_isClosed 9 = .ok (.iaload, 1) := by decide +kernel
theorem dX8_isClosed_10 : decode cX8_isClosed 10 = .ok (.istore_n 2, 1) := by decide +kernel
theorem dX8_isClosed_11 : decode cX8_isClosed 11 = .ok (.aload_n 0, 1) := by decide +kernel
theorem dX8_isClosed_12 : decode cX8_isClosed 12 = .ok (.getfield 7, 3) := by decide +kernel
theorem dX8_isClosed_15 : decode cX8_isClosed 15 = .ok (.bipush 79, 2) := by decide +kernel
theorem dX8_isClosed_17 : decode cX8_isClosed 17 = .ok (.iload_n 2, 1) := by decide +kernel
theorem dX8_isClosed_18 : decode cX8_isClosed 18 = .ok (.iadd, 1) := by decide +kernel
theorem dX8_isClosed_19 : decode cX8_isClosed 19 = .ok (.iaload, 1) := by decide +kernel
theorem dX8_isClosed_20 : decode cX8_isClosed 20 = .ok (.ifCond .eq 27, 3) := by decide +kernel
theorem dX8_isClosed_23 : decode cX8_isClosed 23 = .ok (.aload_n 0, 1) := by decide +kernel
theorem dX8_isClosed_24 : decode cX8_isClosed 24 = .ok (.getfield 7, 3) := by decide +kernel
theorem dX8_isClosed_27 : decode cX8_isClosed 27 = .ok (.sipush 469, 3) := by decide +kernel
theorem dX8_isClosed_30 : decode cX8_isClosed 30 = .ok (.iload_n 1, 1) := by decide +kernel
theorem dX8_isClosed_31 : decode cX8_isClosed 31 = .ok (.iadd, 1) := by decide +kernel
theorem dX8_isClosed_32 : decode cX8_isClosed 32 = .ok (.iaload, 1) := by decide +kernel
theorem dX8_isClosed_33 : decode cX8_isClosed 33 = .ok (.aload_n 0, 1) := by decide +kernel
theorem dX8_isClosed_34 : decode cX8_isClosed 34 = .ok (.getfield 7, 3) := by decide +kernel
theorem dX8_isClosed_37 : decode cX8_isClosed 37 = .ok (.bipush 69, 2) := by decide +kernel
theorem dX8_isClosed_39 : decode cX8_isClosed 39 = .ok (.iload_n 2, 1) := by decide +kernel
theorem dX8_isClosed_40 : decode cX8_isClosed 40 = .ok (.iadd, 1) := by decide +kernel
theorem dX8_isClosed_41 : decode cX8_isClosed 41 = .ok (.iaload, 1) := by decide +kernel
theorem dX8_isClosed_42 : decode cX8_isClosed 42 = .ok (.iconst 1, 1) := by decide +kernel
theorem dX8_isClosed_43 : decode cX8_isClosed 43 = .ok (.isub, 1) := by decide +kernel
theorem dX8_isClosed_44 : decode cX8_isClosed 44 = .ok (.if_icmp .ge 7, 3) := by decide +kernel
theorem dX8_isClosed_47 : decode cX8_isClosed 47 = .ok (.iconst 1, 1) := by decide +kernel
theorem dX8_isClosed_48 : decode cX8_isClosed 48 = .ok (.goto 4, 3) := by decide +kernel
theorem dX8_isClosed_51 : decode cX8_isClosed 51 = .ok (.iconst 0, 1) := by decide +kernel
theorem dX8_isClosed_52 : decode cX8_isClosed 52 = .ok (.ireturn, 1) := by decide +kernel
set_option maxRecDepth 20000 in
theorem ggX8_isGood_X8_isClosed : GoodIn wsX8_isGood wsX8_isClosed := goodIn_r _ [6, 1, 7, 8, 9, 10, 11, 12, 13, 14, 15, 16, 17, 18, 19, 20, 21, 22, 23, 24, 25, 26, 27, 28, 29, 30, 31, 32, 33] (by decide +kernel) (by decide +kernel)
set_option maxRecDepth 20000 in
theorem gX8_isGood_X8_isClosed : GoodIn wsX8_isGood (wsV RX8 83 RX8 yX8_isClosed wsX8_isClosed) := goodIn_app (goodIn_of _ (by decide +kernel)) ggX8_isGood_X8_isClosed
theorem dX8_isGood_0 : decode cX8_isGood 0 = .ok (.aload_n 0, 1) := by decide +kernel
theorem dX8_isGood_1 : decode cX8_isGood 1 = .ok (.getfield 7, 3) := by decide +kernel
theorem dX8_isGood_4 : decode cX8_isGood 4 = .ok (.sipush 549, 3) := by decide +kernel
theorem dX8_isGood_7 : decode cX8_isGood 7 = .ok (.iload_n 1, 1) := by decide +kernel
theorem dX8_isGood_8 : decode cX8_isGood 8 = .ok (.iadd, 1) := by decide +kernel
theorem dX8_isGood_9 : decode cX8_isGood 9 = .ok (.iaload, 1) := by decide +kernel
theorem dX8_isGood_10 : decode cX8_isGood 10 = .ok (.ifCond .ne 15, 3) := by decide +kernel
theorem dX8_isGood_13 : decode cX8_isGood 13 = .ok (.aload_n 0, 1) := by decide +kernel
theorem dX8_isGood_14 : decode cX8_isGood 14 = .ok (.iload_n 1, 1) := by decide +kernel
theorem dX8_isGood_15 : decode cX8_isGood 15 = .ok (.invokevirtual 83, 3) := by decide +kernel
theorem dX8_isGood_18 : decode cX8_isGood 18 = .ok (.ifCond .eq 7, 3) := by decide +kernel
theorem dX8_isGood_21 : decode cX8_isGood 21 = .ok (.iconst 1, 1) := by decide +kernel
theorem dX8_isGood_22 : decode cX8_isGood 22 = .ok (.goto 4, 3) := by decide +kernel
theorem dX8_isGood_25 : decode cX8_isGood 25 = .ok (.iconst 0, 1) := by decide +kernel
theorem dX8_isGood_26 : decode cX8_isGood 26 = .ok (.ireturn, 1) := by decide +kernel
theorem dX8_version_0 : decode cX8_version 0 = .ok (.aload_n 0, 1) := by decide +kernel
theorem dX8_version_1 : decode cX8_version 1 = .ok (.getfield 7, 3) := by decide +kernel
theorem dX8_version_4 : decode cX8_version 4 = .ok (.sipush 289, 3) := by decide +kernel
theorem dX8_version_7 : decode cX8_version 7 = .ok (.iload_n 1, 1) := by decide +kernel
theorem dX8_version_8 : decode cX8_version 8 = .ok (.iadd, 1) := by decide +kernel
theorem dX8_version_9 : decode cX8_version 9 = .ok (.iaload, 1) := by decide +kernel
theorem dX8_version_10 : decode cX8_version 10 = .ok (.ireturn, 1) := by decide +kernel
set_option maxRecDepth 20000 in
theorem ggX8_isReadable_X8_version : GoodIn wsX8_isReadable wsX8_version := goodIn_r _ [5, 6, 15, 16, 17, 18, 19, 20, 21, 22, 23, 24, 25, 26, 27, 28, 29, 30, 31, 32, 33, 34, 35, 36, 37, 38, 39, 40, 41] (by decide +kernel) (by decide +kernel)
set_option maxRecDepth 20000 in
theorem gX8_isReadable_X8_version : GoodIn wsX8_isReadable (wsV RX8 86 RX8 yX8_version wsX8_version) := goodIn_app (goodIn_of _ (by decide +kernel)) ggX8_isReadable_X8_version
set_option maxRecDepth 20000 in
theorem ggX8_isReadable_X8_isGood : GoodIn wsX8_isReadable wsX8_isGood := goodIn_r _ [10, 6, 11, 12, 13, 4, 14, 15, 16, 17, 18, 19, 20, 21, 22, 23, 24, 25, 26, 27, 28, 29, 30, 31, 32, 33, 34, 35, 36, 37, 38, 39, 40, 41] (by decide +kernel) (by decide +kernel)
set_option maxRecDepth 20000 in
theorem gX8_isReadable_X8_isGood : GoodIn wsX8_isReadable (wsV RX8 90 RX8 yX8_isGood wsX8_isGood) := goodIn_app (goodIn_of _ (by decide +kernel)) ggX8_isReadable_X8_isGood
theorem dX8_isReadable_0 : decode cX8_isReadable 0 = .ok (.aload_n 0, 1) := by decide +kernel
theorem dX8_isReadable_1 : decode cX8_isReadable 1 = .ok (.aload_n 0, 1) := by decide +kernel
theorem dX8_isReadable_2 : decode cX8_isReadable 2 = .ok (.iload_n 1, 1) := by decide +kernel
theorem dX8_isReadable_3 : decode cX8_isReadable 3 = .ok (.invokevirtual 86, 3) := by decide +kernel
theorem dX8_isReadable_6 : decode cX8_isReadable 6 = .ok (.invokevirtual 90, 3) := by decide +kernel
theorem dX8_isReadable_9 : decode cX8_isReadable 9 = .ok (.ireturn, 1) := by decide +kernel
set_option maxRecDepth 20000 in
theorem ggX8_platterOf_X8_version : GoodIn wsX8_platterOf wsX8_version := goodIn_r _ [6, 1, 7, 8, 9, 10, 11, 12, 13, 14, 15, 16, 17, 18, 19, 20, 21, 22, 23, 24, 25, 26, 27, 28, 29, 30, 31, 32, 33] (by decide +kernel) (by decide +kernel)
set_option maxRecDepth 20000 in
theorem gX8_platterOf_X8_version : GoodIn wsX8_platterOf (wsV RX8 86 RX8 yX8_version wsX8_version) := goodIn_app (goodIn_of _ (by decide +kernel)) ggX8_platterOf_X8_version
theorem dX8_platterOf_0 : decode cX8_platterOf 0 = .ok (.aload_n 0, 1) := by decide +kernel
theorem dX8_platterOf_1 : decode cX8_platterOf 1 = .ok (.getfield 7, 3) := by decide +kernel
theorem dX8_platterOf_4 : decode cX8_platterOf 4 = .ok (.sipush 349, 3) := by decide +kernel
theorem dX8_platterOf_7 : decode cX8_platterOf 7 = .ok (.aload_n 0, 1) := by decide +kernel
theorem dX8_platterOf_8 : decode cX8_platterOf 8 = .ok (.iload_n 1, 1) := by decide +kernel
theorem dX8_platterOf_9 : decode cX8_platterOf 9 = .ok (.invokevirtual 86, 3) := by decide +kernel
theorem dX8_platterOf_12 : decode cX8_platterOf 12 = .ok (.iadd, 1) := by decide +kernel
theorem dX8_platterOf_13 : decode cX8_platterOf 13 = .ok (.iaload, 1) := by decide +kernel
theorem dX8_platterOf_14 : decode cX8_platterOf 14 = .ok (.ireturn, 1) := by decide +kernel
theorem dX8_inDrive_0 : decode cX8_inDrive 0 = .ok (.iconst 0, 1) := by decide +kernel
theorem dX8_inDrive_1 : decode cX8_inDrive 1 = .ok (.istore_n 2, 1) := by decide +kernel
theorem dX8_inDrive_2 : decode cX8_inDrive 2 = .ok (.iload_n 2, 1) := by decide +kernel
theorem dX8_inDrive_3 : decode cX8_inDrive 3 = .ok (.aload_n 0, 1) := by decide +kernel
theorem dX8_inDrive_4 : decode cX8_inDrive 4 = .ok (.getfield 7, 3) := by decide +kernel
theorem dX8_inDrive_7 : decode cX8_inDrive 7 = .ok (.bipush 6, 2) := by decide +kernel
theorem dX8_inDrive_9 : decode cX8_inDrive 9 = .ok (.iaload, 1) := by decide +kernel
theorem dX8_inDrive_10 : decode cX8_inDrive 10 = .ok (.if_icmp .ge 24, 3) := by decide +kernel
theorem dX8_inDrive_13 : decode cX8_inDrive 13 = .ok (.aload_n 0, 1) := by decide +kernel
theorem dX8_inDrive_14 : decode cX8_inDrive 14 = .ok (.getfield 7, 3) := by decide +kernel
theorem dX8_inDrive_17 : decode cX8_inDrive 17 = .ok (.bipush 21, 2) := by decide +kernel
theorem dX8_inDrive_19 : decode cX8_inDrive 19 = .ok (.iload_n 2, 1) := by decide +kernel
theorem dX8_inDrive_20 : decode cX8_inDrive 20 = .ok (.iadd, 1) := by decide +kernel
theorem dX8_inDrive_21 : decode cX8_inDrive 21 = .ok (.iaload, 1) := by decide +kernel
theorem dX8_inDrive_22 : decode cX8_inDrive 22 = .ok (.iload_n 1, 1) := by decide +kernel
theorem dX8_inDrive_23 : decode cX8_inDrive 23 = .ok (.if_icmp .ne 5, 3) := by decide +kernel
theorem dX8_inDrive_26 : decode cX8_inDrive 26 = .ok (.iload_n 2, 1) := by decide +kernel
theorem dX8_inDrive_27 : decode cX8_inDrive 27 = .ok (.ireturn, 1) := by decide +kernel
theorem dX8_inDrive_28 : decode cX8_inDrive 28 = .ok (.iinc 2 1, 3) := by decide +kernel
theorem dX8_inDrive_31 : decode cX8_inDrive 31 = .ok (.goto (-29), 3) := by decide +kernel
theorem dX8_inDrive_34 : decode cX8_inDrive 34 = .ok (.iconst (-1), 1) := by decide +kernel
theorem dX8_inDrive_35 : decode cX8_inDrive 35 = .ok (.ireturn, 1) := by decide +kernel
set_option maxRecDepth 20000 in
theorem ggX8_goes_X8_far : GoodIn wsX8_goes wsX8_far := goodIn_r _ [5] (by decide +kernel) (by decide +kernel)
set_option maxRecDepth 20000 in
theorem gX8_goes_X8_far : GoodIn wsX8_goes (va_wsS RX8 93 yX8_far wsX8_far) := goodIn_app (goodIn_of _ (by decide +kernel)) ggX8_goes_X8_far
theorem dX8_goes_0 : decode cX8_goes 0 = .ok (.aload_n 0, 1) := by decide +kernel
theorem dX8_goes_1 : decode cX8_goes 1 = .ok (.getfield 7, 3) := by decide +kernel
theorem dX8_goes_4 : decode cX8_goes 4 = .ok (.bipush 11, 2) := by decide +kernel
theorem dX8_goes_6 : decode cX8_goes 6 = .ok (.iaload, 1) := by decide +kernel
theorem dX8_goes_7 : decode cX8_goes 7 = .ok (.iload_n 1, 1) := by decide +kernel
theorem dX8_goes_8 : decode cX8_goes 8 = .ok (.invokestatic 93, 3) := by decide +kernel
theorem dX8_goes_11 : decode cX8_goes 11 = .ok (.istore_n 2, 1) := by decide +kernel
theorem dX8_goes_12 : decode cX8_goes 12 = .ok (.aload_n 0, 1) := by decide +kernel
theorem dX8_goes_13 : decode cX8_goes 13 = .ok (.getfield 7, 3) := by decide +kernel
theorem dX8_goes_16 : decode cX8_goes 16 = .ok (.bipush 14, 2) := by decide +kernel
theorem dX8_goes_18 : decode cX8_goes 18 = .ok (.dup2, 1) := by decide +kernel
theorem dX8_goes_19 : decode cX8_goes 19 = .ok (.iaload, 1) := by decide +kernel
theorem dX8_goes_20 : decode cX8_goes 20 = .ok (.iload_n 2, 1) := by decide +kernel
theorem dX8_goes_21 : decode cX8_goes 21 = .ok (.iadd, 1) := by decide +kernel
theorem dX8_goes_22 : decode cX8_goes 22 = .ok (.iastore, 1) := by decide +kernel
theorem dX8_goes_23 : decode cX8_goes 23 = .ok (.aload_n 0, 1) := by decide +kernel
theorem dX8_goes_24 : decode cX8_goes 24 = .ok (.getfield 7, 3) := by decide +kernel
theorem dX8_goes_27 : decode cX8_goes 27 = .ok (.bipush 12, 2) := by decide +kernel
theorem dX8_goes_29 : decode cX8_goes 29 = .ok (.dup2, 1) := by decide +kernel
theorem dX8_goes_30 : decode cX8_goes 30 = .ok (.iaload, 1) := by decide +kernel
theorem dX8_goes_31 : decode cX8_goes 31 = .ok (.iload_n 2, 1) := by decide +kernel
theorem dX8_goes_32 : decode cX8_goes 32 = .ok (.aload_n 0, 1) := by decide +kernel
theorem dX8_goes_33 : decode cX8_goes 33 = .ok (.getfield 7, 3) := by decide +kernel
theorem dX8_goes_36 : decode cX8_goes 36 = .ok (.iconst 1, 1) := by decide +kernel
theorem dX8_goes_37 : decode cX8_goes 37 = .ok (.iaload, 1) := by decide +kernel
theorem dX8_goes_38 : decode cX8_goes 38 = .ok (.imul, 1) := by decide +kernel
theorem dX8_goes_39 : decode cX8_goes 39 = .ok (.iadd, 1) := by decide +kernel
theorem dX8_goes_40 : decode cX8_goes 40 = .ok (.iastore, 1) := by decide +kernel
theorem dX8_goes_41 : decode cX8_goes 41 = .ok (.aload_n 0, 1) := by decide +kernel
theorem dX8_goes_42 : decode cX8_goes 42 = .ok (.getfield 7, 3) := by decide +kernel
theorem dX8_goes_45 : decode cX8_goes 45 = .ok (.bipush 11, 2) := by decide +kernel
theorem dX8_goes_47 : decode cX8_goes 47 = .ok (.iload_n 1, 1) := by decide +kernel
theorem dX8_goes_48 : decode cX8_goes 48 = .ok (.iastore, 1) := by decide +kernel
theorem dX8_goes_49 : decode cX8_goes 49 = .ok (.return_, 1) := by decide +kernel
theorem dX8_grips_0 : decode cX8_grips 0 = .ok (.aload_n 0, 1) := by decide +kernel
theorem dX8_grips_1 : decode cX8_grips 1 = .ok (.getfield 7, 3) := by decide +kernel
theorem dX8_grips_4 : decode cX8_grips 4 = .ok (.bipush 12, 2) := by decide +kernel
theorem dX8_grips_6 : decode cX8_grips 6 = .ok (.dup2, 1) := by decide +kernel
theorem dX8_grips_7 : decode cX8_grips 7 = .ok (.iaload, 1) := by decide +kernel
theorem dX8_grips_8 : decode cX8_grips 8 = .ok (.aload_n 0, 1) := by decide +kernel
theorem dX8_grips_9 : decode cX8_grips 9 = .ok (.getfield 7, 3) := by decide +kernel
theorem dX8_grips_12 : decode cX8_grips 12 = .ok (.iconst 2, 1) := by decide +kernel
theorem dX8_grips_13 : decode cX8_grips 13 = .ok (.iaload, 1) := by decide +kernel
theorem dX8_grips_14 : decode cX8_grips 14 = .ok (.iadd, 1) := by decide +kernel
theorem dX8_grips_15 : decode cX8_grips 15 = .ok (.iastore, 1) := by decide +kernel
theorem dX8_grips_16 : decode cX8_grips 16 = .ok (.return_, 1) := by decide +kernel
set_option maxRecDepth 20000 in
theorem ggX8_empties_X8_goes : GoodIn wsX8_empties wsX8_goes := goodIn_r _ [6, 1, 7, 8, 5, 9, 14, 15, 16, 17, 18, 19, 20, 21, 22, 23, 24, 25, 26, 27, 28, 29, 30, 31, 32, 33, 34, 35, 36, 37, 38, 39, 40] (by decide +kernel) (by decide +kernel)
set_option maxRecDepth 20000 in
theorem gX8_empties_X8_goes : GoodIn wsX8_empties (wsV RX8 96 RX8 yX8_goes wsX8_goes) := goodIn_app (goodIn_of _ (by decide +kernel)) ggX8_empties_X8_goes
set_option maxRecDepth 20000 in
theorem ggX8_empties_X8_grips : GoodIn wsX8_empties wsX8_grips := goodIn_r _ [13, 1, 14, 15, 16, 17, 18, 19, 20, 21, 22, 23, 24, 25, 26, 27, 28, 29, 30, 31, 32, 33, 34, 35, 36, 37, 38, 39, 40] (by decide +kernel) (by decide +kernel)
set_option maxRecDepth 20000 in
theorem gX8_empties_X8_grips : GoodIn wsX8_empties (wsV RX8 100 RX8 yX8_grips wsX8_grips) := goodIn_app (goodIn_of _ (by decide +kernel)) ggX8_empties_X8_grips
theorem dX8_empties_0 : decode cX8_empties 0 = .ok (.aload_n 0, 1) := by decide +kernel
theorem dX8_empties_1 : decode cX8_empties 1 = .ok (.aload_n 0, 1) := by decide +kernel
theorem dX8_empties_2 : decode cX8_empties 2 = .ok (.getfield 7, 3) := by decide +kernel
theorem dX8_empties_5 : decode cX8_empties 5 = .ok (.bipush 17, 2) := by decide +kernel
theorem dX8_empties_7 : decode cX8_empties 7 = .ok (.iload_n 1, 1) := by decide +kernel
theorem dX8_empties_8 : decode cX8_empties 8 = .ok (.iadd, 1) := by decide +kernel
theorem dX8_empties_9 : decode cX8_empties 9 = .ok (.iaload, 1) := by decide +kernel
theorem dX8_empties_10 : decode cX8_empties 10 = .ok (.invokevirtual 96, 3) := by decide +kernel
theorem dX8_empties_13 : decode cX8_empties 13 = .ok (.aload_n 0, 1) := by decide +kernel
theorem dX8_empties_14 : decode cX8_empties 14 = .ok (.invokevirtual 100, 3) := by decide +kernel
theorem dX8_empties_17 : decode cX8_empties 17 = .ok (.aload_n 0, 1) := by decide +kernel
theorem dX8_empties_18 : decode cX8_empties 18 = .ok (.aload_n 0, 1) := by decide +kernel
theorem dX8_empties_19 : decode cX8_empties 19 = .ok (.getfield 7, 3) := by decide +kernel
theorem dX8_empties_22 : decode cX8_empties 22 = .ok (.bipush 29, 2) := by decide +kernel
theorem dX8_empties_24 : decode cX8_empties 24 = .ok (.aload_n 0, 1) := by decide +kernel
theorem dX8_empties_25 : decode cX8_empties 25 = .ok (.getfield 7, 3) := by decide +kernel
theorem dX8_empties_28 : decode cX8_empties 28 = .ok (.bipush 21, 2) := by decide +kernel
theorem dX8_empties_30 : decode cX8_empties 30 = .ok (.iload_n 1, 1) := by decide +kernel
theorem dX8_empties_31 : decode cX8_empties 31 = .ok (.iadd, 1) := by decide +kernel
theorem dX8_empties_32 : decode cX8_empties 32 = .ok (.iaload, 1) := by decide +kernel
theorem dX8_empties_33 : decode cX8_empties 33 = .ok (.iadd, 1) := by decide +kernel
theorem dX8_empties_34 : decode cX8_empties 34 = .ok (.iaload, 1) := by decide +kernel
theorem dX8_empties_35 : decode cX8_empties 35 = .ok (.invokevirtual 96, 3) := by decide +kernel
theorem dX8_empties_38 : decode cX8_empties 38 = .ok (.aload_n 0, 1) := by decide +kernel
theorem dX8_empties_39 : decode cX8_empties 39 = .ok (.invokevirtual 100, 3) := by decide +kernel
theorem dX8_empties_42 : decode cX8_empties 42 = .ok (.aload_n 0, 1) := by decide +kernel
theorem dX8_empties_43 : decode cX8_empties 43 = .ok (.getfield 7, 3) := by decide +kernel
theorem dX8_empties_46 : decode cX8_empties 46 = .ok (.bipush 21, 2) := by decide +kernel
theorem dX8_empties_48 : decode cX8_empties 48 = .ok (.iload_n 1, 1) := by decide +kernel
theorem dX8_empties_49 : decode cX8_empties 49 = .ok (.iadd, 1) := by decide +kernel
theorem dX8_empties_50 : decode cX8_empties 50 = .ok (.iconst (-1), 1) := by decide +kernel
theorem dX8_empties_51 : decode cX8_empties 51 = .ok (.iastore, 1) := by decide +kernel
theorem dX8_empties_52 : decode cX8_empties 52 = .ok (.return_, 1) := by decide +kernel
theorem dX8_uses_0 : decode cX8_uses 0 = .ok (.aload_n 0, 1) := by decide +kernel
theorem dX8_uses_1 : decode cX8_uses 1 = .ok (.getfield 7, 3) := by decide +kernel
theorem dX8_uses_4 : decode cX8_uses 4 = .ok (.bipush 15, 2) := by decide +kernel
theorem dX8_uses_6 : decode cX8_uses 6 = .ok (.dup2, 1) := by decide +kernel
theorem dX8_uses_7 : decode cX8_uses 7 = .ok (.iaload, 1) := by decide +kernel
theorem dX8_uses_8 : decode cX8_uses 8 = .ok (.iconst 1, 1) := by decide +kernel
theorem dX8_uses_9 : decode cX8_uses 9 = .ok (.iadd, 1) := by decide +kernel
theorem dX8_uses_10 : decode cX8_uses 10 = .ok (.iastore, 1) := by decide +kernel
theorem dX8_uses_11 : decode cX8_uses 11 = .ok (.aload_n 0, 1) := by decide +kernel
theorem dX8_uses_12 : decode cX8_uses 12 = .ok (.getfield 7, 3) := by decide +kernel
theorem dX8_uses_15 : decode cX8_uses 15 = .ok (.bipush 25, 2) := by decide +kernel
theorem dX8_uses_17 : decode cX8_uses 17 = .ok (.iload_n 1, 1) := by decide +kernel
theorem dX8_uses_18 : decode cX8_uses 18 = .ok (.iadd, 1) := by decide +kernel
theorem dX8_uses_19 : decode cX8_uses 19 = .ok (.aload_n 0, 1) := by decide +kernel
theorem dX8_uses_20 : decode cX8_uses 20 = .ok (.getfield 7, 3) := by decide +kernel
theorem dX8_uses_23 : decode cX8_uses 23 = .ok (.bipush 15, 2) := by decide +kernel
theorem dX8_uses_25 : decode cX8_uses 25 = .ok (.iaload, 1) := by decide +kernel
theorem dX8_uses_26 : decode cX8_uses 26 = .ok (.iastore, 1) := by decide +kernel
theorem dX8_uses_27 : decode cX8_uses 27 = .ok (.return_, 1) := by decide +kernel
set_option maxRecDepth 20000 in
theorem ggX8_brings_X8_empties : GoodIn wsX8_brings wsX8_empties := goodIn_r _ [6, 1, 7, 8, 9, 5, 10, 11, 12, 13, 14, 15, 16, 17, 22, 23, 24, 25, 26, 27, 28, 29, 30, 31, 32, 33, 34, 35, 36, 37, 38, 39, 40, 41, 42, 43, 44, 45, 46, 47, 48] (by decide +kernel) (by decide +kernel)
set_option maxRecDepth 20000 in
theorem gX8_brings_X8_empties : GoodIn wsX8_brings (wsV RX8 103 RX8 yX8_empties wsX8_empties) := goodIn_app (goodIn_of _ (by decide +kernel)) ggX8_brings_X8_empties
set_option maxRecDepth 20000 in
theorem ggX8_brings_X8_goes : GoodIn wsX8_brings wsX8_goes := goodIn_r _ [10, 1, 11, 12, 5, 13, 22, 23, 24, 25, 26, 27, 28, 29, 30, 31, 32, 33, 34, 35, 36, 37, 38, 39, 40, 41, 42, 43, 44, 45, 46, 47, 48] (by decide +kernel) (by decide +kernel)
set_option maxRecDepth 20000 in
theorem gX8_brings_X8_goes : GoodIn wsX8_brings (wsV RX8 96 RX8 yX8_goes wsX8_goes) := goodIn_app (goodIn_of _ (by decide +kernel)) ggX8_brings_X8_goes
set_option maxRecDepth 20000 in
theorem ggX8_brings_X8_grips : GoodIn wsX8_brings wsX8_grips := goodIn_r _ [17, 1, 22, 23, 24, 25, 26, 27, 28, 29, 30, 31, 32, 33, 34, 35, 36, 37, 38, 39, 40, 41, 42, 43, 44, 45, 46, 47, 48] (by decide +kernel) (by decide +kernel)
set_option maxRecDepth 20000 in
theorem gX8_brings_X8_grips : GoodIn wsX8_brings (wsV RX8 100 RX8 yX8_grips wsX8_grips) := goodIn_app (goodIn_of _ (by decide +kernel)) ggX8_brings_X8_grips
set_option maxRecDepth 20000 in
theorem ggX8_brings_X8_uses : GoodIn wsX8_brings wsX8_uses := goodIn_r _ [21, 1, 22, 23, 24, 25, 26, 27, 28, 29, 30, 31, 32, 33, 34, 35, 36, 37, 38, 39, 40, 41, 42, 43, 44, 45, 46, 47, 48] (by decide +kernel) (by decide +kernel)
set_option maxRecDepth 20000 in
theorem gX8_brings_X8_uses : GoodIn wsX8_brings (wsV RX8 106 RX8 yX8_uses wsX8_uses) := goodIn_app (goodIn_of _ (by decide +kernel)) ggX8_brings_X8_uses
theorem dX8_brings_0 : decode cX8_brings 0 = .ok (.aload_n 0, 1) := by decide +kernel
theorem dX8_brings_1 : decode cX8_brings 1 = .ok (.getfield 7, 3) := by decide +kernel
theorem dX8_brings_4 : decode cX8_brings 4 = .ok (.bipush 21, 2) := by decide +kernel
theorem dX8_brings_6 : decode cX8_brings 6 = .ok (.iload_n 2, 1) := by decide +kernel
theorem dX8_brings_7 : decode cX8_brings 7 = .ok (.iadd, 1) := by decide +kernel
theorem dX8_brings_8 : decode cX8_brings 8 = .ok (.iaload, 1) := by decide +kernel
theorem dX8_brings_9 : decode cX8_brings 9 = .ok (.iconst (-1), 1) := by decide +kernel
theorem dX8_brings_10 : decode cX8_brings 10 = .ok (.if_icmp .eq 8, 3) := by decide +kernel
theorem dX8_brings_13 : decode cX8_brings 13 = .ok (.aload_n 0, 1) := by decide +kernel
theorem dX8_brings_14 : decode cX8_brings 14 = .ok (.iload_n 2, 1) := by decide +kernel
theorem dX8_brings_15 : decode cX8_brings 15 = .ok (.invokevirtual 103, 3) := by decide +kernel
theorem dX8_brings_18 : decode cX8_brings 18 = .ok (.aload_n 0, 1) := by decide +kernel
theorem dX8_brings_19 : decode cX8_brings 19 = .ok (.aload_n 0, 1) := by decide +kernel
theorem dX8_brings_20 : decode cX8_brings 20 = .ok (.getfield 7, 3) := by decide +kernel
theorem dX8_brings_23 : decode cX8_brings 23 = .ok (.bipush 29, 2) := by decide +kernel
theorem dX8_brings_25 : decode cX8_brings 25 = .ok (.iload_n 1, 1) := by decide +kernel
theorem dX8_brings_26 : decode cX8_brings 26 = .ok (.iadd, 1) := by decide +kernel
theorem dX8_brings_27 : decode cX8_brings 27 = .ok (.iaload, 1) := by decide +kernel
theorem dX8_brings_28 : decode cX8_brings 28 = .ok (.invokevirtual 96, 3) := by decide +kernel
theorem dX8_brings_31 : decode cX8_brings 31 = .ok (.aload_n 0, 1) := by decide +kernel
theorem dX8_brings_32 : decode cX8_brings 32 = .ok (.invokevirtual 100, 3) := by decide +kernel
theorem dX8_brings_35 : decode cX8_brings 35 = .ok (.aload_n 0, 1) := by decide +kernel
theorem dX8_brings_36 : decode cX8_brings 36 = .ok (.aload_n 0, 1) := by decide +kernel
theorem dX8_brings_37 : decode cX8_brings 37 = .ok (.getfield 7, 3) := by decide +kernel
theorem dX8_brings_40 : decode cX8_brings 40 = .ok (.bipush 17, 2) := by decide +kernel
theorem dX8_brings_42 : decode cX8_brings 42 = .ok (.iload_n 2, 1) := by decide +kernel
theorem dX8_brings_43 : decode cX8_brings 43 = .ok (.iadd, 1) := by decide +kernel
theorem dX8_brings_44 : decode cX8_brings 44 = .ok (.iaload, 1) := by decide +kernel
theorem dX8_brings_45 : decode cX8_brings 45 = .ok (.invokevirtual 96, 3) := by decide +kernel
theorem dX8_brings_48 : decode cX8_brings 48 = .ok (.aload_n 0, 1) := by decide +kernel
theorem dX8_brings_49 : decode cX8_brings 49 = .ok (.invokevirtual 100, 3) := by decide +kernel
theorem dX8_brings_52 : decode cX8_brings 52 = .ok (.aload_n 0, 1) := by decide +kernel
theorem dX8_brings_53 : decode cX8_brings 53 = .ok (.getfield 7, 3) := by decide +kernel
theorem dX8_brings_56 : decode cX8_brings 56 = .ok (.bipush 21, 2) := by decide +kernel
theorem dX8_brings_58 : decode cX8_brings 58 = .ok (.iload_n 2, 1) := by decide +kernel
theorem dX8_brings_59 : decode cX8_brings 59 = .ok (.iadd, 1) := by decide +kernel
theorem dX8_brings_60 : decode cX8_brings 60 = .ok (.iload_n 1, 1) := by decide +kernel
theorem dX8_brings_61 : decode cX8_brings 61 = .ok (.iastore, 1) := by decide +kernel
theorem dX8_brings_62 : decode cX8_brings 62 = .ok (.aload_n 0, 1) := by decide +kernel
theorem dX8_brings_63 : decode cX8_brings 63 = .ok (.getfield 7, 3) := by decide +kernel
theorem dX8_brings_66 : decode cX8_brings 66 = .ok (.bipush 12, 2) := by decide +kernel
theorem dX8_brings_68 : decode cX8_brings 68 = .ok (.dup2, 1) := by decide +kernel
theorem dX8_brings_69 : decode cX8_brings 69 = .ok (.iaload, 1) := by decide +kernel
theorem dX8_brings_70 : decode cX8_brings 70 = .ok (.aload_n 0, 1) := by decide +kernel
theorem dX8_brings_71 : decode cX8_brings 71 = .ok (.getfield 7, 3) := by decide +kernel
theorem dX8_brings_74 : decode cX8_brings 74 = .ok (.iconst 3, 1) := by decide +kernel
theorem dX8_brings_75 : decode cX8_brings 75 = .ok (.iaload, 1) := by decide +kernel
theorem dX8_brings_76 : decode cX8_brings 76 = .ok (.iadd, 1) := by decide +kernel
theorem dX8_brings_77 : decode cX8_brings 77 = .ok (.iastore, 1) := by decide +kernel
theorem dX8_brings_78 : decode cX8_brings 78 = .ok (.aload_n 0, 1) := by decide +kernel
theorem dX8_brings_79 : decode cX8_brings 79 = .ok (.getfield 7, 3) := by decide +kernel
theorem dX8_brings_82 : decode cX8_brings 82 = .ok (.bipush 13, 2) := by decide +kernel
theorem dX8_brings_84 : decode cX8_brings 84 = .ok (.dup2, 1) := by decide +kernel
theorem dX8_brings_85 : decode cX8_brings 85 = .ok (.iaload, 1) := by decide +kernel
theorem dX8_brings_86 : decode cX8_brings 86 = .ok (.iconst 1, 1) := by decide +kernel
theorem dX8_brings_87 : decode cX8_brings 87 = .ok (.iadd, 1) := by decide +kernel
theorem dX8_brings_88 : decode cX8_brings 88 = .ok (.iastore, 1) := by decide +kernel
theorem dX8_brings_89 : decode cX8_brings 89 = .ok (.aload_n 0, 1) := by decide +kernel
theorem dX8_brings_90 : decode cX8_brings 90 = .ok (.iload_n 2, 1) := by decide +kernel
theorem dX8_brings_91 : decode cX8_brings 91 = .ok (.invokevirtual 106, 3) := by decide +kernel
theorem dX8_brings_94 : decode cX8_brings 94 = .ok (.return_, 1) := by decide +kernel
theorem dX8_freeDrive_0 : decode cX8_freeDrive 0 = .ok (.iconst (-1), 1) := by decide +kernel
theorem dX8_freeDrive_1 : decode cX8_freeDrive 1 = .ok (.istore_n 1, 1) := by decide +kernel
theorem dX8_freeDrive_2 : decode cX8_freeDrive 2 = .ok (.aload_n 0, 1) := by decide +kernel
theorem dX8_freeDrive_3 : decode cX8_freeDrive 3 = .ok (.getfield 7, 3) := by decide +kernel
theorem dX8_freeDrive_6 : decode cX8_freeDrive 6 = .ok (.bipush 6, 2) := by decide +kernel
theorem dX8_freeDrive_8 : decode cX8_freeDrive 8 = .ok (.iaload, 1) := by decide +kernel
theorem dX8_freeDrive_9 : decode cX8_freeDrive 9 = .ok (.iconst 1, 1) := by decide +kernel
theorem dX8_freeDrive_10 : decode cX8_freeDrive 10 = .ok (.isub, 1) := by decide +kernel
theorem dX8_freeDrive_11 : decode cX8_freeDrive 11 = .ok (.istore_n 2, 1) := by decide +kernel
theorem dX8_freeDrive_12 : decode cX8_freeDrive 12 = .ok (.iload_n 2, 1) := by decide +kernel
theorem dX8_freeDrive_13 : decode cX8_freeDrive 13 = .ok (.ifCond .lt 24, 3) := by decide +kernel
theorem dX8_freeDrive_16 : decode cX8_freeDrive 16 = .ok (.aload_n 0, 1) := by decide +kernel
theorem dX8_freeDrive_17 : decode cX8_freeDrive 17 = .ok (.getfield 7, 3) := by decide +kernel
theorem dX8_freeDrive_20 : decode cX8_freeDrive 20 = .ok (.bipush 21, 2) := by decide +kernel
theorem dX8_freeDrive_22 : decode cX8_freeDrive 22 = .ok (.iload_n 2, 1) := by decide +kernel
theorem dX8_freeDrive_23 : decode cX8_freeDrive 23 = .ok (.iadd, 1) := by decide +kernel
theorem dX8_freeDrive_24 : decode cX8_freeDrive 24 = .ok (.iaload, 1) := by decide +kernel
theorem dX8_freeDrive_25 : decode cX8_freeDrive 25 = .ok (.iconst (-1), 1) := by decide +kernel
theorem dX8_freeDrive_26 : decode cX8_freeDrive 26 = .ok (.if_icmp .ne 5, 3) := by decide +kernel
theorem dX8_freeDrive_29 : decode cX8_freeDrive 29 = .ok (.iload_n 2, 1) := by decide +kernel
theorem dX8_freeDrive_30 : decode cX8_freeDrive 30 = .ok (.istore_n 1, 1) := by decide +kernel
theorem dX8_freeDrive_31 : decode cX8_freeDrive 31 = .ok (.iinc 2 (-1), 3) := by decide +kernel
theorem dX8_freeDrive_34 : decode cX8_freeDrive 34 = .ok (.goto (-22), 3) := by decide +kernel
theorem dX8_freeDrive_37 : decode cX8_freeDrive 37 = .ok (.iload_n 1, 1) := by decide +kernel
theorem dX8_freeDrive_38 : decode cX8_freeDrive 38 = .ok (.iconst (-1), 1) := by decide +kernel
theorem dX8_freeDrive_39 : decode cX8_freeDrive 39 = .ok (.if_icmp .eq 5, 3) := by decide +kernel
theorem dX8_freeDrive_42 : decode cX8_freeDrive 42 = .ok (.iload_n 1, 1) := by decide +kernel
theorem dX8_freeDrive_43 : decode cX8_freeDrive 43 = .ok (.ireturn, 1) := by decide +kernel
theorem dX8_freeDrive_44 : decode cX8_freeDrive 44 = .ok (.iconst 0, 1) := by decide +kernel
theorem dX8_freeDrive_45 : decode cX8_freeDrive 45 = .ok (.istore_n 1, 1) := by decide +kernel
theorem dX8_freeDrive_46 : decode cX8_freeDrive 46 = .ok (.iconst 1, 1) := by decide +kernel
theorem dX8_freeDrive_47 : decode cX8_freeDrive 47 = .ok (.istore_n 2, 1) := by decide +kernel
theorem dX8_freeDrive_48 : decode cX8_freeDrive 48 = .ok (.iload_n 2, 1) := by decide +kernel
theorem dX8_freeDrive_49 : decode cX8_freeDrive 49 = .ok (.aload_n 0, 1) := by decide +kernel
theorem dX8_freeDrive_50 : decode cX8_freeDrive 50 = .ok (.getfield 7, 3) := by decide +kernel
theorem dX8_freeDrive_53 : decode cX8_freeDrive 53 = .ok (.bipush 6, 2) := by decide +kernel
theorem dX8_freeDrive_55 : decode cX8_freeDrive 55 = .ok (.iaload, 1) := by decide +kernel
theorem dX8_freeDrive_56 : decode cX8_freeDrive 56 = .ok (.if_icmp .ge 32, 3) := by decide +kernel
theorem dX8_freeDrive_59 : decode cX8_freeDrive 59 = .ok (.aload_n 0, 1) := by decide +kernel
theorem dX8_freeDrive_60 : decode cX8_freeDrive 60 = .ok (.getfield 7, 3) := by decide +kernel
theorem dX8_freeDrive_63 : decode cX8_freeDrive 63 = .ok (.bipush 25, 2) := by decide +kernel
theorem dX8_freeDrive_65 : decode cX8_freeDrive 65 = .ok (.iload_n 2, 1) := by decide +kernel
theorem dX8_freeDrive_66 : decode cX8_freeDrive 66 = .ok (.iadd, 1) := by decide +kernel
theorem dX8_freeDrive_67 : decode cX8_freeDrive 67 = .ok (.iaload, 1) := by decide +kernel
theorem dX8_freeDrive_68 : decode cX8_freeDrive 68 = .ok (.aload_n 0, 1) := by decide +kernel
theorem dX8_freeDrive_69 : decode cX8_freeDrive 69 = .ok (.getfield 7, 3) := by decide +kernel
theorem dX8_freeDrive_72 : decode cX8_freeDrive 72 = .ok (.bipush 25, 2) := by decide +kernel
theorem dX8_freeDrive_74 : decode cX8_freeDrive 74 = .ok (.iload_n 1, 1) := by decide +kernel
theorem dX8_freeDrive_75 : decode cX8_freeDrive 75 = .ok (.iadd, 1) := by decide +kernel
theorem dX8_freeDrive_76 : decode cX8_freeDrive 76 = .ok (.iaload, 1) := by decide +kernel
theorem dX8_freeDrive_77 : decode cX8_freeDrive 77 = .ok (.if_icmp .ge 5, 3) := by decide +kernel
theorem dX8_freeDrive_80 : decode cX8_freeDrive 80 = .ok (.iload_n 2, 1) := by decide +kernel
theorem dX8_freeDrive_81 : decode cX8_freeDrive 81 = .ok (.istore_n 1, 1) := by decide +kernel
theorem dX8_freeDrive_82 : decode cX8_freeDrive 82 = .ok (.iinc 2 1, 3) := by decide +kernel
theorem dX8_freeDrive_85 : decode cX8_freeDrive 85 = .ok (.goto (-37), 3) := by decide +kernel
theorem dX8_freeDrive_88 : decode cX8_freeDrive 88 = .ok (.iload_n 1, 1) := by decide +kernel
theorem dX8_freeDrive_89 : decode cX8_freeDrive 89 = .ok (.ireturn, 1) := by decide +kernel
set_option maxRecDepth 20000 in
theorem ggX8_chosen_X8_inDrive : GoodIn wsX8_chosen wsX8_inDrive := goodIn_r _ [5, 6, 11, 12, 13, 14, 15, 16, 17, 18, 19, 20, 21, 22, 23, 24, 25, 26, 27, 28, 29, 30, 31, 32, 33, 34, 35, 36, 37] (by decide +kernel) (by decide +kernel)
set_option maxRecDepth 20000 in
theorem gX8_chosen_X8_inDrive : GoodIn wsX8_chosen (wsV RX8 109 RX8 yX8_inDrive wsX8_inDrive) := goodIn_app (goodIn_of _ (by decide +kernel)) ggX8_chosen_X8_inDrive
set_option maxRecDepth 20000 in
theorem ggX8_chosen_X8_freeDrive : GoodIn wsX8_chosen wsX8_freeDrive := goodIn_r _ [10, 6, 11, 12, 13, 14, 15, 16, 17, 18, 19, 20, 21, 22, 23, 24, 25, 26, 27, 28, 29, 30, 31, 32, 33, 34, 35, 36, 37] (by decide +kernel) (by decide +kernel)
set_option maxRecDepth 20000 in
theorem gX8_chosen_X8_freeDrive : GoodIn wsX8_chosen (wsV RX8 112 RX8 yX8_freeDrive wsX8_freeDrive) := goodIn_app (goodIn_of _ (by decide +kernel)) ggX8_chosen_X8_freeDrive
theorem dX8_chosen_0 : decode cX8_chosen 0 = .ok (.aload_n 0, 1) := by decide +kernel
theorem dX8_chosen_1 : decode cX8_chosen 1 = .ok (.iload_n 1, 1) := by decide +kernel
theorem dX8_chosen_2 : decode cX8_chosen 2 = .ok (.invokevirtual 109, 3) := by decide +kernel
theorem dX8_chosen_5 : decode cX8_chosen 5 = .ok (.istore_n 2, 1) := by decide +kernel
theorem dX8_chosen_6 : decode cX8_chosen 6 = .ok (.iload_n 2, 1) := by decide +kernel
theorem dX8_chosen_7 : decode cX8_chosen 7 = .ok (.iconst (-1), 1) := by decide +kernel
theorem dX8_chosen_8 : decode cX8_chosen 8 = .ok (.if_icmp .eq 7, 3) := by decide +kernel
theorem dX8_chosen_11 : decode cX8_chosen 11 = .ok (.iload_n 2, 1) := by decide +kernel
theorem dX8_chosen_12 : decode cX8_chosen 12 = .ok (.goto 7, 3) := by decide +kernel
theorem dX8_chosen_15 : decode cX8_chosen 15 = .ok (.aload_n 0, 1) := by decide +kernel
theorem dX8_chosen_16 : decode cX8_chosen 16 = .ok (.invokevirtual 112, 3) := by decide +kernel
theorem dX8_chosen_19 : decode cX8_chosen 19 = .ok (.ireturn, 1) := by decide +kernel
set_option maxRecDepth 20000 in
theorem ggX8_mounts_X8_chosen : GoodIn wsX8_mounts wsX8_chosen := goodIn_r _ [5, 6, 7, 8, 4, 9, 10, 11, 12, 13, 14, 38, 39, 40, 41, 42, 43, 44, 45, 46, 47, 48, 49, 50, 51, 52, 53, 54, 55, 56, 57, 58, 59, 60, 61, 62, 63, 64] (by decide +kernel) (by decide +kernel)
set_option maxRecDepth 20000 in
theorem gX8_mounts_X8_chosen : GoodIn wsX8_mounts (wsV RX8 116 RX8 yX8_chosen wsX8_chosen) := goodIn_app (goodIn_of _ (by decide +kernel)) ggX8_mounts_X8_chosen
set_option maxRecDepth 20000 in
theorem ggX8_mounts_X8_inDrive : GoodIn wsX8_mounts wsX8_inDrive := goodIn_r _ [9, 10, 38, 39, 40, 41, 42, 43, 44, 45, 46, 47, 48, 49, 50, 51, 52, 53, 54, 55, 56, 57, 58, 59, 60, 61, 62, 63, 64] (by decide +kernel) (by decide +kernel)
set_option maxRecDepth 20000 in
theorem gX8_mounts_X8_inDrive : GoodIn wsX8_mounts (wsV RX8 109 RX8 yX8_inDrive wsX8_inDrive) := goodIn_app (goodIn_of _ (by decide +kernel)) ggX8_mounts_X8_inDrive
set_option maxRecDepth 20000 in
theorem ggX8_mounts_X8_brings : GoodIn wsX8_mounts wsX8_brings := goodIn_r _ [18, 10, 19, 20, 21, 4, 22, 23, 24, 25, 26, 27, 28, 29, 30, 31, 32, 33, 34, 35, 36, 37, 38, 39, 40, 41, 42, 43, 44, 45, 46, 47, 48, 49, 50, 51, 52, 53, 54, 55, 56, 57, 58, 59, 60, 61, 62, 63, 64] (by decide +kernel) (by decide +kernel)
set_option maxRecDepth 20000 in
theorem gX8_mounts_X8_brings : GoodIn wsX8_mounts (wsV RX8 119 RX8 yX8_brings wsX8_brings) := goodIn_app (goodIn_of _ (by decide +kernel)) ggX8_mounts_X8_brings
set_option maxRecDepth 20000 in
theorem ggX8_mounts_X8_uses : GoodIn wsX8_mounts wsX8_uses := goodIn_r _ [37, 10, 38, 39, 40, 41, 42, 43, 44, 45, 46, 47, 48, 49, 50, 51, 52, 53, 54, 55, 56, 57, 58, 59, 60, 61, 62, 63, 64] (by decide +kernel) (by decide +kernel)
set_option maxRecDepth 20000 in
theorem gX8_mounts_X8_uses : GoodIn wsX8_mounts (wsV RX8 106 RX8 yX8_uses wsX8_uses) := goodIn_app (goodIn_of _ (by decide +kernel)) ggX8_mounts_X8_uses
theorem dX8_mounts_0 : decode cX8_mounts 0 = .ok (.aload_n 0, 1) := by decide +kernel
theorem dX8_mounts_1 : decode cX8_mounts 1 = .ok (.iload_n 1, 1) := by decide +kernel
theorem dX8_mounts_2 : decode cX8_mounts 2 = .ok (.invokevirtual 116, 3) := by decide +kernel
theorem dX8_mounts_5 : decode cX8_mounts 5 = .ok (.istore_n 2, 1) := by decide +kernel
theorem dX8_mounts_6 : decode cX8_mounts 6 = .ok (.aload_n 0, 1) := by decide +kernel
theorem dX8_mounts_7 : decode cX8_mounts 7 = .ok (.iload_n 1, 1) := by decide +kernel
theorem dX8_mounts_8 : decode cX8_mounts 8 = .ok (.invokevirtual 109, 3) := by decide +kernel
theorem dX8_mounts_11 : decode cX8_mounts 11 = .ok (.iconst (-1), 1) := by decide +kernel
theorem dX8_mounts_12 : decode cX8_mounts 12 = .ok (.if_icmp .ne 9, 3) := by decide +kernel
theorem dX8_mounts_15 : decode cX8_mounts 15 = .ok (.aload_n 0, 1) := by decide +kernel
theorem dX8_mounts_16 : decode cX8_mounts 16 = .ok (.iload_n 1, 1) := by decide +kernel
theorem dX8_mounts_17 : decode cX8_mounts 17 = .ok (.iload_n 2, 1) := by decide +kernel
theorem dX8_mounts_18 : decode cX8_mounts 18 = .ok (.invokevirtual 119, 3) := by decide +kernel
theorem dX8_mounts_21 : decode cX8_mounts 21 = .ok (.aload_n 0, 1) := by decide +kernel
theorem dX8_mounts_22 : decode cX8_mounts 22 = .ok (.iload_n 2, 1) := by decide +kernel
theorem dX8_mounts_23 : decode cX8_mounts 23 = .ok (.invokevirtual 106, 3) := by decide +kernel
theorem dX8_mounts_26 : decode cX8_mounts 26 = .ok (.iload_n 2, 1) := by decide +kernel
theorem dX8_mounts_27 : decode cX8_mounts 27 = .ok (.ireturn, 1) := by decide +kernel
set_option maxRecDepth 20000 in
theorem ggX8_reads_X8_platterOf : GoodIn wsX8_reads wsX8_platterOf := goodIn_r _ [6, 1, 7, 8, 9, 5, 10, 50, 51, 52, 53, 54, 55, 56, 57, 58, 59, 60, 61, 62, 63, 64, 65, 66, 67, 68, 69, 70, 71, 72, 73, 74, 75, 76] (by decide +kernel) (by decide +kernel)
set_option maxRecDepth 20000 in
theorem gX8_reads_X8_platterOf : GoodIn wsX8_reads (wsV RX8 123 RX8 yX8_platterOf wsX8_platterOf) := goodIn_app (goodIn_of _ (by decide +kernel)) ggX8_reads_X8_platterOf
set_option maxRecDepth 20000 in
theorem ggX8_reads_X8_mounts : GoodIn wsX8_reads wsX8_mounts := goodIn_r _ [14, 15, 16, 17, 5, 18, 19, 20, 21, 22, 1, 23, 24, 25, 26, 27, 28, 29, 30, 31, 32, 33, 34, 35, 36, 37, 38, 39, 40, 41, 42, 43, 44, 45, 46, 47, 48, 49, 50, 51, 52, 53, 54, 55, 56, 57, 58, 59, 60, 61, 62, 63, 64, 65, 66, 67, 68, 69, 70, 71, 72, 73, 74, 75, 76] (by decide +kernel) (by decide +kernel)
set_option maxRecDepth 20000 in
theorem gX8_reads_X8_mounts : GoodIn wsX8_reads (wsV RX8 126 RX8 yX8_mounts wsX8_mounts) := goodIn_app (goodIn_of _ (by decide +kernel)) ggX8_reads_X8_mounts
set_option maxRecDepth 20000 in
theorem ggX8_reads_X8_version : GoodIn wsX8_reads wsX8_version := goodIn_r _ [10, 1, 50, 51, 52, 53, 54, 55, 56, 57, 58, 59, 60, 61, 62, 63, 64, 65, 66, 67, 68, 69, 70, 71, 72, 73, 74, 75, 76] (by decide +kernel) (by decide +kernel)
set_option maxRecDepth 20000 in
theorem gX8_reads_X8_version : GoodIn wsX8_reads (wsV RX8 86 RX8 yX8_version wsX8_version) := goodIn_app (goodIn_of _ (by decide +kernel)) ggX8_reads_X8_version
theorem dX8_reads_0 : decode cX8_reads 0 = .ok (.aload_n 0, 1) := by decide +kernel
theorem dX8_reads_1 : decode cX8_reads 1 = .ok (.aload_n 0, 1) := by decide +kernel
theorem dX8_reads_2 : decode cX8_reads 2 = .ok (.iload_n 1, 1) := by decide +kernel
theorem dX8_reads_3 : decode cX8_reads 3 = .ok (.invokevirtual 123, 3) := by decide +kernel
theorem dX8_reads_6 : decode cX8_reads 6 = .ok (.invokevirtual 126, 3) := by decide +kernel
theorem dX8_reads_9 : decode cX8_reads 9 = .ok (.pop, 1) := by decide +kernel
theorem dX8_reads_10 : decode cX8_reads 10 = .ok (.aload_n 0, 1) := by decide +kernel
theorem dX8_reads_11 : decode cX8_reads 11 = .ok (.iload_n 1, 1) := by decide +kernel
theorem dX8_reads_12 : decode cX8_reads 12 = .ok (.invokevirtual 86, 3) := by decide +kernel
theorem dX8_reads_15 : decode cX8_reads 15 = .ok (.istore_n 2, 1) := by decide +kernel
theorem dX8_reads_16 : decode cX8_reads 16 = .ok (.aload_n 0, 1) := by decide +kernel
theorem dX8_reads_17 : decode cX8_reads 17 = .ok (.getfield 7, 3) := by decide +kernel
theorem dX8_reads_20 : decode cX8_reads 20 = .ok (.bipush 12, 2) := by decide +kernel
theorem dX8_reads_22 : decode cX8_reads 22 = .ok (.dup2, 1) := by decide +kernel
theorem dX8_reads_23 : decode cX8_reads 23 = .ok (.iaload, 1) := by decide +kernel
theorem dX8_reads_24 : decode cX8_reads 24 = .ok (.aload_n 0, 1) := by decide +kernel
theorem dX8_reads_25 : decode cX8_reads 25 = .ok (.getfield 7, 3) := by decide +kernel
theorem dX8_reads_28 : decode cX8_reads 28 = .ok (.iconst 4, 1) := by decide +kernel
theorem dX8_reads_29 : decode cX8_reads 29 = .ok (.iaload, 1) := by decide +kernel
theorem dX8_reads_30 : decode cX8_reads 30 = .ok (.aload_n 0, 1) := by decide +kernel
theorem dX8_reads_31 : decode cX8_reads 31 = .ok (.getfield 7, 3) := by decide +kernel
theorem dX8_reads_34 : decode cX8_reads 34 = .ok (.sipush 429, 3) := by decide +kernel
theorem dX8_reads_37 : decode cX8_reads 37 = .ok (.iload_n 2, 1) := by decide +kernel
theorem dX8_reads_38 : decode cX8_reads 38 = .ok (.iadd, 1) := by decide +kernel
theorem dX8_reads_39 : decode cX8_reads 39 = .ok (.iaload, 1) := by decide +kernel
theorem dX8_reads_40 : decode cX8_reads 40 = .ok (.aload_n 0, 1) := by decide +kernel
theorem dX8_reads_41 : decode cX8_reads 41 = .ok (.getfield 7, 3) := by decide +kernel
theorem dX8_reads_44 : decode cX8_reads 44 = .ok (.sipush 509, 3) := by decide +kernel
theorem dX8_reads_47 : decode cX8_reads 47 = .ok (.iload_n 2, 1) := by decide +kernel
theorem dX8_reads_48 : decode cX8_reads 48 = .ok (.iadd, 1) := by decide +kernel
theorem dX8_reads_49 : decode cX8_reads 49 = .ok (.iaload, 1) := by decide +kernel
theorem dX8_reads_50 : decode cX8_reads 50 = .ok (.iadd, 1) := by decide +kernel
theorem dX8_reads_51 : decode cX8_reads 51 = .ok (.imul, 1) := by decide +kernel
theorem dX8_reads_52 : decode cX8_reads 52 = .ok (.iadd, 1) := by decide +kernel
theorem dX8_reads_53 : decode cX8_reads 53 = .ok (.iastore, 1) := by decide +kernel
theorem dX8_reads_54 : decode cX8_reads 54 = .ok (.return_, 1) := by decide +kernel
set_option maxRecDepth 20000 in
theorem ggX8_tries_X8_copies : GoodIn wsX8_tries wsX8_copies := goodIn_r _ [7] (by decide +kernel) (by decide +kernel)
set_option maxRecDepth 20000 in
theorem gX8_tries_X8_copies : GoodIn wsX8_tries (va_wsS RX8 129 yX8_copies wsX8_copies) := goodIn_app (goodIn_of _ (by decide +kernel)) ggX8_tries_X8_copies
theorem dX8_tries_0 : decode cX8_tries 0 = .ok (.aload_n 0, 1) := by decide +kernel
theorem dX8_tries_1 : decode cX8_tries 1 = .ok (.getfield 7, 3) := by decide +kernel
theorem dX8_tries_4 : decode cX8_tries 4 = .ok (.aload_n 0, 1) := by decide +kernel
theorem dX8_tries_5 : decode cX8_tries 5 = .ok (.getfield 16, 3) := by decide +kernel
theorem dX8_tries_8 : decode cX8_tries 8 = .ok (.invokestatic 129, 3) := by decide +kernel
theorem dX8_tries_11 : decode cX8_tries 11 = .ok (.aload_n 0, 1) := by decide +kernel
theorem dX8_tries_12 : decode cX8_tries 12 = .ok (.aload_n 0, 1) := by decide +kernel
theorem dX8_tries_13 : decode cX8_tries 13 = .ok (.getfield 7, 3) := by decide +kernel
theorem dX8_tries_16 : decode cX8_tries 16 = .ok (.bipush 12, 2) := by decide +kernel
theorem dX8_tries_18 : decode cX8_tries 18 = .ok (.iaload, 1) := by decide +kernel
theorem dX8_tries_19 : decode cX8_tries 19 = .ok (.putfield 133, 3) := by decide +kernel
theorem dX8_tries_22 : decode cX8_tries 22 = .ok (.return_, 1) := by decide +kernel
set_option maxRecDepth 20000 in
theorem ggX8_takesBack_X8_copies : GoodIn wsX8_takesBack wsX8_copies := goodIn_r _ [7] (by decide +kernel) (by decide +kernel)
set_option maxRecDepth 20000 in
theorem gX8_takesBack_X8_copies : GoodIn wsX8_takesBack (va_wsS RX8 129 yX8_copies wsX8_copies) := goodIn_app (goodIn_of _ (by decide +kernel)) ggX8_takesBack_X8_copies
theorem dX8_takesBack_0 : decode cX8_takesBack 0 = .ok (.aload_n 0, 1) := by decide +kernel
theorem dX8_takesBack_1 : decode cX8_takesBack 1 = .ok (.getfield 7, 3) := by decide +kernel
theorem dX8_takesBack_4 : decode cX8_takesBack 4 = .ok (.bipush 12, 2) := by decide +kernel
theorem dX8_takesBack_6 : decode cX8_takesBack 6 = .ok (.iaload, 1) := by decide +kernel
theorem dX8_takesBack_7 : decode cX8_takesBack 7 = .ok (.aload_n 0, 1) := by decide +kernel
theorem dX8_takesBack_8 : decode cX8_takesBack 8 = .ok (.getfield 133, 3) := by decide +kernel
theorem dX8_takesBack_11 : decode cX8_takesBack 11 = .ok (.isub, 1) := by decide +kernel
theorem dX8_takesBack_12 : decode cX8_takesBack 12 = .ok (.istore_n 1, 1) := by decide +kernel
theorem dX8_takesBack_13 : decode cX8_takesBack 13 = .ok (.aload_n 0, 1) := by decide +kernel
theorem dX8_takesBack_14 : decode cX8_takesBack 14 = .ok (.getfield 16, 3) := by decide +kernel
theorem dX8_takesBack_17 : decode cX8_takesBack 17 = .ok (.aload_n 0, 1) := by decide +kernel
theorem dX8_takesBack_18 : decode cX8_takesBack 18 = .ok (.getfield 7, 3) := by decide +kernel
theorem dX8_takesBack_21 : decode cX8_takesBack 21 = .ok (.invokestatic 129, 3) := by decide +kernel
theorem dX8_takesBack_24 : decode cX8_takesBack 24 = .ok (.iload_n 1, 1) := by decide +kernel
theorem dX8_takesBack_25 : decode cX8_takesBack 25 = .ok (.ireturn, 1) := by decide +kernel
set_option maxRecDepth 20000 in
theorem ggX8_bringTime_X8_tries : GoodIn wsX8_bringTime wsX8_tries := goodIn_r _ [5, 6, 7, 8, 9, 10, 4, 11, 39, 40, 41, 42, 43, 44, 45, 46, 47, 48, 49, 50, 51, 52, 53, 54, 55, 56, 57, 58, 59, 60, 61, 62, 63, 64, 65] (by decide +kernel) (by decide +kernel)
set_option maxRecDepth 20000 in
theorem gX8_bringTime_X8_tries : GoodIn wsX8_bringTime (wsV RX8 136 RX8 yX8_tries wsX8_tries) := goodIn_app (goodIn_of _ (by decide +kernel)) ggX8_bringTime_X8_tries
set_option maxRecDepth 20000 in
theorem ggX8_bringTime_X8_brings : GoodIn wsX8_bringTime wsX8_brings := goodIn_r _ [15, 6, 16, 17, 18, 4, 19, 20, 21, 22, 23, 24, 25, 26, 27, 28, 29, 30, 31, 32, 33, 34, 39, 40, 41, 42, 43, 44, 45, 46, 47, 48, 49, 50, 51, 52, 53, 54, 55, 56, 57, 58, 59, 60, 61, 62, 63, 64, 65] (by decide +kernel) (by decide +kernel)
set_option maxRecDepth 20000 in
theorem gX8_bringTime_X8_brings : GoodIn wsX8_bringTime (wsV RX8 119 RX8 yX8_brings wsX8_brings) := goodIn_app (goodIn_of _ (by decide +kernel)) ggX8_bringTime_X8_brings
set_option maxRecDepth 20000 in
theorem ggX8_bringTime_X8_takesBack : GoodIn wsX8_bringTime wsX8_takesBack := goodIn_r _ [38, 6, 8, 7, 9, 10, 4, 11, 39, 40, 41, 42, 43, 44, 45, 46, 47, 48, 49, 50, 51, 52, 53, 54, 55, 56, 57, 58, 59, 60, 61, 62, 63, 64, 65] (by decide +kernel) (by decide +kernel)
set_option maxRecDepth 20000 in
theorem gX8_bringTime_X8_takesBack : GoodIn wsX8_bringTime (wsV RX8 139 RX8 yX8_takesBack wsX8_takesBack) := goodIn_app (goodIn_of _ (by decide +kernel)) ggX8_bringTime_X8_takesBack
theorem dX8_bringTime_0 : decode cX8_bringTime 0 = .ok (.aload_n 0, 1) := by decide +kernel
theorem dX8_bringTime_1 : decode cX8_bringTime 1 = .ok (.invokevirtual 136, 3) := by decide +kernel
theorem dX8_bringTime_4 : decode cX8_bringTime 4 = .ok (.aload_n 0, 1) := by decide +kernel
theorem dX8_bringTime_5 : decode cX8_bringTime 5 = .ok (.iload_n 1, 1) := by decide +kernel
theorem dX8_bringTime_6 : decode cX8_bringTime 6 = .ok (.iload_n 2, 1) := by decide +kernel
theorem dX8_bringTime_7 : decode cX8_bringTime 7 = .ok (.invokevirtual 119, 3) := by decide +kernel
theorem dX8_bringTime_10 : decode cX8_bringTime 10 = .ok (.aload_n 0, 1) := by decide +kernel
theorem dX8_bringTime_11 : decode cX8_bringTime 11 = .ok (.invokevirtual 139, 3) := by decide +kernel
theorem dX8_bringTime_14 : decode cX8_bringTime 14 = .ok (.ireturn, 1) := by decide +kernel
set_option maxRecDepth 20000 in
theorem ggX8_timeFor_X8_inDrive : GoodIn wsX8_timeFor wsX8_inDrive := goodIn_r _ [5, 6, 51, 52, 53, 54, 55, 56, 57, 58, 59, 60, 61, 62, 63, 64, 65, 66, 67, 68, 69, 70, 71, 72, 73, 74, 75, 76, 77] (by decide +kernel) (by decide +kernel)
set_option maxRecDepth 20000 in
theorem gX8_timeFor_X8_inDrive : GoodIn wsX8_timeFor (wsV RX8 109 RX8 yX8_inDrive wsX8_inDrive) := goodIn_app (goodIn_of _ (by decide +kernel)) ggX8_timeFor_X8_inDrive
set_option maxRecDepth 20000 in
theorem ggX8_timeFor_X8_freeDrive : GoodIn wsX8_timeFor wsX8_freeDrive := goodIn_r _ [10, 6, 51, 52, 53, 54, 55, 56, 57, 58, 59, 60, 61, 62, 63, 64, 65, 66, 67, 68, 69, 70, 71, 72, 73, 74, 75, 76, 77] (by decide +kernel) (by decide +kernel)
set_option maxRecDepth 20000 in
theorem gX8_timeFor_X8_freeDrive : GoodIn wsX8_timeFor (wsV RX8 112 RX8 yX8_freeDrive wsX8_freeDrive) := goodIn_app (goodIn_of _ (by decide +kernel)) ggX8_timeFor_X8_freeDrive
set_option maxRecDepth 20000 in
theorem ggX8_timeFor_X8_bringTime : GoodIn wsX8_timeFor wsX8_bringTime := goodIn_r _ [14, 15, 16, 17, 4, 18, 6, 19, 20, 21, 22, 23, 24, 25, 26, 27, 28, 29, 30, 31, 32, 33, 34, 35, 36, 37, 38, 39, 40, 41, 42, 43, 44, 45, 46, 47, 48, 49, 50, 51, 52, 53, 54, 55, 56, 57, 58, 59, 60, 61, 62, 63, 64, 65, 66, 67, 68, 69, 70, 71, 72, 73, 74, 75, 76, 77] (by decide +kernel) (by decide +kernel)
set_option maxRecDepth 20000 in
theorem gX8_timeFor_X8_bringTime : GoodIn wsX8_timeFor (wsV RX8 142 RX8 yX8_bringTime wsX8_bringTime) := goodIn_app (goodIn_of _ (by decide +kernel)) ggX8_timeFor_X8_bringTime
theorem dX8_timeFor_0 : decode cX8_timeFor 0 = .ok (.aload_n 0, 1) := by decide +kernel
theorem dX8_timeFor_1 : decode cX8_timeFor 1 = .ok (.iload_n 1, 1) := by decide +kernel
theorem dX8_timeFor_2 : decode cX8_timeFor 2 = .ok (.invokevirtual 109, 3) := by decide +kernel
theorem dX8_timeFor_5 : decode cX8_timeFor 5 = .ok (.iconst (-1), 1) := by decide +kernel
theorem dX8_timeFor_6 : decode cX8_timeFor 6 = .ok (.if_icmp .eq 7, 3) := by decide +kernel
theorem dX8_timeFor_9 : decode cX8_timeFor 9 = .ok (.iconst 0, 1) := by decide +kernel
theorem dX8_timeFor_10 : decode cX8_timeFor 10 = .ok (.goto 12, 3) := by decide +kernel
theorem dX8_timeFor_13 : decode cX8_timeFor 13 = .ok (.aload_n 0, 1) := by decide +kernel
theorem dX8_timeFor_14 : decode cX8_timeFor 14 = .ok (.iload_n 1, 1) := by decide +kernel
theorem dX8_timeFor_15 : decode cX8_timeFor 15 = .ok (.aload_n 0, 1) := by decide +kernel
theorem dX8_timeFor_16 : decode cX8_timeFor 16 = .ok (.invokevirtual 112, 3) := by decide +kernel
theorem dX8_timeFor_19 : decode cX8_timeFor 19 = .ok (.invokevirtual 142, 3) := by decide +kernel
theorem dX8_timeFor_22 : decode cX8_timeFor 22 = .ok (.ireturn, 1) := by decide +kernel
set_option maxRecDepth 20000 in
theorem ggX8_findsWanted_X8_platterOf : GoodIn wsX8_findsWanted wsX8_platterOf := goodIn_r _ [8, 2, 9, 10, 11, 7, 12, 17, 18, 19, 20, 21, 22, 23, 24, 25, 26, 27, 28, 29, 30, 31, 32, 33, 34, 35, 36, 37, 38, 39, 40, 41, 42, 43] (by decide +kernel) (by decide +kernel)
set_option maxRecDepth 20000 in
theorem gX8_findsWanted_X8_platterOf : GoodIn wsX8_findsWanted (wsV RX8 123 RX8 yX8_platterOf wsX8_platterOf) := goodIn_app (goodIn_of _ (by decide +kernel)) ggX8_findsWanted_X8_platterOf
set_option maxRecDepth 20000 in
theorem ggX8_findsWanted_X8_inDrive : GoodIn wsX8_findsWanted wsX8_inDrive := goodIn_r _ [16, 2, 17, 18, 19, 20, 21, 22, 23, 24, 25, 26, 27, 28, 29, 30, 31, 32, 33, 34, 35, 36, 37, 38, 39, 40, 41, 42, 43] (by decide +kernel) (by decide +kernel)
set_option maxRecDepth 20000 in
theorem gX8_findsWanted_X8_inDrive : GoodIn wsX8_findsWanted (wsV RX8 109 RX8 yX8_inDrive wsX8_inDrive) := goodIn_app (goodIn_of _ (by decide +kernel)) ggX8_findsWanted_X8_inDrive
theorem dX8_findsWanted_0 : decode cX8_findsWanted 0 = .ok (.aload_n 0, 1) := by decide +kernel
theorem dX8_findsWanted_1 : decode cX8_findsWanted 1 = .ok (.iconst 0, 1) := by decide +kernel
theorem dX8_findsWanted_2 : decode cX8_findsWanted 2 = .ok (.putfield 145, 3) := by decide +kernel
theorem dX8_findsWanted_5 : decode cX8_findsWanted 5 = .ok (.iconst 0, 1) := by decide +kernel
theorem dX8_findsWanted_6 : decode cX8_findsWanted 6 = .ok (.istore_n 1, 1) := by decide +kernel
theorem dX8_findsWanted_7 : decode cX8_findsWanted 7 = .ok (.iload_n 1, 1) := by decide +kernel
theorem dX8_findsWanted_8 : decode cX8_findsWanted 8 = .ok (.aload_n 0, 1) := by decide +kernel
theorem dX8_findsWanted_9 : decode cX8_findsWanted 9 = .ok (.getfield 7, 3) := by decide +kernel
theorem dX8_findsWanted_12 : decode cX8_findsWanted 12 = .ok (.bipush 7, 2) := by decide +kernel
theorem dX8_findsWanted_14 : decode cX8_findsWanted 14 = .ok (.iaload, 1) := by decide +kernel
theorem dX8_findsWanted_15 : decode cX8_findsWanted 15 = .ok (.if_icmp .ge 94, 3) := by decide +kernel
theorem dX8_findsWanted_18 : decode cX8_findsWanted 18 = .ok (.iconst 0, 1) := by decide +kernel
theorem dX8_findsWanted_19 : decode cX8_findsWanted 19 = .ok (.istore_n 2, 1) := by decide +kernel
theorem dX8_findsWanted_20 : decode cX8_findsWanted 20 = .ok (.iconst 0, 1) := by decide +kernel
theorem dX8_findsWanted_21 : decode cX8_findsWanted 21 = .ok (.istore_n 3, 1) := by decide +kernel
theorem dX8_findsWanted_22 : decode cX8_findsWanted 22 = .ok (.iload_n 3, 1) := by decide +kernel
theorem dX8_findsWanted_23 : decode cX8_findsWanted 23 = .ok (.aload_n 0, 1) := by decide +kernel
theorem dX8_findsWanted_24 : decode cX8_findsWanted 24 = .ok (.getfield 7, 3) := by decide +kernel
theorem dX8_findsWanted_27 : decode cX8_findsWanted 27 = .ok (.bipush 16, 2) := by decide +kernel
theorem dX8_findsWanted_29 : decode cX8_findsWanted 29 = .ok (.iaload, 1) := by decide +kernel
theorem dX8_findsWanted_30 : decode cX8_findsWanted 30 = .ok (.if_icmp .ge 37, 3) := by decide +kernel
theorem dX8_findsWanted_33 : decode cX8_findsWanted 33 = .ok (.iload_n 2, 1) := by decide +kernel
theorem dX8_findsWanted_34 : decode cX8_findsWanted 34 = .ok (.ifCond .ne 21, 3) := by decide +kernel
theorem dX8_findsWanted_37 : decode cX8_findsWanted 37 = .ok (.aload_n 0, 1) := by decide +kernel
theorem dX8_findsWanted_38 : decode cX8_findsWanted 38 = .ok (.aload_n 0, 1) := by decide +kernel
theorem dX8_findsWanted_39 : decode cX8_findsWanted 39 = .ok (.getfield 7, 3) := by decide +kernel
theorem dX8_findsWanted_42 : decode cX8_findsWanted 42 = .ok (.sipush 589, 3) := by decide +kernel
theorem dX8_findsWanted_45 : decode cX8_findsWanted 45 = .ok (.iload_n 3, 1) := by decide +kernel
theorem dX8_findsWanted_46 : decode cX8_findsWanted 46 = .ok (.iadd, 1) := by decide +kernel
theorem dX8_findsWanted_47 : decode cX8_findsWanted 47 = .ok (.iaload, 1) := by decide +kernel
theorem dX8_findsWanted_48 : decode cX8_findsWanted 48 = .ok (.invokevirtual 123, 3) := by decide +kernel
theorem dX8_findsWanted_51 : decode cX8_findsWanted 51 = .ok (.iload_n 1, 1) := by decide +kernel
theorem dX8_findsWanted_52 : decode cX8_findsWanted 52 = .ok (.if_icmp .ne 7, 3) := by decide +kernel
theorem dX8_findsWanted_55 : decode cX8_findsWanted 55 = .ok (.iconst 1, 1) := by decide +kernel
theorem dX8_findsWanted_56 : decode cX8_findsWanted 56 = .ok (.goto 4, 3) := by decide +kernel
theorem dX8_findsWanted_59 : decode cX8_findsWanted 59 = .ok (.iconst 0, 1) := by decide +kernel
theorem dX8_findsWanted_60 : decode cX8_findsWanted 60 = .ok (.istore_n 2, 1) := by decide +kernel
theorem dX8_findsWanted_61 : decode cX8_findsWanted 61 = .ok (.iinc 3 1, 3) := by decide +kernel
theorem dX8_findsWanted_64 : decode cX8_findsWanted 64 = .ok (.goto (-42), 3) := by decide +kernel
theorem dX8_findsWanted_67 : decode cX8_findsWanted 67 = .ok (.iload_n 2, 1) := by decide +kernel
theorem dX8_findsWanted_68 : decode cX8_findsWanted 68 = .ok (.ifCond .eq 35, 3) := by decide +kernel
theorem dX8_findsWanted_71 : decode cX8_findsWanted 71 = .ok (.aload_n 0, 1) := by decide +kernel
theorem dX8_findsWanted_72 : decode cX8_findsWanted 72 = .ok (.iload_n 1, 1) := by decide +kernel
theorem dX8_findsWanted_73 : decode cX8_findsWanted 73 = .ok (.invokevirtual 109, 3) := by decide +kernel
theorem dX8_findsWanted_76 : decode cX8_findsWanted 76 = .ok (.iconst (-1), 1) := by decide +kernel
theorem dX8_findsWanted_77 : decode cX8_findsWanted 77 = .ok (.if_icmp .eq 6, 3) := by decide +kernel
theorem dX8_findsWanted_80 : decode cX8_findsWanted 80 = .ok (.goto 23, 3) := by decide +kernel
theorem dX8_findsWanted_83 : decode cX8_findsWanted 83 = .ok (.aload_n 0, 1) := by decide +kernel
theorem dX8_findsWanted_84 : decode cX8_findsWanted 84 = .ok (.getfield 22, 3) := by decide +kernel
theorem dX8_findsWanted_87 : decode cX8_findsWanted 87 = .ok (.aload_n 0, 1) := by decide +kernel
theorem dX8_findsWanted_88 : decode cX8_findsWanted 88 = .ok (.getfield 145, 3) := by decide +kernel
theorem dX8_findsWanted_91 : decode cX8_findsWanted 91 = .ok (.iload_n 1, 1) := by decide +kernel
theorem dX8_findsWanted_92 : decode cX8_findsWanted 92 = .ok (.iastore, 1) := by decide +kernel
theorem dX8_findsWanted_93 : decode cX8_findsWanted 93 = .ok (.aload_n 0, 1) := by decide +kernel
theorem dX8_findsWanted_94 : decode cX8_findsWanted 94 = .ok (.dup, 1) := by decide +kernel
theorem dX8_findsWanted_95 : decode cX8_findsWanted 95 = .ok (.getfield 145, 3) := by decide +kernel
theorem dX8_findsWanted_98 : decode cX8_findsWanted 98 = .ok (.iconst 1, 1) := by decide +kernel
theorem dX8_findsWanted_99 : decode cX8_findsWanted 99 = .ok (.iadd, 1) := by decide +kernel
theorem dX8_findsWanted_100 : decode cX8_findsWanted 100 = .ok (.putfield 145, 3) := by decide +kernel
theorem dX8_findsWanted_103 : decode cX8_findsWanted 103 = .ok (.iinc 1 1, 3) := by decide +kernel
theorem dX8_findsWanted_106 : decode cX8_findsWanted 106 = .ok (.goto (-99), 3) := by decide +kernel
theorem dX8_findsWanted_109 : decode cX8_findsWanted 109 = .ok (.return_, 1) := by decide +kernel
theorem dX8_homeOf_0 : decode cX8_homeOf 0 = .ok (.aload_n 0, 1) := by decide +kernel
theorem dX8_homeOf_1 : decode cX8_homeOf 1 = .ok (.getfield 7, 3) := by decide +kernel
theorem dX8_homeOf_4 : decode cX8_homeOf 4 = .ok (.bipush 29, 2) := by decide +kernel
theorem dX8_homeOf_6 : decode cX8_homeOf 6 = .ok (.aload_n 0, 1) := by decide +kernel
theorem dX8_homeOf_7 : decode cX8_homeOf 7 = .ok (.getfield 22, 3) := by decide +kernel
theorem dX8_homeOf_10 : decode cX8_homeOf 10 = .ok (.iload_n 1, 1) := by decide +kernel
theorem dX8_homeOf_11 : decode cX8_homeOf 11 = .ok (.iaload, 1) := by decide +kernel
theorem dX8_homeOf_12 : decode cX8_homeOf 12 = .ok (.iadd, 1) := by decide +kernel
theorem dX8_homeOf_13 : decode cX8_homeOf 13 = .ok (.iaload, 1) := by decide +kernel
theorem dX8_homeOf_14 : decode cX8_homeOf 14 = .ok (.ireturn, 1) := by decide +kernel
set_option maxRecDepth 20000 in
theorem ggX8_between_X8_homeOf : GoodIn wsX8_between wsX8_homeOf := goodIn_r _ [5, 6, 7, 11, 12, 13, 14, 15, 16, 17, 18, 19, 20, 21, 22, 23, 24, 25, 26, 27, 28, 29, 30, 31, 32, 33, 34, 35, 36, 37] (by decide +kernel) (by decide +kernel)
set_option maxRecDepth 20000 in
theorem gX8_between_X8_homeOf : GoodIn wsX8_between (wsV RX8 148 RX8 yX8_homeOf wsX8_homeOf) := goodIn_app (goodIn_of _ (by decide +kernel)) ggX8_between_X8_homeOf
set_option maxRecDepth 20000 in
theorem ggX8_between_X8_far : GoodIn wsX8_between wsX8_far := goodIn_r _ [10] (by decide +kernel) (by decide +kernel)
set_option maxRecDepth 20000 in
theorem gX8_between_X8_far : GoodIn wsX8_between (va_wsS RX8 93 yX8_far wsX8_far) := goodIn_app (goodIn_of _ (by decide +kernel)) ggX8_between_X8_far
theorem dX8_between_0 : decode cX8_between 0 = .ok (.iload_n 3, 1) := by decide +kernel
theorem dX8_between_1 : decode cX8_between 1 = .ok (.aload_n 0, 1) := by decide +kernel
theorem dX8_between_2 : decode cX8_between 2 = .ok (.iload_n 1, 1) := by decide +kernel
theorem dX8_between_3 : decode cX8_between 3 = .ok (.invokevirtual 148, 3) := by decide +kernel
theorem dX8_between_6 : decode cX8_between 6 = .ok (.invokestatic 93, 3) := by decide +kernel
theorem dX8_between_9 : decode cX8_between 9 = .ok (.aload_n 0, 1) := by decide +kernel
theorem dX8_between_10 : decode cX8_between 10 = .ok (.iload_n 1, 1) := by decide +kernel
theorem dX8_between_11 : decode cX8_between 11 = .ok (.invokevirtual 148, 3) := by decide +kernel
theorem dX8_between_14 : decode cX8_between 14 = .ok (.aload_n 0, 1) := by decide +kernel
theorem dX8_between_15 : decode cX8_between 15 = .ok (.iload_n 2, 1) := by decide +kernel
theorem dX8_between_16 : decode cX8_between 16 = .ok (.invokevirtual 148, 3) := by decide +kernel
theorem dX8_between_19 : decode cX8_between 19 = .ok (.invokestatic 93, 3) := by decide +kernel
theorem dX8_between_22 : decode cX8_between 22 = .ok (.iadd, 1) := by decide +kernel
theorem dX8_between_23 : decode cX8_between 23 = .ok (.aload_n 0, 1) := by decide +kernel
theorem dX8_between_24 : decode cX8_between 24 = .ok (.iload_n 2, 1) := by decide +kernel
theorem dX8_between_25 : decode cX8_between 25 = .ok (.invokevirtual 148, 3) := by decide +kernel
theorem dX8_between_28 : decode cX8_between 28 = .ok (.iload_n 3, 1) := by decide +kernel
theorem dX8_between_29 : decode cX8_between 29 = .ok (.invokestatic 93, 3) := by decide +kernel
theorem dX8_between_32 : decode cX8_between 32 = .ok (.iadd, 1) := by decide +kernel
theorem dX8_between_33 : decode cX8_between 33 = .ok (.ireturn, 1) := by decide +kernel
set_option maxRecDepth 20000 in
theorem ggX8_findsRest_X8_between : GoodIn wsX8_findsRest wsX8_between := goodIn_r _ [8, 9, 10, 11, 7, 12, 13, 14, 15, 16, 17, 18, 19, 20, 21, 22, 23, 24, 25, 26, 27, 28, 29, 30, 31, 32, 33, 34, 35, 36, 37, 38, 39, 40, 41, 42, 43, 44] (by decide +kernel) (by decide +kernel)
set_option maxRecDepth 20000 in
theorem gX8_findsRest_X8_between : GoodIn wsX8_findsRest (wsV RX8 152 RX8 yX8_between wsX8_between) := goodIn_app (goodIn_of _ (by decide +kernel)) ggX8_findsRest_X8_between
theorem dX8_findsRest_0 : decode cX8_findsRest 0 = .ok (.iconst 0, 1) := by decide +kernel
theorem dX8_findsRest_1 : decode cX8_findsRest 1 = .ok (.istore_n 2, 1) := by decide +kernel
theorem dX8_findsRest_2 : decode cX8_findsRest 2 = .ok (.iload_n 2, 1) := by decide +kernel
theorem dX8_findsRest_3 : decode cX8_findsRest 3 = .ok (.iconst 1, 1) := by decide +kernel
theorem dX8_findsRest_4 : decode cX8_findsRest 4 = .ok (.aload_n 0, 1) := by decide +kernel
theorem dX8_findsRest_5 : decode cX8_findsRest 5 = .ok (.getfield 145, 3) := by decide +kernel
theorem dX8_findsRest_8 : decode cX8_findsRest 8 = .ok (.ishl, 1) := by decide +kernel
theorem dX8_findsRest_9 : decode cX8_findsRest 9 = .ok (.if_icmp .ge 124, 3) := by decide +kernel
theorem dX8_findsRest_12 : decode cX8_findsRest 12 = .ok (.iconst 0, 1) := by decide +kernel
theorem dX8_findsRest_13 : decode cX8_findsRest 13 = .ok (.istore_n 3, 1) := by decide +kernel
theorem dX8_findsRest_14 : decode cX8_findsRest 14 = .ok (.iload_n 3, 1) := by decide +kernel
theorem dX8_findsRest_15 : decode cX8_findsRest 15 = .ok (.aload_n 0, 1) := by decide +kernel
theorem dX8_findsRest_16 : decode cX8_findsRest 16 = .ok (.getfield 145, 3) := by decide +kernel
theorem dX8_findsRest_19 : decode cX8_findsRest 19 = .ok (.if_icmp .ge 108, 3) := by decide +kernel
theorem dX8_findsRest_22 : decode cX8_findsRest 22 = .ok (.iload_n 2, 1) := by decide +kernel
theorem dX8_findsRest_23 : decode cX8_findsRest 23 = .ok (.ifCond .ne 7, 3) := by decide +kernel
theorem dX8_findsRest_26 : decode cX8_findsRest 26 = .ok (.iconst 0, 1) := by decide +kernel
theorem dX8_findsRest_27 : decode cX8_findsRest 27 = .ok (.goto 5, 3) := by decide +kernel
theorem dX8_findsRest_30 : decode cX8_findsRest 30 = .ok (.ldc 151, 2) := by decide +kernel
theorem dX8_findsRest_32 : decode cX8_findsRest 32 = .ok (.istore 4, 2) := by decide +kernel
theorem dX8_findsRest_34 : decode cX8_findsRest 34 = .ok (.iconst 0, 1) := by decide +kernel
theorem dX8_findsRest_35 : decode cX8_findsRest 35 = .ok (.istore 5, 2) := by decide +kernel
theorem dX8_findsRest_37 : decode cX8_findsRest 37 = .ok (.iload 5, 2) := by decide +kernel
theorem dX8_findsRest_39 : decode cX8_findsRest 39 = .ok (.aload_n 0, 1) := by decide +kernel
theorem dX8_findsRest_40 : decode cX8_findsRest 40 = .ok (.getfield 145, 3) := by decide +kernel
theorem dX8_findsRest_43 : decode cX8_findsRest 43 = .ok (.if_icmp .ge 65, 3) := by decide +kernel
theorem dX8_findsRest_46 : decode cX8_findsRest 46 = .ok (.iload_n 2, 1) := by decide +kernel
theorem dX8_findsRest_47 : decode cX8_findsRest 47 = .ok (.iload 5, 2) := by decide +kernel
theorem dX8_findsRest_49 : decode cX8_findsRest 49 = .ok (.ishr, 1) := by decide +kernel
theorem dX8_findsRest_50 : decode cX8_findsRest 50 = .ok (.iconst 1, 1) := by decide +kernel
theorem dX8_findsRest_51 : decode cX8_findsRest 51 = .ok (.iand, 1) := by decide +kernel
theorem dX8_findsRest_52 : decode cX8_findsRest 52 = .ok (.ifCond .ne 6, 3) := by decide +kernel
theorem dX8_findsRest_55 : decode cX8_findsRest 55 = .ok (.goto 47, 3) := by decide +kernel
theorem dX8_findsRest_58 : decode cX8_findsRest 58 = .ok (.aload_n 0, 1) := by decide +kernel
theorem dX8_findsRest_59 : decode cX8_findsRest 59 = .ok (.iload_n 3, 1) := by decide +kernel
theorem dX8_findsRest_60 : decode cX8_findsRest 60 = .ok (.iload 5, 2) := by decide +kernel
theorem dX8_findsRest_62 : decode cX8_findsRest 62 = .ok (.iload_n 1, 1) := by decide +kernel
theorem dX8_findsRest_63 : decode cX8_findsRest 63 = .ok (.invokevirtual 152, 3) := by decide +kernel
theorem dX8_findsRest_66 : decode cX8_findsRest 66 = .ok (.aload_n 0, 1) := by decide +kernel
theorem dX8_findsRest_67 : decode cX8_findsRest 67 = .ok (.getfield 28, 3) := by decide +kernel
theorem dX8_findsRest_70 : decode cX8_findsRest 70 = .ok (.bipush 10, 2) := by decide +kernel
theorem dX8_findsRest_72 : decode cX8_findsRest 72 = .ok (.iload_n 2, 1) := by decide +kernel
theorem dX8_findsRest_73 : decode cX8_findsRest 73 = .ok (.iconst 1, 1) := by decide +kernel
theorem dX8_findsRest_74 : decode cX8_findsRest 74 = .ok (.iload 5, 2) := by decide +kernel
theorem dX8_findsRest_76 : decode cX8_findsRest 76 = .ok (.ishl, 1) := by decide +kernel
theorem dX8_findsRest_77 : decode cX8_findsRest 77 = .ok (.isub, 1) := by decide +kernel
theorem dX8_findsRest_78 : decode cX8_findsRest 78 = .ok (.imul, 1) := by decide +kernel
theorem dX8_findsRest_79 : decode cX8_findsRest 79 = .ok (.iload 5, 2) := by decide +kernel
theorem dX8_findsRest_81 : decode cX8_findsRest 81 = .ok (.iadd, 1) := by decide +kernel
theorem dX8_findsRest_82 : decode cX8_findsRest 82 = .ok (.iaload, 1) := by decide +kernel
theorem dX8_findsRest_83 : decode cX8_findsRest 83 = .ok (.iadd, 1) := by decide +kernel
theorem dX8_findsRest_84 : decode cX8_findsRest 84 = .ok (.istore 6, 2) := by decide +kernel
theorem dX8_findsRest_86 : decode cX8_findsRest 86 = .ok (.iload 6, 2) := by decide +kernel
theorem dX8_findsRest_88 : decode cX8_findsRest 88 = .ok (.iload 4, 2) := by decide +kernel
theorem dX8_findsRest_90 : decode cX8_findsRest 90 = .ok (.if_icmp .ge 8, 3) := by decide +kernel
theorem dX8_findsRest_93 : decode cX8_findsRest 93 = .ok (.iload 6, 2) := by decide +kernel
theorem dX8_findsRest_95 : decode cX8_findsRest 95 = .ok (.goto 5, 3) := by decide +kernel
theorem dX8_findsRest_98 : decode cX8_findsRest 98 = .ok (.iload 4, 2) := by decide +kernel
theorem dX8_findsRest_100 : decode cX8_findsRest 100 = .ok (.istore 4, 2) := by decide +kernel
theorem dX8_findsRest_102 : decode cX8_findsRest 102 = .ok (.iinc 5 1, 3) := by decide +kernel
theorem dX8_findsRest_105 : decode cX8_findsRest 105 = .ok (.goto (-68), 3) := by decide +kernel
theorem dX8_findsRest_108 : decode cX8_findsRest 108 = .ok (.aload_n 0, 1) := by decide +kernel
theorem dX8_findsRest_109 : decode cX8_findsRest 109 = .ok (.getfield 28, 3) := by decide +kernel
theorem dX8_findsRest_112 : decode cX8_findsRest 112 = .ok (.bipush 10, 2) := by decide +kernel
theorem dX8_findsRest_114 : decode cX8_findsRest 114 = .ok (.iload_n 2, 1) := by decide +kernel
theorem dX8_findsRest_115 : decode cX8_findsRest 115 = .ok (.imul, 1) := by decide +kernel
theorem dX8_findsRest_116 : decode cX8_findsRest 116 = .ok (.iload_n 3, 1) := by decide +kernel
theorem dX8_findsRest_117 : decode cX8_findsRest 117 = .ok (.iadd, 1) := by decide +kernel
theorem dX8_findsRest_118 : decode cX8_findsRest 118 = .ok (.iload 4, 2) := by decide +kernel
theorem dX8_findsRest_120 : decode cX8_findsRest 120 = .ok (.iastore, 1) := by decide +kernel
theorem dX8_findsRest_121 : decode cX8_findsRest 121 = .ok (.iinc 3 1, 3) := by decide +kernel
theorem dX8_findsRest_124 : decode cX8_findsRest 124 = .ok (.goto (-110), 3) := by decide +kernel
theorem dX8_findsRest_127 : decode cX8_findsRest 127 = .ok (.iinc 2 1, 3) := by decide +kernel
theorem dX8_findsRest_130 : decode cX8_findsRest 130 = .ok (.goto (-128), 3) := by decide +kernel
theorem dX8_findsRest_133 : decode cX8_findsRest 133 = .ok (.return_, 1) := by decide +kernel
set_option maxRecDepth 20000 in
theorem ggX8_firstWay_X8_far : GoodIn wsX8_firstWay wsX8_far := goodIn_r _ [5] (by decide +kernel) (by decide +kernel)
set_option maxRecDepth 20000 in
theorem gX8_firstWay_X8_far : GoodIn wsX8_firstWay (va_wsS RX8 93 yX8_far wsX8_far) := goodIn_app (goodIn_of _ (by decide +kernel)) ggX8_firstWay_X8_far
set_option maxRecDepth 20000 in
theorem ggX8_firstWay_X8_homeOf : GoodIn wsX8_firstWay wsX8_homeOf := goodIn_r _ [9, 1, 10, 11, 12, 13, 14, 15, 16, 17, 18, 19, 20, 21, 22, 23, 24, 25, 26, 27, 28, 29, 30, 31, 32, 33, 34, 35, 36, 37] (by decide +kernel) (by decide +kernel)
set_option maxRecDepth 20000 in
theorem gX8_firstWay_X8_homeOf : GoodIn wsX8_firstWay (wsV RX8 148 RX8 yX8_homeOf wsX8_homeOf) := goodIn_app (goodIn_of _ (by decide +kernel)) ggX8_firstWay_X8_homeOf
theorem dX8_firstWay_0 : decode cX8_firstWay 0 = .ok (.aload_n 0, 1) := by decide +kernel
theorem dX8_firstWay_1 : decode cX8_firstWay 1 = .ok (.getfield 7, 3) := by decide +kernel
theorem dX8_firstWay_4 : decode cX8_firstWay 4 = .ok (.bipush 17, 2) := by decide +kernel
theorem dX8_firstWay_6 : decode cX8_firstWay 6 = .ok (.iload_n 2, 1) := by decide +kernel
theorem dX8_firstWay_7 : decode cX8_firstWay 7 = .ok (.iadd, 1) := by decide +kernel
theorem dX8_firstWay_8 : decode cX8_firstWay 8 = .ok (.iaload, 1) := by decide +kernel
theorem dX8_firstWay_9 : decode cX8_firstWay 9 = .ok (.istore_n 3, 1) := by decide +kernel
theorem dX8_firstWay_10 : decode cX8_firstWay 10 = .ok (.aload_n 0, 1) := by decide +kernel
theorem dX8_firstWay_11 : decode cX8_firstWay 11 = .ok (.getfield 7, 3) := by decide +kernel
theorem dX8_firstWay_14 : decode cX8_firstWay 14 = .ok (.bipush 11, 2) := by decide +kernel
theorem dX8_firstWay_16 : decode cX8_firstWay 16 = .ok (.iaload, 1) := by decide +kernel
theorem dX8_firstWay_17 : decode cX8_firstWay 17 = .ok (.istore 4, 2) := by decide +kernel
theorem dX8_firstWay_19 : decode cX8_firstWay 19 = .ok (.iconst 0, 1) := by decide +kernel
theorem dX8_firstWay_20 : decode cX8_firstWay 20 = .ok (.istore 5, 2) := by decide +kernel
theorem dX8_firstWay_22 : decode cX8_firstWay 22 = .ok (.aload_n 0, 1) := by decide +kernel
theorem dX8_firstWay_23 : decode cX8_firstWay 23 = .ok (.getfield 7, 3) := by decide +kernel
theorem dX8_firstWay_26 : decode cX8_firstWay 26 = .ok (.bipush 21, 2) := by decide +kernel
theorem dX8_firstWay_28 : decode cX8_firstWay 28 = .ok (.iload_n 2, 1) := by decide +kernel
theorem dX8_firstWay_29 : decode cX8_firstWay 29 = .ok (.iadd, 1) := by decide +kernel
theorem dX8_firstWay_30 : decode cX8_firstWay 30 = .ok (.iaload, 1) := by decide +kernel
theorem dX8_firstWay_31 : decode cX8_firstWay 31 = .ok (.iconst (-1), 1) := by decide +kernel
theorem dX8_firstWay_32 : decode cX8_firstWay 32 = .ok (.if_icmp .eq 41, 3) := by decide +kernel
theorem dX8_firstWay_35 : decode cX8_firstWay 35 = .ok (.aload_n 0, 1) := by decide +kernel
theorem dX8_firstWay_36 : decode cX8_firstWay 36 = .ok (.getfield 7, 3) := by decide +kernel
theorem dX8_firstWay_39 : decode cX8_firstWay 39 = .ok (.bipush 29, 2) := by decide +kernel
theorem dX8_firstWay_41 : decode cX8_firstWay 41 = .ok (.aload_n 0, 1) := by decide +kernel
theorem dX8_firstWay_42 : decode cX8_firstWay 42 = .ok (.getfield 7, 3) := by decide +kernel
theorem dX8_firstWay_45 : decode cX8_firstWay 45 = .ok (.bipush 21, 2) := by decide +kernel
theorem dX8_firstWay_47 : decode cX8_firstWay 47 = .ok (.iload_n 2, 1) := by decide +kernel
theorem dX8_firstWay_48 : decode cX8_firstWay 48 = .ok (.iadd, 1) := by decide +kernel
theorem dX8_firstWay_49 : decode cX8_firstWay 49 = .ok (.iaload, 1) := by decide +kernel
theorem dX8_firstWay_50 : decode cX8_firstWay 50 = .ok (.iadd, 1) := by decide +kernel
theorem dX8_firstWay_51 : decode cX8_firstWay 51 = .ok (.iaload, 1) := by decide +kernel
theorem dX8_firstWay_52 : decode cX8_firstWay 52 = .ok (.istore 6, 2) := by decide +kernel
theorem dX8_firstWay_54 : decode cX8_firstWay 54 = .ok (.iload 4, 2) := by decide +kernel
theorem dX8_firstWay_56 : decode cX8_firstWay 56 = .ok (.iload_n 3, 1) := by decide +kernel
theorem dX8_firstWay_57 : decode cX8_firstWay 57 = .ok (.invokestatic 93, 3) := by decide +kernel
theorem dX8_firstWay_60 : decode cX8_firstWay 60 = .ok (.iload_n 3, 1) := by decide +kernel
theorem dX8_firstWay_61 : decode cX8_firstWay 61 = .ok (.iload 6, 2) := by decide +kernel
theorem dX8_firstWay_63 : decode cX8_firstWay 63 = .ok (.invokestatic 93, 3) := by decide +kernel
theorem dX8_firstWay_66 : decode cX8_firstWay 66 = .ok (.iadd, 1) := by decide +kernel
theorem dX8_firstWay_67 : decode cX8_firstWay 67 = .ok (.istore 5, 2) := by decide +kernel
theorem dX8_firstWay_69 : decode cX8_firstWay 69 = .ok (.iload 6, 2) := by decide +kernel
theorem dX8_firstWay_71 : decode cX8_firstWay 71 = .ok (.istore 4, 2) := by decide +kernel
theorem dX8_firstWay_73 : decode cX8_firstWay 73 = .ok (.iload 5, 2) := by decide +kernel
theorem dX8_firstWay_75 : decode cX8_firstWay 75 = .ok (.iload 4, 2) := by decide +kernel
theorem dX8_firstWay_77 : decode cX8_firstWay 77 = .ok (.aload_n 0, 1) := by decide +kernel
theorem dX8_firstWay_78 : decode cX8_firstWay 78 = .ok (.iload_n 1, 1) := by decide +kernel
theorem dX8_firstWay_79 : decode cX8_firstWay 79 = .ok (.invokevirtual 148, 3) := by decide +kernel
theorem dX8_firstWay_82 : decode cX8_firstWay 82 = .ok (.invokestatic 93, 3) := by decide +kernel
theorem dX8_firstWay_85 : decode cX8_firstWay 85 = .ok (.iadd, 1) := by decide +kernel
theorem dX8_firstWay_86 : decode cX8_firstWay 86 = .ok (.aload_n 0, 1) := by decide +kernel
theorem dX8_firstWay_87 : decode cX8_firstWay 87 = .ok (.iload_n 1, 1) := by decide +kernel
theorem dX8_firstWay_88 : decode cX8_firstWay 88 = .ok (.invokevirtual 148, 3) := by decide +kernel
theorem dX8_firstWay_91 : decode cX8_firstWay 91 = .ok (.iload_n 3, 1) := by decide +kernel
theorem dX8_firstWay_92 : decode cX8_firstWay 92 = .ok (.invokestatic 93, 3) := by decide +kernel
theorem dX8_firstWay_95 : decode cX8_firstWay 95 = .ok (.iadd, 1) := by decide +kernel
theorem dX8_firstWay_96 : decode cX8_firstWay 96 = .ok (.ireturn, 1) := by decide +kernel
set_option maxRecDepth 20000 in
theorem ggX8_findsOrder_X8_findsRest : GoodIn wsX8_findsOrder wsX8_findsRest := goodIn_r _ [10, 2, 3, 5, 11, 12, 13, 9, 14, 15, 16, 17, 18, 1, 19, 20, 21, 22, 27, 28, 29, 30, 31, 32, 33, 34, 35, 36, 37, 38, 39, 40, 41, 42, 43, 44, 45, 46, 47, 48, 49, 50, 51, 52, 53] (by decide +kernel) (by decide +kernel)
set_option maxRecDepth 20000 in
theorem gX8_findsOrder_X8_findsRest : GoodIn wsX8_findsOrder (wsV RX8 156 RX8 yX8_findsRest wsX8_findsRest) := goodIn_app (goodIn_of _ (by decide +kernel)) ggX8_findsOrder_X8_findsRest
set_option maxRecDepth 20000 in
theorem ggX8_findsOrder_X8_firstWay : GoodIn wsX8_findsOrder wsX8_firstWay := goodIn_r _ [26, 1, 20, 21, 9, 22, 15, 16, 17, 18, 19, 27, 28, 29, 30, 31, 32, 33, 34, 35, 36, 37, 38, 39, 40, 41, 42, 43, 44, 45, 46, 47, 48, 49, 50, 51, 52, 53] (by decide +kernel) (by decide +kernel)
set_option maxRecDepth 20000 in
theorem gX8_findsOrder_X8_firstWay : GoodIn wsX8_findsOrder (wsV RX8 159 RX8 yX8_firstWay wsX8_firstWay) := goodIn_app (goodIn_of _ (by decide +kernel)) ggX8_findsOrder_X8_firstWay
set_option maxRecDepth 20000 in
theorem ggX8_findsOrder_X8_between : GoodIn wsX8_findsOrder wsX8_between := goodIn_r _ [14, 15, 16, 17, 9, 18, 1, 19, 20, 21, 22, 27, 28, 29, 30, 31, 32, 33, 34, 35, 36, 37, 38, 39, 40, 41, 42, 43, 44, 45, 46, 47, 48, 49, 50, 51, 52, 53] (by decide +kernel) (by decide +kernel)
set_option maxRecDepth 20000 in
theorem gX8_findsOrder_X8_between : GoodIn wsX8_findsOrder (wsV RX8 152 RX8 yX8_between wsX8_between) := goodIn_app (goodIn_of _ (by decide +kernel)) ggX8_findsOrder_X8_between
theorem dX8_findsOrder_0 : decode cX8_findsOrder 0 = .ok (.aload_n 0, 1) := by decide +kernel
theorem dX8_findsOrder_1 : decode cX8_findsOrder 1 = .ok (.getfield 7, 3) := by decide +kernel
theorem dX8_findsOrder_4 : decode cX8_findsOrder 4 = .ok (.bipush 17, 2) := by decide +kernel
theorem dX8_findsOrder_6 : decode cX8_findsOrder 6 = .ok (.iload_n 1, 1) := by decide +kernel
theorem dX8_findsOrder_7 : decode cX8_findsOrder 7 = .ok (.iadd, 1) := by decide +kernel
theorem dX8_findsOrder_8 : decode cX8_findsOrder 8 = .ok (.iaload, 1) := by decide +kernel
theorem dX8_findsOrder_9 : decode cX8_findsOrder 9 = .ok (.istore_n 2, 1) := by decide +kernel
theorem dX8_findsOrder_10 : decode cX8_findsOrder 10 = .ok (.aload_n 0, 1) := by decide +kernel
theorem dX8_findsOrder_11 : decode cX8_findsOrder 11 = .ok (.iload_n 2, 1) := by decide +kernel
theorem dX8_findsOrder_12 : decode cX8_findsOrder 12 = .ok (.invokevirtual 156, 3) := by decide +kernel
theorem dX8_findsOrder_15 : decode cX8_findsOrder 15 = .ok (.iconst 1, 1) := by decide +kernel
theorem dX8_findsOrder_16 : decode cX8_findsOrder 16 = .ok (.aload_n 0, 1) := by decide +kernel
theorem dX8_findsOrder_17 : decode cX8_findsOrder 17 = .ok (.getfield 145, 3) := by decide +kernel
theorem dX8_findsOrder_20 : decode cX8_findsOrder 20 = .ok (.ishl, 1) := by decide +kernel
theorem dX8_findsOrder_21 : decode cX8_findsOrder 21 = .ok (.iconst 1, 1) := by decide +kernel
theorem dX8_findsOrder_22 : decode cX8_findsOrder 22 = .ok (.isub, 1) := by decide +kernel
theorem dX8_findsOrder_23 : decode cX8_findsOrder 23 = .ok (.istore_n 3, 1) := by decide +kernel
theorem dX8_findsOrder_24 : decode cX8_findsOrder 24 = .ok (.iconst 0, 1) := by decide +kernel
theorem dX8_findsOrder_25 : decode cX8_findsOrder 25 = .ok (.istore 4, 2) := by decide +kernel
theorem dX8_findsOrder_27 : decode cX8_findsOrder 27 = .ok (.iload 4, 2) := by decide +kernel
theorem dX8_findsOrder_29 : decode cX8_findsOrder 29 = .ok (.aload_n 0, 1) := by decide +kernel
theorem dX8_findsOrder_30 : decode cX8_findsOrder 30 = .ok (.getfield 145, 3) := by decide +kernel
theorem dX8_findsOrder_33 : decode cX8_findsOrder 33 = .ok (.if_icmp .ge 148, 3) := by decide +kernel
theorem dX8_findsOrder_36 : decode cX8_findsOrder 36 = .ok (.iconst (-1), 1) := by decide +kernel
theorem dX8_findsOrder_37 : decode cX8_findsOrder 37 = .ok (.istore 5, 2) := by decide +kernel
theorem dX8_findsOrder_39 : decode cX8_findsOrder 39 = .ok (.ldc 151, 2) := by decide +kernel
theorem dX8_findsOrder_41 : decode cX8_findsOrder 41 = .ok (.istore 6, 2) := by decide +kernel
theorem dX8_findsOrder_43 : decode cX8_findsOrder 43 = .ok (.iconst 0, 1) := by decide +kernel
theorem dX8_findsOrder_44 : decode cX8_findsOrder 44 = .ok (.istore 7, 2) := by decide +kernel
theorem dX8_findsOrder_46 : decode cX8_findsOrder 46 = .ok (.iload 7, 2) := by decide +kernel
theorem dX8_findsOrder_48 : decode cX8_findsOrder 48 = .ok (.aload_n 0, 1) := by decide +kernel
theorem dX8_findsOrder_49 : decode cX8_findsOrder 49 = .ok (.getfield 145, 3) := by decide +kernel
theorem dX8_findsOrder_52 : decode cX8_findsOrder 52 = .ok (.if_icmp .ge 107, 3) := by decide +kernel
theorem dX8_findsOrder_55 : decode cX8_findsOrder 55 = .ok (.iload_n 3, 1) := by decide +kernel
theorem dX8_findsOrder_56 : decode cX8_findsOrder 56 = .ok (.iload 7, 2) := by decide +kernel
theorem dX8_findsOrder_58 : decode cX8_findsOrder 58 = .ok (.ishr, 1) := by decide +kernel
theorem dX8_findsOrder_59 : decode cX8_findsOrder 59 = .ok (.iconst 1, 1) := by decide +kernel
theorem dX8_findsOrder_60 : decode cX8_findsOrder 60 = .ok (.iand, 1) := by decide +kernel
theorem dX8_findsOrder_61 : decode cX8_findsOrder 61 = .ok (.ifCond .ne 6, 3) := by decide +kernel
theorem dX8_findsOrder_64 : decode cX8_findsOrder 64 = .ok (.goto 89, 3) := by decide +kernel
theorem dX8_findsOrder_67 : decode cX8_findsOrder 67 = .ok (.iload 4, 2) := by decide +kernel
theorem dX8_findsOrder_69 : decode cX8_findsOrder 69 = .ok (.ifCond .ne 13, 3) := by decide +kernel
theorem dX8_findsOrder_72 : decode cX8_findsOrder 72 = .ok (.aload_n 0, 1) := by decide +kernel
theorem dX8_findsOrder_73 : decode cX8_findsOrder 73 = .ok (.iload 7, 2) := by decide +kernel
theorem dX8_findsOrder_75 : decode cX8_findsOrder 75 = .ok (.iload_n 1, 1) := by decide +kernel
theorem dX8_findsOrder_76 : decode cX8_findsOrder 76 = .ok (.invokevirtual 159, 3) := by decide +kernel
theorem dX8_findsOrder_79 : decode cX8_findsOrder 79 = .ok (.goto 19, 3) := by decide +kernel
theorem dX8_findsOrder_82 : decode cX8_findsOrder 82 = .ok (.aload_n 0, 1) := by decide +kernel
theorem dX8_findsOrder_83 : decode cX8_findsOrder 83 = .ok (.aload_n 0, 1) := by decide +kernel
theorem dX8_findsOrder_84 : decode cX8_findsOrder 84 = .ok (.getfield 25, 3) := by decide +kernel
theorem dX8_findsOrder_87 : decode cX8_findsOrder 87 = .ok (.iload 4, 2) := by decide +kernel
theorem dX8_findsOrder_89 : decode cX8_findsOrder 89 = .ok (.iconst 1, 1) := by decide +kernel
theorem dX8_findsOrder_90 : decode cX8_findsOrder 90 = .ok (.isub, 1) := by decide +kernel
theorem dX8_findsOrder_91 : decode cX8_findsOrder 91 = .ok (.iaload, 1) := by decide +kernel
theorem dX8_findsOrder_92 : decode cX8_findsOrder 92 = .ok (.iload 7, 2) := by decide +kernel
theorem dX8_findsOrder_94 : decode cX8_findsOrder 94 = .ok (.iload_n 2, 1) := by decide +kernel
theorem dX8_findsOrder_95 : decode cX8_findsOrder 95 = .ok (.invokevirtual 152, 3) := by decide +kernel
theorem dX8_findsOrder_98 : decode cX8_findsOrder 98 = .ok (.istore 8, 2) := by decide +kernel
theorem dX8_findsOrder_100 : decode cX8_findsOrder 100 = .ok (.aload_n 0, 1) := by decide +kernel
theorem dX8_findsOrder_101 : decode cX8_findsOrder 101 = .ok (.getfield 7, 3) := by decide +kernel
theorem dX8_findsOrder_104 : decode cX8_findsOrder 104 = .ok (.iconst 1, 1) := by decide +kernel
theorem dX8_findsOrder_105 : decode cX8_findsOrder 105 = .ok (.iaload, 1) := by decide +kernel
theorem dX8_findsOrder_106 : decode cX8_findsOrder 106 = .ok (.iload 8, 2) := by decide +kernel
theorem dX8_findsOrder_108 : decode cX8_findsOrder 108 = .ok (.aload_n 0, 1) := by decide +kernel
theorem dX8_findsOrder_109 : decode cX8_findsOrder 109 = .ok (.getfield 28, 3) := by decide +kernel
theorem dX8_findsOrder_112 : decode cX8_findsOrder 112 = .ok (.bipush 10, 2) := by decide +kernel
theorem dX8_findsOrder_114 : decode cX8_findsOrder 114 = .ok (.iload_n 3, 1) := by decide +kernel
theorem dX8_findsOrder_115 : decode cX8_findsOrder 115 = .ok (.iconst 1, 1) := by decide +kernel
theorem dX8_findsOrder_116 : decode cX8_findsOrder 116 = .ok (.iload 7, 2) := by decide +kernel
theorem dX8_findsOrder_118 : decode cX8_findsOrder 118 = .ok (.ishl, 1) := by decide +kernel
theorem dX8_findsOrder_119 : decode cX8_findsOrder 119 = .ok (.isub, 1) := by decide +kernel
theorem dX8_findsOrder_120 : decode cX8_findsOrder 120 = .ok (.imul, 1) := by decide +kernel
theorem dX8_findsOrder_121 : decode cX8_findsOrder 121 = .ok (.iload 7, 2) := by decide +kernel
theorem dX8_findsOrder_123 : decode cX8_findsOrder 123 = .ok (.iadd, 1) := by decide +kernel
theorem dX8_findsOrder_124 : decode cX8_findsOrder 124 = .ok (.iaload, 1) := by decide +kernel
theorem dX8_findsOrder_125 : decode cX8_findsOrder 125 = .ok (.iadd, 1) := by decide +kernel
theorem dX8_findsOrder_126 : decode cX8_findsOrder 126 = .ok (.imul, 1) := by decide +kernel
theorem dX8_findsOrder_127 : decode cX8_findsOrder 127 = .ok (.istore 8, 2) := by decide +kernel
theorem dX8_findsOrder_129 : decode cX8_findsOrder 129 = .ok (.iload 5, 2) := by decide +kernel
theorem dX8_findsOrder_131 : decode cX8_findsOrder 131 = .ok (.iconst (-1), 1) := by decide +kernel
theorem dX8_findsOrder_132 : decode cX8_findsOrder 132 = .ok (.if_icmp .eq 13, 3) := by decide +kernel
theorem dX8_findsOrder_135 : decode cX8_findsOrder 135 = .ok (.iload 8, 2) := by decide +kernel
theorem dX8_findsOrder_137 : decode cX8_findsOrder 137 = .ok (.iload 6, 2) := by decide +kernel
theorem dX8_findsOrder_139 : decode cX8_findsOrder 139 = .ok (.if_icmp .lt 6, 3) := by decide +kernel
theorem dX8_findsOrder_142 : decode cX8_findsOrder 142 = .ok (.goto 11, 3) := by decide +kernel
theorem dX8_findsOrder_145 : decode cX8_findsOrder 145 = .ok (.iload 7, 2) := by decide +kernel
theorem dX8_findsOrder_147 : decode cX8_findsOrder 147 = .ok (.istore 5, 2) := by decide +kernel
theorem dX8_findsOrder_149 : decode cX8_findsOrder 149 = .ok (.iload 8, 2) := by decide +kernel
theorem dX8_findsOrder_151 : decode cX8_findsOrder 151 = .ok (.istore 6, 2) := by decide +kernel
theorem dX8_findsOrder_153 : decode cX8_findsOrder 153 = .ok (.iinc 7 1, 3) := by decide +kernel
theorem dX8_findsOrder_156 : decode cX8_findsOrder 156 = .ok (.goto (-110), 3) := by decide +kernel
theorem dX8_findsOrder_159 : decode cX8_findsOrder 159 = .ok (.aload_n 0, 1) := by decide +kernel
theorem dX8_findsOrder_160 : decode cX8_findsOrder 160 = .ok (.getfield 25, 3) := by decide +kernel
theorem dX8_findsOrder_163 : decode cX8_findsOrder 163 = .ok (.iload 4, 2) := by decide +kernel
theorem dX8_findsOrder_165 : decode cX8_findsOrder 165 = .ok (.iload 5, 2) := by decide +kernel
theorem dX8_findsOrder_167 : decode cX8_findsOrder 167 = .ok (.iastore, 1) := by decide +kernel
theorem dX8_findsOrder_168 : decode cX8_findsOrder 168 = .ok (.iload_n 3, 1) := by decide +kernel
theorem dX8_findsOrder_169 : decode cX8_findsOrder 169 = .ok (.iconst 1, 1) := by decide +kernel
theorem dX8_findsOrder_170 : decode cX8_findsOrder 170 = .ok (.iload 5, 2) := by decide +kernel
theorem dX8_findsOrder_172 : decode cX8_findsOrder 172 = .ok (.ishl, 1) := by decide +kernel
theorem dX8_findsOrder_173 : decode cX8_findsOrder 173 = .ok (.isub, 1) := by decide +kernel
theorem dX8_findsOrder_174 : decode cX8_findsOrder 174 = .ok (.istore_n 3, 1) := by decide +kernel
theorem dX8_findsOrder_175 : decode cX8_findsOrder 175 = .ok (.iinc 4 1, 3) := by decide +kernel
theorem dX8_findsOrder_178 : decode cX8_findsOrder 178 = .ok (.goto (-151), 3) := by decide +kernel
theorem dX8_findsOrder_181 : decode cX8_findsOrder 181 = .ok (.return_, 1) := by decide +kernel
set_option maxRecDepth 20000 in
theorem ggX8_readsFrom_X8_platterOf : GoodIn wsX8_readsFrom wsX8_platterOf := goodIn_r _ [6, 1, 7, 8, 9, 5, 10, 54, 55, 56, 57, 58, 59, 60, 61, 62, 63, 64, 65, 66, 67, 68, 69, 70, 71, 72, 73, 74, 75, 76, 77, 78, 79, 80] (by decide +kernel) (by decide +kernel)
set_option maxRecDepth 20000 in
theorem gX8_readsFrom_X8_platterOf : GoodIn wsX8_readsFrom (wsV RX8 123 RX8 yX8_platterOf wsX8_platterOf) := goodIn_app (goodIn_of _ (by decide +kernel)) ggX8_readsFrom_X8_platterOf
set_option maxRecDepth 20000 in
theorem ggX8_readsFrom_X8_reads : GoodIn wsX8_readsFrom wsX8_reads := goodIn_r _ [14, 1, 2, 3, 4, 5, 6, 7, 8, 9, 10, 15, 16, 17, 18, 19, 20, 21, 22, 23, 24, 25, 26, 27, 28, 29, 30, 31, 32, 33, 34, 35, 36, 37, 38, 39, 40, 41, 42, 43, 44, 45, 46, 47, 48, 49, 50, 51, 52, 53, 54, 55, 56, 57, 58, 59, 60, 61, 62, 63, 64, 65, 66, 67, 68, 69, 70, 71, 72, 73, 74, 75, 76, 77, 78, 79, 80] (by decide +kernel) (by decide +kernel)
set_option maxRecDepth 20000 in
theorem gX8_readsFrom_X8_reads : GoodIn wsX8_readsFrom (wsV RX8 162 RX8 yX8_reads wsX8_reads) := goodIn_app (goodIn_of _ (by decide +kernel)) ggX8_readsFrom_X8_reads
theorem dX8_readsFrom_0 : decode cX8_readsFrom 0 = .ok (.iconst 0, 1) := by decide +kernel
theorem dX8_readsFrom_1 : decode cX8_readsFrom 1 = .ok (.istore_n 2, 1) := by decide +kernel
theorem dX8_readsFrom_2 : decode cX8_readsFrom 2 = .ok (.iload_n 2, 1) := by decide +kernel
theorem dX8_readsFrom_3 : decode cX8_readsFrom 3 = .ok (.aload_n 0, 1) := by decide +kernel
theorem dX8_readsFrom_4 : decode cX8_readsFrom 4 = .ok (.getfield 7, 3) := by decide +kernel
theorem dX8_readsFrom_7 : decode cX8_readsFrom 7 = .ok (.bipush 16, 2) := by decide +kernel
theorem dX8_readsFrom_9 : decode cX8_readsFrom 9 = .ok (.iaload, 1) := by decide +kernel
theorem dX8_readsFrom_10 : decode cX8_readsFrom 10 = .ok (.if_icmp .ge 41, 3) := by decide +kernel
theorem dX8_readsFrom_13 : decode cX8_readsFrom 13 = .ok (.aload_n 0, 1) := by decide +kernel
theorem dX8_readsFrom_14 : decode cX8_readsFrom 14 = .ok (.aload_n 0, 1) := by decide +kernel
theorem dX8_readsFrom_15 : decode cX8_readsFrom 15 = .ok (.getfield 7, 3) := by decide +kernel
theorem dX8_readsFrom_18 : decode cX8_readsFrom 18 = .ok (.sipush 589, 3) := by decide +kernel
theorem dX8_readsFrom_21 : decode cX8_readsFrom 21 = .ok (.iload_n 2, 1) := by decide +kernel
theorem dX8_readsFrom_22 : decode cX8_readsFrom 22 = .ok (.iadd, 1) := by decide +kernel
theorem dX8_readsFrom_23 : decode cX8_readsFrom 23 = .ok (.iaload, 1) := by decide +kernel
theorem dX8_readsFrom_24 : decode cX8_readsFrom 24 = .ok (.invokevirtual 123, 3) := by decide +kernel
theorem dX8_readsFrom_27 : decode cX8_readsFrom 27 = .ok (.iload_n 1, 1) := by decide +kernel
theorem dX8_readsFrom_28 : decode cX8_readsFrom 28 = .ok (.if_icmp .ne 17, 3) := by decide +kernel
theorem dX8_readsFrom_31 : decode cX8_readsFrom 31 = .ok (.aload_n 0, 1) := by decide +kernel
theorem dX8_readsFrom_32 : decode cX8_readsFrom 32 = .ok (.aload_n 0, 1) := by decide +kernel
theorem dX8_readsFrom_33 : decode cX8_readsFrom 33 = .ok (.getfield 7, 3) := by decide +kernel
theorem dX8_readsFrom_36 : decode cX8_readsFrom 36 = .ok (.sipush 589, 3) := by decide +kernel
theorem dX8_readsFrom_39 : decode cX8_readsFrom 39 = .ok (.iload_n 2, 1) := by decide +kernel
theorem dX8_readsFrom_40 : decode cX8_readsFrom 40 = .ok (.iadd, 1) := by decide +kernel
theorem dX8_readsFrom_41 : decode cX8_readsFrom 41 = .ok (.iaload, 1) := by decide +kernel
theorem dX8_readsFrom_42 : decode cX8_readsFrom 42 = .ok (.invokevirtual 162, 3) := by decide +kernel
theorem dX8_readsFrom_45 : decode cX8_readsFrom 45 = .ok (.iinc 2 1, 3) := by decide +kernel
theorem dX8_readsFrom_48 : decode cX8_readsFrom 48 = .ok (.goto (-46), 3) := by decide +kernel
theorem dX8_readsFrom_51 : decode cX8_readsFrom 51 = .ok (.return_, 1) := by decide +kernel
set_option maxRecDepth 20000 in
theorem ggX8_serves_X8_findsWanted : GoodIn wsX8_serves wsX8_findsWanted := goodIn_r _ [9, 2, 1, 3, 10, 11, 12, 8, 13, 14, 15, 16, 17, 18, 19, 20, 21, 87, 88, 89, 90, 91, 92, 93, 94, 95, 96, 97, 98, 99, 100, 101, 102, 103, 104, 105, 106, 107, 108, 109, 110, 111, 112, 113] (by decide +kernel) (by decide +kernel)
set_option maxRecDepth 20000 in
theorem gX8_serves_X8_findsWanted : GoodIn wsX8_serves (wsV RX8 165 RX8 yX8_findsWanted wsX8_findsWanted) := goodIn_app (goodIn_of _ (by decide +kernel)) ggX8_serves_X8_findsWanted
set_option maxRecDepth 20000 in
theorem ggX8_serves_X8_readsFrom : GoodIn wsX8_serves wsX8_readsFrom := goodIn_r _ [25, 1, 10, 11, 12, 8, 13, 14, 15, 16, 17, 26, 27, 28, 29, 30, 31, 32, 33, 34, 35, 36, 37, 18, 19, 20, 21, 38, 39, 40, 41, 42, 43, 44, 45, 46, 47, 48, 49, 50, 51, 52, 53, 54, 55, 56, 57, 58, 59, 60, 61, 62, 63, 64, 87, 88, 89, 90, 91, 92, 93, 94, 95, 96, 97, 98, 99, 100, 101, 102, 103, 104, 105, 106, 107, 108, 109, 110, 111, 112, 113] (by decide +kernel) (by decide +kernel)
set_option maxRecDepth 20000 in
theorem gX8_serves_X8_readsFrom : GoodIn wsX8_serves (wsV RX8 168 RX8 yX8_readsFrom wsX8_readsFrom) := goodIn_app (goodIn_of _ (by decide +kernel)) ggX8_serves_X8_readsFrom
set_option maxRecDepth 20000 in
theorem ggX8_serves_X8_freeDrive : GoodIn wsX8_serves wsX8_freeDrive := goodIn_r _ [41, 1, 87, 88, 89, 90, 91, 92, 93, 94, 95, 96, 97, 98, 99, 100, 101, 102, 103, 104, 105, 106, 107, 108, 109, 110, 111, 112, 113] (by decide +kernel) (by decide +kernel)
set_option maxRecDepth 20000 in
theorem gX8_serves_X8_freeDrive : GoodIn wsX8_serves (wsV RX8 112 RX8 yX8_freeDrive wsX8_freeDrive) := goodIn_app (goodIn_of _ (by decide +kernel)) ggX8_serves_X8_freeDrive
set_option maxRecDepth 20000 in
theorem ggX8_serves_X8_findsOrder : GoodIn wsX8_serves wsX8_findsOrder := goodIn_r _ [68, 1, 2, 69, 4, 70, 71, 72, 73, 8, 74, 75, 76, 77, 78, 79, 80, 81, 82, 3, 54, 55, 56, 83, 84, 85, 86, 87, 88, 89, 90, 91, 92, 93, 94, 95, 96, 97, 98, 99, 100, 101, 102, 103, 104, 105, 106, 107, 108, 109, 110, 111, 112, 113] (by decide +kernel) (by decide +kernel)
set_option maxRecDepth 20000 in
theorem gX8_serves_X8_findsOrder : GoodIn wsX8_serves (wsV RX8 171 RX8 yX8_findsOrder wsX8_findsOrder) := goodIn_app (goodIn_of _ (by decide +kernel)) ggX8_serves_X8_findsOrder
set_option maxRecDepth 20000 in
theorem ggX8_serves_X8_brings : GoodIn wsX8_serves wsX8_brings := goodIn_r _ [45, 1, 46, 47, 48, 8, 49, 50, 51, 52, 53, 54, 55, 56, 57, 58, 59, 60, 61, 62, 63, 64, 87, 88, 89, 90, 91, 92, 93, 94, 95, 96, 97, 98, 99, 100, 101, 102, 103, 104, 105, 106, 107, 108, 109, 110, 111, 112, 113] (by decide +kernel) (by decide +kernel)
set_option maxRecDepth 20000 in
theorem gX8_serves_X8_brings : GoodIn wsX8_serves (wsV RX8 119 RX8 yX8_brings wsX8_brings) := goodIn_app (goodIn_of _ (by decide +kernel)) ggX8_serves_X8_brings
theorem dX8_serves_0 : decode cX8_serves 0 = .ok (.aload_n 0, 1) := by decide +kernel
theorem dX8_serves_1 : decode cX8_serves 1 = .ok (.invokevirtual 165, 3) := by decide +kernel
theorem dX8_serves_4 : decode cX8_serves 4 = .ok (.iconst 0, 1) := by decide +kernel
theorem dX8_serves_5 : decode cX8_serves 5 = .ok (.istore_n 1, 1) := by decide +kernel
theorem dX8_serves_6 : decode cX8_serves 6 = .ok (.iload_n 1, 1) := by decide +kernel
theorem dX8_serves_7 : decode cX8_serves 7 = .ok (.aload_n 0, 1) := by decide +kernel
theorem dX8_serves_8 : decode cX8_serves 8 = .ok (.getfield 7, 3) := by decide +kernel
theorem dX8_serves_11 : decode cX8_serves 11 = .ok (.bipush 6, 2) := by decide +kernel
theorem dX8_serves_13 : decode cX8_serves 13 = .ok (.iaload, 1) := by decide +kernel
theorem dX8_serves_14 : decode cX8_serves 14 = .ok (.if_icmp .ge 35, 3) := by decide +kernel
theorem dX8_serves_17 : decode cX8_serves 17 = .ok (.aload_n 0, 1) := by decide +kernel
theorem dX8_serves_18 : decode cX8_serves 18 = .ok (.getfield 7, 3) := by decide +kernel
theorem dX8_serves_21 : decode cX8_serves 21 = .ok (.bipush 21, 2) := by decide +kernel
theorem dX8_serves_23 : decode cX8_serves 23 = .ok (.iload_n 1, 1) := by decide +kernel
theorem dX8_serves_24 : decode cX8_serves 24 = .ok (.iadd, 1) := by decide +kernel
theorem dX8_serves_25 : decode cX8_serves 25 = .ok (.iaload, 1) := by decide +kernel
theorem dX8_serves_26 : decode cX8_serves 26 = .ok (.iconst (-1), 1) := by decide +kernel
theorem dX8_serves_27 : decode cX8_serves 27 = .ok (.if_icmp .eq 16, 3) := by decide +kernel
theorem dX8_serves_30 : decode cX8_serves 30 = .ok (.aload_n 0, 1) := by decide +kernel
theorem dX8_serves_31 : decode cX8_serves 31 = .ok (.aload_n 0, 1) := by decide +kernel
theorem dX8_serves_32 : decode cX8_serves 32 = .ok (.getfield 7, 3) := by decide +kernel
theorem dX8_serves_35 : decode cX8_serves 35 = .ok (.bipush 21, 2) := by decide +kernel
theorem dX8_serves_37 : decode cX8_serves 37 = .ok (.iload_n 1, 1) := by decide +kernel
theorem dX8_serves_38 : decode cX8_serves 38 = .ok (.iadd, 1) := by decide +kernel
theorem dX8_serves_39 : decode cX8_serves 39 = .ok (.iaload, 1) := by decide +kernel
theorem dX8_serves_40 : decode cX8_serves 40 = .ok (.invokevirtual 168, 3) := by decide +kernel
theorem dX8_serves_43 : decode cX8_serves 43 = .ok (.iinc 1 1, 3) := by decide +kernel
theorem dX8_serves_46 : decode cX8_serves 46 = .ok (.goto (-40), 3) := by decide +kernel
theorem dX8_serves_49 : decode cX8_serves 49 = .ok (.aload_n 0, 1) := by decide +kernel
theorem dX8_serves_50 : decode cX8_serves 50 = .ok (.getfield 145, 3) := by decide +kernel
theorem dX8_serves_53 : decode cX8_serves 53 = .ok (.ifCond .le 60, 3) := by decide +kernel
theorem dX8_serves_56 : decode cX8_serves 56 = .ok (.aload_n 0, 1) := by decide +kernel
theorem dX8_serves_57 : decode cX8_serves 57 = .ok (.invokevirtual 112, 3) := by decide +kernel
theorem dX8_serves_60 : decode cX8_serves 60 = .ok (.istore_n 1, 1) := by decide +kernel
theorem dX8_serves_61 : decode cX8_serves 61 = .ok (.aload_n 0, 1) := by decide +kernel
theorem dX8_serves_62 : decode cX8_serves 62 = .ok (.iload_n 1, 1) := by decide +kernel
theorem dX8_serves_63 : decode cX8_serves 63 = .ok (.invokevirtual 171, 3) := by decide +kernel
theorem dX8_serves_66 : decode cX8_serves 66 = .ok (.iconst 0, 1) := by decide +kernel
theorem dX8_serves_67 : decode cX8_serves 67 = .ok (.istore_n 2, 1) := by decide +kernel
theorem dX8_serves_68 : decode cX8_serves 68 = .ok (.iload_n 2, 1) := by decide +kernel
theorem dX8_serves_69 : decode cX8_serves 69 = .ok (.aload_n 0, 1) := by decide +kernel
theorem dX8_serves_70 : decode cX8_serves 70 = .ok (.getfield 145, 3) := by decide +kernel
theorem dX8_serves_73 : decode cX8_serves 73 = .ok (.if_icmp .ge 40, 3) := by decide +kernel
theorem dX8_serves_76 : decode cX8_serves 76 = .ok (.aload_n 0, 1) := by decide +kernel
theorem dX8_serves_77 : decode cX8_serves 77 = .ok (.aload_n 0, 1) := by decide +kernel
theorem dX8_serves_78 : decode cX8_serves 78 = .ok (.getfield 22, 3) := by decide +kernel
theorem dX8_serves_81 : decode cX8_serves 81 = .ok (.aload_n 0, 1) := by decide +kernel
theorem dX8_serves_82 : decode cX8_serves 82 = .ok (.getfield 25, 3) := by decide +kernel
theorem dX8_serves_85 : decode cX8_serves 85 = .ok (.iload_n 2, 1) := by decide +kernel
theorem dX8_serves_86 : decode cX8_serves 86 = .ok (.iaload, 1) := by decide +kernel
theorem dX8_serves_87 : decode cX8_serves 87 = .ok (.iaload, 1) := by decide +kernel
theorem dX8_serves_88 : decode cX8_serves 88 = .ok (.iload_n 1, 1) := by decide +kernel
theorem dX8_serves_89 : decode cX8_serves 89 = .ok (.invokevirtual 119, 3) := by decide +kernel
theorem dX8_serves_92 : decode cX8_serves 92 = .ok (.aload_n 0, 1) := by decide +kernel
theorem dX8_serves_93 : decode cX8_serves 93 = .ok (.aload_n 0, 1) := by decide +kernel
theorem dX8_serves_94 : decode cX8_serves 94 = .ok (.getfield 22, 3) := by decide +kernel
theorem dX8_serves_97 : decode cX8_serves 97 = .ok (.aload_n 0, 1) := by decide +kernel
theorem dX8_serves_98 : decode cX8_serves 98 = .ok (.getfield 25, 3) := by decide +kernel
theorem dX8_serves_101 : decode cX8_serves 101 = .ok (.iload_n 2, 1) := by decide +kernel
theorem dX8_serves_102 : decode cX8_serves 102 = .ok (.iaload, 1) := by decide +kernel
theorem dX8_serves_103 : decode cX8_serves 103 = .ok (.iaload, 1) := by decide +kernel
theorem dX8_serves_104 : decode cX8_serves 104 = .ok (.invokevirtual 168, 3) := by decide +kernel
theorem dX8_serves_107 : decode cX8_serves 107 = .ok (.iinc 2 1, 3) := by decide +kernel
theorem dX8_serves_110 : decode cX8_serves 110 = .ok (.goto (-42), 3) := by decide +kernel
theorem dX8_serves_113 : decode cX8_serves 113 = .ok (.aload_n 0, 1) := by decide +kernel
theorem dX8_serves_114 : decode cX8_serves 114 = .ok (.getfield 7, 3) := by decide +kernel
theorem dX8_serves_117 : decode cX8_serves 117 = .ok (.bipush 16, 2) := by decide +kernel
theorem dX8_serves_119 : decode cX8_serves 119 = .ok (.iconst 0, 1) := by decide +kernel
theorem dX8_serves_120 : decode cX8_serves 120 = .ok (.iastore, 1) := by decide +kernel
theorem dX8_serves_121 : decode cX8_serves 121 = .ok (.return_, 1) := by decide +kernel
set_option maxRecDepth 20000 in
theorem ggX8_areReadable_X8_isReadable : GoodIn wsX8_areReadable wsX8_isReadable := goodIn_r _ [6, 7, 8, 9, 5, 10, 1, 11, 12, 13, 14, 15, 16, 17, 18, 19, 20, 21, 22, 23, 24, 25, 26, 27, 28, 29, 30, 31, 32, 33, 34, 35, 36, 37, 38, 39, 40, 41, 42, 43, 44, 45] (by decide +kernel) (by decide +kernel)
set_option maxRecDepth 20000 in
theorem gX8_areReadable_X8_isReadable : GoodIn wsX8_areReadable (wsV RX8 174 RX8 yX8_isReadable wsX8_isReadable) := goodIn_app (goodIn_of _ (by decide +kernel)) ggX8_areReadable_X8_isReadable
theorem dX8_areReadable_0 : decode cX8_areReadable 0 = .ok (.iconst 1, 1) := by decide +kernel
theorem dX8_areReadable_1 : decode cX8_areReadable 1 = .ok (.istore_n 1, 1) := by decide +kernel
theorem dX8_areReadable_2 : decode cX8_areReadable 2 = .ok (.iconst 0, 1) := by decide +kernel
theorem dX8_areReadable_3 : decode cX8_areReadable 3 = .ok (.istore_n 2, 1) := by decide +kernel
theorem dX8_areReadable_4 : decode cX8_areReadable 4 = .ok (.iload_n 2, 1) := by decide +kernel
theorem dX8_areReadable_5 : decode cX8_areReadable 5 = .ok (.aload_n 0, 1) := by decide +kernel
theorem dX8_areReadable_6 : decode cX8_areReadable 6 = .ok (.getfield 7, 3) := by decide +kernel
theorem dX8_areReadable_9 : decode cX8_areReadable 9 = .ok (.bipush 16, 2) := by decide +kernel
theorem dX8_areReadable_11 : decode cX8_areReadable 11 = .ok (.iaload, 1) := by decide +kernel
theorem dX8_areReadable_12 : decode cX8_areReadable 12 = .ok (.if_icmp .ge 36, 3) := by decide +kernel
theorem dX8_areReadable_15 : decode cX8_areReadable 15 = .ok (.iload_n 1, 1) := by decide +kernel
theorem dX8_areReadable_16 : decode cX8_areReadable 16 = .ok (.ifCond .eq 24, 3) := by decide +kernel
theorem dX8_areReadable_19 : decode cX8_areReadable 19 = .ok (.aload_n 0, 1) := by decide +kernel
theorem dX8_areReadable_20 : decode cX8_areReadable 20 = .ok (.aload_n 0, 1) := by decide +kernel
theorem dX8_areReadable_21 : decode cX8_areReadable 21 = .ok (.getfield 7, 3) := by decide +kernel
theorem dX8_areReadable_24 : decode cX8_areReadable 24 = .ok (.sipush 589, 3) := by decide +kernel
theorem dX8_areReadable_27 : decode cX8_areReadable 27 = .ok (.iload_n 2, 1) := by decide +kernel
theorem dX8_areReadable_28 : decode cX8_areReadable 28 = .ok (.iadd, 1) := by decide +kernel
theorem dX8_areReadable_29 : decode cX8_areReadable 29 = .ok (.iaload, 1) := by decide +kernel
theorem dX8_areReadable_30 : decode cX8_areReadable 30 = .ok (.invokevirtual 174, 3) := by decide +kernel
theorem dX8_areReadable_33 : decode cX8_areReadable 33 = .ok (.ifCond .eq 7, 3) := by decide +kernel
theorem dX8_areReadable_36 : decode cX8_areReadable 36 = .ok (.iconst 1, 1) := by decide +kernel
theorem dX8_areReadable_37 : decode cX8_areReadable 37 = .ok (.goto 4, 3) := by decide +kernel
theorem dX8_areReadable_40 : decode cX8_areReadable 40 = .ok (.iconst 0, 1) := by decide +kernel
theorem dX8_areReadable_41 : decode cX8_areReadable 41 = .ok (.istore_n 1, 1) := by decide +kernel
theorem dX8_areReadable_42 : decode cX8_areReadable 42 = .ok (.iinc 2 1, 3) := by decide +kernel
theorem dX8_areReadable_45 : decode cX8_areReadable 45 = .ok (.goto (-41), 3) := by decide +kernel
theorem dX8_areReadable_48 : decode cX8_areReadable 48 = .ok (.iload_n 1, 1) := by decide +kernel
theorem dX8_areReadable_49 : decode cX8_areReadable 49 = .ok (.ireturn, 1) := by decide +kernel
set_option maxRecDepth 20000 in
theorem ggX8_whyNotServed_X8_areReadable : GoodIn wsX8_whyNotServed wsX8_areReadable := goodIn_r _ [9, 1, 10, 11, 12, 8, 13, 14, 15, 16, 17, 18, 19, 20, 21, 22, 23, 24, 25, 26, 27, 28, 29, 30, 31, 32, 33, 34, 35, 36, 37, 38, 39, 40, 41, 42, 43, 44, 45, 46, 47, 48, 49, 50, 51, 52] (by decide +kernel) (by decide +kernel)
set_option maxRecDepth 20000 in
theorem gX8_whyNotServed_X8_areReadable : GoodIn wsX8_whyNotServed (wsV RX8 178 RX8 yX8_areReadable wsX8_areReadable) := goodIn_app (goodIn_of _ (by decide +kernel)) ggX8_whyNotServed_X8_areReadable
theorem dX8_whyNotServed_0 : decode cX8_whyNotServed 0 = .ok (.aload_n 0, 1) := by decide +kernel
theorem dX8_whyNotServed_1 : decode cX8_whyNotServed 1 = .ok (.getfield 7, 3) := by decide +kernel
theorem dX8_whyNotServed_4 : decode cX8_whyNotServed 4 = .ok (.bipush 16, 2) := by decide +kernel
theorem dX8_whyNotServed_6 : decode cX8_whyNotServed 6 = .ok (.iaload, 1) := by decide +kernel
theorem dX8_whyNotServed_7 : decode cX8_whyNotServed 7 = .ok (.iload_n 1, 1) := by decide +kernel
theorem dX8_whyNotServed_8 : decode cX8_whyNotServed 8 = .ok (.if_icmp .ge 8, 3) := by decide +kernel
theorem dX8_whyNotServed_11 : decode cX8_whyNotServed 11 = .ok (.ldc 42, 2) := by decide +kernel
theorem dX8_whyNotServed_13 : decode cX8_whyNotServed 13 = .ok (.goto 31, 3) := by decide +kernel
theorem dX8_whyNotServed_16 : decode cX8_whyNotServed 16 = .ok (.aload_n 0, 1) := by decide +kernel
theorem dX8_whyNotServed_17 : decode cX8_whyNotServed 17 = .ok (.getfield 7, 3) := by decide +kernel
theorem dX8_whyNotServed_20 : decode cX8_whyNotServed 20 = .ok (.bipush 6, 2) := by decide +kernel
theorem dX8_whyNotServed_22 : decode cX8_whyNotServed 22 = .ok (.iaload, 1) := by decide +kernel
theorem dX8_whyNotServed_23 : decode cX8_whyNotServed 23 = .ok (.ifCond .ne 8, 3) := by decide +kernel
theorem dX8_whyNotServed_26 : decode cX8_whyNotServed 26 = .ok (.ldc 177, 2) := by decide +kernel
theorem dX8_whyNotServed_28 : decode cX8_whyNotServed 28 = .ok (.goto 16, 3) := by decide +kernel
theorem dX8_whyNotServed_31 : decode cX8_whyNotServed 31 = .ok (.aload_n 0, 1) := by decide +kernel
theorem dX8_whyNotServed_32 : decode cX8_whyNotServed 32 = .ok (.invokevirtual 178, 3) := by decide +kernel
theorem dX8_whyNotServed_35 : decode cX8_whyNotServed 35 = .ok (.ifCond .eq 7, 3) := by decide +kernel
theorem dX8_whyNotServed_38 : decode cX8_whyNotServed 38 = .ok (.iconst 0, 1) := by decide +kernel
theorem dX8_whyNotServed_39 : decode cX8_whyNotServed 39 = .ok (.goto 5, 3) := by decide +kernel
theorem dX8_whyNotServed_42 : decode cX8_whyNotServed 42 = .ok (.ldc 182, 2) := by decide +kernel
theorem dX8_whyNotServed_44 : decode cX8_whyNotServed 44 = .ok (.ireturn, 1) := by decide +kernel
set_option maxRecDepth 20000 in
theorem ggX8_servingTime_X8_tries : GoodIn wsX8_servingTime wsX8_tries := goodIn_r _ [5, 6, 7, 8, 9, 10, 4, 11, 104, 105, 106, 107, 108, 109, 110, 111, 112, 113, 114, 115, 116, 117, 118, 119, 120, 121, 122, 123, 124, 125, 126, 127, 128, 129, 130] (by decide +kernel) (by decide +kernel)
set_option maxRecDepth 20000 in
theorem gX8_servingTime_X8_tries : GoodIn wsX8_servingTime (wsV RX8 136 RX8 yX8_tries wsX8_tries) := goodIn_app (goodIn_of _ (by decide +kernel)) ggX8_servingTime_X8_tries
set_option maxRecDepth 20000 in
theorem ggX8_servingTime_X8_serves : GoodIn wsX8_servingTime wsX8_serves := goodIn_r _ [15, 6, 16, 17, 18, 19, 20, 21, 4, 22, 23, 24, 25, 26, 27, 28, 29, 30, 31, 32, 33, 34, 35, 36, 37, 38, 39, 40, 41, 42, 43, 44, 45, 46, 47, 48, 49, 50, 51, 52, 53, 54, 55, 56, 57, 58, 59, 60, 61, 62, 63, 64, 65, 66, 67, 68, 69, 70, 71, 72, 73, 74, 75, 76, 77, 78, 79, 80, 81, 82, 83, 84, 85, 86, 87, 88, 89, 90, 91, 92, 93, 94, 95, 96, 97, 98, 99, 104, 105, 106, 107, 108, 109, 110, 111, 112, 113, 114, 115, 116, 117, 118, 119, 120, 121, 122, 123, 124, 125, 126, 127, 128, 129, 130] (by decide +kernel) (by decide +kernel)
set_option maxRecDepth 20000 in
theorem gX8_servingTime_X8_serves : GoodIn wsX8_servingTime (wsV RX8 183 RX8 yX8_serves wsX8_serves) := goodIn_app (goodIn_of _ (by decide +kernel)) ggX8_servingTime_X8_serves
set_option maxRecDepth 20000 in
theorem ggX8_servingTime_X8_takesBack : GoodIn wsX8_servingTime wsX8_takesBack := goodIn_r _ [103, 6, 8, 7, 9, 10, 4, 11, 104, 105, 106, 107, 108, 109, 110, 111, 112, 113, 114, 115, 116, 117, 118, 119, 120, 121, 122, 123, 124, 125, 126, 127, 128, 129, 130] (by decide +kernel) (by decide +kernel)
set_option maxRecDepth 20000 in
theorem gX8_servingTime_X8_takesBack : GoodIn wsX8_servingTime (wsV RX8 139 RX8 yX8_takesBack wsX8_takesBack) := goodIn_app (goodIn_of _ (by decide +kernel)) ggX8_servingTime_X8_takesBack
theorem dX8_servingTime_0 : decode cX8_servingTime 0 = .ok (.aload_n 0, 1) := by decide +kernel
theorem dX8_servingTime_1 : decode cX8_servingTime 1 = .ok (.invokevirtual 136, 3) := by decide +kernel
theorem dX8_servingTime_4 : decode cX8_servingTime 4 = .ok (.aload_n 0, 1) := by decide +kernel
theorem dX8_servingTime_5 : decode cX8_servingTime 5 = .ok (.invokevirtual 183, 3) := by decide +kernel
theorem dX8_servingTime_8 : decode cX8_servingTime 8 = .ok (.aload_n 0, 1) := by decide +kernel
theorem dX8_servingTime_9 : decode cX8_servingTime 9 = .ok (.invokevirtual 139, 3) := by decide +kernel
theorem dX8_servingTime_12 : decode cX8_servingTime 12 = .ok (.ireturn, 1) := by decide +kernel
set_option maxRecDepth 20000 in
theorem ggX8_homeSlot_X8_isPlatter : GoodIn wsX8_homeSlot wsX8_isPlatter := goodIn_r _ [8, 2, 9, 10, 7, 11, 12, 13, 14, 15, 16, 17, 18, 19, 20, 21, 22, 23, 24, 25, 26, 27, 28, 29, 30, 31, 32, 33, 34, 35, 36, 37, 38] (by decide +kernel) (by decide +kernel)
set_option maxRecDepth 20000 in
theorem gX8_homeSlot_X8_isPlatter : GoodIn wsX8_homeSlot (wsV RX8 61 RX8 yX8_isPlatter wsX8_isPlatter) := goodIn_app (goodIn_of _ (by decide +kernel)) ggX8_homeSlot_X8_isPlatter
theorem dX8_homeSlot_0 : decode cX8_homeSlot 0 = .ok (.aload_n 0, 1) := by decide +kernel
theorem dX8_homeSlot_1 : decode cX8_homeSlot 1 = .ok (.iconst 0, 1) := by decide +kernel
theorem dX8_homeSlot_2 : decode cX8_homeSlot 2 = .ok (.putfield 51, 3) := by decide +kernel
theorem dX8_homeSlot_5 : decode cX8_homeSlot 5 = .ok (.aload_n 0, 1) := by decide +kernel
theorem dX8_homeSlot_6 : decode cX8_homeSlot 6 = .ok (.iload_n 1, 1) := by decide +kernel
theorem dX8_homeSlot_7 : decode cX8_homeSlot 7 = .ok (.invokevirtual 61, 3) := by decide +kernel
theorem dX8_homeSlot_10 : decode cX8_homeSlot 10 = .ok (.ifCond .eq 15, 3) := by decide +kernel
theorem dX8_homeSlot_13 : decode cX8_homeSlot 13 = .ok (.aload_n 0, 1) := by decide +kernel
theorem dX8_homeSlot_14 : decode cX8_homeSlot 14 = .ok (.getfield 7, 3) := by decide +kernel
theorem dX8_homeSlot_17 : decode cX8_homeSlot 17 = .ok (.bipush 29, 2) := by decide +kernel
theorem dX8_homeSlot_19 : decode cX8_homeSlot 19 = .ok (.iload_n 1, 1) := by decide +kernel
theorem dX8_homeSlot_20 : decode cX8_homeSlot 20 = .ok (.iadd, 1) := by decide +kernel
theorem dX8_homeSlot_21 : decode cX8_homeSlot 21 = .ok (.iaload, 1) := by decide +kernel
theorem dX8_homeSlot_22 : decode cX8_homeSlot 22 = .ok (.goto 5, 3) := by decide +kernel
theorem dX8_homeSlot_25 : decode cX8_homeSlot 25 = .ok (.ldc 186, 2) := by decide +kernel
theorem dX8_homeSlot_27 : decode cX8_homeSlot 27 = .ok (.ireturn, 1) := by decide +kernel
set_option maxRecDepth 20000 in
theorem ggX8_platterInSlot_X8_isSlot : GoodIn wsX8_platterInSlot wsX8_isSlot := goodIn_r _ [9, 3, 10, 11, 8, 12, 17, 18, 19, 20, 21, 22, 23, 24, 25, 26, 27, 28, 29, 30, 31, 32, 33, 34, 35, 36, 37, 38, 39, 40, 41, 42, 43] (by decide +kernel) (by decide +kernel)
set_option maxRecDepth 20000 in
theorem gX8_platterInSlot_X8_isSlot : GoodIn wsX8_platterInSlot (wsV RX8 187 RX8 yX8_isSlot wsX8_isSlot) := goodIn_app (goodIn_of _ (by decide +kernel)) ggX8_platterInSlot_X8_isSlot
set_option maxRecDepth 20000 in
theorem ggX8_platterInSlot_X8_inDrive : GoodIn wsX8_platterInSlot wsX8_inDrive := goodIn_r _ [16, 3, 17, 18, 19, 20, 21, 22, 23, 24, 25, 26, 27, 28, 29, 30, 31, 32, 33, 34, 35, 36, 37, 38, 39, 40, 41, 42, 43] (by decide +kernel) (by decide +kernel)
set_option maxRecDepth 20000 in
theorem gX8_platterInSlot_X8_inDrive : GoodIn wsX8_platterInSlot (wsV RX8 109 RX8 yX8_inDrive wsX8_inDrive) := goodIn_app (goodIn_of _ (by decide +kernel)) ggX8_platterInSlot_X8_inDrive
theorem dX8_platterInSlot_0 : decode cX8_platterInSlot 0 = .ok (.aload_n 0, 1) := by decide +kernel
theorem dX8_platterInSlot_1 : decode cX8_platterInSlot 1 = .ok (.iconst 0, 1) := by decide +kernel
theorem dX8_platterInSlot_2 : decode cX8_platterInSlot 2 = .ok (.putfield 51, 3) := by decide +kernel
theorem dX8_platterInSlot_5 : decode cX8_platterInSlot 5 = .ok (.aload_n 0, 1) := by decide +kernel
theorem dX8_platterInSlot_6 : decode cX8_platterInSlot 6 = .ok (.iload_n 1, 1) := by decide +kernel
theorem dX8_platterInSlot_7 : decode cX8_platterInSlot 7 = .ok (.invokevirtual 187, 3) := by decide +kernel
theorem dX8_platterInSlot_10 : decode cX8_platterInSlot 10 = .ok (.ifCond .ne 6, 3) := by decide +kernel
theorem dX8_platterInSlot_13 : decode cX8_platterInSlot 13 = .ok (.ldc 186, 2) := by decide +kernel
theorem dX8_platterInSlot_15 : decode cX8_platterInSlot 15 = .ok (.ireturn, 1) := by decide +kernel
theorem dX8_platterInSlot_16 : decode cX8_platterInSlot 16 = .ok (.iconst 0, 1) := by decide +kernel
theorem dX8_platterInSlot_17 : decode cX8_platterInSlot 17 = .ok (.istore_n 2, 1) := by decide +kernel
theorem dX8_platterInSlot_18 : decode cX8_platterInSlot 18 = .ok (.iload_n 2, 1) := by decide +kernel
theorem dX8_platterInSlot_19 : decode cX8_platterInSlot 19 = .ok (.aload_n 0, 1) := by decide +kernel
theorem dX8_platterInSlot_20 : decode cX8_platterInSlot 20 = .ok (.getfield 7, 3) := by decide +kernel
theorem dX8_platterInSlot_23 : decode cX8_platterInSlot 23 = .ok (.bipush 7, 2) := by decide +kernel
theorem dX8_platterInSlot_25 : decode cX8_platterInSlot 25 = .ok (.iaload, 1) := by decide +kernel
theorem dX8_platterInSlot_26 : decode cX8_platterInSlot 26 = .ok (.if_icmp .ge 33, 3) := by decide +kernel
theorem dX8_platterInSlot_29 : decode cX8_platterInSlot 29 = .ok (.aload_n 0, 1) := by decide +kernel
theorem dX8_platterInSlot_30 : decode cX8_platterInSlot 30 = .ok (.getfield 7, 3) := by decide +kernel
theorem dX8_platterInSlot_33 : decode cX8_platterInSlot 33 = .ok (.bipush 29, 2) := by decide +kernel
theorem dX8_platterInSlot_35 : decode cX8_platterInSlot 35 = .ok (.iload_n 2, 1) := by decide +kernel
theorem dX8_platterInSlot_36 : decode cX8_platterInSlot 36 = .ok (.iadd, 1) := by decide +kernel
theorem dX8_platterInSlot_37 : decode cX8_platterInSlot 37 = .ok (.iaload, 1) := by decide +kernel
theorem dX8_platterInSlot_38 : decode cX8_platterInSlot 38 = .ok (.iload_n 1, 1) := by decide +kernel
theorem dX8_platterInSlot_39 : decode cX8_platterInSlot 39 = .ok (.if_icmp .ne 14, 3) := by decide +kernel
theorem dX8_platterInSlot_42 : decode cX8_platterInSlot 42 = .ok (.aload_n 0, 1) := by decide +kernel
theorem dX8_platterInSlot_43 : decode cX8_platterInSlot 43 = .ok (.iload_n 2, 1) := by decide +kernel
theorem dX8_platterInSlot_44 : decode cX8_platterInSlot 44 = .ok (.invokevirtual 109, 3) := by decide +kernel
theorem dX8_platterInSlot_47 : decode cX8_platterInSlot 47 = .ok (.iconst (-1), 1) := by decide +kernel
theorem dX8_platterInSlot_48 : decode cX8_platterInSlot 48 = .ok (.if_icmp .ne 5, 3) := by decide +kernel
theorem dX8_platterInSlot_51 : decode cX8_platterInSlot 51 = .ok (.iload_n 2, 1) := by decide +kernel
theorem dX8_platterInSlot_52 : decode cX8_platterInSlot 52 = .ok (.ireturn, 1) := by decide +kernel
theorem dX8_platterInSlot_53 : decode cX8_platterInSlot 53 = .ok (.iinc 2 1, 3) := by decide +kernel
theorem dX8_platterInSlot_56 : decode cX8_platterInSlot 56 = .ok (.goto (-38), 3) := by decide +kernel
theorem dX8_platterInSlot_59 : decode cX8_platterInSlot 59 = .ok (.ldc 42, 2) := by decide +kernel
theorem dX8_platterInSlot_61 : decode cX8_platterInSlot 61 = .ok (.ireturn, 1) := by decide +kernel
theorem dX8_found_0 : decode cX8_found 0 = .ok (.iload_n 0, 1) := by decide +kernel
theorem dX8_found_1 : decode cX8_found 1 = .ok (.iconst (-1), 1) := by decide +kernel
theorem dX8_found_2 : decode cX8_found 2 = .ok (.if_icmp .ne 8, 3) := by decide +kernel
theorem dX8_found_5 : decode cX8_found 5 = .ok (.ldc 42, 2) := by decide +kernel
theorem dX8_found_7 : decode cX8_found 7 = .ok (.goto 4, 3) := by decide +kernel
theorem dX8_found_10 : decode cX8_found 10 = .ok (.iload_n 0, 1) := by decide +kernel
theorem dX8_found_11 : decode cX8_found 11 = .ok (.ireturn, 1) := by decide +kernel
set_option maxRecDepth 20000 in
theorem ggX8_driveOf_X8_isPlatter : GoodIn wsX8_driveOf wsX8_isPlatter := goodIn_r _ [7, 8, 9, 10, 6, 11, 20, 21, 22, 23, 24, 25, 26, 27, 28, 29, 30, 31, 32, 33, 34, 35, 36, 37, 38, 39, 40, 41, 42, 43, 44, 45, 46] (by decide +kernel) (by decide +kernel)
set_option maxRecDepth 20000 in
theorem gX8_driveOf_X8_isPlatter : GoodIn wsX8_driveOf (wsV RX8 61 RX8 yX8_isPlatter wsX8_isPlatter) := goodIn_app (goodIn_of _ (by decide +kernel)) ggX8_driveOf_X8_isPlatter
set_option maxRecDepth 20000 in
theorem ggX8_driveOf_X8_inDrive : GoodIn wsX8_driveOf wsX8_inDrive := goodIn_r _ [15, 8, 20, 21, 22, 23, 24, 25, 26, 27, 28, 29, 30, 31, 32, 33, 34, 35, 36, 37, 38, 39, 40, 41, 42, 43, 44, 45, 46] (by decide +kernel) (by decide +kernel)
set_option maxRecDepth 20000 in
theorem gX8_driveOf_X8_inDrive : GoodIn wsX8_driveOf (wsV RX8 109 RX8 yX8_inDrive wsX8_inDrive) := goodIn_app (goodIn_of _ (by decide +kernel)) ggX8_driveOf_X8_inDrive
set_option maxRecDepth 20000 in
theorem ggX8_driveOf_X8_found : GoodIn wsX8_driveOf wsX8_found := goodIn_r _ [18, 19] (by decide +kernel) (by decide +kernel)
set_option maxRecDepth 20000 in
theorem gX8_driveOf_X8_found : GoodIn wsX8_driveOf (va_wsS RX8 190 yX8_found wsX8_found) := goodIn_app (goodIn_of _ (by decide +kernel)) ggX8_driveOf_X8_found
theorem dX8_driveOf_0 : decode cX8_driveOf 0 = .ok (.aload_n 0, 1) := by decide +kernel
theorem dX8_driveOf_1 : decode cX8_driveOf 1 = .ok (.iconst 0, 1) := by decide +kernel
theorem dX8_driveOf_2 : decode cX8_driveOf 2 = .ok (.putfield 51, 3) := by decide +kernel
theorem dX8_driveOf_5 : decode cX8_driveOf 5 = .ok (.aload_n 0, 1) := by decide +kernel
theorem dX8_driveOf_6 : decode cX8_driveOf 6 = .ok (.iload_n 1, 1) := by decide +kernel
theorem dX8_driveOf_7 : decode cX8_driveOf 7 = .ok (.invokevirtual 61, 3) := by decide +kernel
theorem dX8_driveOf_10 : decode cX8_driveOf 10 = .ok (.ifCond .eq 14, 3) := by decide +kernel
theorem dX8_driveOf_13 : decode cX8_driveOf 13 = .ok (.aload_n 0, 1) := by decide +kernel
theorem dX8_driveOf_14 : decode cX8_driveOf 14 = .ok (.iload_n 1, 1) := by decide +kernel
theorem dX8_driveOf_15 : decode cX8_driveOf 15 = .ok (.invokevirtual 109, 3) := by decide +kernel
theorem dX8_driveOf_18 : decode cX8_driveOf 18 = .ok (.invokestatic 190, 3) := by decide +kernel
theorem dX8_driveOf_21 : decode cX8_driveOf 21 = .ok (.goto 5, 3) := by decide +kernel
theorem dX8_driveOf_24 : decode cX8_driveOf 24 = .ok (.ldc 186, 2) := by decide +kernel
theorem dX8_driveOf_26 : decode cX8_driveOf 26 = .ok (.ireturn, 1) := by decide +kernel
set_option maxRecDepth 20000 in
theorem ggX8_platterInDrive_X8_isDrive : GoodIn wsX8_platterInDrive wsX8_isDrive := goodIn_r _ [8, 2, 9, 10, 7, 11, 16, 17, 18, 19, 20, 21, 22, 23, 24, 25, 26, 27, 28, 29, 30, 31, 32, 33, 34, 35, 36, 37, 38, 39, 40, 41, 42] (by decide +kernel) (by decide +kernel)
set_option maxRecDepth 20000 in
theorem gX8_platterInDrive_X8_isDrive : GoodIn wsX8_platterInDrive (wsV RX8 193 RX8 yX8_isDrive wsX8_isDrive) := goodIn_app (goodIn_of _ (by decide +kernel)) ggX8_platterInDrive_X8_isDrive
set_option maxRecDepth 20000 in
theorem ggX8_platterInDrive_X8_found : GoodIn wsX8_platterInDrive wsX8_found := goodIn_r _ [14, 15] (by decide +kernel) (by decide +kernel)
set_option maxRecDepth 20000 in
theorem gX8_platterInDrive_X8_found : GoodIn wsX8_platterInDrive (va_wsS RX8 190 yX8_found wsX8_found) := goodIn_app (goodIn_of _ (by decide +kernel)) ggX8_platterInDrive_X8_found
theorem dX8_platterInDrive_0 : decode cX8_platterInDrive 0 = .ok (.aload_n 0, 1) := by decide +kernel
theorem dX8_platterInDrive_1 : decode cX8_platterInDrive 1 = .ok (.iconst 0, 1) := by decide +kernel
theorem dX8_platterInDrive_2 : decode cX8_platterInDrive 2 = .ok (.putfield 51, 3) := by decide +kernel
theorem dX8_platterInDrive_5 : decode cX8_platterInDrive 5 = .ok (.aload_n 0, 1) := by decide +kernel
theorem dX8_platterInDrive_6 : decode cX8_platterInDrive 6 = .ok (.iload_n 1, 1) := by decide +kernel
theorem dX8_platterInDrive_7 : decode cX8_platterInDrive 7 = .ok (.invokevirtual 193, 3) := by decide +kernel
theorem dX8_platterInDrive_10 : decode cX8_platterInDrive 10 = .ok (.ifCond .eq 18, 3) := by decide +kernel
theorem dX8_platterInDrive_13 : decode cX8_platterInDrive 13 = .ok (.aload_n 0, 1) := by decide +kernel
theorem dX8_platterInDrive_14 : decode cX8_platterInDrive 14 = .ok (.getfield 7, 3) := by decide +kernel
theorem dX8_platterInDrive_17 : decode cX8_platterInDrive 17 = .ok (.bipush 21, 2) := by decide +kernel
theorem dX8_platterInDrive_19 : decode cX8_platterInDrive 19 = .ok (.iload_n 1, 1) := by decide +kernel
theorem dX8_platterInDrive_20 : decode cX8_platterInDrive 20 = .ok (.iadd, 1) := by decide +kernel
theorem dX8_platterInDrive_21 : decode cX8_platterInDrive 21 = .ok (.iaload, 1) := by decide +kernel
theorem dX8_platterInDrive_22 : decode cX8_platterInDrive 22 = .ok (.invokestatic 190, 3) := by decide +kernel
theorem dX8_platterInDrive_25 : decode cX8_platterInDrive 25 = .ok (.goto 5, 3) := by decide +kernel
theorem dX8_platterInDrive_28 : decode cX8_platterInDrive 28 = .ok (.ldc 186, 2) := by decide +kernel
theorem dX8_platterInDrive_30 : decode cX8_platterInDrive 30 = .ok (.ireturn, 1) := by decide +kernel
theorem dX8_pickerPosition_0 : decode cX8_pickerPosition 0 = .ok (.aload_n 0, 1) := by decide +kernel
theorem dX8_pickerPosition_1 : decode cX8_pickerPosition 1 = .ok (.iconst 0, 1) := by decide +kernel
theorem dX8_pickerPosition_2 : decode cX8_pickerPosition 2 = .ok (.putfield 51, 3) := by decide +kernel
theorem dX8_pickerPosition_5 : decode cX8_pickerPosition 5 = .ok (.aload_n 0, 1) := by decide +kernel
theorem dX8_pickerPosition_6 : decode cX8_pickerPosition 6 = .ok (.getfield 7, 3) := by decide +kernel
theorem dX8_pickerPosition_9 : decode cX8_pickerPosition 9 = .ok (.bipush 11, 2) := by decide +kernel
theorem dX8_pickerPosition_11 : decode cX8_pickerPosition 11 = .ok (.iaload, 1) := by decide +kernel
theorem dX8_pickerPosition_12 : decode cX8_pickerPosition 12 = .ok (.ireturn, 1) := by decide +kernel
theorem dX8_clock_0 : decode cX8_clock 0 = .ok (.aload_n 0, 1) := by decide +kernel
theorem dX8_clock_1 : decode cX8_clock 1 = .ok (.iconst 0, 1) := by decide +kernel
theorem dX8_clock_2 : decode cX8_clock 2 = .ok (.putfield 51, 3) := by decide +kernel
theorem dX8_clock_5 : decode cX8_clock 5 = .ok (.aload_n 0, 1) := by decide +kernel
theorem dX8_clock_6 : decode cX8_clock 6 = .ok (.getfield 7, 3) := by decide +kernel
theorem dX8_clock_9 : decode cX8_clock 9 = .ok (.bipush 12, 2) := by decide +kernel
theorem dX8_clock_11 : decode cX8_clock 11 = .ok (.iaload, 1) := by decide +kernel
theorem dX8_clock_12 : decode cX8_clock 12 = .ok (.ireturn, 1) := by decide +kernel
theorem dX8_exchanges_0 : decode cX8_exchanges 0 = .ok (.aload_n 0, 1) := by decide +kernel
theorem dX8_exchanges_1 : decode cX8_exchanges 1 = .ok (.iconst 0, 1) := by decide +kernel
theorem dX8_exchanges_2 : decode cX8_exchanges 2 = .ok (.putfield 51, 3) := by decide +kernel
theorem dX8_exchanges_5 : decode cX8_exchanges 5 = .ok (.aload_n 0, 1) := by decide +kernel
theorem dX8_exchanges_6 : decode cX8_exchanges 6 = .ok (.getfield 7, 3) := by decide +kernel
theorem dX8_exchanges_9 : decode cX8_exchanges 9 = .ok (.bipush 13, 2) := by decide +kernel
theorem dX8_exchanges_11 : decode cX8_exchanges 11 = .ok (.iaload, 1) := by decide +kernel
theorem dX8_exchanges_12 : decode cX8_exchanges 12 = .ok (.ireturn, 1) := by decide +kernel
theorem dX8_travel_0 : decode cX8_travel 0 = .ok (.aload_n 0, 1) := by decide +kernel
theorem dX8_travel_1 : decode cX8_travel 1 = .ok (.iconst 0, 1) := by decide +kernel
theorem dX8_travel_2 : decode cX8_travel 2 = .ok (.putfield 51, 3) := by decide +kernel
theorem dX8_travel_5 : decode cX8_travel 5 = .ok (.aload_n 0, 1) := by decide +kernel
theorem dX8_travel_6 : decode cX8_travel 6 = .ok (.getfield 7, 3) := by decide +kernel
theorem dX8_travel_9 : decode cX8_travel 9 = .ok (.bipush 14, 2) := by decide +kernel
theorem dX8_travel_11 : decode cX8_travel 11 = .ok (.iaload, 1) := by decide +kernel
theorem dX8_travel_12 : decode cX8_travel 12 = .ok (.ireturn, 1) := by decide +kernel
set_option maxRecDepth 20000 in
theorem ggX8_chosenDrive_X8_isPlatter : GoodIn wsX8_chosenDrive wsX8_isPlatter := goodIn_r _ [9, 3, 10, 11, 8, 12, 25, 26, 27, 28, 29, 30, 31, 32, 33, 34, 35, 36, 37, 38, 39, 40, 41, 42, 43, 44, 45, 46, 47, 48, 49, 50, 51] (by decide +kernel) (by decide +kernel)
set_option maxRecDepth 20000 in
theorem gX8_chosenDrive_X8_isPlatter : GoodIn wsX8_chosenDrive (wsV RX8 61 RX8 yX8_isPlatter wsX8_isPlatter) := goodIn_app (goodIn_of _ (by decide +kernel)) ggX8_chosenDrive_X8_isPlatter
set_option maxRecDepth 20000 in
theorem ggX8_chosenDrive_X8_chosen : GoodIn wsX8_chosenDrive wsX8_chosen := goodIn_r _ [16, 17, 18, 19, 8, 20, 3, 21, 22, 23, 24, 25, 26, 27, 28, 29, 30, 31, 32, 33, 34, 35, 36, 37, 38, 39, 40, 41, 42, 43, 44, 45, 46, 47, 48, 49, 50, 51] (by decide +kernel) (by decide +kernel)
set_option maxRecDepth 20000 in
theorem gX8_chosenDrive_X8_chosen : GoodIn wsX8_chosenDrive (wsV RX8 116 RX8 yX8_chosen wsX8_chosen) := goodIn_app (goodIn_of _ (by decide +kernel)) ggX8_chosenDrive_X8_chosen
theorem dX8_chosenDrive_0 : decode cX8_chosenDrive 0 = .ok (.aload_n 0, 1) := by decide +kernel
theorem dX8_chosenDrive_1 : decode cX8_chosenDrive 1 = .ok (.iconst 0, 1) := by decide +kernel
theorem dX8_chosenDrive_2 : decode cX8_chosenDrive 2 = .ok (.putfield 51, 3) := by decide +kernel
theorem dX8_chosenDrive_5 : decode cX8_chosenDrive 5 = .ok (.aload_n 0, 1) := by decide +kernel
theorem dX8_chosenDrive_6 : decode cX8_chosenDrive 6 = .ok (.iload_n 1, 1) := by decide +kernel
theorem dX8_chosenDrive_7 : decode cX8_chosenDrive 7 = .ok (.invokevirtual 61, 3) := by decide +kernel
theorem dX8_chosenDrive_10 : decode cX8_chosenDrive 10 = .ok (.ifCond .ne 8, 3) := by decide +kernel
theorem dX8_chosenDrive_13 : decode cX8_chosenDrive 13 = .ok (.ldc 186, 2) := by decide +kernel
theorem dX8_chosenDrive_15 : decode cX8_chosenDrive 15 = .ok (.goto 23, 3) := by decide +kernel
theorem dX8_chosenDrive_18 : decode cX8_chosenDrive 18 = .ok (.aload_n 0, 1) := by decide +kernel
theorem dX8_chosenDrive_19 : decode cX8_chosenDrive 19 = .ok (.getfield 7, 3) := by decide +kernel
theorem dX8_chosenDrive_22 : decode cX8_chosenDrive 22 = .ok (.bipush 6, 2) := by decide +kernel
theorem dX8_chosenDrive_24 : decode cX8_chosenDrive 24 = .ok (.iaload, 1) := by decide +kernel
theorem dX8_chosenDrive_25 : decode cX8_chosenDrive 25 = .ok (.ifCond .ne 8, 3) := by decide +kernel
theorem dX8_chosenDrive_28 : decode cX8_chosenDrive 28 = .ok (.ldc 177, 2) := by decide +kernel
theorem dX8_chosenDrive_30 : decode cX8_chosenDrive 30 = .ok (.goto 8, 3) := by decide +kernel
theorem dX8_chosenDrive_33 : decode cX8_chosenDrive 33 = .ok (.aload_n 0, 1) := by decide +kernel
theorem dX8_chosenDrive_34 : decode cX8_chosenDrive 34 = .ok (.iload_n 1, 1) := by decide +kernel
theorem dX8_chosenDrive_35 : decode cX8_chosenDrive 35 = .ok (.invokevirtual 116, 3) := by decide +kernel
theorem dX8_chosenDrive_38 : decode cX8_chosenDrive 38 = .ok (.ireturn, 1) := by decide +kernel
set_option maxRecDepth 20000 in
theorem ggX8_mountTime_X8_isPlatter : GoodIn wsX8_mountTime wsX8_isPlatter := goodIn_r _ [9, 3, 10, 11, 8, 12, 65, 66, 67, 68, 69, 70, 71, 72, 73, 74, 75, 76, 77, 78, 79, 80, 81, 82, 83, 84, 85, 86, 87, 88, 89, 90, 91] (by decide +kernel) (by decide +kernel)
set_option maxRecDepth 20000 in
theorem gX8_mountTime_X8_isPlatter : GoodIn wsX8_mountTime (wsV RX8 61 RX8 yX8_isPlatter wsX8_isPlatter) := goodIn_app (goodIn_of _ (by decide +kernel)) ggX8_mountTime_X8_isPlatter
set_option maxRecDepth 20000 in
theorem ggX8_mountTime_X8_timeFor : GoodIn wsX8_mountTime wsX8_timeFor := goodIn_r _ [16, 17, 18, 19, 8, 20, 3, 21, 22, 23, 24, 25, 26, 27, 28, 29, 30, 31, 32, 33, 34, 35, 36, 37, 38, 39, 40, 41, 42, 43, 44, 45, 46, 47, 48, 49, 50, 51, 52, 53, 54, 55, 56, 57, 58, 59, 60, 61, 62, 63, 64, 65, 66, 67, 68, 69, 70, 71, 72, 73, 74, 75, 76, 77, 78, 79, 80, 81, 82, 83, 84, 85, 86, 87, 88, 89, 90, 91] (by decide +kernel) (by decide +kernel)
set_option maxRecDepth 20000 in
theorem gX8_mountTime_X8_timeFor : GoodIn wsX8_mountTime (wsV RX8 196 RX8 yX8_timeFor wsX8_timeFor) := goodIn_app (goodIn_of _ (by decide +kernel)) ggX8_mountTime_X8_timeFor
theorem dX8_mountTime_0 : decode cX8_mountTime 0 = .ok (.aload_n 0, 1) := by decide +kernel
theorem dX8_mountTime_1 : decode cX8_mountTime 1 = .ok (.iconst 0, 1) := by decide +kernel
theorem dX8_mountTime_2 : decode cX8_mountTime 2 = .ok (.putfield 51, 3) := by decide +kernel
theorem dX8_mountTime_5 : decode cX8_mountTime 5 = .ok (.aload_n 0, 1) := by decide +kernel
theorem dX8_mountTime_6 : decode cX8_mountTime 6 = .ok (.iload_n 1, 1) := by decide +kernel
theorem dX8_mountTime_7 : decode cX8_mountTime 7 = .ok (.invokevirtual 61, 3) := by decide +kernel
theorem dX8_mountTime_10 : decode cX8_mountTime 10 = .ok (.ifCond .ne 8, 3) := by decide +kernel
theorem dX8_mountTime_13 : decode cX8_mountTime 13 = .ok (.ldc 186, 2) := by decide +kernel
theorem dX8_mountTime_15 : decode cX8_mountTime 15 = .ok (.goto 23, 3) := by decide +kernel
theorem dX8_mountTime_18 : decode cX8_mountTime 18 = .ok (.aload_n 0, 1) := by decide +kernel
theorem dX8_mountTime_19 : decode cX8_mountTime 19 = .ok (.getfield 7, 3) := by decide +kernel
theorem dX8_mountTime_22 : decode cX8_mountTime 22 = .ok (.bipush 6, 2) := by decide +kernel
theorem dX8_mountTime_24 : decode cX8_mountTime 24 = .ok (.iaload, 1) := by decide +kernel
theorem dX8_mountTime_25 : decode cX8_mountTime 25 = .ok (.ifCond .ne 8, 3) := by decide +kernel
theorem dX8_mountTime_28 : decode cX8_mountTime 28 = .ok (.ldc 177, 2) := by decide +kernel
theorem dX8_mountTime_30 : decode cX8_mountTime 30 = .ok (.goto 8, 3) := by decide +kernel
theorem dX8_mountTime_33 : decode cX8_mountTime 33 = .ok (.aload_n 0, 1) := by decide +kernel
theorem dX8_mountTime_34 : decode cX8_mountTime 34 = .ok (.iload_n 1, 1) := by decide +kernel
theorem dX8_mountTime_35 : decode cX8_mountTime 35 = .ok (.invokevirtual 196, 3) := by decide +kernel
theorem dX8_mountTime_38 : decode cX8_mountTime 38 = .ok (.ireturn, 1) := by decide +kernel
set_option maxRecDepth 20000 in
theorem ggX8_mountTimeIn_X8_isPlatter : GoodIn wsX8_mountTimeIn wsX8_isPlatter := goodIn_r _ [8, 9, 10, 11, 7, 12, 61, 62, 63, 64, 65, 66, 67, 68, 69, 70, 71, 72, 73, 74, 75, 76, 77, 78, 79, 80, 81, 82, 83, 84, 85, 86, 87] (by decide +kernel) (by decide +kernel)
set_option maxRecDepth 20000 in
theorem gX8_mountTimeIn_X8_isPlatter : GoodIn wsX8_mountTimeIn (wsV RX8 61 RX8 yX8_isPlatter wsX8_isPlatter) := goodIn_app (goodIn_of _ (by decide +kernel)) ggX8_mountTimeIn_X8_isPlatter
set_option maxRecDepth 20000 in
theorem ggX8_mountTimeIn_X8_isDrive : GoodIn wsX8_mountTimeIn wsX8_isDrive := goodIn_r _ [16, 9, 10, 11, 7, 12, 61, 62, 63, 64, 65, 66, 67, 68, 69, 70, 71, 72, 73, 74, 75, 76, 77, 78, 79, 80, 81, 82, 83, 84, 85, 86, 87] (by decide +kernel) (by decide +kernel)
set_option maxRecDepth 20000 in
theorem gX8_mountTimeIn_X8_isDrive : GoodIn wsX8_mountTimeIn (wsV RX8 193 RX8 yX8_isDrive wsX8_isDrive) := goodIn_app (goodIn_of _ (by decide +kernel)) ggX8_mountTimeIn_X8_isDrive
set_option maxRecDepth 20000 in
theorem ggX8_mountTimeIn_X8_inDrive : GoodIn wsX8_mountTimeIn wsX8_inDrive := goodIn_r _ [20, 9, 61, 62, 63, 64, 65, 66, 67, 68, 69, 70, 71, 72, 73, 74, 75, 76, 77, 78, 79, 80, 81, 82, 83, 84, 85, 86, 87] (by decide +kernel) (by decide +kernel)
set_option maxRecDepth 20000 in
theorem gX8_mountTimeIn_X8_inDrive : GoodIn wsX8_mountTimeIn (wsV RX8 109 RX8 yX8_inDrive wsX8_inDrive) := goodIn_app (goodIn_of _ (by decide +kernel)) ggX8_mountTimeIn_X8_inDrive
set_option maxRecDepth 20000 in
theorem ggX8_mountTimeIn_X8_bringTime : GoodIn wsX8_mountTimeIn wsX8_bringTime := goodIn_r _ [24, 25, 26, 27, 7, 28, 9, 29, 30, 31, 32, 33, 34, 35, 36, 37, 38, 39, 40, 41, 42, 43, 44, 45, 46, 47, 48, 49, 50, 51, 52, 53, 54, 55, 56, 57, 58, 59, 60, 61, 62, 63, 64, 65, 66, 67, 68, 69, 70, 71, 72, 73, 74, 75, 76, 77, 78, 79, 80, 81, 82, 83, 84, 85, 86, 87] (by decide +kernel) (by decide +kernel)
set_option maxRecDepth 20000 in
theorem gX8_mountTimeIn_X8_bringTime : GoodIn wsX8_mountTimeIn (wsV RX8 142 RX8 yX8_bringTime wsX8_bringTime) := goodIn_app (goodIn_of _ (by decide +kernel)) ggX8_mountTimeIn_X8_bringTime
theorem dX8_mountTimeIn_0 : decode cX8_mountTimeIn 0 = .ok (.aload_n 0, 1) := by decide +kernel
theorem dX8_mountTimeIn_1 : decode cX8_mountTimeIn 1 = .ok (.iconst 0, 1) := by decide +kernel
theorem dX8_mountTimeIn_2 : decode cX8_mountTimeIn 2 = .ok (.putfield 51, 3) := by decide +kernel
theorem dX8_mountTimeIn_5 : decode cX8_mountTimeIn 5 = .ok (.aload_n 0, 1) := by decide +kernel
theorem dX8_mountTimeIn_6 : decode cX8_mountTimeIn 6 = .ok (.iload_n 1, 1) := by decide +kernel
theorem dX8_mountTimeIn_7 : decode cX8_mountTimeIn 7 = .ok (.invokevirtual 61, 3) := by decide +kernel
theorem dX8_mountTimeIn_10 : decode cX8_mountTimeIn 10 = .ok (.ifCond .eq 11, 3) := by decide +kernel
theorem dX8_mountTimeIn_13 : decode cX8_mountTimeIn 13 = .ok (.aload_n 0, 1) := by decide +kernel
theorem dX8_mountTimeIn_14 : decode cX8_mountTimeIn 14 = .ok (.iload_n 2, 1) := by decide +kernel
theorem dX8_mountTimeIn_15 : decode cX8_mountTimeIn 15 = .ok (.invokevirtual 193, 3) := by decide +kernel
theorem dX8_mountTimeIn_18 : decode cX8_mountTimeIn 18 = .ok (.ifCond .ne 6, 3) := by decide +kernel
theorem dX8_mountTimeIn_21 : decode cX8_mountTimeIn 21 = .ok (.ldc 186, 2) := by decide +kernel
theorem dX8_mountTimeIn_23 : decode cX8_mountTimeIn 23 = .ok (.ireturn, 1) := by decide +kernel
theorem dX8_mountTimeIn_24 : decode cX8_mountTimeIn 24 = .ok (.aload_n 0, 1) := by decide +kernel
theorem dX8_mountTimeIn_25 : decode cX8_mountTimeIn 25 = .ok (.iload_n 1, 1) := by decide +kernel
theorem dX8_mountTimeIn_26 : decode cX8_mountTimeIn 26 = .ok (.invokevirtual 109, 3) := by decide +kernel
theorem dX8_mountTimeIn_29 : decode cX8_mountTimeIn 29 = .ok (.istore_n 3, 1) := by decide +kernel
theorem dX8_mountTimeIn_30 : decode cX8_mountTimeIn 30 = .ok (.iload_n 3, 1) := by decide +kernel
theorem dX8_mountTimeIn_31 : decode cX8_mountTimeIn 31 = .ok (.iload_n 2, 1) := by decide +kernel
theorem dX8_mountTimeIn_32 : decode cX8_mountTimeIn 32 = .ok (.if_icmp .ne 7, 3) := by decide +kernel
theorem dX8_mountTimeIn_35 : decode cX8_mountTimeIn 35 = .ok (.iconst 0, 1) := by decide +kernel
theorem dX8_mountTimeIn_36 : decode cX8_mountTimeIn 36 = .ok (.goto 19, 3) := by decide +kernel
theorem dX8_mountTimeIn_39 : decode cX8_mountTimeIn 39 = .ok (.iload_n 3, 1) := by decide +kernel
theorem dX8_mountTimeIn_40 : decode cX8_mountTimeIn 40 = .ok (.iconst (-1), 1) := by decide +kernel
theorem dX8_mountTimeIn_41 : decode cX8_mountTimeIn 41 = .ok (.if_icmp .eq 8, 3) := by decide +kernel
theorem dX8_mountTimeIn_44 : decode cX8_mountTimeIn 44 = .ok (.ldc 42, 2) := by decide +kernel
theorem dX8_mountTimeIn_46 : decode cX8_mountTimeIn 46 = .ok (.goto 9, 3) := by decide +kernel
theorem dX8_mountTimeIn_49 : decode cX8_mountTimeIn 49 = .ok (.aload_n 0, 1) := by decide +kernel
theorem dX8_mountTimeIn_50 : decode cX8_mountTimeIn 50 = .ok (.iload_n 1, 1) := by decide +kernel
theorem dX8_mountTimeIn_51 : decode cX8_mountTimeIn 51 = .ok (.iload_n 2, 1) := by decide +kernel
theorem dX8_mountTimeIn_52 : decode cX8_mountTimeIn 52 = .ok (.invokevirtual 142, 3) := by decide +kernel
theorem dX8_mountTimeIn_55 : decode cX8_mountTimeIn 55 = .ok (.ireturn, 1) := by decide +kernel
theorem dX8_free_0 : decode cX8_free 0 = .ok (.aload_n 0, 1) := by decide +kernel
theorem dX8_free_1 : decode cX8_free 1 = .ok (.getfield 7, 3) := by decide +kernel
theorem dX8_free_4 : decode cX8_free 4 = .ok (.bipush 39, 2) := by decide +kernel
theorem dX8_free_6 : decode cX8_free 6 = .ok (.iload_n 1, 1) := by decide +kernel
theorem dX8_free_7 : decode cX8_free 7 = .ok (.iadd, 1) := by decide +kernel
theorem dX8_free_8 : decode cX8_free 8 = .ok (.iaload, 1) := by decide +kernel
theorem dX8_free_9 : decode cX8_free 9 = .ok (.aload_n 0, 1) := by decide +kernel
theorem dX8_free_10 : decode cX8_free 10 = .ok (.getfield 7, 3) := by decide +kernel
theorem dX8_free_13 : decode cX8_free 13 = .ok (.bipush 59, 2) := by decide +kernel
theorem dX8_free_15 : decode cX8_free 15 = .ok (.iload_n 1, 1) := by decide +kernel
theorem dX8_free_16 : decode cX8_free 16 = .ok (.iadd, 1) := by decide +kernel
theorem dX8_free_17 : decode cX8_free 17 = .ok (.iaload, 1) := by decide +kernel
theorem dX8_free_18 : decode cX8_free 18 = .ok (.isub, 1) := by decide +kernel
theorem dX8_free_19 : decode cX8_free 19 = .ok (.ireturn, 1) := by decide +kernel
set_option maxRecDepth 20000 in
theorem ggX8_freeSectors_X8_isPlatter : GoodIn wsX8_freeSectors wsX8_isPlatter := goodIn_r _ [7, 8, 9, 10, 6, 11, 16, 17, 18, 19, 20, 21, 22, 23, 24, 25, 26, 27, 28, 29, 30, 31, 32, 33, 34, 35, 36, 37, 38, 39, 40, 41, 42] (by decide +kernel) (by decide +kernel)
set_option maxRecDepth 20000 in
theorem gX8_freeSectors_X8_isPlatter : GoodIn wsX8_freeSectors (wsV RX8 61 RX8 yX8_isPlatter wsX8_isPlatter) := goodIn_app (goodIn_of _ (by decide +kernel)) ggX8_freeSectors_X8_isPlatter
set_option maxRecDepth 20000 in
theorem ggX8_freeSectors_X8_free : GoodIn wsX8_freeSectors wsX8_free := goodIn_r _ [15, 8, 16, 17, 18, 19, 20, 21, 22, 23, 24, 25, 26, 27, 28, 29, 30, 31, 32, 33, 34, 35, 36, 37, 38, 39, 40, 41, 42] (by decide +kernel) (by decide +kernel)
set_option maxRecDepth 20000 in
theorem gX8_freeSectors_X8_free : GoodIn wsX8_freeSectors (wsV RX8 199 RX8 yX8_free wsX8_free) := goodIn_app (goodIn_of _ (by decide +kernel)) ggX8_freeSectors_X8_free
theorem dX8_freeSectors_0 : decode cX8_freeSectors 0 = .ok (.aload_n 0, 1) := by decide +kernel
theorem dX8_freeSectors_1 : decode cX8_freeSectors 1 = .ok (.iconst 0, 1) := by decide +kernel
theorem dX8_freeSectors_2 : decode cX8_freeSectors 2 = .ok (.putfield 51, 3) := by decide +kernel
theorem dX8_freeSectors_5 : decode cX8_freeSectors 5 = .ok (.aload_n 0, 1) := by decide +kernel
theorem dX8_freeSectors_6 : decode cX8_freeSectors 6 = .ok (.iload_n 1, 1) := by decide +kernel
theorem dX8_freeSectors_7 : decode cX8_freeSectors 7 = .ok (.invokevirtual 61, 3) := by decide +kernel
theorem dX8_freeSectors_10 : decode cX8_freeSectors 10 = .ok (.ifCond .eq 11, 3) := by decide +kernel
theorem dX8_freeSectors_13 : decode cX8_freeSectors 13 = .ok (.aload_n 0, 1) := by decide +kernel
theorem dX8_freeSectors_14 : decode cX8_freeSectors 14 = .ok (.iload_n 1, 1) := by decide +kernel
theorem dX8_freeSectors_15 : decode cX8_freeSectors 15 = .ok (.invokevirtual 199, 3) := by decide +kernel
theorem dX8_freeSectors_18 : decode cX8_freeSectors 18 = .ok (.goto 5, 3) := by decide +kernel
theorem dX8_freeSectors_21 : decode cX8_freeSectors 21 = .ok (.ldc 186, 2) := by decide +kernel
theorem dX8_freeSectors_23 : decode cX8_freeSectors 23 = .ok (.ireturn, 1) := by decide +kernel
set_option maxRecDepth 20000 in
theorem ggX8_sessionCount_X8_isPlatter : GoodIn wsX8_sessionCount wsX8_isPlatter := goodIn_r _ [8, 2, 9, 10, 7, 11, 12, 13, 14, 15, 16, 17, 18, 19, 20, 21, 22, 23, 24, 25, 26, 27, 28, 29, 30, 31, 32, 33, 34, 35, 36, 37, 38] (by decide +kernel) (by decide +kernel)
set_option maxRecDepth 20000 in
theorem gX8_sessionCount_X8_isPlatter : GoodIn wsX8_sessionCount (wsV RX8 61 RX8 yX8_isPlatter wsX8_isPlatter) := goodIn_app (goodIn_of _ (by decide +kernel)) ggX8_sessionCount_X8_isPlatter
theorem dX8_sessionCount_0 : decode cX8_sessionCount 0 = .ok (.aload_n 0, 1) := by decide +kernel
theorem dX8_sessionCount_1 : decode cX8_sessionCount 1 = .ok (.iconst 0, 1) := by decide +kernel
theorem dX8_sessionCount_2 : decode cX8_sessionCount 2 = .ok (.putfield 51, 3) := by decide +kernel
theorem dX8_sessionCount_5 : decode cX8_sessionCount 5 = .ok (.aload_n 0, 1) := by decide +kernel
theorem dX8_sessionCount_6 : decode cX8_sessionCount 6 = .ok (.iload_n 1, 1) := by decide +kernel
theorem dX8_sessionCount_7 : decode cX8_sessionCount 7 = .ok (.invokevirtual 61, 3) := by decide +kernel
theorem dX8_sessionCount_10 : decode cX8_sessionCount 10 = .ok (.ifCond .eq 15, 3) := by decide +kernel
theorem dX8_sessionCount_13 : decode cX8_sessionCount 13 = .ok (.aload_n 0, 1) := by decide +kernel
theorem dX8_sessionCount_14 : decode cX8_sessionCount 14 = .ok (.getfield 7, 3) := by decide +kernel
theorem dX8_sessionCount_17 : decode cX8_sessionCount 17 = .ok (.bipush 69, 2) := by decide +kernel
theorem dX8_sessionCount_19 : decode cX8_sessionCount 19 = .ok (.iload_n 1, 1) := by decide +kernel
theorem dX8_sessionCount_20 : decode cX8_sessionCount 20 = .ok (.iadd, 1) := by decide +kernel
theorem dX8_sessionCount_21 : decode cX8_sessionCount 21 = .ok (.iaload, 1) := by decide +kernel
theorem dX8_sessionCount_22 : decode cX8_sessionCount 22 = .ok (.goto 5, 3) := by decide +kernel
theorem dX8_sessionCount_25 : decode cX8_sessionCount 25 = .ok (.ldc 186, 2) := by decide +kernel
theorem dX8_sessionCount_27 : decode cX8_sessionCount 27 = .ok (.ireturn, 1) := by decide +kernel
set_option maxRecDepth 20000 in
theorem ggX8_hasOpenSession_X8_isPlatter : GoodIn wsX8_hasOpenSession wsX8_isPlatter := goodIn_r _ [8, 2, 9, 10, 7, 11, 12, 13, 14, 15, 16, 17, 18, 19, 20, 21, 22, 23, 24, 25, 26, 27, 28, 29, 30, 31, 32, 33, 34, 35, 36, 37, 38] (by decide +kernel) (by decide +kernel)
set_option maxRecDepth 20000 in
theorem gX8_hasOpenSession_X8_isPlatter : GoodIn wsX8_hasOpenSession (wsV RX8 61 RX8 yX8_isPlatter wsX8_isPlatter) := goodIn_app (goodIn_of _ (by decide +kernel)) ggX8_hasOpenSession_X8_isPlatter
theorem dX8_hasOpenSession_0 : decode cX8_hasOpenSession 0 = .ok (.aload_n 0, 1) := by decide +kernel
theorem dX8_hasOpenSession_1 : decode cX8_hasOpenSession 1 = .ok (.iconst 0, 1) := by decide +kernel
theorem dX8_hasOpenSession_2 : decode cX8_hasOpenSession 2 = .ok (.putfield 51, 3) := by decide +kernel
theorem dX8_hasOpenSession_5 : decode cX8_hasOpenSession 5 = .ok (.aload_n 0, 1) := by decide +kernel
theorem dX8_hasOpenSession_6 : decode cX8_hasOpenSession 6 = .ok (.iload_n 1, 1) := by decide +kernel
theorem dX8_hasOpenSession_7 : decode cX8_hasOpenSession 7 = .ok (.invokevirtual 61, 3) := by decide +kernel
theorem dX8_hasOpenSession_10 : decode cX8_hasOpenSession 10 = .ok (.ifCond .eq 15, 3) := by decide +kernel
theorem dX8_hasOpenSession_13 : decode cX8_hasOpenSession 13 = .ok (.aload_n 0, 1) := by decide +kernel
theorem dX8_hasOpenSession_14 : decode cX8_hasOpenSession 14 = .ok (.getfield 7, 3) := by decide +kernel
theorem dX8_hasOpenSession_17 : decode cX8_hasOpenSession 17 = .ok (.bipush 79, 2) := by decide +kernel
theorem dX8_hasOpenSession_19 : decode cX8_hasOpenSession 19 = .ok (.iload_n 1, 1) := by decide +kernel
theorem dX8_hasOpenSession_20 : decode cX8_hasOpenSession 20 = .ok (.iadd, 1) := by decide +kernel
theorem dX8_hasOpenSession_21 : decode cX8_hasOpenSession 21 = .ok (.iaload, 1) := by decide +kernel
theorem dX8_hasOpenSession_22 : decode cX8_hasOpenSession 22 = .ok (.goto 5, 3) := by decide +kernel
theorem dX8_hasOpenSession_25 : decode cX8_hasOpenSession 25 = .ok (.ldc 186, 2) := by decide +kernel
theorem dX8_hasOpenSession_27 : decode cX8_hasOpenSession 27 = .ok (.ireturn, 1) := by decide +kernel
set_option maxRecDepth 20000 in
theorem ggX8_isSession_X8_isPlatter : GoodIn wsX8_isSession wsX8_isPlatter := goodIn_r _ [6, 1, 7, 8, 5, 9, 10, 11, 12, 13, 14, 15, 16, 17, 18, 19, 20, 21, 22, 23, 24, 25, 26, 27, 28, 29, 30, 31, 32, 33, 34, 35, 36] (by decide +kernel) (by decide +kernel)
set_option maxRecDepth 20000 in
theorem gX8_isSession_X8_isPlatter : GoodIn wsX8_isSession (wsV RX8 61 RX8 yX8_isPlatter wsX8_isPlatter) := goodIn_app (goodIn_of _ (by decide +kernel)) ggX8_isSession_X8_isPlatter
set_option maxRecDepth 20000 in
theorem ggX8_isSession_X8_isIn : GoodIn wsX8_isSession wsX8_isIn := goodIn_r _ [9] (by decide +kernel) (by decide +kernel)
set_option maxRecDepth 20000 in
theorem gX8_isSession_X8_isIn : GoodIn wsX8_isSession (va_wsS RX8 57 yX8_isIn wsX8_isIn) := goodIn_app (goodIn_of _ (by decide +kernel)) ggX8_isSession_X8_isIn
theorem dX8_isSession_0 : decode cX8_isSession 0 = .ok (.aload_n 0, 1) := by decide +kernel
theorem dX8_isSession_1 : decode cX8_isSession 1 = .ok (.iload_n 1, 1) := by decide +kernel
theorem dX8_isSession_2 : decode cX8_isSession 2 = .ok (.invokevirtual 61, 3) := by decide +kernel
theorem dX8_isSession_5 : decode cX8_isSession 5 = .ok (.ifCond .eq 28, 3) := by decide +kernel
theorem dX8_isSession_8 : decode cX8_isSession 8 = .ok (.iload_n 2, 1) := by decide +kernel
theorem dX8_isSession_9 : decode cX8_isSession 9 = .ok (.i2l, 1) := by decide +kernel
theorem dX8_isSession_10 : decode cX8_isSession 10 = .ok (.lconst 0, 1) := by decide +kernel
theorem dX8_isSession_11 : decode cX8_isSession 11 = .ok (.aload_n 0, 1) := by decide +kernel
theorem dX8_isSession_12 : decode cX8_isSession 12 = .ok (.getfield 7, 3) := by decide +kernel
theorem dX8_isSession_15 : decode cX8_isSession 15 = .ok (.bipush 69, 2) := by decide +kernel
theorem dX8_isSession_17 : decode cX8_isSession 17 = .ok (.iload_n 1, 1) := by decide +kernel
theorem dX8_isSession_18 : decode cX8_isSession 18 = .ok (.iadd, 1) := by decide +kernel
theorem dX8_isSession_19 : decode cX8_isSession 19 = .ok (.iaload, 1) := by decide +kernel
theorem dX8_isSession_20 : decode cX8_isSession 20 = .ok (.iconst 1, 1) := by decide +kernel
theorem dX8_isSession_21 : decode cX8_isSession 21 = .ok (.isub, 1) := by decide +kernel
theorem dX8_isSession_22 : decode cX8_isSession 22 = .ok (.i2l, 1) := by decide +kernel
theorem dX8_isSession_23 : decode cX8_isSession 23 = .ok (.invokestatic 57, 3) := by decide +kernel
theorem dX8_isSession_26 : decode cX8_isSession 26 = .ok (.ifCond .eq 7, 3) := by decide +kernel
theorem dX8_isSession_29 : decode cX8_isSession 29 = .ok (.iconst 1, 1) := by decide +kernel
theorem dX8_isSession_30 : decode cX8_isSession 30 = .ok (.goto 4, 3) := by decide +kernel
theorem dX8_isSession_33 : decode cX8_isSession 33 = .ok (.iconst 0, 1) := by decide +kernel
theorem dX8_isSession_34 : decode cX8_isSession 34 = .ok (.ireturn, 1) := by decide +kernel
set_option maxRecDepth 20000 in
theorem ggX8_sessionStart_X8_isSession : GoodIn wsX8_sessionStart wsX8_isSession := goodIn_r _ [8, 2, 9, 10, 11, 7, 12, 13, 14, 15, 16, 17, 18, 19, 20, 21, 22, 23, 24, 25, 26, 27, 28, 29, 30, 31, 32, 33, 34, 35, 36, 37, 38, 39, 40, 41, 42] (by decide +kernel) (by decide +kernel)
set_option maxRecDepth 20000 in
theorem gX8_sessionStart_X8_isSession : GoodIn wsX8_sessionStart (wsV RX8 202 RX8 yX8_isSession wsX8_isSession) := goodIn_app (goodIn_of _ (by decide +kernel)) ggX8_sessionStart_X8_isSession
theorem dX8_sessionStart_0 : decode cX8_sessionStart 0 = .ok (.aload_n 0, 1) := by decide +kernel
theorem dX8_sessionStart_1 : decode cX8_sessionStart 1 = .ok (.iconst 0, 1) := by decide +kernel
theorem dX8_sessionStart_2 : decode cX8_sessionStart 2 = .ok (.putfield 51, 3) := by decide +kernel
theorem dX8_sessionStart_5 : decode cX8_sessionStart 5 = .ok (.aload_n 0, 1) := by decide +kernel
theorem dX8_sessionStart_6 : decode cX8_sessionStart 6 = .ok (.iload_n 1, 1) := by decide +kernel
theorem dX8_sessionStart_7 : decode cX8_sessionStart 7 = .ok (.iload_n 2, 1) := by decide +kernel
theorem dX8_sessionStart_8 : decode cX8_sessionStart 8 = .ok (.invokevirtual 202, 3) := by decide +kernel
theorem dX8_sessionStart_11 : decode cX8_sessionStart 11 = .ok (.ifCond .eq 20, 3) := by decide +kernel
theorem dX8_sessionStart_14 : decode cX8_sessionStart 14 = .ok (.aload_n 0, 1) := by decide +kernel
theorem dX8_sessionStart_15 : decode cX8_sessionStart 15 = .ok (.getfield 7, 3) := by decide +kernel
theorem dX8_sessionStart_18 : decode cX8_sessionStart 18 = .ok (.bipush 89, 2) := by decide +kernel
theorem dX8_sessionStart_20 : decode cX8_sessionStart 20 = .ok (.bipush 8, 2) := by decide +kernel
theorem dX8_sessionStart_22 : decode cX8_sessionStart 22 = .ok (.iload_n 1, 1) := by decide +kernel
theorem dX8_sessionStart_23 : decode cX8_sessionStart 23 = .ok (.imul, 1) := by decide +kernel
theorem dX8_sessionStart_24 : decode cX8_sessionStart 24 = .ok (.iadd, 1) := by decide +kernel
theorem dX8_sessionStart_25 : decode cX8_sessionStart 25 = .ok (.iload_n 2, 1) := by decide +kernel
theorem dX8_sessionStart_26 : decode cX8_sessionStart 26 = .ok (.iadd, 1) := by decide +kernel
theorem dX8_sessionStart_27 : decode cX8_sessionStart 27 = .ok (.iaload, 1) := by decide +kernel
theorem dX8_sessionStart_28 : decode cX8_sessionStart 28 = .ok (.goto 5, 3) := by decide +kernel
theorem dX8_sessionStart_31 : decode cX8_sessionStart 31 = .ok (.ldc 186, 2) := by decide +kernel
theorem dX8_sessionStart_33 : decode cX8_sessionStart 33 = .ok (.ireturn, 1) := by decide +kernel
set_option maxRecDepth 20000 in
theorem ggX8_sessionSize_X8_isSession : GoodIn wsX8_sessionSize wsX8_isSession := goodIn_r _ [8, 2, 9, 10, 11, 7, 12, 13, 14, 15, 16, 17, 18, 19, 20, 21, 22, 23, 24, 25, 26, 27, 28, 29, 30, 31, 32, 33, 34, 35, 36, 37, 38, 39, 40, 41, 42] (by decide +kernel) (by decide +kernel)
set_option maxRecDepth 20000 in
theorem gX8_sessionSize_X8_isSession : GoodIn wsX8_sessionSize (wsV RX8 202 RX8 yX8_isSession wsX8_isSession) := goodIn_app (goodIn_of _ (by decide +kernel)) ggX8_sessionSize_X8_isSession
theorem dX8_sessionSize_0 : decode cX8_sessionSize 0 = .ok (.aload_n 0, 1) := by decide +kernel
theorem dX8_sessionSize_1 : decode cX8_sessionSize 1 = .ok (.iconst 0, 1) := by decide +kernel
theorem dX8_sessionSize_2 : decode cX8_sessionSize 2 = .ok (.putfield 51, 3) := by decide +kernel
theorem dX8_sessionSize_5 : decode cX8_sessionSize 5 = .ok (.aload_n 0, 1) := by decide +kernel
theorem dX8_sessionSize_6 : decode cX8_sessionSize 6 = .ok (.iload_n 1, 1) := by decide +kernel
theorem dX8_sessionSize_7 : decode cX8_sessionSize 7 = .ok (.iload_n 2, 1) := by decide +kernel
theorem dX8_sessionSize_8 : decode cX8_sessionSize 8 = .ok (.invokevirtual 202, 3) := by decide +kernel
theorem dX8_sessionSize_11 : decode cX8_sessionSize 11 = .ok (.ifCond .eq 21, 3) := by decide +kernel
theorem dX8_sessionSize_14 : decode cX8_sessionSize 14 = .ok (.aload_n 0, 1) := by decide +kernel
theorem dX8_sessionSize_15 : decode cX8_sessionSize 15 = .ok (.getfield 7, 3) := by decide +kernel
theorem dX8_sessionSize_18 : decode cX8_sessionSize 18 = .ok (.sipush 169, 3) := by decide +kernel
theorem dX8_sessionSize_21 : decode cX8_sessionSize 21 = .ok (.bipush 8, 2) := by decide +kernel
theorem dX8_sessionSize_23 : decode cX8_sessionSize 23 = .ok (.iload_n 1, 1) := by decide +kernel
theorem dX8_sessionSize_24 : decode cX8_sessionSize 24 = .ok (.imul, 1) := by decide +kernel
theorem dX8_sessionSize_25 : decode cX8_sessionSize 25 = .ok (.iadd, 1) := by decide +kernel
theorem dX8_sessionSize_26 : decode cX8_sessionSize 26 = .ok (.iload_n 2, 1) := by decide +kernel
theorem dX8_sessionSize_27 : decode cX8_sessionSize 27 = .ok (.iadd, 1) := by decide +kernel
theorem dX8_sessionSize_28 : decode cX8_sessionSize 28 = .ok (.iaload, 1) := by decide +kernel
theorem dX8_sessionSize_29 : decode cX8_sessionSize 29 = .ok (.goto 5, 3) := by decide +kernel
theorem dX8_sessionSize_32 : decode cX8_sessionSize 32 = .ok (.ldc 186, 2) := by decide +kernel
theorem dX8_sessionSize_34 : decode cX8_sessionSize 34 = .ok (.ireturn, 1) := by decide +kernel
set_option maxRecDepth 20000 in
theorem ggX8_sparesLeft_X8_isPlatter : GoodIn wsX8_sparesLeft wsX8_isPlatter := goodIn_r _ [8, 2, 9, 10, 7, 11, 12, 13, 14, 15, 16, 17, 18, 19, 20, 21, 22, 23, 24, 25, 26, 27, 28, 29, 30, 31, 32, 33, 34, 35, 36, 37, 38] (by decide +kernel) (by decide +kernel)
set_option maxRecDepth 20000 in
theorem gX8_sparesLeft_X8_isPlatter : GoodIn wsX8_sparesLeft (wsV RX8 61 RX8 yX8_isPlatter wsX8_isPlatter) := goodIn_app (goodIn_of _ (by decide +kernel)) ggX8_sparesLeft_X8_isPlatter
theorem dX8_sparesLeft_0 : decode cX8_sparesLeft 0 = .ok (.aload_n 0, 1) := by decide +kernel
theorem dX8_sparesLeft_1 : decode cX8_sparesLeft 1 = .ok (.iconst 0, 1) := by decide +kernel
theorem dX8_sparesLeft_2 : decode cX8_sparesLeft 2 = .ok (.putfield 51, 3) := by decide +kernel
theorem dX8_sparesLeft_5 : decode cX8_sparesLeft 5 = .ok (.aload_n 0, 1) := by decide +kernel
theorem dX8_sparesLeft_6 : decode cX8_sparesLeft 6 = .ok (.iload_n 1, 1) := by decide +kernel
theorem dX8_sparesLeft_7 : decode cX8_sparesLeft 7 = .ok (.invokevirtual 61, 3) := by decide +kernel
theorem dX8_sparesLeft_10 : decode cX8_sparesLeft 10 = .ok (.ifCond .eq 15, 3) := by decide +kernel
theorem dX8_sparesLeft_13 : decode cX8_sparesLeft 13 = .ok (.aload_n 0, 1) := by decide +kernel
theorem dX8_sparesLeft_14 : decode cX8_sparesLeft 14 = .ok (.getfield 7, 3) := by decide +kernel
theorem dX8_sparesLeft_17 : decode cX8_sparesLeft 17 = .ok (.bipush 49, 2) := by decide +kernel
theorem dX8_sparesLeft_19 : decode cX8_sparesLeft 19 = .ok (.iload_n 1, 1) := by decide +kernel
theorem dX8_sparesLeft_20 : decode cX8_sparesLeft 20 = .ok (.iadd, 1) := by decide +kernel
theorem dX8_sparesLeft_21 : decode cX8_sparesLeft 21 = .ok (.iaload, 1) := by decide +kernel
theorem dX8_sparesLeft_22 : decode cX8_sparesLeft 22 = .ok (.goto 5, 3) := by decide +kernel
theorem dX8_sparesLeft_25 : decode cX8_sparesLeft 25 = .ok (.ldc 186, 2) := by decide +kernel
theorem dX8_sparesLeft_27 : decode cX8_sparesLeft 27 = .ok (.ireturn, 1) := by decide +kernel
set_option maxRecDepth 20000 in
theorem ggX8_staleSectors_X8_isPlatter : GoodIn wsX8_staleSectors wsX8_isPlatter := goodIn_r _ [8, 3, 9, 10, 7, 11, 16, 17, 18, 19, 20, 21, 22, 23, 24, 25, 26, 27, 28, 29, 30, 31, 32, 33, 34, 35, 36, 37, 38, 39, 40, 41, 42] (by decide +kernel) (by decide +kernel)
set_option maxRecDepth 20000 in
theorem gX8_staleSectors_X8_isPlatter : GoodIn wsX8_staleSectors (wsV RX8 61 RX8 yX8_isPlatter wsX8_isPlatter) := goodIn_app (goodIn_of _ (by decide +kernel)) ggX8_staleSectors_X8_isPlatter
set_option maxRecDepth 20000 in
theorem ggX8_staleSectors_X8_isCurrent : GoodIn wsX8_staleSectors wsX8_isCurrent := goodIn_r _ [15, 3, 16, 17, 18, 19, 20, 21, 22, 23, 24, 25, 26, 27, 28, 29, 30, 31, 32, 33, 34, 35, 36, 37, 38, 39, 40, 41, 42] (by decide +kernel) (by decide +kernel)
set_option maxRecDepth 20000 in
theorem gX8_staleSectors_X8_isCurrent : GoodIn wsX8_staleSectors (wsV RX8 206 RX8 yX8_isCurrent wsX8_isCurrent) := goodIn_app (goodIn_of _ (by decide +kernel)) ggX8_staleSectors_X8_isCurrent
theorem dX8_staleSectors_0 : decode cX8_staleSectors 0 = .ok (.aload_n 0, 1) := by decide +kernel
theorem dX8_staleSectors_1 : decode cX8_staleSectors 1 = .ok (.iconst 0, 1) := by decide +kernel
theorem dX8_staleSectors_2 : decode cX8_staleSectors 2 = .ok (.putfield 51, 3) := by decide +kernel
theorem dX8_staleSectors_5 : decode cX8_staleSectors 5 = .ok (.aload_n 0, 1) := by decide +kernel
theorem dX8_staleSectors_6 : decode cX8_staleSectors 6 = .ok (.iload_n 1, 1) := by decide +kernel
theorem dX8_staleSectors_7 : decode cX8_staleSectors 7 = .ok (.invokevirtual 61, 3) := by decide +kernel
theorem dX8_staleSectors_10 : decode cX8_staleSectors 10 = .ok (.ifCond .ne 6, 3) := by decide +kernel
theorem dX8_staleSectors_13 : decode cX8_staleSectors 13 = .ok (.ldc 186, 2) := by decide +kernel
theorem dX8_staleSectors_15 : decode cX8_staleSectors 15 = .ok (.ireturn, 1) := by decide +kernel
theorem dX8_staleSectors_16 : decode cX8_staleSectors 16 = .ok (.iconst 0, 1) := by decide +kernel
theorem dX8_staleSectors_17 : decode cX8_staleSectors 17 = .ok (.istore_n 2, 1) := by decide +kernel
theorem dX8_staleSectors_18 : decode cX8_staleSectors 18 = .ok (.iconst 0, 1) := by decide +kernel
theorem dX8_staleSectors_19 : decode cX8_staleSectors 19 = .ok (.istore_n 3, 1) := by decide +kernel
theorem dX8_staleSectors_20 : decode cX8_staleSectors 20 = .ok (.iload_n 3, 1) := by decide +kernel
theorem dX8_staleSectors_21 : decode cX8_staleSectors 21 = .ok (.aload_n 0, 1) := by decide +kernel
theorem dX8_staleSectors_22 : decode cX8_staleSectors 22 = .ok (.getfield 7, 3) := by decide +kernel
theorem dX8_staleSectors_25 : decode cX8_staleSectors 25 = .ok (.bipush 10, 2) := by decide +kernel
theorem dX8_staleSectors_27 : decode cX8_staleSectors 27 = .ok (.iaload, 1) := by decide +kernel
theorem dX8_staleSectors_28 : decode cX8_staleSectors 28 = .ok (.if_icmp .ge 48, 3) := by decide +kernel
theorem dX8_staleSectors_31 : decode cX8_staleSectors 31 = .ok (.iload_n 2, 1) := by decide +kernel
theorem dX8_staleSectors_32 : decode cX8_staleSectors 32 = .ok (.aload_n 0, 1) := by decide +kernel
theorem dX8_staleSectors_33 : decode cX8_staleSectors 33 = .ok (.getfield 7, 3) := by decide +kernel
theorem dX8_staleSectors_36 : decode cX8_staleSectors 36 = .ok (.sipush 349, 3) := by decide +kernel
theorem dX8_staleSectors_39 : decode cX8_staleSectors 39 = .ok (.iload_n 3, 1) := by decide +kernel
theorem dX8_staleSectors_40 : decode cX8_staleSectors 40 = .ok (.iadd, 1) := by decide +kernel
theorem dX8_staleSectors_41 : decode cX8_staleSectors 41 = .ok (.iaload, 1) := by decide +kernel
theorem dX8_staleSectors_42 : decode cX8_staleSectors 42 = .ok (.iload_n 1, 1) := by decide +kernel
theorem dX8_staleSectors_43 : decode cX8_staleSectors 43 = .ok (.if_icmp .ne 24, 3) := by decide +kernel
theorem dX8_staleSectors_46 : decode cX8_staleSectors 46 = .ok (.aload_n 0, 1) := by decide +kernel
theorem dX8_staleSectors_47 : decode cX8_staleSectors 47 = .ok (.iload_n 3, 1) := by decide +kernel
theorem dX8_staleSectors_48 : decode cX8_staleSectors 48 = .ok (.invokevirtual 206, 3) := by decide +kernel
theorem dX8_staleSectors_51 : decode cX8_staleSectors 51 = .ok (.ifCond .ne 16, 3) := by decide +kernel
theorem dX8_staleSectors_54 : decode cX8_staleSectors 54 = .ok (.aload_n 0, 1) := by decide +kernel
theorem dX8_staleSectors_55 : decode cX8_staleSectors 55 = .ok (.getfield 7, 3) := by decide +kernel
theorem dX8_staleSectors_58 : decode cX8_staleSectors 58 = .ok (.sipush 429, 3) := by decide +kernel
theorem dX8_staleSectors_61 : decode cX8_staleSectors 61 = .ok (.iload_n 3, 1) := by decide +kernel
theorem dX8_staleSectors_62 : decode cX8_staleSectors 62 = .ok (.iadd, 1) := by decide +kernel
theorem dX8_staleSectors_63 : decode cX8_staleSectors 63 = .ok (.iaload, 1) := by decide +kernel
theorem dX8_staleSectors_64 : decode cX8_staleSectors 64 = .ok (.goto 4, 3) := by decide +kernel
theorem dX8_staleSectors_67 : decode cX8_staleSectors 67 = .ok (.iconst 0, 1) := by decide +kernel
theorem dX8_staleSectors_68 : decode cX8_staleSectors 68 = .ok (.iadd, 1) := by decide +kernel
theorem dX8_staleSectors_69 : decode cX8_staleSectors 69 = .ok (.istore_n 2, 1) := by decide +kernel
theorem dX8_staleSectors_70 : decode cX8_staleSectors 70 = .ok (.iinc 3 1, 3) := by decide +kernel
theorem dX8_staleSectors_73 : decode cX8_staleSectors 73 = .ok (.goto (-53), 3) := by decide +kernel
theorem dX8_staleSectors_76 : decode cX8_staleSectors 76 = .ok (.iload_n 2, 1) := by decide +kernel
theorem dX8_staleSectors_77 : decode cX8_staleSectors 77 = .ok (.ireturn, 1) := by decide +kernel
set_option maxRecDepth 20000 in
theorem ggX8_sectorKind_X8_isSector : GoodIn wsX8_sectorKind wsX8_isSector := goodIn_r _ [8, 3, 9, 10, 11, 7, 12, 13, 14, 15, 26, 27, 28, 29, 30, 31, 32, 33, 34, 35, 36, 37, 38, 39, 40, 41, 42, 43, 44, 45, 46, 47, 48, 49, 50, 51, 52] (by decide +kernel) (by decide +kernel)
set_option maxRecDepth 20000 in
theorem gX8_sectorKind_X8_isSector : GoodIn wsX8_sectorKind (wsV RX8 209 RX8 yX8_isSector wsX8_isSector) := goodIn_app (goodIn_of _ (by decide +kernel)) ggX8_sectorKind_X8_isSector
set_option maxRecDepth 20000 in
theorem ggX8_sectorKind_X8_versionAt : GoodIn wsX8_sectorKind wsX8_versionAt := goodIn_r _ [18, 13, 14, 7, 15] (by decide +kernel) (by decide +kernel)
set_option maxRecDepth 20000 in
theorem gX8_sectorKind_X8_versionAt : GoodIn wsX8_sectorKind (va_wsS RX8 79 yX8_versionAt wsX8_versionAt) := goodIn_app (goodIn_of _ (by decide +kernel)) ggX8_sectorKind_X8_versionAt
set_option maxRecDepth 20000 in
theorem ggX8_sectorKind_X8_isCurrent : GoodIn wsX8_sectorKind wsX8_isCurrent := goodIn_r _ [22, 3, 26, 27, 28, 29, 30, 31, 32, 33, 34, 35, 36, 37, 38, 39, 40, 41, 42, 43, 44, 45, 46, 47, 48, 49, 50, 51, 52] (by decide +kernel) (by decide +kernel)
set_option maxRecDepth 20000 in
theorem gX8_sectorKind_X8_isCurrent : GoodIn wsX8_sectorKind (wsV RX8 206 RX8 yX8_isCurrent wsX8_isCurrent) := goodIn_app (goodIn_of _ (by decide +kernel)) ggX8_sectorKind_X8_isCurrent
set_option maxRecDepth 20000 in
theorem ggX8_sectorKind_X8_isBad : GoodIn wsX8_sectorKind wsX8_isBad := goodIn_r _ [25] (by decide +kernel) (by decide +kernel)
set_option maxRecDepth 20000 in
theorem gX8_sectorKind_X8_isBad : GoodIn wsX8_sectorKind (va_wsS RX8 212 yX8_isBad wsX8_isBad) := goodIn_app (goodIn_of _ (by decide +kernel)) ggX8_sectorKind_X8_isBad
theorem dX8_sectorKind_0 : decode cX8_sectorKind 0 = .ok (.aload_n 0, 1) := by decide +kernel
theorem dX8_sectorKind_1 : decode cX8_sectorKind 1 = .ok (.iconst 0, 1) := by decide +kernel
theorem dX8_sectorKind_2 : decode cX8_sectorKind 2 = .ok (.putfield 51, 3) := by decide +kernel
theorem dX8_sectorKind_5 : decode cX8_sectorKind 5 = .ok (.aload_n 0, 1) := by decide +kernel
theorem dX8_sectorKind_6 : decode cX8_sectorKind 6 = .ok (.iload_n 1, 1) := by decide +kernel
theorem dX8_sectorKind_7 : decode cX8_sectorKind 7 = .ok (.iload_n 2, 1) := by decide +kernel
theorem dX8_sectorKind_8 : decode cX8_sectorKind 8 = .ok (.invokevirtual 209, 3) := by decide +kernel
theorem dX8_sectorKind_11 : decode cX8_sectorKind 11 = .ok (.ifCond .ne 6, 3) := by decide +kernel
theorem dX8_sectorKind_14 : decode cX8_sectorKind 14 = .ok (.ldc 186, 2) := by decide +kernel
theorem dX8_sectorKind_16 : decode cX8_sectorKind 16 = .ok (.ireturn, 1) := by decide +kernel
theorem dX8_sectorKind_17 : decode cX8_sectorKind 17 = .ok (.aload_n 0, 1) := by decide +kernel
theorem dX8_sectorKind_18 : decode cX8_sectorKind 18 = .ok (.getfield 7, 3) := by decide +kernel
theorem dX8_sectorKind_21 : decode cX8_sectorKind 21 = .ok (.iload_n 1, 1) := by decide +kernel
theorem dX8_sectorKind_22 : decode cX8_sectorKind 22 = .ok (.iload_n 2, 1) := by decide +kernel
theorem dX8_sectorKind_23 : decode cX8_sectorKind 23 = .ok (.invokestatic 79, 3) := by decide +kernel
theorem dX8_sectorKind_26 : decode cX8_sectorKind 26 = .ok (.istore_n 3, 1) := by decide +kernel
theorem dX8_sectorKind_27 : decode cX8_sectorKind 27 = .ok (.iload_n 2, 1) := by decide +kernel
theorem dX8_sectorKind_28 : decode cX8_sectorKind 28 = .ok (.aload_n 0, 1) := by decide +kernel
theorem dX8_sectorKind_29 : decode cX8_sectorKind 29 = .ok (.getfield 7, 3) := by decide +kernel
theorem dX8_sectorKind_32 : decode cX8_sectorKind 32 = .ok (.bipush 59, 2) := by decide +kernel
theorem dX8_sectorKind_34 : decode cX8_sectorKind 34 = .ok (.iload_n 1, 1) := by decide +kernel
theorem dX8_sectorKind_35 : decode cX8_sectorKind 35 = .ok (.iadd, 1) := by decide +kernel
theorem dX8_sectorKind_36 : decode cX8_sectorKind 36 = .ok (.iaload, 1) := by decide +kernel
theorem dX8_sectorKind_37 : decode cX8_sectorKind 37 = .ok (.if_icmp .lt 7, 3) := by decide +kernel
theorem dX8_sectorKind_40 : decode cX8_sectorKind 40 = .ok (.iconst 0, 1) := by decide +kernel
theorem dX8_sectorKind_41 : decode cX8_sectorKind 41 = .ok (.goto 25, 3) := by decide +kernel
theorem dX8_sectorKind_44 : decode cX8_sectorKind 44 = .ok (.iload_n 3, 1) := by decide +kernel
theorem dX8_sectorKind_45 : decode cX8_sectorKind 45 = .ok (.iconst (-1), 1) := by decide +kernel
theorem dX8_sectorKind_46 : decode cX8_sectorKind 46 = .ok (.if_icmp .ne 7, 3) := by decide +kernel
theorem dX8_sectorKind_49 : decode cX8_sectorKind 49 = .ok (.iconst 3, 1) := by decide +kernel
theorem dX8_sectorKind_50 : decode cX8_sectorKind 50 = .ok (.goto 16, 3) := by decide +kernel
theorem dX8_sectorKind_53 : decode cX8_sectorKind 53 = .ok (.aload_n 0, 1) := by decide +kernel
theorem dX8_sectorKind_54 : decode cX8_sectorKind 54 = .ok (.iload_n 3, 1) := by decide +kernel
theorem dX8_sectorKind_55 : decode cX8_sectorKind 55 = .ok (.invokevirtual 206, 3) := by decide +kernel
theorem dX8_sectorKind_58 : decode cX8_sectorKind 58 = .ok (.ifCond .eq 7, 3) := by decide +kernel
theorem dX8_sectorKind_61 : decode cX8_sectorKind 61 = .ok (.iconst 1, 1) := by decide +kernel
theorem dX8_sectorKind_62 : decode cX8_sectorKind 62 = .ok (.goto 4, 3) := by decide +kernel
theorem dX8_sectorKind_65 : decode cX8_sectorKind 65 = .ok (.iconst 2, 1) := by decide +kernel
theorem dX8_sectorKind_66 : decode cX8_sectorKind 66 = .ok (.istore 4, 2) := by decide +kernel
theorem dX8_sectorKind_68 : decode cX8_sectorKind 68 = .ok (.iload 4, 2) := by decide +kernel
theorem dX8_sectorKind_70 : decode cX8_sectorKind 70 = .ok (.aload_n 0, 1) := by decide +kernel
theorem dX8_sectorKind_71 : decode cX8_sectorKind 71 = .ok (.getfield 7, 3) := by decide +kernel
theorem dX8_sectorKind_74 : decode cX8_sectorKind 74 = .ok (.iload_n 1, 1) := by decide +kernel
theorem dX8_sectorKind_75 : decode cX8_sectorKind 75 = .ok (.iload_n 2, 1) := by decide +kernel
theorem dX8_sectorKind_76 : decode cX8_sectorKind 76 = .ok (.invokestatic 212, 3) := by decide +kernel
theorem dX8_sectorKind_79 : decode cX8_sectorKind 79 = .ok (.ifCond .eq 8, 3) := by decide +kernel
theorem dX8_sectorKind_82 : decode cX8_sectorKind 82 = .ok (.bipush 10, 2) := by decide +kernel
theorem dX8_sectorKind_84 : decode cX8_sectorKind 84 = .ok (.goto 4, 3) := by decide +kernel
theorem dX8_sectorKind_87 : decode cX8_sectorKind 87 = .ok (.iconst 0, 1) := by decide +kernel
theorem dX8_sectorKind_88 : decode cX8_sectorKind 88 = .ok (.iadd, 1) := by decide +kernel
theorem dX8_sectorKind_89 : decode cX8_sectorKind 89 = .ok (.ireturn, 1) := by decide +kernel
set_option maxRecDepth 20000 in
theorem ggX8_fillBits_X8_isPlatter : GoodIn wsX8_fillBits wsX8_isPlatter := goodIn_r _ [8, 2, 9, 10, 7, 11, 24, 25, 26, 27, 28, 29, 30, 31, 32, 33, 34, 35, 36, 37, 38, 39, 40, 41, 42, 43, 44, 45, 46, 47, 48, 49, 50] (by decide +kernel) (by decide +kernel)
set_option maxRecDepth 20000 in
theorem gX8_fillBits_X8_isPlatter : GoodIn wsX8_fillBits (wsV RX8 61 RX8 yX8_isPlatter wsX8_isPlatter) := goodIn_app (goodIn_of _ (by decide +kernel)) ggX8_fillBits_X8_isPlatter
set_option maxRecDepth 20000 in
theorem ggX8_fillBits_Jxf58ca_floatToIntBits_5c35a : GoodIn wsX8_fillBits wsJxf58ca_floatToIntBits_5c35a := goodIn_r _ [15, 16, 17, 18, 19, 20, 21, 22, 14, 23] (by decide +kernel) (by decide +kernel)
set_option maxRecDepth 20000 in
theorem gX8_fillBits_Jxf58ca_floatToIntBits_5c35a : GoodIn wsX8_fillBits (va_wsS RX8 216 yJxf58ca_floatToIntBits_5c35a wsJxf58ca_floatToIntBits_5c35a) := goodIn_app (goodIn_of _ (by decide +kernel)) ggX8_fillBits_Jxf58ca_floatToIntBits_5c35a
theorem dX8_fillBits_0 : decode cX8_fillBits 0 = .ok (.aload_n 0, 1) := by decide +kernel
theorem dX8_fillBits_1 : decode cX8_fillBits 1 = .ok (.iconst 0, 1) := by decide +kernel
theorem dX8_fillBits_2 : decode cX8_fillBits 2 = .ok (.putfield 51, 3) := by decide +kernel
theorem dX8_fillBits_5 : decode cX8_fillBits 5 = .ok (.aload_n 0, 1) := by decide +kernel
theorem dX8_fillBits_6 : decode cX8_fillBits 6 = .ok (.iload_n 1, 1) := by decide +kernel
theorem dX8_fillBits_7 : decode cX8_fillBits 7 = .ok (.invokevirtual 61, 3) := by decide +kernel
theorem dX8_fillBits_10 : decode cX8_fillBits 10 = .ok (.ifCond .eq 30, 3) := by decide +kernel
theorem dX8_fillBits_13 : decode cX8_fillBits 13 = .ok (.aload_n 0, 1) := by decide +kernel
theorem dX8_fillBits_14 : decode cX8_fillBits 14 = .ok (.getfield 7, 3) := by decide +kernel
theorem dX8_fillBits_17 : decode cX8_fillBits 17 = .ok (.bipush 59, 2) := by decide +kernel
theorem dX8_fillBits_19 : decode cX8_fillBits 19 = .ok (.iload_n 1, 1) := by decide +kernel
theorem dX8_fillBits_20 : decode cX8_fillBits 20 = .ok (.iadd, 1) := by decide +kernel
theorem dX8_fillBits_21 : decode cX8_fillBits 21 = .ok (.iaload, 1) := by decide +kernel
theorem dX8_fillBits_22 : decode cX8_fillBits 22 = .ok (.i2f, 1) := by decide +kernel
theorem dX8_fillBits_23 : decode cX8_fillBits 23 = .ok (.aload_n 0, 1) := by decide +kernel
theorem dX8_fillBits_24 : decode cX8_fillBits 24 = .ok (.getfield 7, 3) := by decide +kernel
theorem dX8_fillBits_27 : decode cX8_fillBits 27 = .ok (.bipush 39, 2) := by decide +kernel
theorem dX8_fillBits_29 : decode cX8_fillBits 29 = .ok (.iload_n 1, 1) := by decide +kernel
theorem dX8_fillBits_30 : decode cX8_fillBits 30 = .ok (.iadd, 1) := by decide +kernel
theorem dX8_fillBits_31 : decode cX8_fillBits 31 = .ok (.iaload, 1) := by decide +kernel
theorem dX8_fillBits_32 : decode cX8_fillBits 32 = .ok (.i2f, 1) := by decide +kernel
theorem dX8_fillBits_33 : decode cX8_fillBits 33 = .ok (.fdiv, 1) := by decide +kernel
theorem dX8_fillBits_34 : decode cX8_fillBits 34 = .ok (.invokestatic 216, 3) := by decide +kernel
theorem dX8_fillBits_37 : decode cX8_fillBits 37 = .ok (.goto 5, 3) := by decide +kernel
theorem dX8_fillBits_40 : decode cX8_fillBits 40 = .ok (.ldc 186, 2) := by decide +kernel
theorem dX8_fillBits_42 : decode cX8_fillBits 42 = .ok (.ireturn, 1) := by decide +kernel
set_option maxRecDepth 20000 in
theorem ggX8_cleanRun_X8_isPlatter : GoodIn wsX8_cleanRun wsX8_isPlatter := goodIn_r _ [8, 3, 9, 10, 7, 11, 15, 16, 17, 18, 19, 20, 21, 22, 23, 24, 25, 26, 27, 28, 29, 30, 31, 32, 33, 34, 35, 36, 37, 38, 39, 40, 41] (by decide +kernel) (by decide +kernel)
set_option maxRecDepth 20000 in
theorem gX8_cleanRun_X8_isPlatter : GoodIn wsX8_cleanRun (wsV RX8 61 RX8 yX8_isPlatter wsX8_isPlatter) := goodIn_app (goodIn_of _ (by decide +kernel)) ggX8_cleanRun_X8_isPlatter
set_option maxRecDepth 20000 in
theorem ggX8_cleanRun_X8_isBad : GoodIn wsX8_cleanRun wsX8_isBad := goodIn_r _ [14] (by decide +kernel) (by decide +kernel)
set_option maxRecDepth 20000 in
theorem gX8_cleanRun_X8_isBad : GoodIn wsX8_cleanRun (va_wsS RX8 212 yX8_isBad wsX8_isBad) := goodIn_app (goodIn_of _ (by decide +kernel)) ggX8_cleanRun_X8_isBad
theorem dX8_cleanRun_0 : decode cX8_cleanRun 0 = .ok (.aload_n 0, 1) := by decide +kernel
theorem dX8_cleanRun_1 : decode cX8_cleanRun 1 = .ok (.iconst 0, 1) := by decide +kernel
theorem dX8_cleanRun_2 : decode cX8_cleanRun 2 = .ok (.putfield 51, 3) := by decide +kernel
theorem dX8_cleanRun_5 : decode cX8_cleanRun 5 = .ok (.aload_n 0, 1) := by decide +kernel
theorem dX8_cleanRun_6 : decode cX8_cleanRun 6 = .ok (.iload_n 1, 1) := by decide +kernel
theorem dX8_cleanRun_7 : decode cX8_cleanRun 7 = .ok (.invokevirtual 61, 3) := by decide +kernel
theorem dX8_cleanRun_10 : decode cX8_cleanRun 10 = .ok (.ifCond .ne 6, 3) := by decide +kernel
theorem dX8_cleanRun_13 : decode cX8_cleanRun 13 = .ok (.ldc 186, 2) := by decide +kernel
theorem dX8_cleanRun_15 : decode cX8_cleanRun 15 = .ok (.ireturn, 1) := by decide +kernel
theorem dX8_cleanRun_16 : decode cX8_cleanRun 16 = .ok (.iconst 0, 1) := by decide +kernel
theorem dX8_cleanRun_17 : decode cX8_cleanRun 17 = .ok (.istore_n 2, 1) := by decide +kernel
theorem dX8_cleanRun_18 : decode cX8_cleanRun 18 = .ok (.iconst 0, 1) := by decide +kernel
theorem dX8_cleanRun_19 : decode cX8_cleanRun 19 = .ok (.istore_n 3, 1) := by decide +kernel
theorem dX8_cleanRun_20 : decode cX8_cleanRun 20 = .ok (.aload_n 0, 1) := by decide +kernel
theorem dX8_cleanRun_21 : decode cX8_cleanRun 21 = .ok (.getfield 7, 3) := by decide +kernel
theorem dX8_cleanRun_24 : decode cX8_cleanRun 24 = .ok (.bipush 59, 2) := by decide +kernel
theorem dX8_cleanRun_26 : decode cX8_cleanRun 26 = .ok (.iload_n 1, 1) := by decide +kernel
theorem dX8_cleanRun_27 : decode cX8_cleanRun 27 = .ok (.iadd, 1) := by decide +kernel
theorem dX8_cleanRun_28 : decode cX8_cleanRun 28 = .ok (.iaload, 1) := by decide +kernel
theorem dX8_cleanRun_29 : decode cX8_cleanRun 29 = .ok (.istore 4, 2) := by decide +kernel
theorem dX8_cleanRun_31 : decode cX8_cleanRun 31 = .ok (.iload 4, 2) := by decide +kernel
theorem dX8_cleanRun_33 : decode cX8_cleanRun 33 = .ok (.aload_n 0, 1) := by decide +kernel
theorem dX8_cleanRun_34 : decode cX8_cleanRun 34 = .ok (.getfield 7, 3) := by decide +kernel
theorem dX8_cleanRun_37 : decode cX8_cleanRun 37 = .ok (.bipush 39, 2) := by decide +kernel
theorem dX8_cleanRun_39 : decode cX8_cleanRun 39 = .ok (.iload_n 1, 1) := by decide +kernel
theorem dX8_cleanRun_40 : decode cX8_cleanRun 40 = .ok (.iadd, 1) := by decide +kernel
theorem dX8_cleanRun_41 : decode cX8_cleanRun 41 = .ok (.iaload, 1) := by decide +kernel
theorem dX8_cleanRun_42 : decode cX8_cleanRun 42 = .ok (.if_icmp .ge 41, 3) := by decide +kernel
theorem dX8_cleanRun_45 : decode cX8_cleanRun 45 = .ok (.aload_n 0, 1) := by decide +kernel
theorem dX8_cleanRun_46 : decode cX8_cleanRun 46 = .ok (.getfield 7, 3) := by decide +kernel
theorem dX8_cleanRun_49 : decode cX8_cleanRun 49 = .ok (.iload_n 1, 1) := by decide +kernel
theorem dX8_cleanRun_50 : decode cX8_cleanRun 50 = .ok (.iload 4, 2) := by decide +kernel
theorem dX8_cleanRun_52 : decode cX8_cleanRun 52 = .ok (.invokestatic 212, 3) := by decide +kernel
theorem dX8_cleanRun_55 : decode cX8_cleanRun 55 = .ok (.ifCond .eq 7, 3) := by decide +kernel
theorem dX8_cleanRun_58 : decode cX8_cleanRun 58 = .ok (.iconst 0, 1) := by decide +kernel
theorem dX8_cleanRun_59 : decode cX8_cleanRun 59 = .ok (.goto 6, 3) := by decide +kernel
theorem dX8_cleanRun_62 : decode cX8_cleanRun 62 = .ok (.iload_n 3, 1) := by decide +kernel
theorem dX8_cleanRun_63 : decode cX8_cleanRun 63 = .ok (.iconst 1, 1) := by decide +kernel
theorem dX8_cleanRun_64 : decode cX8_cleanRun 64 = .ok (.iadd, 1) := by decide +kernel
theorem dX8_cleanRun_65 : decode cX8_cleanRun 65 = .ok (.istore_n 3, 1) := by decide +kernel
theorem dX8_cleanRun_66 : decode cX8_cleanRun 66 = .ok (.iload_n 3, 1) := by decide +kernel
theorem dX8_cleanRun_67 : decode cX8_cleanRun 67 = .ok (.iload_n 2, 1) := by decide +kernel
theorem dX8_cleanRun_68 : decode cX8_cleanRun 68 = .ok (.if_icmp .le 7, 3) := by decide +kernel
theorem dX8_cleanRun_71 : decode cX8_cleanRun 71 = .ok (.iload_n 3, 1) := by decide +kernel
theorem dX8_cleanRun_72 : decode cX8_cleanRun 72 = .ok (.goto 4, 3) := by decide +kernel
theorem dX8_cleanRun_75 : decode cX8_cleanRun 75 = .ok (.iload_n 2, 1) := by decide +kernel
theorem dX8_cleanRun_76 : decode cX8_cleanRun 76 = .ok (.istore_n 2, 1) := by decide +kernel
theorem dX8_cleanRun_77 : decode cX8_cleanRun 77 = .ok (.iinc 4 1, 3) := by decide +kernel
theorem dX8_cleanRun_80 : decode cX8_cleanRun 80 = .ok (.goto (-49), 3) := by decide +kernel
theorem dX8_cleanRun_83 : decode cX8_cleanRun 83 = .ok (.iload_n 2, 1) := by decide +kernel
theorem dX8_cleanRun_84 : decode cX8_cleanRun 84 = .ok (.ireturn, 1) := by decide +kernel
set_option maxRecDepth 20000 in
theorem ggX8_bestPlatter_X8_isIn : GoodIn wsX8_bestPlatter wsX8_isIn := goodIn_r _ [10] (by decide +kernel) (by decide +kernel)
set_option maxRecDepth 20000 in
theorem gX8_bestPlatter_X8_isIn : GoodIn wsX8_bestPlatter (va_wsS RX8 57 yX8_isIn wsX8_isIn) := goodIn_app (goodIn_of _ (by decide +kernel)) ggX8_bestPlatter_X8_isIn
set_option maxRecDepth 20000 in
theorem ggX8_bestPlatter_X8_canWrite : GoodIn wsX8_bestPlatter wsX8_canWrite := goodIn_r _ [13, 14, 15, 9, 16, 7, 8, 10] (by decide +kernel) (by decide +kernel)
set_option maxRecDepth 20000 in
theorem gX8_bestPlatter_X8_canWrite : GoodIn wsX8_bestPlatter (va_wsS RX8 225 yX8_canWrite wsX8_canWrite) := goodIn_app (goodIn_of _ (by decide +kernel)) ggX8_bestPlatter_X8_canWrite
set_option maxRecDepth 20000 in
theorem ggX8_bestPlatter_X8_timeFor : GoodIn wsX8_bestPlatter wsX8_timeFor := goodIn_r _ [20, 21, 22, 23, 9, 24, 4, 25, 26, 27, 28, 29, 30, 31, 32, 33, 34, 35, 36, 37, 38, 39, 40, 41, 42, 43, 44, 45, 46, 47, 48, 49, 50, 51, 52, 53, 54, 55, 56, 57, 58, 59, 60, 61, 62, 63, 64, 65, 66, 67, 68, 73, 74, 75, 76, 77, 78, 79, 80, 81, 82, 83, 84, 85, 86, 87, 88, 89, 90, 91, 92, 93, 94, 95, 96, 97, 98, 99] (by decide +kernel) (by decide +kernel)
set_option maxRecDepth 20000 in
theorem gX8_bestPlatter_X8_timeFor : GoodIn wsX8_bestPlatter (wsV RX8 196 RX8 yX8_timeFor wsX8_timeFor) := goodIn_app (goodIn_of _ (by decide +kernel)) ggX8_bestPlatter_X8_timeFor
set_option maxRecDepth 20000 in
theorem ggX8_bestPlatter_X8_free : GoodIn wsX8_bestPlatter wsX8_free := goodIn_r _ [72, 4, 73, 74, 75, 76, 77, 78, 79, 80, 81, 82, 83, 84, 85, 86, 87, 88, 89, 90, 91, 92, 93, 94, 95, 96, 97, 98, 99] (by decide +kernel) (by decide +kernel)
set_option maxRecDepth 20000 in
theorem gX8_bestPlatter_X8_free : GoodIn wsX8_bestPlatter (wsV RX8 199 RX8 yX8_free wsX8_free) := goodIn_app (goodIn_of _ (by decide +kernel)) ggX8_bestPlatter_X8_free
theorem dX8_bestPlatter_0 : decode cX8_bestPlatter 0 = .ok (.aload_n 0, 1) := by decide +kernel
theorem dX8_bestPlatter_1 : decode cX8_bestPlatter 1 = .ok (.iconst 0, 1) := by decide +kernel
theorem dX8_bestPlatter_2 : decode cX8_bestPlatter 2 = .ok (.putfield 51, 3) := by decide +kernel
theorem dX8_bestPlatter_5 : decode cX8_bestPlatter 5 = .ok (.iload_n 1, 1) := by decide +kernel
theorem dX8_bestPlatter_6 : decode cX8_bestPlatter 6 = .ok (.i2l, 1) := by decide +kernel
theorem dX8_bestPlatter_7 : decode cX8_bestPlatter 7 = .ok (.lconst 1, 1) := by decide +kernel
theorem dX8_bestPlatter_8 : decode cX8_bestPlatter 8 = .ok (.ldc2_w 222, 3) := by decide +kernel
theorem dX8_bestPlatter_11 : decode cX8_bestPlatter 11 = .ok (.invokestatic 57, 3) := by decide +kernel
theorem dX8_bestPlatter_14 : decode cX8_bestPlatter 14 = .ok (.ifCond .ne 6, 3) := by decide +kernel
theorem dX8_bestPlatter_17 : decode cX8_bestPlatter 17 = .ok (.ldc 224, 2) := by decide +kernel
theorem dX8_bestPlatter_19 : decode cX8_bestPlatter 19 = .ok (.ireturn, 1) := by decide +kernel
theorem dX8_bestPlatter_20 : decode cX8_bestPlatter 20 = .ok (.aload_n 0, 1) := by decide +kernel
theorem dX8_bestPlatter_21 : decode cX8_bestPlatter 21 = .ok (.getfield 7, 3) := by decide +kernel
theorem dX8_bestPlatter_24 : decode cX8_bestPlatter 24 = .ok (.bipush 6, 2) := by decide +kernel
theorem dX8_bestPlatter_26 : decode cX8_bestPlatter 26 = .ok (.iaload, 1) := by decide +kernel
theorem dX8_bestPlatter_27 : decode cX8_bestPlatter 27 = .ok (.ifCond .ne 6, 3) := by decide +kernel
theorem dX8_bestPlatter_30 : decode cX8_bestPlatter 30 = .ok (.ldc 177, 2) := by decide +kernel
theorem dX8_bestPlatter_32 : decode cX8_bestPlatter 32 = .ok (.ireturn, 1) := by decide +kernel
theorem dX8_bestPlatter_33 : decode cX8_bestPlatter 33 = .ok (.ldc 42, 2) := by decide +kernel
theorem dX8_bestPlatter_35 : decode cX8_bestPlatter 35 = .ok (.istore_n 2, 1) := by decide +kernel
theorem dX8_bestPlatter_36 : decode cX8_bestPlatter 36 = .ok (.iconst 0, 1) := by decide +kernel
theorem dX8_bestPlatter_37 : decode cX8_bestPlatter 37 = .ok (.istore_n 3, 1) := by decide +kernel
theorem dX8_bestPlatter_38 : decode cX8_bestPlatter 38 = .ok (.iconst 0, 1) := by decide +kernel
theorem dX8_bestPlatter_39 : decode cX8_bestPlatter 39 = .ok (.istore 4, 2) := by decide +kernel
theorem dX8_bestPlatter_41 : decode cX8_bestPlatter 41 = .ok (.iload 4, 2) := by decide +kernel
theorem dX8_bestPlatter_43 : decode cX8_bestPlatter 43 = .ok (.aload_n 0, 1) := by decide +kernel
theorem dX8_bestPlatter_44 : decode cX8_bestPlatter 44 = .ok (.getfield 7, 3) := by decide +kernel
theorem dX8_bestPlatter_47 : decode cX8_bestPlatter 47 = .ok (.bipush 7, 2) := by decide +kernel
theorem dX8_bestPlatter_49 : decode cX8_bestPlatter 49 = .ok (.iaload, 1) := by decide +kernel
theorem dX8_bestPlatter_50 : decode cX8_bestPlatter 50 = .ok (.if_icmp .ge 84, 3) := by decide +kernel
theorem dX8_bestPlatter_53 : decode cX8_bestPlatter 53 = .ok (.aload_n 0, 1) := by decide +kernel
theorem dX8_bestPlatter_54 : decode cX8_bestPlatter 54 = .ok (.getfield 7, 3) := by decide +kernel
theorem dX8_bestPlatter_57 : decode cX8_bestPlatter 57 = .ok (.iload 4, 2) := by decide +kernel
theorem dX8_bestPlatter_59 : decode cX8_bestPlatter 59 = .ok (.iload_n 1, 1) := by decide +kernel
theorem dX8_bestPlatter_60 : decode cX8_bestPlatter 60 = .ok (.invokestatic 225, 3) := by decide +kernel
theorem dX8_bestPlatter_63 : decode cX8_bestPlatter 63 = .ok (.ifCond .ne 6, 3) := by decide +kernel
theorem dX8_bestPlatter_66 : decode cX8_bestPlatter 66 = .ok (.goto 62, 3) := by decide +kernel
theorem dX8_bestPlatter_69 : decode cX8_bestPlatter 69 = .ok (.aload_n 0, 1) := by decide +kernel
theorem dX8_bestPlatter_70 : decode cX8_bestPlatter 70 = .ok (.iload 4, 2) := by decide +kernel
theorem dX8_bestPlatter_72 : decode cX8_bestPlatter 72 = .ok (.invokevirtual 196, 3) := by decide +kernel
theorem dX8_bestPlatter_75 : decode cX8_bestPlatter 75 = .ok (.istore 5, 2) := by decide +kernel
theorem dX8_bestPlatter_77 : decode cX8_bestPlatter 77 = .ok (.iload_n 2, 1) := by decide +kernel
theorem dX8_bestPlatter_78 : decode cX8_bestPlatter 78 = .ok (.ifCond .lt 29, 3) := by decide +kernel
theorem dX8_bestPlatter_81 : decode cX8_bestPlatter 81 = .ok (.iload 5, 2) := by decide +kernel
theorem dX8_bestPlatter_83 : decode cX8_bestPlatter 83 = .ok (.iload_n 3, 1) := by decide +kernel
theorem dX8_bestPlatter_84 : decode cX8_bestPlatter 84 = .ok (.if_icmp .lt 23, 3) := by decide +kernel
theorem dX8_bestPlatter_87 : decode cX8_bestPlatter 87 = .ok (.iload 5, 2) := by decide +kernel
theorem dX8_bestPlatter_89 : decode cX8_bestPlatter 89 = .ok (.iload_n 3, 1) := by decide +kernel
theorem dX8_bestPlatter_90 : decode cX8_bestPlatter 90 = .ok (.if_icmp .ne 21, 3) := by decide +kernel
theorem dX8_bestPlatter_93 : decode cX8_bestPlatter 93 = .ok (.aload_n 0, 1) := by decide +kernel
theorem dX8_bestPlatter_94 : decode cX8_bestPlatter 94 = .ok (.iload 4, 2) := by decide +kernel
theorem dX8_bestPlatter_96 : decode cX8_bestPlatter 96 = .ok (.invokevirtual 199, 3) := by decide +kernel
theorem dX8_bestPlatter_99 : decode cX8_bestPlatter 99 = .ok (.aload_n 0, 1) := by decide +kernel
theorem dX8_bestPlatter_100 : decode cX8_bestPlatter 100 = .ok (.iload_n 2, 1) := by decide +kernel
theorem dX8_bestPlatter_101 : decode cX8_bestPlatter 101 = .ok (.invokevirtual 199, 3) := by decide +kernel
theorem dX8_bestPlatter_104 : decode cX8_bestPlatter 104 = .ok (.if_icmp .ge 7, 3) := by decide +kernel
theorem dX8_bestPlatter_107 : decode cX8_bestPlatter 107 = .ok (.iconst 1, 1) := by decide +kernel
theorem dX8_bestPlatter_108 : decode cX8_bestPlatter 108 = .ok (.goto 4, 3) := by decide +kernel
theorem dX8_bestPlatter_111 : decode cX8_bestPlatter 111 = .ok (.iconst 0, 1) := by decide +kernel
theorem dX8_bestPlatter_112 : decode cX8_bestPlatter 112 = .ok (.istore 6, 2) := by decide +kernel
theorem dX8_bestPlatter_114 : decode cX8_bestPlatter 114 = .ok (.iload 6, 2) := by decide +kernel
theorem dX8_bestPlatter_116 : decode cX8_bestPlatter 116 = .ok (.ifCond .ne 6, 3) := by decide +kernel
theorem dX8_bestPlatter_119 : decode cX8_bestPlatter 119 = .ok (.goto 9, 3) := by decide +kernel
theorem dX8_bestPlatter_122 : decode cX8_bestPlatter 122 = .ok (.iload 4, 2) := by decide +kernel
theorem dX8_bestPlatter_124 : decode cX8_bestPlatter 124 = .ok (.istore_n 2, 1) := by decide +kernel
theorem dX8_bestPlatter_125 : decode cX8_bestPlatter 125 = .ok (.iload 5, 2) := by decide +kernel
theorem dX8_bestPlatter_127 : decode cX8_bestPlatter 127 = .ok (.istore_n 3, 1) := by decide +kernel
theorem dX8_bestPlatter_128 : decode cX8_bestPlatter 128 = .ok (.iinc 4 1, 3) := by decide +kernel
theorem dX8_bestPlatter_131 : decode cX8_bestPlatter 131 = .ok (.goto (-90), 3) := by decide +kernel
theorem dX8_bestPlatter_134 : decode cX8_bestPlatter 134 = .ok (.iload_n 2, 1) := by decide +kernel
theorem dX8_bestPlatter_135 : decode cX8_bestPlatter 135 = .ok (.ireturn, 1) := by decide +kernel
set_option maxRecDepth 20000 in
theorem ggX8_versionCount_X8_isFile : GoodIn wsX8_versionCount wsX8_isFile := goodIn_r _ [8, 3, 9, 10, 7, 11, 12, 13, 14, 15, 16, 17, 18, 19, 20, 21, 22, 23, 24, 25, 26, 27, 28, 29, 30, 31, 32, 33, 34, 35, 36, 37, 38] (by decide +kernel) (by decide +kernel)
set_option maxRecDepth 20000 in
theorem gX8_versionCount_X8_isFile : GoodIn wsX8_versionCount (wsV RX8 228 RX8 yX8_isFile wsX8_isFile) := goodIn_app (goodIn_of _ (by decide +kernel)) ggX8_versionCount_X8_isFile
theorem dX8_versionCount_0 : decode cX8_versionCount 0 = .ok (.aload_n 0, 1) := by decide +kernel
theorem dX8_versionCount_1 : decode cX8_versionCount 1 = .ok (.iconst 0, 1) := by decide +kernel
theorem dX8_versionCount_2 : decode cX8_versionCount 2 = .ok (.putfield 51, 3) := by decide +kernel
theorem dX8_versionCount_5 : decode cX8_versionCount 5 = .ok (.aload_n 0, 1) := by decide +kernel
theorem dX8_versionCount_6 : decode cX8_versionCount 6 = .ok (.iload_n 1, 1) := by decide +kernel
theorem dX8_versionCount_7 : decode cX8_versionCount 7 = .ok (.invokevirtual 228, 3) := by decide +kernel
theorem dX8_versionCount_10 : decode cX8_versionCount 10 = .ok (.ifCond .ne 6, 3) := by decide +kernel
theorem dX8_versionCount_13 : decode cX8_versionCount 13 = .ok (.ldc 186, 2) := by decide +kernel
theorem dX8_versionCount_15 : decode cX8_versionCount 15 = .ok (.ireturn, 1) := by decide +kernel
theorem dX8_versionCount_16 : decode cX8_versionCount 16 = .ok (.iconst 0, 1) := by decide +kernel
theorem dX8_versionCount_17 : decode cX8_versionCount 17 = .ok (.istore_n 2, 1) := by decide +kernel
theorem dX8_versionCount_18 : decode cX8_versionCount 18 = .ok (.iconst 0, 1) := by decide +kernel
theorem dX8_versionCount_19 : decode cX8_versionCount 19 = .ok (.istore_n 3, 1) := by decide +kernel
theorem dX8_versionCount_20 : decode cX8_versionCount 20 = .ok (.iload_n 3, 1) := by decide +kernel
theorem dX8_versionCount_21 : decode cX8_versionCount 21 = .ok (.aload_n 0, 1) := by decide +kernel
theorem dX8_versionCount_22 : decode cX8_versionCount 22 = .ok (.getfield 7, 3) := by decide +kernel
theorem dX8_versionCount_25 : decode cX8_versionCount 25 = .ok (.bipush 10, 2) := by decide +kernel
theorem dX8_versionCount_27 : decode cX8_versionCount 27 = .ok (.iaload, 1) := by decide +kernel
theorem dX8_versionCount_28 : decode cX8_versionCount 28 = .ok (.if_icmp .ge 31, 3) := by decide +kernel
theorem dX8_versionCount_31 : decode cX8_versionCount 31 = .ok (.iload_n 2, 1) := by decide +kernel
theorem dX8_versionCount_32 : decode cX8_versionCount 32 = .ok (.aload_n 0, 1) := by decide +kernel
theorem dX8_versionCount_33 : decode cX8_versionCount 33 = .ok (.getfield 7, 3) := by decide +kernel
theorem dX8_versionCount_36 : decode cX8_versionCount 36 = .ok (.sipush 309, 3) := by decide +kernel
theorem dX8_versionCount_39 : decode cX8_versionCount 39 = .ok (.iload_n 3, 1) := by decide +kernel
theorem dX8_versionCount_40 : decode cX8_versionCount 40 = .ok (.iadd, 1) := by decide +kernel
theorem dX8_versionCount_41 : decode cX8_versionCount 41 = .ok (.iaload, 1) := by decide +kernel
theorem dX8_versionCount_42 : decode cX8_versionCount 42 = .ok (.iload_n 1, 1) := by decide +kernel
theorem dX8_versionCount_43 : decode cX8_versionCount 43 = .ok (.if_icmp .ne 7, 3) := by decide +kernel
theorem dX8_versionCount_46 : decode cX8_versionCount 46 = .ok (.iconst 1, 1) := by decide +kernel
theorem dX8_versionCount_47 : decode cX8_versionCount 47 = .ok (.goto 4, 3) := by decide +kernel
theorem dX8_versionCount_50 : decode cX8_versionCount 50 = .ok (.iconst 0, 1) := by decide +kernel
theorem dX8_versionCount_51 : decode cX8_versionCount 51 = .ok (.iadd, 1) := by decide +kernel
theorem dX8_versionCount_52 : decode cX8_versionCount 52 = .ok (.istore_n 2, 1) := by decide +kernel
theorem dX8_versionCount_53 : decode cX8_versionCount 53 = .ok (.iinc 3 1, 3) := by decide +kernel
theorem dX8_versionCount_56 : decode cX8_versionCount 56 = .ok (.goto (-36), 3) := by decide +kernel
theorem dX8_versionCount_59 : decode cX8_versionCount 59 = .ok (.iload_n 2, 1) := by decide +kernel
theorem dX8_versionCount_60 : decode cX8_versionCount 60 = .ok (.ireturn, 1) := by decide +kernel
set_option maxRecDepth 20000 in
theorem ggX8_ofVersion_X8_isFile : GoodIn wsX8_ofVersion wsX8_isFile := goodIn_r _ [8, 2, 9, 10, 7, 11, 16, 17, 18, 19, 20, 21, 22, 23, 24, 25, 26, 27, 28, 29, 30, 31, 32, 33, 34, 35, 36, 37, 38, 39, 40, 41, 42] (by decide +kernel) (by decide +kernel)
set_option maxRecDepth 20000 in
theorem gX8_ofVersion_X8_isFile : GoodIn wsX8_ofVersion (wsV RX8 228 RX8 yX8_isFile wsX8_isFile) := goodIn_app (goodIn_of _ (by decide +kernel)) ggX8_ofVersion_X8_isFile
set_option maxRecDepth 20000 in
theorem ggX8_ofVersion_X8_version : GoodIn wsX8_ofVersion wsX8_version := goodIn_r _ [15, 2, 16, 17, 18, 19, 20, 21, 22, 23, 24, 25, 26, 27, 28, 29, 30, 31, 32, 33, 34, 35, 36, 37, 38, 39, 40, 41, 42] (by decide +kernel) (by decide +kernel)
set_option maxRecDepth 20000 in
theorem gX8_ofVersion_X8_version : GoodIn wsX8_ofVersion (wsV RX8 86 RX8 yX8_version wsX8_version) := goodIn_app (goodIn_of _ (by decide +kernel)) ggX8_ofVersion_X8_version
theorem dX8_ofVersion_0 : decode cX8_ofVersion 0 = .ok (.aload_n 0, 1) := by decide +kernel
theorem dX8_ofVersion_1 : decode cX8_ofVersion 1 = .ok (.iconst 0, 1) := by decide +kernel
theorem dX8_ofVersion_2 : decode cX8_ofVersion 2 = .ok (.putfield 51, 3) := by decide +kernel
theorem dX8_ofVersion_5 : decode cX8_ofVersion 5 = .ok (.aload_n 0, 1) := by decide +kernel
theorem dX8_ofVersion_6 : decode cX8_ofVersion 6 = .ok (.iload_n 1, 1) := by decide +kernel
theorem dX8_ofVersion_7 : decode cX8_ofVersion 7 = .ok (.invokevirtual 228, 3) := by decide +kernel
theorem dX8_ofVersion_10 : decode cX8_ofVersion 10 = .ok (.ifCond .eq 18, 3) := by decide +kernel
theorem dX8_ofVersion_13 : decode cX8_ofVersion 13 = .ok (.aload_n 0, 1) := by decide +kernel
theorem dX8_ofVersion_14 : decode cX8_ofVersion 14 = .ok (.getfield 7, 3) := by decide +kernel
theorem dX8_ofVersion_17 : decode cX8_ofVersion 17 = .ok (.iload_n 2, 1) := by decide +kernel
theorem dX8_ofVersion_18 : decode cX8_ofVersion 18 = .ok (.aload_n 0, 1) := by decide +kernel
theorem dX8_ofVersion_19 : decode cX8_ofVersion 19 = .ok (.iload_n 1, 1) := by decide +kernel
theorem dX8_ofVersion_20 : decode cX8_ofVersion 20 = .ok (.invokevirtual 86, 3) := by decide +kernel
theorem dX8_ofVersion_23 : decode cX8_ofVersion 23 = .ok (.iadd, 1) := by decide +kernel
theorem dX8_ofVersion_24 : decode cX8_ofVersion 24 = .ok (.iaload, 1) := by decide +kernel
theorem dX8_ofVersion_25 : decode cX8_ofVersion 25 = .ok (.goto 5, 3) := by decide +kernel
theorem dX8_ofVersion_28 : decode cX8_ofVersion 28 = .ok (.ldc 186, 2) := by decide +kernel
theorem dX8_ofVersion_30 : decode cX8_ofVersion 30 = .ok (.ireturn, 1) := by decide +kernel
set_option maxRecDepth 20000 in
theorem ggX8_filePlatter_X8_ofVersion : GoodIn wsX8_filePlatter wsX8_ofVersion := goodIn_r _ [5, 6, 7, 8, 9, 10, 11, 4, 12, 13, 14, 15, 16, 17, 18, 19, 20, 21, 22, 23, 24, 25, 26, 27, 28, 29, 30, 31, 32, 33, 34, 35, 36, 37, 38, 39, 40, 41, 42, 43, 44, 45, 46] (by decide +kernel) (by decide +kernel)
set_option maxRecDepth 20000 in
theorem gX8_filePlatter_X8_ofVersion : GoodIn wsX8_filePlatter (wsV RX8 231 RX8 yX8_ofVersion wsX8_ofVersion) := goodIn_app (goodIn_of _ (by decide +kernel)) ggX8_filePlatter_X8_ofVersion
theorem dX8_filePlatter_0 : decode cX8_filePlatter 0 = .ok (.aload_n 0, 1) := by decide +kernel
theorem dX8_filePlatter_1 : decode cX8_filePlatter 1 = .ok (.iload_n 1, 1) := by decide +kernel
theorem dX8_filePlatter_2 : decode cX8_filePlatter 2 = .ok (.sipush 349, 3) := by decide +kernel
theorem dX8_filePlatter_5 : decode cX8_filePlatter 5 = .ok (.invokevirtual 231, 3) := by decide +kernel
theorem dX8_filePlatter_8 : decode cX8_filePlatter 8 = .ok (.ireturn, 1) := by decide +kernel
set_option maxRecDepth 20000 in
theorem ggX8_fileStart_X8_ofVersion : GoodIn wsX8_fileStart wsX8_ofVersion := goodIn_r _ [5, 6, 7, 8, 9, 10, 11, 4, 12, 13, 14, 15, 16, 17, 18, 19, 20, 21, 22, 23, 24, 25, 26, 27, 28, 29, 30, 31, 32, 33, 34, 35, 36, 37, 38, 39, 40, 41, 42, 43, 44, 45, 46] (by decide +kernel) (by decide +kernel)
set_option maxRecDepth 20000 in
theorem gX8_fileStart_X8_ofVersion : GoodIn wsX8_fileStart (wsV RX8 231 RX8 yX8_ofVersion wsX8_ofVersion) := goodIn_app (goodIn_of _ (by decide +kernel)) ggX8_fileStart_X8_ofVersion
theorem dX8_fileStart_0 : decode cX8_fileStart 0 = .ok (.aload_n 0, 1) := by decide +kernel
theorem dX8_fileStart_1 : decode cX8_fileStart 1 = .ok (.iload_n 1, 1) := by decide +kernel
theorem dX8_fileStart_2 : decode cX8_fileStart 2 = .ok (.sipush 389, 3) := by decide +kernel
theorem dX8_fileStart_5 : decode cX8_fileStart 5 = .ok (.invokevirtual 231, 3) := by decide +kernel
theorem dX8_fileStart_8 : decode cX8_fileStart 8 = .ok (.ireturn, 1) := by decide +kernel
set_option maxRecDepth 20000 in
theorem ggX8_fileSize_X8_ofVersion : GoodIn wsX8_fileSize wsX8_ofVersion := goodIn_r _ [5, 6, 7, 8, 9, 10, 11, 4, 12, 13, 14, 15, 16, 17, 18, 19, 20, 21, 22, 23, 24, 25, 26, 27, 28, 29, 30, 31, 32, 33, 34, 35, 36, 37, 38, 39, 40, 41, 42, 43, 44, 45, 46] (by decide +kernel) (by decide +kernel)
set_option maxRecDepth 20000 in
theorem gX8_fileSize_X8_ofVersion : GoodIn wsX8_fileSize (wsV RX8 231 RX8 yX8_ofVersion wsX8_ofVersion) := goodIn_app (goodIn_of _ (by decide +kernel)) ggX8_fileSize_X8_ofVersion
theorem dX8_fileSize_0 : decode cX8_fileSize 0 = .ok (.aload_n 0, 1) := by decide +kernel
theorem dX8_fileSize_1 : decode cX8_fileSize 1 = .ok (.iload_n 1, 1) := by decide +kernel
theorem dX8_fileSize_2 : decode cX8_fileSize 2 = .ok (.sipush 429, 3) := by decide +kernel
theorem dX8_fileSize_5 : decode cX8_fileSize 5 = .ok (.invokevirtual 231, 3) := by decide +kernel
theorem dX8_fileSize_8 : decode cX8_fileSize 8 = .ok (.ireturn, 1) := by decide +kernel
set_option maxRecDepth 20000 in
theorem ggX8_fileSession_X8_ofVersion : GoodIn wsX8_fileSession wsX8_ofVersion := goodIn_r _ [5, 6, 7, 8, 9, 10, 11, 4, 12, 13, 14, 15, 16, 17, 18, 19, 20, 21, 22, 23, 24, 25, 26, 27, 28, 29, 30, 31, 32, 33, 34, 35, 36, 37, 38, 39, 40, 41, 42, 43, 44, 45, 46] (by decide +kernel) (by decide +kernel)
set_option maxRecDepth 20000 in
theorem gX8_fileSession_X8_ofVersion : GoodIn wsX8_fileSession (wsV RX8 231 RX8 yX8_ofVersion wsX8_ofVersion) := goodIn_app (goodIn_of _ (by decide +kernel)) ggX8_fileSession_X8_ofVersion
theorem dX8_fileSession_0 : decode cX8_fileSession 0 = .ok (.aload_n 0, 1) := by decide +kernel
theorem dX8_fileSession_1 : decode cX8_fileSession 1 = .ok (.iload_n 1, 1) := by decide +kernel
theorem dX8_fileSession_2 : decode cX8_fileSession 2 = .ok (.sipush 469, 3) := by decide +kernel
theorem dX8_fileSession_5 : decode cX8_fileSession 5 = .ok (.invokevirtual 231, 3) := by decide +kernel
theorem dX8_fileSession_8 : decode cX8_fileSession 8 = .ok (.ireturn, 1) := by decide +kernel
set_option maxRecDepth 20000 in
theorem ggX8_remappedSectors_X8_ofVersion : GoodIn wsX8_remappedSectors wsX8_ofVersion := goodIn_r _ [5, 6, 7, 8, 9, 10, 11, 4, 12, 13, 14, 15, 16, 17, 18, 19, 20, 21, 22, 23, 24, 25, 26, 27, 28, 29, 30, 31, 32, 33, 34, 35, 36, 37, 38, 39, 40, 41, 42, 43, 44, 45, 46] (by decide +kernel) (by decide +kernel)
set_option maxRecDepth 20000 in
theorem gX8_remappedSectors_X8_ofVersion : GoodIn wsX8_remappedSectors (wsV RX8 231 RX8 yX8_ofVersion wsX8_ofVersion) := goodIn_app (goodIn_of _ (by decide +kernel)) ggX8_remappedSectors_X8_ofVersion
theorem dX8_remappedSectors_0 : decode cX8_remappedSectors 0 = .ok (.aload_n 0, 1) := by decide +kernel
theorem dX8_remappedSectors_1 : decode cX8_remappedSectors 1 = .ok (.iload_n 1, 1) := by decide +kernel
theorem dX8_remappedSectors_2 : decode cX8_remappedSectors 2 = .ok (.sipush 509, 3) := by decide +kernel
theorem dX8_remappedSectors_5 : decode cX8_remappedSectors 5 = .ok (.invokevirtual 231, 3) := by decide +kernel
theorem dX8_remappedSectors_8 : decode cX8_remappedSectors 8 = .ok (.ireturn, 1) := by decide +kernel
set_option maxRecDepth 20000 in
theorem ggX8_fileState_X8_isFile : GoodIn wsX8_fileState wsX8_isFile := goodIn_r _ [8, 3, 9, 10, 7, 11, 20, 21, 22, 23, 24, 25, 26, 27, 28, 29, 30, 31, 32, 33, 34, 35, 36, 37, 38, 39, 40, 41, 42, 43, 44, 45, 46] (by decide +kernel) (by decide +kernel)
set_option maxRecDepth 20000 in
theorem gX8_fileState_X8_isFile : GoodIn wsX8_fileState (wsV RX8 228 RX8 yX8_isFile wsX8_isFile) := goodIn_app (goodIn_of _ (by decide +kernel)) ggX8_fileState_X8_isFile
set_option maxRecDepth 20000 in
theorem ggX8_fileState_X8_version : GoodIn wsX8_fileState wsX8_version := goodIn_r _ [15, 3, 20, 21, 22, 23, 24, 25, 26, 27, 28, 29, 30, 31, 32, 33, 34, 35, 36, 37, 38, 39, 40, 41, 42, 43, 44, 45, 46] (by decide +kernel) (by decide +kernel)
set_option maxRecDepth 20000 in
theorem gX8_fileState_X8_version : GoodIn wsX8_fileState (wsV RX8 86 RX8 yX8_version wsX8_version) := goodIn_app (goodIn_of _ (by decide +kernel)) ggX8_fileState_X8_version
set_option maxRecDepth 20000 in
theorem ggX8_fileState_X8_isClosed : GoodIn wsX8_fileState wsX8_isClosed := goodIn_r _ [19, 3, 20, 21, 22, 23, 24, 25, 26, 27, 28, 29, 30, 31, 32, 33, 34, 35, 36, 37, 38, 39, 40, 41, 42, 43, 44, 45, 46] (by decide +kernel) (by decide +kernel)
set_option maxRecDepth 20000 in
theorem gX8_fileState_X8_isClosed : GoodIn wsX8_fileState (wsV RX8 83 RX8 yX8_isClosed wsX8_isClosed) := goodIn_app (goodIn_of _ (by decide +kernel)) ggX8_fileState_X8_isClosed
theorem dX8_fileState_0 : decode cX8_fileState 0 = .ok (.aload_n 0, 1) := by decide +kernel
theorem dX8_fileState_1 : decode cX8_fileState 1 = .ok (.iconst 0, 1) := by decide +kernel
theorem dX8_fileState_2 : decode cX8_fileState 2 = .ok (.putfield 51, 3) := by decide +kernel
theorem dX8_fileState_5 : decode cX8_fileState 5 = .ok (.aload_n 0, 1) := by decide +kernel
theorem dX8_fileState_6 : decode cX8_fileState 6 = .ok (.iload_n 1, 1) := by decide +kernel
theorem dX8_fileState_7 : decode cX8_fileState 7 = .ok (.invokevirtual 228, 3) := by decide +kernel
theorem dX8_fileState_10 : decode cX8_fileState 10 = .ok (.ifCond .ne 6, 3) := by decide +kernel
theorem dX8_fileState_13 : decode cX8_fileState 13 = .ok (.ldc 186, 2) := by decide +kernel
theorem dX8_fileState_15 : decode cX8_fileState 15 = .ok (.ireturn, 1) := by decide +kernel
theorem dX8_fileState_16 : decode cX8_fileState 16 = .ok (.aload_n 0, 1) := by decide +kernel
theorem dX8_fileState_17 : decode cX8_fileState 17 = .ok (.getfield 7, 3) := by decide +kernel
theorem dX8_fileState_20 : decode cX8_fileState 20 = .ok (.sipush 549, 3) := by decide +kernel
theorem dX8_fileState_23 : decode cX8_fileState 23 = .ok (.aload_n 0, 1) := by decide +kernel
theorem dX8_fileState_24 : decode cX8_fileState 24 = .ok (.iload_n 1, 1) := by decide +kernel
theorem dX8_fileState_25 : decode cX8_fileState 25 = .ok (.invokevirtual 86, 3) := by decide +kernel
theorem dX8_fileState_28 : decode cX8_fileState 28 = .ok (.iadd, 1) := by decide +kernel
theorem dX8_fileState_29 : decode cX8_fileState 29 = .ok (.iaload, 1) := by decide +kernel
theorem dX8_fileState_30 : decode cX8_fileState 30 = .ok (.iconst 1, 1) := by decide +kernel
theorem dX8_fileState_31 : decode cX8_fileState 31 = .ok (.if_icmp .ne 7, 3) := by decide +kernel
theorem dX8_fileState_34 : decode cX8_fileState 34 = .ok (.iconst 1, 1) := by decide +kernel
theorem dX8_fileState_35 : decode cX8_fileState 35 = .ok (.goto 20, 3) := by decide +kernel
theorem dX8_fileState_38 : decode cX8_fileState 38 = .ok (.aload_n 0, 1) := by decide +kernel
theorem dX8_fileState_39 : decode cX8_fileState 39 = .ok (.aload_n 0, 1) := by decide +kernel
theorem dX8_fileState_40 : decode cX8_fileState 40 = .ok (.iload_n 1, 1) := by decide +kernel
theorem dX8_fileState_41 : decode cX8_fileState 41 = .ok (.invokevirtual 86, 3) := by decide +kernel
theorem dX8_fileState_44 : decode cX8_fileState 44 = .ok (.invokevirtual 83, 3) := by decide +kernel
theorem dX8_fileState_47 : decode cX8_fileState 47 = .ok (.ifCond .eq 7, 3) := by decide +kernel
theorem dX8_fileState_50 : decode cX8_fileState 50 = .ok (.iconst 0, 1) := by decide +kernel
theorem dX8_fileState_51 : decode cX8_fileState 51 = .ok (.goto 4, 3) := by decide +kernel
theorem dX8_fileState_54 : decode cX8_fileState 54 = .ok (.iconst 2, 1) := by decide +kernel
theorem dX8_fileState_55 : decode cX8_fileState 55 = .ok (.ireturn, 1) := by decide +kernel
set_option maxRecDepth 20000 in
theorem ggX8_whyNotRead_X8_isFile : GoodIn wsX8_whyNotRead wsX8_isFile := goodIn_r _ [9, 2, 10, 11, 8, 12, 29, 30, 31, 32, 33, 34, 35, 36, 37, 38, 39, 40, 41, 42, 43, 44, 45, 46, 47, 48, 49, 50, 51, 52, 53, 54, 55] (by decide +kernel) (by decide +kernel)
set_option maxRecDepth 20000 in
theorem gX8_whyNotRead_X8_isFile : GoodIn wsX8_whyNotRead (wsV RX8 228 RX8 yX8_isFile wsX8_isFile) := goodIn_app (goodIn_of _ (by decide +kernel)) ggX8_whyNotRead_X8_isFile
set_option maxRecDepth 20000 in
theorem ggX8_whyNotRead_X8_isReadable : GoodIn wsX8_whyNotRead wsX8_isReadable := goodIn_r _ [16, 17, 18, 19, 8, 20, 2, 21, 22, 23, 24, 25, 26, 27, 28, 29, 30, 31, 32, 33, 34, 35, 36, 37, 38, 39, 40, 41, 42, 43, 44, 45, 46, 47, 48, 49, 50, 51, 52, 53, 54, 55] (by decide +kernel) (by decide +kernel)
set_option maxRecDepth 20000 in
theorem gX8_whyNotRead_X8_isReadable : GoodIn wsX8_whyNotRead (wsV RX8 174 RX8 yX8_isReadable wsX8_isReadable) := goodIn_app (goodIn_of _ (by decide +kernel)) ggX8_whyNotRead_X8_isReadable
theorem dX8_whyNotRead_0 : decode cX8_whyNotRead 0 = .ok (.aload_n 0, 1) := by decide +kernel
theorem dX8_whyNotRead_1 : decode cX8_whyNotRead 1 = .ok (.iload_n 1, 1) := by decide +kernel
theorem dX8_whyNotRead_2 : decode cX8_whyNotRead 2 = .ok (.invokevirtual 228, 3) := by decide +kernel
theorem dX8_whyNotRead_5 : decode cX8_whyNotRead 5 = .ok (.ifCond .ne 8, 3) := by decide +kernel
theorem dX8_whyNotRead_8 : decode cX8_whyNotRead 8 = .ok (.ldc 186, 2) := by decide +kernel
theorem dX8_whyNotRead_10 : decode cX8_whyNotRead 10 = .ok (.goto 32, 3) := by decide +kernel
theorem dX8_whyNotRead_13 : decode cX8_whyNotRead 13 = .ok (.aload_n 0, 1) := by decide +kernel
theorem dX8_whyNotRead_14 : decode cX8_whyNotRead 14 = .ok (.getfield 7, 3) := by decide +kernel
theorem dX8_whyNotRead_17 : decode cX8_whyNotRead 17 = .ok (.bipush 6, 2) := by decide +kernel
theorem dX8_whyNotRead_19 : decode cX8_whyNotRead 19 = .ok (.iaload, 1) := by decide +kernel
theorem dX8_whyNotRead_20 : decode cX8_whyNotRead 20 = .ok (.ifCond .ne 8, 3) := by decide +kernel
theorem dX8_whyNotRead_23 : decode cX8_whyNotRead 23 = .ok (.ldc 177, 2) := by decide +kernel
theorem dX8_whyNotRead_25 : decode cX8_whyNotRead 25 = .ok (.goto 17, 3) := by decide +kernel
theorem dX8_whyNotRead_28 : decode cX8_whyNotRead 28 = .ok (.aload_n 0, 1) := by decide +kernel
theorem dX8_whyNotRead_29 : decode cX8_whyNotRead 29 = .ok (.iload_n 1, 1) := by decide +kernel
theorem dX8_whyNotRead_30 : decode cX8_whyNotRead 30 = .ok (.invokevirtual 174, 3) := by decide +kernel
theorem dX8_whyNotRead_33 : decode cX8_whyNotRead 33 = .ok (.ifCond .eq 7, 3) := by decide +kernel
theorem dX8_whyNotRead_36 : decode cX8_whyNotRead 36 = .ok (.iconst 0, 1) := by decide +kernel
theorem dX8_whyNotRead_37 : decode cX8_whyNotRead 37 = .ok (.goto 5, 3) := by decide +kernel
theorem dX8_whyNotRead_40 : decode cX8_whyNotRead 40 = .ok (.ldc 182, 2) := by decide +kernel
theorem dX8_whyNotRead_42 : decode cX8_whyNotRead 42 = .ok (.ireturn, 1) := by decide +kernel
set_option maxRecDepth 20000 in
theorem ggX8_readTime_X8_whyNotRead : GoodIn wsX8_readTime wsX8_whyNotRead := goodIn_r _ [6, 7, 8, 9, 10, 11, 12, 13, 5, 14, 15, 16, 17, 18, 19, 20, 21, 22, 23, 24, 25, 26, 27, 28, 29, 30, 31, 32, 33, 94, 95, 96, 97, 98, 99, 100, 101, 102, 103, 104, 105, 106, 107, 108, 109, 110, 111, 112, 113, 114, 115, 116, 117, 118, 119, 120] (by decide +kernel) (by decide +kernel)
set_option maxRecDepth 20000 in
theorem gX8_readTime_X8_whyNotRead : GoodIn wsX8_readTime (wsV RX8 234 RX8 yX8_whyNotRead wsX8_whyNotRead) := goodIn_app (goodIn_of _ (by decide +kernel)) ggX8_readTime_X8_whyNotRead
set_option maxRecDepth 20000 in
theorem ggX8_readTime_X8_tries : GoodIn wsX8_readTime wsX8_tries := goodIn_r _ [37, 8, 38, 39, 40, 41, 5, 42, 94, 95, 96, 97, 98, 99, 100, 101, 102, 103, 104, 105, 106, 107, 108, 109, 110, 111, 112, 113, 114, 115, 116, 117, 118, 119, 120] (by decide +kernel) (by decide +kernel)
set_option maxRecDepth 20000 in
theorem gX8_readTime_X8_tries : GoodIn wsX8_readTime (wsV RX8 136 RX8 yX8_tries wsX8_tries) := goodIn_app (goodIn_of _ (by decide +kernel)) ggX8_readTime_X8_tries
set_option maxRecDepth 20000 in
theorem ggX8_readTime_X8_reads : GoodIn wsX8_readTime wsX8_reads := goodIn_r _ [46, 8, 47, 48, 49, 5, 50, 22, 23, 24, 25, 51, 52, 53, 54, 55, 56, 57, 58, 59, 60, 61, 62, 63, 64, 65, 66, 67, 68, 69, 70, 71, 72, 73, 74, 75, 76, 77, 78, 79, 80, 81, 82, 83, 84, 85, 86, 87, 88, 89, 94, 95, 96, 97, 98, 99, 100, 101, 102, 103, 104, 105, 106, 107, 108, 109, 110, 111, 112, 113, 114, 115, 116, 117, 118, 119, 120] (by decide +kernel) (by decide +kernel)
set_option maxRecDepth 20000 in
theorem gX8_readTime_X8_reads : GoodIn wsX8_readTime (wsV RX8 162 RX8 yX8_reads wsX8_reads) := goodIn_app (goodIn_of _ (by decide +kernel)) ggX8_readTime_X8_reads
set_option maxRecDepth 20000 in
theorem ggX8_readTime_X8_takesBack : GoodIn wsX8_readTime wsX8_takesBack := goodIn_r _ [93, 8, 39, 38, 40, 41, 5, 42, 94, 95, 96, 97, 98, 99, 100, 101, 102, 103, 104, 105, 106, 107, 108, 109, 110, 111, 112, 113, 114, 115, 116, 117, 118, 119, 120] (by decide +kernel) (by decide +kernel)
set_option maxRecDepth 20000 in
theorem gX8_readTime_X8_takesBack : GoodIn wsX8_readTime (wsV RX8 139 RX8 yX8_takesBack wsX8_takesBack) := goodIn_app (goodIn_of _ (by decide +kernel)) ggX8_readTime_X8_takesBack
theorem dX8_readTime_0 : decode cX8_readTime 0 = .ok (.aload_n 0, 1) := by decide +kernel
theorem dX8_readTime_1 : decode cX8_readTime 1 = .ok (.iconst 0, 1) := by decide +kernel
theorem dX8_readTime_2 : decode cX8_readTime 2 = .ok (.putfield 51, 3) := by decide +kernel
theorem dX8_readTime_5 : decode cX8_readTime 5 = .ok (.aload_n 0, 1) := by decide +kernel
theorem dX8_readTime_6 : decode cX8_readTime 6 = .ok (.iload_n 1, 1) := by decide +kernel
theorem dX8_readTime_7 : decode cX8_readTime 7 = .ok (.invokevirtual 234, 3) := by decide +kernel
theorem dX8_readTime_10 : decode cX8_readTime 10 = .ok (.istore_n 2, 1) := by decide +kernel
theorem dX8_readTime_11 : decode cX8_readTime 11 = .ok (.iload_n 2, 1) := by decide +kernel
theorem dX8_readTime_12 : decode cX8_readTime 12 = .ok (.ifCond .eq 5, 3) := by decide +kernel
theorem dX8_readTime_15 : decode cX8_readTime 15 = .ok (.iload_n 2, 1) := by decide +kernel
theorem dX8_readTime_16 : decode cX8_readTime 16 = .ok (.ireturn, 1) := by decide +kernel
theorem dX8_readTime_17 : decode cX8_readTime 17 = .ok (.aload_n 0, 1) := by decide +kernel
theorem dX8_readTime_18 : decode cX8_readTime 18 = .ok (.invokevirtual 136, 3) := by decide +kernel
theorem dX8_readTime_21 : decode cX8_readTime 21 = .ok (.aload_n 0, 1) := by decide +kernel
theorem dX8_readTime_22 : decode cX8_readTime 22 = .ok (.iload_n 1, 1) := by decide +kernel
theorem dX8_readTime_23 : decode cX8_readTime 23 = .ok (.invokevirtual 162, 3) := by decide +kernel
theorem dX8_readTime_26 : decode cX8_readTime 26 = .ok (.aload_n 0, 1) := by decide +kernel
theorem dX8_readTime_27 : decode cX8_readTime 27 = .ok (.invokevirtual 139, 3) := by decide +kernel
theorem dX8_readTime_30 : decode cX8_readTime 30 = .ok (.ireturn, 1) := by decide +kernel
set_option maxRecDepth 20000 in
theorem ggX8_lastGoodVersion_X8_isFile : GoodIn wsX8_lastGoodVersion wsX8_isFile := goodIn_r _ [9, 4, 10, 11, 8, 12, 21, 22, 23, 24, 25, 26, 27, 28, 29, 30, 31, 32, 33, 34, 35, 36, 37, 38, 39, 40, 41, 42, 43, 44, 45, 46, 47] (by decide +kernel) (by decide +kernel)
set_option maxRecDepth 20000 in
theorem gX8_lastGoodVersion_X8_isFile : GoodIn wsX8_lastGoodVersion (wsV RX8 228 RX8 yX8_isFile wsX8_isFile) := goodIn_app (goodIn_of _ (by decide +kernel)) ggX8_lastGoodVersion_X8_isFile
set_option maxRecDepth 20000 in
theorem ggX8_lastGoodVersion_X8_isGood : GoodIn wsX8_lastGoodVersion wsX8_isGood := goodIn_r _ [16, 4, 17, 18, 19, 8, 20, 21, 22, 23, 24, 25, 26, 27, 28, 29, 30, 31, 32, 33, 34, 35, 36, 37, 38, 39, 40, 41, 42, 43, 44, 45, 46, 47] (by decide +kernel) (by decide +kernel)
set_option maxRecDepth 20000 in
theorem gX8_lastGoodVersion_X8_isGood : GoodIn wsX8_lastGoodVersion (wsV RX8 90 RX8 yX8_isGood wsX8_isGood) := goodIn_app (goodIn_of _ (by decide +kernel)) ggX8_lastGoodVersion_X8_isGood
theorem dX8_lastGoodVersion_0 : decode cX8_lastGoodVersion 0 = .ok (.aload_n 0, 1) := by decide +kernel
theorem dX8_lastGoodVersion_1 : decode cX8_lastGoodVersion 1 = .ok (.iconst 0, 1) := by decide +kernel
theorem dX8_lastGoodVersion_2 : decode cX8_lastGoodVersion 2 = .ok (.putfield 51, 3) := by decide +kernel
theorem dX8_lastGoodVersion_5 : decode cX8_lastGoodVersion 5 = .ok (.aload_n 0, 1) := by decide +kernel
theorem dX8_lastGoodVersion_6 : decode cX8_lastGoodVersion 6 = .ok (.iload_n 1, 1) := by decide +kernel
theorem dX8_lastGoodVersion_7 : decode cX8_lastGoodVersion 7 = .ok (.invokevirtual 228, 3) := by decide +kernel
theorem dX8_lastGoodVersion_10 : decode cX8_lastGoodVersion 10 = .ok (.ifCond .ne 6, 3) := by decide +kernel
theorem dX8_lastGoodVersion_13 : decode cX8_lastGoodVersion 13 = .ok (.ldc 186, 2) := by decide +kernel
theorem dX8_lastGoodVersion_15 : decode cX8_lastGoodVersion 15 = .ok (.ireturn, 1) := by decide +kernel
theorem dX8_lastGoodVersion_16 : decode cX8_lastGoodVersion 16 = .ok (.ldc 42, 2) := by decide +kernel
theorem dX8_lastGoodVersion_18 : decode cX8_lastGoodVersion 18 = .ok (.istore_n 2, 1) := by decide +kernel
theorem dX8_lastGoodVersion_19 : decode cX8_lastGoodVersion 19 = .ok (.iconst 0, 1) := by decide +kernel
theorem dX8_lastGoodVersion_20 : decode cX8_lastGoodVersion 20 = .ok (.istore_n 3, 1) := by decide +kernel
theorem dX8_lastGoodVersion_21 : decode cX8_lastGoodVersion 21 = .ok (.iconst 0, 1) := by decide +kernel
theorem dX8_lastGoodVersion_22 : decode cX8_lastGoodVersion 22 = .ok (.istore 4, 2) := by decide +kernel
theorem dX8_lastGoodVersion_24 : decode cX8_lastGoodVersion 24 = .ok (.iload 4, 2) := by decide +kernel
theorem dX8_lastGoodVersion_26 : decode cX8_lastGoodVersion 26 = .ok (.aload_n 0, 1) := by decide +kernel
theorem dX8_lastGoodVersion_27 : decode cX8_lastGoodVersion 27 = .ok (.getfield 7, 3) := by decide +kernel
theorem dX8_lastGoodVersion_30 : decode cX8_lastGoodVersion 30 = .ok (.bipush 10, 2) := by decide +kernel
theorem dX8_lastGoodVersion_32 : decode cX8_lastGoodVersion 32 = .ok (.iaload, 1) := by decide +kernel
theorem dX8_lastGoodVersion_33 : decode cX8_lastGoodVersion 33 = .ok (.if_icmp .ge 45, 3) := by decide +kernel
theorem dX8_lastGoodVersion_36 : decode cX8_lastGoodVersion 36 = .ok (.aload_n 0, 1) := by decide +kernel
theorem dX8_lastGoodVersion_37 : decode cX8_lastGoodVersion 37 = .ok (.getfield 7, 3) := by decide +kernel
theorem dX8_lastGoodVersion_40 : decode cX8_lastGoodVersion 40 = .ok (.sipush 309, 3) := by decide +kernel
theorem dX8_lastGoodVersion_43 : decode cX8_lastGoodVersion 43 = .ok (.iload 4, 2) := by decide +kernel
theorem dX8_lastGoodVersion_45 : decode cX8_lastGoodVersion 45 = .ok (.iadd, 1) := by decide +kernel
theorem dX8_lastGoodVersion_46 : decode cX8_lastGoodVersion 46 = .ok (.iaload, 1) := by decide +kernel
theorem dX8_lastGoodVersion_47 : decode cX8_lastGoodVersion 47 = .ok (.iload_n 1, 1) := by decide +kernel
theorem dX8_lastGoodVersion_48 : decode cX8_lastGoodVersion 48 = .ok (.if_icmp .eq 6, 3) := by decide +kernel
theorem dX8_lastGoodVersion_51 : decode cX8_lastGoodVersion 51 = .ok (.goto 21, 3) := by decide +kernel
theorem dX8_lastGoodVersion_54 : decode cX8_lastGoodVersion 54 = .ok (.aload_n 0, 1) := by decide +kernel
theorem dX8_lastGoodVersion_55 : decode cX8_lastGoodVersion 55 = .ok (.iload 4, 2) := by decide +kernel
theorem dX8_lastGoodVersion_57 : decode cX8_lastGoodVersion 57 = .ok (.invokevirtual 90, 3) := by decide +kernel
theorem dX8_lastGoodVersion_60 : decode cX8_lastGoodVersion 60 = .ok (.ifCond .eq 7, 3) := by decide +kernel
theorem dX8_lastGoodVersion_63 : decode cX8_lastGoodVersion 63 = .ok (.iload_n 3, 1) := by decide +kernel
theorem dX8_lastGoodVersion_64 : decode cX8_lastGoodVersion 64 = .ok (.goto 4, 3) := by decide +kernel
theorem dX8_lastGoodVersion_67 : decode cX8_lastGoodVersion 67 = .ok (.iload_n 2, 1) := by decide +kernel
theorem dX8_lastGoodVersion_68 : decode cX8_lastGoodVersion 68 = .ok (.istore_n 2, 1) := by decide +kernel
theorem dX8_lastGoodVersion_69 : decode cX8_lastGoodVersion 69 = .ok (.iinc 3 1, 3) := by decide +kernel
theorem dX8_lastGoodVersion_72 : decode cX8_lastGoodVersion 72 = .ok (.iinc 4 1, 3) := by decide +kernel
theorem dX8_lastGoodVersion_75 : decode cX8_lastGoodVersion 75 = .ok (.goto (-51), 3) := by decide +kernel
theorem dX8_lastGoodVersion_78 : decode cX8_lastGoodVersion 78 = .ok (.iload_n 2, 1) := by decide +kernel
theorem dX8_lastGoodVersion_79 : decode cX8_lastGoodVersion 79 = .ok (.ireturn, 1) := by decide +kernel
set_option maxRecDepth 20000 in
theorem ggX8_fileOfSector_X8_isSector : GoodIn wsX8_fileOfSector wsX8_isSector := goodIn_r _ [9, 3, 10, 11, 12, 8, 13, 14, 15, 16, 20, 21, 22, 23, 24, 25, 26, 27, 28, 29, 30, 31, 32, 33, 34, 35, 36, 37, 38, 39, 40, 41, 42, 43, 44, 45, 46] (by decide +kernel) (by decide +kernel)
set_option maxRecDepth 20000 in
theorem gX8_fileOfSector_X8_isSector : GoodIn wsX8_fileOfSector (wsV RX8 209 RX8 yX8_isSector wsX8_isSector) := goodIn_app (goodIn_of _ (by decide +kernel)) ggX8_fileOfSector_X8_isSector
set_option maxRecDepth 20000 in
theorem ggX8_fileOfSector_X8_versionAt : GoodIn wsX8_fileOfSector wsX8_versionAt := goodIn_r _ [19, 14, 15, 8, 16] (by decide +kernel) (by decide +kernel)
set_option maxRecDepth 20000 in
theorem gX8_fileOfSector_X8_versionAt : GoodIn wsX8_fileOfSector (va_wsS RX8 79 yX8_versionAt wsX8_versionAt) := goodIn_app (goodIn_of _ (by decide +kernel)) ggX8_fileOfSector_X8_versionAt
theorem dX8_fileOfSector_0 : decode cX8_fileOfSector 0 = .ok (.aload_n 0, 1) := by decide +kernel
theorem dX8_fileOfSector_1 : decode cX8_fileOfSector 1 = .ok (.iconst 0, 1) := by decide +kernel
theorem dX8_fileOfSector_2 : decode cX8_fileOfSector 2 = .ok (.putfield 51, 3) := by decide +kernel
theorem dX8_fileOfSector_5 : decode cX8_fileOfSector 5 = .ok (.aload_n 0, 1) := by decide +kernel
theorem dX8_fileOfSector_6 : decode cX8_fileOfSector 6 = .ok (.iload_n 1, 1) := by decide +kernel
theorem dX8_fileOfSector_7 : decode cX8_fileOfSector 7 = .ok (.iload_n 2, 1) := by decide +kernel
theorem dX8_fileOfSector_8 : decode cX8_fileOfSector 8 = .ok (.invokevirtual 209, 3) := by decide +kernel
theorem dX8_fileOfSector_11 : decode cX8_fileOfSector 11 = .ok (.ifCond .ne 6, 3) := by decide +kernel
theorem dX8_fileOfSector_14 : decode cX8_fileOfSector 14 = .ok (.ldc 186, 2) := by decide +kernel
theorem dX8_fileOfSector_16 : decode cX8_fileOfSector 16 = .ok (.ireturn, 1) := by decide +kernel
theorem dX8_fileOfSector_17 : decode cX8_fileOfSector 17 = .ok (.aload_n 0, 1) := by decide +kernel
theorem dX8_fileOfSector_18 : decode cX8_fileOfSector 18 = .ok (.getfield 7, 3) := by decide +kernel
theorem dX8_fileOfSector_21 : decode cX8_fileOfSector 21 = .ok (.iload_n 1, 1) := by decide +kernel
theorem dX8_fileOfSector_22 : decode cX8_fileOfSector 22 = .ok (.iload_n 2, 1) := by decide +kernel
theorem dX8_fileOfSector_23 : decode cX8_fileOfSector 23 = .ok (.invokestatic 79, 3) := by decide +kernel
theorem dX8_fileOfSector_26 : decode cX8_fileOfSector 26 = .ok (.istore_n 3, 1) := by decide +kernel
theorem dX8_fileOfSector_27 : decode cX8_fileOfSector 27 = .ok (.iload_n 3, 1) := by decide +kernel
theorem dX8_fileOfSector_28 : decode cX8_fileOfSector 28 = .ok (.iconst (-1), 1) := by decide +kernel
theorem dX8_fileOfSector_29 : decode cX8_fileOfSector 29 = .ok (.if_icmp .ne 8, 3) := by decide +kernel
theorem dX8_fileOfSector_32 : decode cX8_fileOfSector 32 = .ok (.ldc 42, 2) := by decide +kernel
theorem dX8_fileOfSector_34 : decode cX8_fileOfSector 34 = .ok (.goto 13, 3) := by decide +kernel
theorem dX8_fileOfSector_37 : decode cX8_fileOfSector 37 = .ok (.aload_n 0, 1) := by decide +kernel
theorem dX8_fileOfSector_38 : decode cX8_fileOfSector 38 = .ok (.getfield 7, 3) := by decide +kernel
theorem dX8_fileOfSector_41 : decode cX8_fileOfSector 41 = .ok (.sipush 309, 3) := by decide +kernel
theorem dX8_fileOfSector_44 : decode cX8_fileOfSector 44 = .ok (.iload_n 3, 1) := by decide +kernel
theorem dX8_fileOfSector_45 : decode cX8_fileOfSector 45 = .ok (.iadd, 1) := by decide +kernel
theorem dX8_fileOfSector_46 : decode cX8_fileOfSector 46 = .ok (.iaload, 1) := by decide +kernel
theorem dX8_fileOfSector_47 : decode cX8_fileOfSector 47 = .ok (.ireturn, 1) := by decide +kernel
set_option maxRecDepth 20000 in
theorem ggX8_filesOn_X8_isPlatter : GoodIn wsX8_filesOn wsX8_isPlatter := goodIn_r _ [8, 3, 9, 10, 7, 11, 20, 21, 22, 23, 24, 25, 26, 27, 28, 29, 30, 31, 32, 33, 34, 35, 36, 37, 38, 39, 40, 41, 42, 43, 44, 45, 46] (by decide +kernel) (by decide +kernel)
set_option maxRecDepth 20000 in
theorem gX8_filesOn_X8_isPlatter : GoodIn wsX8_filesOn (wsV RX8 61 RX8 yX8_isPlatter wsX8_isPlatter) := goodIn_app (goodIn_of _ (by decide +kernel)) ggX8_filesOn_X8_isPlatter
set_option maxRecDepth 20000 in
theorem ggX8_filesOn_X8_platterOf : GoodIn wsX8_filesOn wsX8_platterOf := goodIn_r _ [15, 3, 16, 17, 18, 7, 19, 20, 21, 22, 23, 24, 25, 26, 27, 28, 29, 30, 31, 32, 33, 34, 35, 36, 37, 38, 39, 40, 41, 42, 43, 44, 45, 46] (by decide +kernel) (by decide +kernel)
set_option maxRecDepth 20000 in
theorem gX8_filesOn_X8_platterOf : GoodIn wsX8_filesOn (wsV RX8 123 RX8 yX8_platterOf wsX8_platterOf) := goodIn_app (goodIn_of _ (by decide +kernel)) ggX8_filesOn_X8_platterOf
theorem dX8_filesOn_0 : decode cX8_filesOn 0 = .ok (.aload_n 0, 1) := by decide +kernel
theorem dX8_filesOn_1 : decode cX8_filesOn 1 = .ok (.iconst 0, 1) := by decide +kernel
theorem dX8_filesOn_2 : decode cX8_filesOn 2 = .ok (.putfield 51, 3) := by decide +kernel
theorem dX8_filesOn_5 : decode cX8_filesOn 5 = .ok (.aload_n 0, 1) := by decide +kernel
theorem dX8_filesOn_6 : decode cX8_filesOn 6 = .ok (.iload_n 1, 1) := by decide +kernel
theorem dX8_filesOn_7 : decode cX8_filesOn 7 = .ok (.invokevirtual 61, 3) := by decide +kernel
theorem dX8_filesOn_10 : decode cX8_filesOn 10 = .ok (.ifCond .ne 6, 3) := by decide +kernel
theorem dX8_filesOn_13 : decode cX8_filesOn 13 = .ok (.ldc 186, 2) := by decide +kernel
theorem dX8_filesOn_15 : decode cX8_filesOn 15 = .ok (.ireturn, 1) := by decide +kernel
theorem dX8_filesOn_16 : decode cX8_filesOn 16 = .ok (.iconst 0, 1) := by decide +kernel
theorem dX8_filesOn_17 : decode cX8_filesOn 17 = .ok (.istore_n 2, 1) := by decide +kernel
theorem dX8_filesOn_18 : decode cX8_filesOn 18 = .ok (.iconst 0, 1) := by decide +kernel
theorem dX8_filesOn_19 : decode cX8_filesOn 19 = .ok (.istore_n 3, 1) := by decide +kernel
theorem dX8_filesOn_20 : decode cX8_filesOn 20 = .ok (.iload_n 3, 1) := by decide +kernel
theorem dX8_filesOn_21 : decode cX8_filesOn 21 = .ok (.aload_n 0, 1) := by decide +kernel
theorem dX8_filesOn_22 : decode cX8_filesOn 22 = .ok (.getfield 7, 3) := by decide +kernel
theorem dX8_filesOn_25 : decode cX8_filesOn 25 = .ok (.bipush 9, 2) := by decide +kernel
theorem dX8_filesOn_27 : decode cX8_filesOn 27 = .ok (.iaload, 1) := by decide +kernel
theorem dX8_filesOn_28 : decode cX8_filesOn 28 = .ok (.if_icmp .ge 26, 3) := by decide +kernel
theorem dX8_filesOn_31 : decode cX8_filesOn 31 = .ok (.iload_n 2, 1) := by decide +kernel
theorem dX8_filesOn_32 : decode cX8_filesOn 32 = .ok (.aload_n 0, 1) := by decide +kernel
theorem dX8_filesOn_33 : decode cX8_filesOn 33 = .ok (.iload_n 3, 1) := by decide +kernel
theorem dX8_filesOn_34 : decode cX8_filesOn 34 = .ok (.invokevirtual 123, 3) := by decide +kernel
theorem dX8_filesOn_37 : decode cX8_filesOn 37 = .ok (.iload_n 1, 1) := by decide +kernel
theorem dX8_filesOn_38 : decode cX8_filesOn 38 = .ok (.if_icmp .ne 7, 3) := by decide +kernel
theorem dX8_filesOn_41 : decode cX8_filesOn 41 = .ok (.iconst 1, 1) := by decide +kernel
theorem dX8_filesOn_42 : decode cX8_filesOn 42 = .ok (.goto 4, 3) := by decide +kernel
theorem dX8_filesOn_45 : decode cX8_filesOn 45 = .ok (.iconst 0, 1) := by decide +kernel
theorem dX8_filesOn_46 : decode cX8_filesOn 46 = .ok (.iadd, 1) := by decide +kernel
theorem dX8_filesOn_47 : decode cX8_filesOn 47 = .ok (.istore_n 2, 1) := by decide +kernel
theorem dX8_filesOn_48 : decode cX8_filesOn 48 = .ok (.iinc 3 1, 3) := by decide +kernel
theorem dX8_filesOn_51 : decode cX8_filesOn 51 = .ok (.goto (-31), 3) := by decide +kernel
theorem dX8_filesOn_54 : decode cX8_filesOn 54 = .ok (.iload_n 2, 1) := by decide +kernel
theorem dX8_filesOn_55 : decode cX8_filesOn 55 = .ok (.ireturn, 1) := by decide +kernel
theorem dX8_took_0 : decode cX8_took 0 = .ok (.aload_n 0, 1) := by decide +kernel
theorem dX8_took_1 : decode cX8_took 1 = .ok (.getfield 7, 3) := by decide +kernel
theorem dX8_took_4 : decode cX8_took 4 = .ok (.bipush 12, 2) := by decide +kernel
theorem dX8_took_6 : decode cX8_took 6 = .ok (.iaload, 1) := by decide +kernel
theorem dX8_took_7 : decode cX8_took 7 = .ok (.iload_n 1, 1) := by decide +kernel
theorem dX8_took_8 : decode cX8_took 8 = .ok (.isub, 1) := by decide +kernel
theorem dX8_took_9 : decode cX8_took 9 = .ok (.ireturn, 1) := by decide +kernel
set_option maxRecDepth 20000 in
theorem ggX8_mount_X8_isPlatter : GoodIn wsX8_mount wsX8_isPlatter := goodIn_r _ [9, 3, 10, 11, 8, 12, 62, 63, 64, 65, 66, 67, 68, 69, 70, 71, 72, 73, 74, 75, 76, 77, 78, 79, 80, 81, 82, 83, 84, 85, 86, 87, 88] (by decide +kernel) (by decide +kernel)
set_option maxRecDepth 20000 in
theorem gX8_mount_X8_isPlatter : GoodIn wsX8_mount (wsV RX8 61 RX8 yX8_isPlatter wsX8_isPlatter) := goodIn_app (goodIn_of _ (by decide +kernel)) ggX8_mount_X8_isPlatter
set_option maxRecDepth 20000 in
theorem ggX8_mount_X8_remembers : GoodIn wsX8_mount wsX8_remembers := goodIn_r _ [16, 17, 18, 3, 62, 63, 64, 65, 66, 67, 68, 69, 70, 71, 72, 73, 74, 75, 76, 77, 78, 79, 80, 81, 82, 83, 84, 85, 86, 87, 88] (by decide +kernel) (by decide +kernel)
set_option maxRecDepth 20000 in
theorem gX8_mount_X8_remembers : GoodIn wsX8_mount (wsV RX8 237 RX8 yX8_remembers wsX8_remembers) := goodIn_app (goodIn_of _ (by decide +kernel)) ggX8_mount_X8_remembers
set_option maxRecDepth 20000 in
theorem ggX8_mount_X8_mounts : GoodIn wsX8_mount wsX8_mounts := goodIn_r _ [22, 23, 24, 25, 8, 26, 27, 28, 29, 30, 3, 31, 32, 33, 34, 35, 36, 37, 38, 39, 40, 41, 42, 43, 44, 45, 46, 47, 48, 49, 50, 51, 52, 53, 54, 55, 56, 57, 62, 63, 64, 65, 66, 67, 68, 69, 70, 71, 72, 73, 74, 75, 76, 77, 78, 79, 80, 81, 82, 83, 84, 85, 86, 87, 88] (by decide +kernel) (by decide +kernel)
set_option maxRecDepth 20000 in
theorem gX8_mount_X8_mounts : GoodIn wsX8_mount (wsV RX8 126 RX8 yX8_mounts wsX8_mounts) := goodIn_app (goodIn_of _ (by decide +kernel)) ggX8_mount_X8_mounts
set_option maxRecDepth 20000 in
theorem ggX8_mount_X8_took : GoodIn wsX8_mount wsX8_took := goodIn_r _ [61, 3, 62, 63, 64, 65, 66, 67, 68, 69, 70, 71, 72, 73, 74, 75, 76, 77, 78, 79, 80, 81, 82, 83, 84, 85, 86, 87, 88] (by decide +kernel) (by decide +kernel)
set_option maxRecDepth 20000 in
theorem gX8_mount_X8_took : GoodIn wsX8_mount (wsV RX8 240 RX8 yX8_took wsX8_took) := goodIn_app (goodIn_of _ (by decide +kernel)) ggX8_mount_X8_took
theorem dX8_mount_0 : decode cX8_mount 0 = .ok (.aload_n 0, 1) := by decide +kernel
theorem dX8_mount_1 : decode cX8_mount 1 = .ok (.iconst 0, 1) := by decide +kernel
theorem dX8_mount_2 : decode cX8_mount 2 = .ok (.putfield 51, 3) := by decide +kernel
theorem dX8_mount_5 : decode cX8_mount 5 = .ok (.aload_n 0, 1) := by decide +kernel
theorem dX8_mount_6 : decode cX8_mount 6 = .ok (.iload_n 1, 1) := by decide +kernel
theorem dX8_mount_7 : decode cX8_mount 7 = .ok (.invokevirtual 61, 3) := by decide +kernel
theorem dX8_mount_10 : decode cX8_mount 10 = .ok (.ifCond .ne 6, 3) := by decide +kernel
theorem dX8_mount_13 : decode cX8_mount 13 = .ok (.ldc 186, 2) := by decide +kernel
theorem dX8_mount_15 : decode cX8_mount 15 = .ok (.ireturn, 1) := by decide +kernel
theorem dX8_mount_16 : decode cX8_mount 16 = .ok (.aload_n 0, 1) := by decide +kernel
theorem dX8_mount_17 : decode cX8_mount 17 = .ok (.getfield 7, 3) := by decide +kernel
theorem dX8_mount_20 : decode cX8_mount 20 = .ok (.bipush 6, 2) := by decide +kernel
theorem dX8_mount_22 : decode cX8_mount 22 = .ok (.iaload, 1) := by decide +kernel
theorem dX8_mount_23 : decode cX8_mount 23 = .ok (.ifCond .ne 6, 3) := by decide +kernel
theorem dX8_mount_26 : decode cX8_mount 26 = .ok (.ldc 177, 2) := by decide +kernel
theorem dX8_mount_28 : decode cX8_mount 28 = .ok (.ireturn, 1) := by decide +kernel
theorem dX8_mount_29 : decode cX8_mount 29 = .ok (.aload_n 0, 1) := by decide +kernel
theorem dX8_mount_30 : decode cX8_mount 30 = .ok (.invokevirtual 237, 3) := by decide +kernel
theorem dX8_mount_33 : decode cX8_mount 33 = .ok (.aload_n 0, 1) := by decide +kernel
theorem dX8_mount_34 : decode cX8_mount 34 = .ok (.getfield 7, 3) := by decide +kernel
theorem dX8_mount_37 : decode cX8_mount 37 = .ok (.bipush 12, 2) := by decide +kernel
theorem dX8_mount_39 : decode cX8_mount 39 = .ok (.iaload, 1) := by decide +kernel
theorem dX8_mount_40 : decode cX8_mount 40 = .ok (.istore_n 2, 1) := by decide +kernel
theorem dX8_mount_41 : decode cX8_mount 41 = .ok (.aload_n 0, 1) := by decide +kernel
theorem dX8_mount_42 : decode cX8_mount 42 = .ok (.iload_n 1, 1) := by decide +kernel
theorem dX8_mount_43 : decode cX8_mount 43 = .ok (.invokevirtual 126, 3) := by decide +kernel
theorem dX8_mount_46 : decode cX8_mount 46 = .ok (.pop, 1) := by decide +kernel
theorem dX8_mount_47 : decode cX8_mount 47 = .ok (.aload_n 0, 1) := by decide +kernel
theorem dX8_mount_48 : decode cX8_mount 48 = .ok (.iload_n 2, 1) := by decide +kernel
theorem dX8_mount_49 : decode cX8_mount 49 = .ok (.invokevirtual 240, 3) := by decide +kernel
theorem dX8_mount_52 : decode cX8_mount 52 = .ok (.ireturn, 1) := by decide +kernel
set_option maxRecDepth 20000 in
theorem ggX8_eject_X8_isDrive : GoodIn wsX8_eject wsX8_isDrive := goodIn_r _ [9, 3, 10, 11, 8, 12, 38, 39, 40, 41, 42, 43, 44, 45, 46, 47, 48, 49, 50, 51, 52, 53, 54, 55, 56, 57, 58, 59, 60, 61, 62, 63, 64] (by decide +kernel) (by decide +kernel)
set_option maxRecDepth 20000 in
theorem gX8_eject_X8_isDrive : GoodIn wsX8_eject (wsV RX8 193 RX8 yX8_isDrive wsX8_isDrive) := goodIn_app (goodIn_of _ (by decide +kernel)) ggX8_eject_X8_isDrive
set_option maxRecDepth 20000 in
theorem ggX8_eject_X8_remembers : GoodIn wsX8_eject wsX8_remembers := goodIn_r _ [16, 17, 18, 3, 38, 39, 40, 41, 42, 43, 44, 45, 46, 47, 48, 49, 50, 51, 52, 53, 54, 55, 56, 57, 58, 59, 60, 61, 62, 63, 64] (by decide +kernel) (by decide +kernel)
set_option maxRecDepth 20000 in
theorem gX8_eject_X8_remembers : GoodIn wsX8_eject (wsV RX8 237 RX8 yX8_remembers wsX8_remembers) := goodIn_app (goodIn_of _ (by decide +kernel)) ggX8_eject_X8_remembers
set_option maxRecDepth 20000 in
theorem ggX8_eject_X8_empties : GoodIn wsX8_eject wsX8_empties := goodIn_r _ [22, 3, 23, 24, 25, 8, 26, 27, 28, 29, 30, 31, 32, 33, 38, 39, 40, 41, 42, 43, 44, 45, 46, 47, 48, 49, 50, 51, 52, 53, 54, 55, 56, 57, 58, 59, 60, 61, 62, 63, 64] (by decide +kernel) (by decide +kernel)
set_option maxRecDepth 20000 in
theorem gX8_eject_X8_empties : GoodIn wsX8_eject (wsV RX8 103 RX8 yX8_empties wsX8_empties) := goodIn_app (goodIn_of _ (by decide +kernel)) ggX8_eject_X8_empties
set_option maxRecDepth 20000 in
theorem ggX8_eject_X8_took : GoodIn wsX8_eject wsX8_took := goodIn_r _ [37, 3, 38, 39, 40, 41, 42, 43, 44, 45, 46, 47, 48, 49, 50, 51, 52, 53, 54, 55, 56, 57, 58, 59, 60, 61, 62, 63, 64] (by decide +kernel) (by decide +kernel)
set_option maxRecDepth 20000 in
theorem gX8_eject_X8_took : GoodIn wsX8_eject (wsV RX8 240 RX8 yX8_took wsX8_took) := goodIn_app (goodIn_of _ (by decide +kernel)) ggX8_eject_X8_took
theorem dX8_eject_0 : decode cX8_eject 0 = .ok (.aload_n 0, 1) := by decide +kernel
theorem dX8_eject_1 : decode cX8_eject 1 = .ok (.iconst 0, 1) := by decide +kernel
theorem dX8_eject_2 : decode cX8_eject 2 = .ok (.putfield 51, 3) := by decide +kernel
theorem dX8_eject_5 : decode cX8_eject 5 = .ok (.aload_n 0, 1) := by decide +kernel
theorem dX8_eject_6 : decode cX8_eject 6 = .ok (.iload_n 1, 1) := by decide +kernel
theorem dX8_eject_7 : decode cX8_eject 7 = .ok (.invokevirtual 193, 3) := by decide +kernel
theorem dX8_eject_10 : decode cX8_eject 10 = .ok (.ifCond .ne 6, 3) := by decide +kernel
theorem dX8_eject_13 : decode cX8_eject 13 = .ok (.ldc 186, 2) := by decide +kernel
theorem dX8_eject_15 : decode cX8_eject 15 = .ok (.ireturn, 1) := by decide +kernel
theorem dX8_eject_16 : decode cX8_eject 16 = .ok (.aload_n 0, 1) := by decide +kernel
theorem dX8_eject_17 : decode cX8_eject 17 = .ok (.getfield 7, 3) := by decide +kernel
theorem dX8_eject_20 : decode cX8_eject 20 = .ok (.bipush 21, 2) := by decide +kernel
theorem dX8_eject_22 : decode cX8_eject 22 = .ok (.iload_n 1, 1) := by decide +kernel
theorem dX8_eject_23 : decode cX8_eject 23 = .ok (.iadd, 1) := by decide +kernel
theorem dX8_eject_24 : decode cX8_eject 24 = .ok (.iaload, 1) := by decide +kernel
theorem dX8_eject_25 : decode cX8_eject 25 = .ok (.iconst (-1), 1) := by decide +kernel
theorem dX8_eject_26 : decode cX8_eject 26 = .ok (.if_icmp .ne 6, 3) := by decide +kernel
theorem dX8_eject_29 : decode cX8_eject 29 = .ok (.ldc 42, 2) := by decide +kernel
theorem dX8_eject_31 : decode cX8_eject 31 = .ok (.ireturn, 1) := by decide +kernel
theorem dX8_eject_32 : decode cX8_eject 32 = .ok (.aload_n 0, 1) := by decide +kernel
theorem dX8_eject_33 : decode cX8_eject 33 = .ok (.invokevirtual 237, 3) := by decide +kernel
theorem dX8_eject_36 : decode cX8_eject 36 = .ok (.aload_n 0, 1) := by decide +kernel
theorem dX8_eject_37 : decode cX8_eject 37 = .ok (.getfield 7, 3) := by decide +kernel
theorem dX8_eject_40 : decode cX8_eject 40 = .ok (.bipush 12, 2) := by decide +kernel
theorem dX8_eject_42 : decode cX8_eject 42 = .ok (.iaload, 1) := by decide +kernel
theorem dX8_eject_43 : decode cX8_eject 43 = .ok (.istore_n 2, 1) := by decide +kernel
theorem dX8_eject_44 : decode cX8_eject 44 = .ok (.aload_n 0, 1) := by decide +kernel
theorem dX8_eject_45 : decode cX8_eject 45 = .ok (.iload_n 1, 1) := by decide +kernel
theorem dX8_eject_46 : decode cX8_eject 46 = .ok (.invokevirtual 103, 3) := by decide +kernel
theorem dX8_eject_49 : decode cX8_eject 49 = .ok (.aload_n 0, 1) := by decide +kernel
theorem dX8_eject_50 : decode cX8_eject 50 = .ok (.iload_n 2, 1) := by decide +kernel
theorem dX8_eject_51 : decode cX8_eject 51 = .ok (.invokevirtual 240, 3) := by decide +kernel
theorem dX8_eject_54 : decode cX8_eject 54 = .ok (.ireturn, 1) := by decide +kernel
set_option maxRecDepth 20000 in
theorem ggX8_read_X8_whyNotRead : GoodIn wsX8_read wsX8_whyNotRead := goodIn_r _ [7, 8, 2, 9, 10, 11, 12, 13, 6, 14, 15, 16, 17, 18, 19, 20, 21, 22, 23, 24, 25, 26, 27, 28, 29, 30, 31, 32, 33, 91, 92, 93, 94, 95, 96, 97, 98, 99, 100, 101, 102, 103, 104, 105, 106, 107, 108, 109, 110, 111, 112, 113, 114, 115, 116, 117] (by decide +kernel) (by decide +kernel)
set_option maxRecDepth 20000 in
theorem gX8_read_X8_whyNotRead : GoodIn wsX8_read (wsV RX8 234 RX8 yX8_whyNotRead wsX8_whyNotRead) := goodIn_app (goodIn_of _ (by decide +kernel)) ggX8_read_X8_whyNotRead
set_option maxRecDepth 20000 in
theorem ggX8_read_X8_remembers : GoodIn wsX8_read wsX8_remembers := goodIn_r _ [37, 38, 39, 2, 91, 92, 93, 94, 95, 96, 97, 98, 99, 100, 101, 102, 103, 104, 105, 106, 107, 108, 109, 110, 111, 112, 113, 114, 115, 116, 117] (by decide +kernel) (by decide +kernel)
set_option maxRecDepth 20000 in
theorem gX8_read_X8_remembers : GoodIn wsX8_read (wsV RX8 237 RX8 yX8_remembers wsX8_remembers) := goodIn_app (goodIn_of _ (by decide +kernel)) ggX8_read_X8_remembers
set_option maxRecDepth 20000 in
theorem ggX8_read_X8_reads : GoodIn wsX8_read wsX8_reads := goodIn_r _ [43, 2, 44, 45, 46, 6, 47, 22, 23, 24, 25, 48, 49, 50, 51, 52, 53, 54, 55, 56, 57, 58, 59, 60, 61, 62, 63, 64, 65, 66, 67, 68, 69, 70, 71, 72, 73, 74, 75, 76, 77, 78, 79, 80, 81, 82, 83, 84, 85, 86, 91, 92, 93, 94, 95, 96, 97, 98, 99, 100, 101, 102, 103, 104, 105, 106, 107, 108, 109, 110, 111, 112, 113, 114, 115, 116, 117] (by decide +kernel) (by decide +kernel)
set_option maxRecDepth 20000 in
theorem gX8_read_X8_reads : GoodIn wsX8_read (wsV RX8 162 RX8 yX8_reads wsX8_reads) := goodIn_app (goodIn_of _ (by decide +kernel)) ggX8_read_X8_reads
set_option maxRecDepth 20000 in
theorem ggX8_read_X8_took : GoodIn wsX8_read wsX8_took := goodIn_r _ [90, 2, 91, 92, 93, 94, 95, 96, 97, 98, 99, 100, 101, 102, 103, 104, 105, 106, 107, 108, 109, 110, 111, 112, 113, 114, 115, 116, 117] (by decide +kernel) (by decide +kernel)
set_option maxRecDepth 20000 in
theorem gX8_read_X8_took : GoodIn wsX8_read (wsV RX8 240 RX8 yX8_took wsX8_took) := goodIn_app (goodIn_of _ (by decide +kernel)) ggX8_read_X8_took
theorem dX8_read_0 : decode cX8_read 0 = .ok (.aload_n 0, 1) := by decide +kernel
theorem dX8_read_1 : decode cX8_read 1 = .ok (.iconst 0, 1) := by decide +kernel
theorem dX8_read_2 : decode cX8_read 2 = .ok (.putfield 51, 3) := by decide +kernel
theorem dX8_read_5 : decode cX8_read 5 = .ok (.aload_n 0, 1) := by decide +kernel
theorem dX8_read_6 : decode cX8_read 6 = .ok (.iload_n 1, 1) := by decide +kernel
theorem dX8_read_7 : decode cX8_read 7 = .ok (.invokevirtual 234, 3) := by decide +kernel
theorem dX8_read_10 : decode cX8_read 10 = .ok (.istore_n 2, 1) := by decide +kernel
theorem dX8_read_11 : decode cX8_read 11 = .ok (.iload_n 2, 1) := by decide +kernel
theorem dX8_read_12 : decode cX8_read 12 = .ok (.ifCond .eq 5, 3) := by decide +kernel
theorem dX8_read_15 : decode cX8_read 15 = .ok (.iload_n 2, 1) := by decide +kernel
theorem dX8_read_16 : decode cX8_read 16 = .ok (.ireturn, 1) := by decide +kernel
theorem dX8_read_17 : decode cX8_read 17 = .ok (.aload_n 0, 1) := by decide +kernel
theorem dX8_read_18 : decode cX8_read 18 = .ok (.invokevirtual 237, 3) := by decide +kernel
theorem dX8_read_21 : decode cX8_read 21 = .ok (.aload_n 0, 1) := by decide +kernel
theorem dX8_read_22 : decode cX8_read 22 = .ok (.getfield 7, 3) := by decide +kernel
theorem dX8_read_25 : decode cX8_read 25 = .ok (.bipush 12, 2) := by decide +kernel
theorem dX8_read_27 : decode cX8_read 27 = .ok (.iaload, 1) := by decide +kernel
theorem dX8_read_28 : decode cX8_read 28 = .ok (.istore_n 3, 1) := by decide +kernel
theorem dX8_read_29 : decode cX8_read 29 = .ok (.aload_n 0, 1) := by decide +kernel
theorem dX8_read_30 : decode cX8_read 30 = .ok (.iload_n 1, 1) := by decide +kernel
theorem dX8_read_31 : decode cX8_read 31 = .ok (.invokevirtual 162, 3) := by decide +kernel
theorem dX8_read_34 : decode cX8_read 34 = .ok (.aload_n 0, 1) := by decide +kernel
theorem dX8_read_35 : decode cX8_read 35 = .ok (.iload_n 3, 1) := by decide +kernel
theorem dX8_read_36 : decode cX8_read 36 = .ok (.invokevirtual 240, 3) := by decide +kernel
theorem dX8_read_39 : decode cX8_read 39 = .ok (.ireturn, 1) := by decide +kernel
set_option maxRecDepth 20000 in
theorem ggX8_whyNotWritten_X8_isPlatter : GoodIn wsX8_whyNotWritten wsX8_isPlatter := goodIn_r _ [12, 5, 13, 14, 11, 15, 22, 23, 24, 25, 26, 27, 28, 29, 30, 31, 32, 33, 34, 35, 36, 37, 38, 39, 40, 41, 42, 43, 44, 45, 46, 47, 48] (by decide +kernel) (by decide +kernel)
set_option maxRecDepth 20000 in
theorem gX8_whyNotWritten_X8_isPlatter : GoodIn wsX8_whyNotWritten (wsV RX8 61 RX8 yX8_isPlatter wsX8_isPlatter) := goodIn_app (goodIn_of _ (by decide +kernel)) ggX8_whyNotWritten_X8_isPlatter
set_option maxRecDepth 20000 in
theorem ggX8_whyNotWritten_X8_isIn : GoodIn wsX8_whyNotWritten wsX8_isIn := goodIn_r _ [15] (by decide +kernel) (by decide +kernel)
set_option maxRecDepth 20000 in
theorem gX8_whyNotWritten_X8_isIn : GoodIn wsX8_whyNotWritten (va_wsS RX8 57 yX8_isIn wsX8_isIn) := goodIn_app (goodIn_of _ (by decide +kernel)) ggX8_whyNotWritten_X8_isIn
set_option maxRecDepth 20000 in
theorem ggX8_whyNotWritten_X8_canWrite : GoodIn wsX8_whyNotWritten wsX8_canWrite := goodIn_r _ [18, 19, 20, 11, 21, 13, 14, 15] (by decide +kernel) (by decide +kernel)
set_option maxRecDepth 20000 in
theorem gX8_whyNotWritten_X8_canWrite : GoodIn wsX8_whyNotWritten (va_wsS RX8 225 yX8_canWrite wsX8_canWrite) := goodIn_app (goodIn_of _ (by decide +kernel)) ggX8_whyNotWritten_X8_canWrite
theorem dX8_whyNotWritten_0 : decode cX8_whyNotWritten 0 = .ok (.aload_n 0, 1) := by decide +kernel
theorem dX8_whyNotWritten_1 : decode cX8_whyNotWritten 1 = .ok (.iload_n 2, 1) := by decide +kernel
theorem dX8_whyNotWritten_2 : decode cX8_whyNotWritten 2 = .ok (.invokevirtual 61, 3) := by decide +kernel
theorem dX8_whyNotWritten_5 : decode cX8_whyNotWritten 5 = .ok (.ifCond .ne 6, 3) := by decide +kernel
theorem dX8_whyNotWritten_8 : decode cX8_whyNotWritten 8 = .ok (.ldc 186, 2) := by decide +kernel
theorem dX8_whyNotWritten_10 : decode cX8_whyNotWritten 10 = .ok (.ireturn, 1) := by decide +kernel
theorem dX8_whyNotWritten_11 : decode cX8_whyNotWritten 11 = .ok (.iload_n 1, 1) := by decide +kernel
theorem dX8_whyNotWritten_12 : decode cX8_whyNotWritten 12 = .ok (.i2l, 1) := by decide +kernel
theorem dX8_whyNotWritten_13 : decode cX8_whyNotWritten 13 = .ok (.lconst 1, 1) := by decide +kernel
theorem dX8_whyNotWritten_14 : decode cX8_whyNotWritten 14 = .ok (.ldc2_w 222, 3) := by decide +kernel
theorem dX8_whyNotWritten_17 : decode cX8_whyNotWritten 17 = .ok (.invokestatic 57, 3) := by decide +kernel
theorem dX8_whyNotWritten_20 : decode cX8_whyNotWritten 20 = .ok (.ifCond .ne 6, 3) := by decide +kernel
theorem dX8_whyNotWritten_23 : decode cX8_whyNotWritten 23 = .ok (.ldc 224, 2) := by decide +kernel
theorem dX8_whyNotWritten_25 : decode cX8_whyNotWritten 25 = .ok (.ireturn, 1) := by decide +kernel
theorem dX8_whyNotWritten_26 : decode cX8_whyNotWritten 26 = .ok (.iload_n 3, 1) := by decide +kernel
theorem dX8_whyNotWritten_27 : decode cX8_whyNotWritten 27 = .ok (.ifCond .eq 6, 3) := by decide +kernel
theorem dX8_whyNotWritten_30 : decode cX8_whyNotWritten 30 = .ok (.ldc 243, 2) := by decide +kernel
theorem dX8_whyNotWritten_32 : decode cX8_whyNotWritten 32 = .ok (.ireturn, 1) := by decide +kernel
