theorem dX4_putTimes_0 : decode cX4_putTimes 0 = .ok (.aload_n 0, 1) := by decide +kernel
theorem dX4_putTimes_1 : decode cX4_putTimes 1 = .ok (.getfield 9, 3) := by decide +kernel
theorem dX4_putTimes_4 : decode cX4_putTimes 4 = .ok (.iconst 0, 1) := by decide +kernel
theorem dX4_putTimes_5 : decode cX4_putTimes 5 = .ok (.iload_n 1, 1) := by decide +kernel
theorem dX4_putTimes_6 : decode cX4_putTimes 6 = .ok (.iastore, 1) := by decide +kernel
theorem dX4_putTimes_7 : decode cX4_putTimes 7 = .ok (.aload_n 0, 1) := by decide +kernel
theorem dX4_putTimes_8 : decode cX4_putTimes 8 = .ok (.getfield 9, 3) := by decide +kernel
theorem dX4_putTimes_11 : decode cX4_putTimes 11 = .ok (.iconst 1, 1) := by decide +kernel
theorem dX4_putTimes_12 : decode cX4_putTimes 12 = .ok (.iload_n 2, 1) := by decide +kernel
theorem dX4_putTimes_13 : decode cX4_putTimes 13 = .ok (.iastore, 1) := by decide +kernel
theorem dX4_putTimes_14 : decode cX4_putTimes 14 = .ok (.aload_n 0, 1) := by decide +kernel
theorem dX4_putTimes_15 : decode cX4_putTimes 15 = .ok (.getfield 9, 3) := by decide +kernel
theorem dX4_putTimes_18 : decode cX4_putTimes 18 = .ok (.iconst 2, 1) := by decide +kernel
theorem dX4_putTimes_19 : decode cX4_putTimes 19 = .ok (.iload_n 3, 1) := by decide +kernel
theorem dX4_putTimes_20 : decode cX4_putTimes 20 = .ok (.iastore, 1) := by decide +kernel
theorem dX4_putTimes_21 : decode cX4_putTimes 21 = .ok (.aload_n 0, 1) := by decide +kernel
theorem dX4_putTimes_22 : decode cX4_putTimes 22 = .ok (.getfield 9, 3) := by decide +kernel
theorem dX4_putTimes_25 : decode cX4_putTimes 25 = .ok (.iconst 3, 1) := by decide +kernel
theorem dX4_putTimes_26 : decode cX4_putTimes 26 = .ok (.iload 4, 2) := by decide +kernel
theorem dX4_putTimes_28 : decode cX4_putTimes 28 = .ok (.iastore, 1) := by decide +kernel
theorem dX4_putTimes_29 : decode cX4_putTimes 29 = .ok (.aload_n 0, 1) := by decide +kernel
theorem dX4_putTimes_30 : decode cX4_putTimes 30 = .ok (.getfield 9, 3) := by decide +kernel
theorem dX4_putTimes_33 : decode cX4_putTimes 33 = .ok (.iconst 4, 1) := by decide +kernel
theorem dX4_putTimes_34 : decode cX4_putTimes 34 = .ok (.iload 5, 2) := by decide +kernel
theorem dX4_putTimes_36 : decode cX4_putTimes 36 = .ok (.iastore, 1) := by decide +kernel
theorem dX4_putTimes_37 : decode cX4_putTimes 37 = .ok (.return_, 1) := by decide +kernel
set_option maxRecDepth 20000 in
theorem ggX4_beginEmpty_X4_putTimes : GoodIn wsX4_beginEmpty wsX4_putTimes := goodIn_r _ [17, 18, 19, 20, 21, 22, 23, 24, 25, 26, 27, 28, 29, 30, 31, 32, 33, 34, 35, 36] (by decide +kernel) (by decide +kernel)
set_option maxRecDepth 20000 in
theorem gX4_beginEmpty_X4_putTimes : GoodIn wsX4_beginEmpty (wsV RX4 49 RX4 yX4_putTimes wsX4_putTimes) := goodIn_app (goodIn_of _ (by decide +kernel)) ggX4_beginEmpty_X4_putTimes
theorem dX4_beginEmpty_0 : decode cX4_beginEmpty 0 = .ok (.aload_n 0, 1) := by decide +kernel
theorem dX4_beginEmpty_1 : decode cX4_beginEmpty 1 = .ok (.bipush 12, 2) := by decide +kernel
theorem dX4_beginEmpty_3 : decode cX4_beginEmpty 3 = .ok (.putfield 45, 3) := by decide +kernel
theorem dX4_beginEmpty_6 : decode cX4_beginEmpty 6 = .ok (.aload_n 0, 1) := by decide +kernel
theorem dX4_beginEmpty_7 : decode cX4_beginEmpty 7 = .ok (.iconst 1, 1) := by decide +kernel
theorem dX4_beginEmpty_8 : decode cX4_beginEmpty 8 = .ok (.iconst 2, 1) := by decide +kernel
theorem dX4_beginEmpty_9 : decode cX4_beginEmpty 9 = .ok (.iconst 5, 1) := by decide +kernel
theorem dX4_beginEmpty_10 : decode cX4_beginEmpty 10 = .ok (.iconst 1, 1) := by decide +kernel
theorem dX4_beginEmpty_11 : decode cX4_beginEmpty 11 = .ok (.iconst 3, 1) := by decide +kernel
theorem dX4_beginEmpty_12 : decode cX4_beginEmpty 12 = .ok (.invokevirtual 49, 3) := by decide +kernel
theorem dX4_beginEmpty_15 : decode cX4_beginEmpty 15 = .ok (.aload_n 0, 1) := by decide +kernel
theorem dX4_beginEmpty_16 : decode cX4_beginEmpty 16 = .ok (.iconst 0, 1) := by decide +kernel
theorem dX4_beginEmpty_17 : decode cX4_beginEmpty 17 = .ok (.putfield 53, 3) := by decide +kernel
theorem dX4_beginEmpty_20 : decode cX4_beginEmpty 20 = .ok (.aload_n 0, 1) := by decide +kernel
theorem dX4_beginEmpty_21 : decode cX4_beginEmpty 21 = .ok (.iconst 0, 1) := by decide +kernel
theorem dX4_beginEmpty_22 : decode cX4_beginEmpty 22 = .ok (.putfield 56, 3) := by decide +kernel
theorem dX4_beginEmpty_25 : decode cX4_beginEmpty 25 = .ok (.aload_n 0, 1) := by decide +kernel
theorem dX4_beginEmpty_26 : decode cX4_beginEmpty 26 = .ok (.iconst 0, 1) := by decide +kernel
theorem dX4_beginEmpty_27 : decode cX4_beginEmpty 27 = .ok (.putfield 59, 3) := by decide +kernel
theorem dX4_beginEmpty_30 : decode cX4_beginEmpty 30 = .ok (.aload_n 0, 1) := by decide +kernel
theorem dX4_beginEmpty_31 : decode cX4_beginEmpty 31 = .ok (.iconst 0, 1) := by decide +kernel
theorem dX4_beginEmpty_32 : decode cX4_beginEmpty 32 = .ok (.putfield 62, 3) := by decide +kernel
theorem dX4_beginEmpty_35 : decode cX4_beginEmpty 35 = .ok (.aload_n 0, 1) := by decide +kernel
theorem dX4_beginEmpty_36 : decode cX4_beginEmpty 36 = .ok (.iconst 0, 1) := by decide +kernel
theorem dX4_beginEmpty_37 : decode cX4_beginEmpty 37 = .ok (.putfield 65, 3) := by decide +kernel
theorem dX4_beginEmpty_40 : decode cX4_beginEmpty 40 = .ok (.aload_n 0, 1) := by decide +kernel
theorem dX4_beginEmpty_41 : decode cX4_beginEmpty 41 = .ok (.iconst 0, 1) := by decide +kernel
theorem dX4_beginEmpty_42 : decode cX4_beginEmpty 42 = .ok (.putfield 68, 3) := by decide +kernel
theorem dX4_beginEmpty_45 : decode cX4_beginEmpty 45 = .ok (.aload_n 0, 1) := by decide +kernel
theorem dX4_beginEmpty_46 : decode cX4_beginEmpty 46 = .ok (.iconst 0, 1) := by decide +kernel
theorem dX4_beginEmpty_47 : decode cX4_beginEmpty 47 = .ok (.putfield 71, 3) := by decide +kernel
theorem dX4_beginEmpty_50 : decode cX4_beginEmpty 50 = .ok (.aload_n 0, 1) := by decide +kernel
theorem dX4_beginEmpty_51 : decode cX4_beginEmpty 51 = .ok (.iconst 0, 1) := by decide +kernel
theorem dX4_beginEmpty_52 : decode cX4_beginEmpty 52 = .ok (.putfield 74, 3) := by decide +kernel
theorem dX4_beginEmpty_55 : decode cX4_beginEmpty 55 = .ok (.aload_n 0, 1) := by decide +kernel
theorem dX4_beginEmpty_56 : decode cX4_beginEmpty 56 = .ok (.iconst 0, 1) := by decide +kernel
theorem dX4_beginEmpty_57 : decode cX4_beginEmpty 57 = .ok (.putfield 77, 3) := by decide +kernel
theorem dX4_beginEmpty_60 : decode cX4_beginEmpty 60 = .ok (.aload_n 0, 1) := by decide +kernel
theorem dX4_beginEmpty_61 : decode cX4_beginEmpty 61 = .ok (.iconst 0, 1) := by decide +kernel
theorem dX4_beginEmpty_62 : decode cX4_beginEmpty 62 = .ok (.putfield 80, 3) := by decide +kernel
theorem dX4_beginEmpty_65 : decode cX4_beginEmpty 65 = .ok (.aload_n 0, 1) := by decide +kernel
theorem dX4_beginEmpty_66 : decode cX4_beginEmpty 66 = .ok (.iconst 0, 1) := by decide +kernel
theorem dX4_beginEmpty_67 : decode cX4_beginEmpty 67 = .ok (.putfield 83, 3) := by decide +kernel
theorem dX4_beginEmpty_70 : decode cX4_beginEmpty 70 = .ok (.return_, 1) := by decide +kernel
set_option maxRecDepth 20000 in
theorem ggX4_copyFrom_X0_copyFrom : GoodIn wsX4_copyFrom wsX0_copyFrom := goodIn_r _ [27, 28, 29, 30, 76, 77, 78] (by decide +kernel) (by decide +kernel)
set_option maxRecDepth 20000 in
theorem gX4_copyFrom_X0_copyFrom : GoodIn wsX4_copyFrom (wsV RX4 92 RX0 yX0_copyFrom wsX0_copyFrom) := goodIn_app (goodIn_of _ (by decide +kernel)) ggX4_copyFrom_X0_copyFrom
set_option maxRecDepth 20000 in
theorem ggX4_copyFrom_X3_copyFrom : GoodIn wsX4_copyFrom wsX3_copyFrom := goodIn_r _ [35, 36, 37, 38, 39, 40, 41, 42, 43, 4, 5, 6, 44, 45, 79, 80, 81, 82, 83, 84, 85, 86, 87] (by decide +kernel) (by decide +kernel)
set_option maxRecDepth 20000 in
theorem gX4_copyFrom_X3_copyFrom : GoodIn wsX4_copyFrom (wsV RX4 96 RX3 yX3_copyFrom wsX3_copyFrom) := goodIn_app (goodIn_of _ (by decide +kernel)) ggX4_copyFrom_X3_copyFrom
set_option maxRecDepth 20000 in
theorem ggX4_copyFrom_X6_copyFrom : GoodIn wsX4_copyFrom wsX6_copyFrom := goodIn_r _ [50, 51, 52, 53, 54, 55, 56, 57, 88, 89, 90, 91, 92, 93, 94] (by decide +kernel) (by decide +kernel)
set_option maxRecDepth 20000 in
theorem gX4_copyFrom_X6_copyFrom : GoodIn wsX4_copyFrom (wsV RX4 99 RX6 yX6_copyFrom wsX6_copyFrom) := goodIn_app (goodIn_of _ (by decide +kernel)) ggX4_copyFrom_X6_copyFrom
theorem dX4_copyFrom_0 : decode cX4_copyFrom 0 = .ok (.aload_n 0, 1) := by decide +kernel
theorem dX4_copyFrom_1 : decode cX4_copyFrom 1 = .ok (.aload_n 1, 1) := by decide +kernel
theorem dX4_copyFrom_2 : decode cX4_copyFrom 2 = .ok (.getfield 45, 3) := by decide +kernel
theorem dX4_copyFrom_5 : decode cX4_copyFrom 5 = .ok (.putfield 45, 3) := by decide +kernel
theorem dX4_copyFrom_8 : decode cX4_copyFrom 8 = .ok (.aload_n 1, 1) := by decide +kernel
theorem dX4_copyFrom_9 : decode cX4_copyFrom 9 = .ok (.getfield 9, 3) := by decide +kernel
theorem dX4_copyFrom_12 : decode cX4_copyFrom 12 = .ok (.iconst 0, 1) := by decide +kernel
theorem dX4_copyFrom_13 : decode cX4_copyFrom 13 = .ok (.aload_n 0, 1) := by decide +kernel
theorem dX4_copyFrom_14 : decode cX4_copyFrom 14 = .ok (.getfield 9, 3) := by decide +kernel
theorem dX4_copyFrom_17 : decode cX4_copyFrom 17 = .ok (.iconst 0, 1) := by decide +kernel
theorem dX4_copyFrom_18 : decode cX4_copyFrom 18 = .ok (.iconst 5, 1) := by decide +kernel
theorem dX4_copyFrom_19 : decode cX4_copyFrom 19 = .ok (.invokestatic 86, 3) := by decide +kernel
theorem dX4_copyFrom_22 : decode cX4_copyFrom 22 = .ok (.aload_n 0, 1) := by decide +kernel
theorem dX4_copyFrom_23 : decode cX4_copyFrom 23 = .ok (.aload_n 1, 1) := by decide +kernel
theorem dX4_copyFrom_24 : decode cX4_copyFrom 24 = .ok (.getfield 53, 3) := by decide +kernel
theorem dX4_copyFrom_27 : decode cX4_copyFrom 27 = .ok (.putfield 53, 3) := by decide +kernel
theorem dX4_copyFrom_30 : decode cX4_copyFrom 30 = .ok (.iconst 0, 1) := by decide +kernel
theorem dX4_copyFrom_31 : decode cX4_copyFrom 31 = .ok (.istore_n 2, 1) := by decide +kernel
theorem dX4_copyFrom_32 : decode cX4_copyFrom 32 = .ok (.iload_n 2, 1) := by decide +kernel
theorem dX4_copyFrom_33 : decode cX4_copyFrom 33 = .ok (.aload_n 0, 1) := by decide +kernel
theorem dX4_copyFrom_34 : decode cX4_copyFrom 34 = .ok (.getfield 53, 3) := by decide +kernel
theorem dX4_copyFrom_37 : decode cX4_copyFrom 37 = .ok (.if_icmp .ge 24, 3) := by decide +kernel
theorem dX4_copyFrom_40 : decode cX4_copyFrom 40 = .ok (.aload_n 0, 1) := by decide +kernel
theorem dX4_copyFrom_41 : decode cX4_copyFrom 41 = .ok (.getfield 17, 3) := by decide +kernel
theorem dX4_copyFrom_44 : decode cX4_copyFrom 44 = .ok (.iload_n 2, 1) := by decide +kernel
theorem dX4_copyFrom_45 : decode cX4_copyFrom 45 = .ok (.aaload, 1) := by decide +kernel
theorem dX4_copyFrom_46 : decode cX4_copyFrom 46 = .ok (.aload_n 1, 1) := by decide +kernel
theorem dX4_copyFrom_47 : decode cX4_copyFrom 47 = .ok (.getfield 17, 3) := by decide +kernel
theorem dX4_copyFrom_50 : decode cX4_copyFrom 50 = .ok (.iload_n 2, 1) := by decide +kernel
theorem dX4_copyFrom_51 : decode cX4_copyFrom 51 = .ok (.aaload, 1) := by decide +kernel
theorem dX4_copyFrom_52 : decode cX4_copyFrom 52 = .ok (.invokevirtual 92, 3) := by decide +kernel
theorem dX4_copyFrom_55 : decode cX4_copyFrom 55 = .ok (.iinc 2 1, 3) := by decide +kernel
theorem dX4_copyFrom_58 : decode cX4_copyFrom 58 = .ok (.goto (-26), 3) := by decide +kernel
theorem dX4_copyFrom_61 : decode cX4_copyFrom 61 = .ok (.aload_n 0, 1) := by decide +kernel
theorem dX4_copyFrom_62 : decode cX4_copyFrom 62 = .ok (.aload_n 1, 1) := by decide +kernel
theorem dX4_copyFrom_63 : decode cX4_copyFrom 63 = .ok (.getfield 56, 3) := by decide +kernel
theorem dX4_copyFrom_66 : decode cX4_copyFrom 66 = .ok (.putfield 56, 3) := by decide +kernel
theorem dX4_copyFrom_69 : decode cX4_copyFrom 69 = .ok (.aload_n 0, 1) := by decide +kernel
theorem dX4_copyFrom_70 : decode cX4_copyFrom 70 = .ok (.aload_n 1, 1) := by decide +kernel
theorem dX4_copyFrom_71 : decode cX4_copyFrom 71 = .ok (.getfield 59, 3) := by decide +kernel
theorem dX4_copyFrom_74 : decode cX4_copyFrom 74 = .ok (.putfield 59, 3) := by decide +kernel
theorem dX4_copyFrom_77 : decode cX4_copyFrom 77 = .ok (.iconst 0, 1) := by decide +kernel
theorem dX4_copyFrom_78 : decode cX4_copyFrom 78 = .ok (.istore_n 2, 1) := by decide +kernel
theorem dX4_copyFrom_79 : decode cX4_copyFrom 79 = .ok (.iload_n 2, 1) := by decide +kernel
theorem dX4_copyFrom_80 : decode cX4_copyFrom 80 = .ok (.aload_n 0, 1) := by decide +kernel
theorem dX4_copyFrom_81 : decode cX4_copyFrom 81 = .ok (.getfield 59, 3) := by decide +kernel
theorem dX4_copyFrom_84 : decode cX4_copyFrom 84 = .ok (.if_icmp .ge 24, 3) := by decide +kernel
theorem dX4_copyFrom_87 : decode cX4_copyFrom 87 = .ok (.aload_n 0, 1) := by decide +kernel
theorem dX4_copyFrom_88 : decode cX4_copyFrom 88 = .ok (.getfield 23, 3) := by decide +kernel
theorem dX4_copyFrom_91 : decode cX4_copyFrom 91 = .ok (.iload_n 2, 1) := by decide +kernel
theorem dX4_copyFrom_92 : decode cX4_copyFrom 92 = .ok (.aaload, 1) := by decide +kernel
theorem dX4_copyFrom_93 : decode cX4_copyFrom 93 = .ok (.aload_n 1, 1) := by decide +kernel
theorem dX4_copyFrom_94 : decode cX4_copyFrom 94 = .ok (.getfield 23, 3) := by decide +kernel
theorem dX4_copyFrom_97 : decode cX4_copyFrom 97 = .ok (.iload_n 2, 1) := by decide +kernel
theorem dX4_copyFrom_98 : decode cX4_copyFrom 98 = .ok (.aaload, 1) := by decide +kernel
theorem dX4_copyFrom_99 : decode cX4_copyFrom 99 = .ok (.invokevirtual 96, 3) := by decide +kernel
theorem dX4_copyFrom_102 : decode cX4_copyFrom 102 = .ok (.iinc 2 1, 3) := by decide +kernel
theorem dX4_copyFrom_105 : decode cX4_copyFrom 105 = .ok (.goto (-26), 3) := by decide +kernel
theorem dX4_copyFrom_108 : decode cX4_copyFrom 108 = .ok (.aload_n 0, 1) := by decide +kernel
theorem dX4_copyFrom_109 : decode cX4_copyFrom 109 = .ok (.aload_n 1, 1) := by decide +kernel
theorem dX4_copyFrom_110 : decode cX4_copyFrom 110 = .ok (.getfield 62, 3) := by decide +kernel
theorem dX4_copyFrom_113 : decode cX4_copyFrom 113 = .ok (.putfield 62, 3) := by decide +kernel
theorem dX4_copyFrom_116 : decode cX4_copyFrom 116 = .ok (.aload_n 0, 1) := by decide +kernel
theorem dX4_copyFrom_117 : decode cX4_copyFrom 117 = .ok (.aload_n 1, 1) := by decide +kernel
theorem dX4_copyFrom_118 : decode cX4_copyFrom 118 = .ok (.getfield 65, 3) := by decide +kernel
theorem dX4_copyFrom_121 : decode cX4_copyFrom 121 = .ok (.putfield 65, 3) := by decide +kernel
theorem dX4_copyFrom_124 : decode cX4_copyFrom 124 = .ok (.iconst 0, 1) := by decide +kernel
theorem dX4_copyFrom_125 : decode cX4_copyFrom 125 = .ok (.istore_n 2, 1) := by decide +kernel
theorem dX4_copyFrom_126 : decode cX4_copyFrom 126 = .ok (.iload_n 2, 1) := by decide +kernel
theorem dX4_copyFrom_127 : decode cX4_copyFrom 127 = .ok (.aload_n 0, 1) := by decide +kernel
theorem dX4_copyFrom_128 : decode cX4_copyFrom 128 = .ok (.getfield 65, 3) := by decide +kernel
theorem dX4_copyFrom_131 : decode cX4_copyFrom 131 = .ok (.if_icmp .ge 24, 3) := by decide +kernel
theorem dX4_copyFrom_134 : decode cX4_copyFrom 134 = .ok (.aload_n 0, 1) := by decide +kernel
theorem dX4_copyFrom_135 : decode cX4_copyFrom 135 = .ok (.getfield 29, 3) := by decide +kernel
theorem dX4_copyFrom_138 : decode cX4_copyFrom 138 = .ok (.iload_n 2, 1) := by decide +kernel
theorem dX4_copyFrom_139 : decode cX4_copyFrom 139 = .ok (.aaload, 1) := by decide +kernel
theorem dX4_copyFrom_140 : decode cX4_copyFrom 140 = .ok (.aload_n 1, 1) := by decide +kernel
theorem dX4_copyFrom_141 : decode cX4_copyFrom 141 = .ok (.getfield 29, 3) := by decide +kernel
theorem dX4_copyFrom_144 : decode cX4_copyFrom 144 = .ok (.iload_n 2, 1) := by decide +kernel
theorem dX4_copyFrom_145 : decode cX4_copyFrom 145 = .ok (.aaload, 1) := by decide +kernel
theorem dX4_copyFrom_146 : decode cX4_copyFrom 146 = .ok (.invokevirtual 99, 3) := by decide +kernel
theorem dX4_copyFrom_149 : decode cX4_copyFrom 149 = .ok (.iinc 2 1, 3) := by decide +kernel
theorem dX4_copyFrom_152 : decode cX4_copyFrom 152 = .ok (.goto (-26), 3) := by decide +kernel
theorem dX4_copyFrom_155 : decode cX4_copyFrom 155 = .ok (.aload_n 1, 1) := by decide +kernel
theorem dX4_copyFrom_156 : decode cX4_copyFrom 156 = .ok (.getfield 33, 3) := by decide +kernel
theorem dX4_copyFrom_159 : decode cX4_copyFrom 159 = .ok (.iconst 0, 1) := by decide +kernel
theorem dX4_copyFrom_160 : decode cX4_copyFrom 160 = .ok (.aload_n 0, 1) := by decide +kernel
theorem dX4_copyFrom_161 : decode cX4_copyFrom 161 = .ok (.getfield 33, 3) := by decide +kernel
theorem dX4_copyFrom_164 : decode cX4_copyFrom 164 = .ok (.iconst 0, 1) := by decide +kernel
theorem dX4_copyFrom_165 : decode cX4_copyFrom 165 = .ok (.bipush 20, 2) := by decide +kernel
theorem dX4_copyFrom_167 : decode cX4_copyFrom 167 = .ok (.invokestatic 86, 3) := by decide +kernel
theorem dX4_copyFrom_170 : decode cX4_copyFrom 170 = .ok (.aload_n 0, 1) := by decide +kernel
theorem dX4_copyFrom_171 : decode cX4_copyFrom 171 = .ok (.aload_n 1, 1) := by decide +kernel
theorem dX4_copyFrom_172 : decode cX4_copyFrom 172 = .ok (.getfield 68, 3) := by decide +kernel
theorem dX4_copyFrom_175 : decode cX4_copyFrom 175 = .ok (.putfield 68, 3) := by decide +kernel
theorem dX4_copyFrom_178 : decode cX4_copyFrom 178 = .ok (.aload_n 1, 1) := by decide +kernel
theorem dX4_copyFrom_179 : decode cX4_copyFrom 179 = .ok (.getfield 36, 3) := by decide +kernel
theorem dX4_copyFrom_182 : decode cX4_copyFrom 182 = .ok (.iconst 0, 1) := by decide +kernel
theorem dX4_copyFrom_183 : decode cX4_copyFrom 183 = .ok (.aload_n 0, 1) := by decide +kernel
theorem dX4_copyFrom_184 : decode cX4_copyFrom 184 = .ok (.getfield 36, 3) := by decide +kernel
theorem dX4_copyFrom_187 : decode cX4_copyFrom 187 = .ok (.iconst 0, 1) := by decide +kernel
theorem dX4_copyFrom_188 : decode cX4_copyFrom 188 = .ok (.bipush 16, 2) := by decide +kernel
theorem dX4_copyFrom_190 : decode cX4_copyFrom 190 = .ok (.invokestatic 86, 3) := by decide +kernel
theorem dX4_copyFrom_193 : decode cX4_copyFrom 193 = .ok (.aload_n 0, 1) := by decide +kernel
theorem dX4_copyFrom_194 : decode cX4_copyFrom 194 = .ok (.aload_n 1, 1) := by decide +kernel
theorem dX4_copyFrom_195 : decode cX4_copyFrom 195 = .ok (.getfield 71, 3) := by decide +kernel
theorem dX4_copyFrom_198 : decode cX4_copyFrom 198 = .ok (.putfield 71, 3) := by decide +kernel
theorem dX4_copyFrom_201 : decode cX4_copyFrom 201 = .ok (.aload_n 0, 1) := by decide +kernel
theorem dX4_copyFrom_202 : decode cX4_copyFrom 202 = .ok (.aload_n 1, 1) := by decide +kernel
theorem dX4_copyFrom_203 : decode cX4_copyFrom 203 = .ok (.getfield 74, 3) := by decide +kernel
theorem dX4_copyFrom_206 : decode cX4_copyFrom 206 = .ok (.putfield 74, 3) := by decide +kernel
theorem dX4_copyFrom_209 : decode cX4_copyFrom 209 = .ok (.aload_n 0, 1) := by decide +kernel
theorem dX4_copyFrom_210 : decode cX4_copyFrom 210 = .ok (.aload_n 1, 1) := by decide +kernel
theorem dX4_copyFrom_211 : decode cX4_copyFrom 211 = .ok (.getfield 77, 3) := by decide +kernel
theorem dX4_copyFrom_214 : decode cX4_copyFrom 214 = .ok (.putfield 77, 3) := by decide +kernel
theorem dX4_copyFrom_217 : decode cX4_copyFrom 217 = .ok (.aload_n 0, 1) := by decide +kernel
theorem dX4_copyFrom_218 : decode cX4_copyFrom 218 = .ok (.aload_n 1, 1) := by decide +kernel
theorem dX4_copyFrom_219 : decode cX4_copyFrom 219 = .ok (.getfield 80, 3) := by decide +kernel
theorem dX4_copyFrom_222 : decode cX4_copyFrom 222 = .ok (.putfield 80, 3) := by decide +kernel
theorem dX4_copyFrom_225 : decode cX4_copyFrom 225 = .ok (.aload_n 0, 1) := by decide +kernel
theorem dX4_copyFrom_226 : decode cX4_copyFrom 226 = .ok (.aload_n 1, 1) := by decide +kernel
theorem dX4_copyFrom_227 : decode cX4_copyFrom 227 = .ok (.getfield 83, 3) := by decide +kernel
theorem dX4_copyFrom_230 : decode cX4_copyFrom 230 = .ok (.putfield 83, 3) := by decide +kernel
theorem dX4_copyFrom_233 : decode cX4_copyFrom 233 = .ok (.return_, 1) := by decide +kernel
theorem dX4_currentVersion_0 : decode cX4_currentVersion 0 = .ok (.aload_n 0, 1) := by decide +kernel
theorem dX4_currentVersion_1 : decode cX4_currentVersion 1 = .ok (.getfield 29, 3) := by decide +kernel
theorem dX4_currentVersion_4 : decode cX4_currentVersion 4 = .ok (.aload_n 0, 1) := by decide +kernel
theorem dX4_currentVersion_5 : decode cX4_currentVersion 5 = .ok (.getfield 33, 3) := by decide +kernel
theorem dX4_currentVersion_8 : decode cX4_currentVersion 8 = .ok (.iload_n 1, 1) := by decide +kernel
theorem dX4_currentVersion_9 : decode cX4_currentVersion 9 = .ok (.iaload, 1) := by decide +kernel
theorem dX4_currentVersion_10 : decode cX4_currentVersion 10 = .ok (.aaload, 1) := by decide +kernel
theorem dX4_currentVersion_11 : decode cX4_currentVersion 11 = .ok (.areturn, 1) := by decide +kernel
theorem dX4_driveHolding_0 : decode cX4_driveHolding 0 = .ok (.iconst 0, 1) := by decide +kernel
theorem dX4_driveHolding_1 : decode cX4_driveHolding 1 = .ok (.istore_n 2, 1) := by decide +kernel
theorem dX4_driveHolding_2 : decode cX4_driveHolding 2 = .ok (.iload_n 2, 1) := by decide +kernel
theorem dX4_driveHolding_3 : decode cX4_driveHolding 3 = .ok (.aload_n 0, 1) := by decide +kernel
theorem dX4_driveHolding_4 : decode cX4_driveHolding 4 = .ok (.getfield 53, 3) := by decide +kernel
theorem dX4_driveHolding_7 : decode cX4_driveHolding 7 = .ok (.if_icmp .ge 24, 3) := by decide +kernel
theorem dX4_driveHolding_10 : decode cX4_driveHolding 10 = .ok (.aload_n 0, 1) := by decide +kernel
theorem dX4_driveHolding_11 : decode cX4_driveHolding 11 = .ok (.getfield 17, 3) := by decide +kernel
theorem dX4_driveHolding_14 : decode cX4_driveHolding 14 = .ok (.iload_n 2, 1) := by decide +kernel
theorem dX4_driveHolding_15 : decode cX4_driveHolding 15 = .ok (.aaload, 1) := by decide +kernel
theorem dX4_driveHolding_16 : decode cX4_driveHolding 16 = .ok (.getfield 115, 3) := by decide +kernel
theorem dX4_driveHolding_19 : decode cX4_driveHolding 19 = .ok (.iload_n 1, 1) := by decide +kernel
theorem dX4_driveHolding_20 : decode cX4_driveHolding 20 = .ok (.if_icmp .ne 5, 3) := by decide +kernel
theorem dX4_driveHolding_23 : decode cX4_driveHolding 23 = .ok (.iload_n 2, 1) := by decide +kernel
theorem dX4_driveHolding_24 : decode cX4_driveHolding 24 = .ok (.ireturn, 1) := by decide +kernel
theorem dX4_driveHolding_25 : decode cX4_driveHolding 25 = .ok (.iinc 2 1, 3) := by decide +kernel
theorem dX4_driveHolding_28 : decode cX4_driveHolding 28 = .ok (.goto (-26), 3) := by decide +kernel
theorem dX4_driveHolding_31 : decode cX4_driveHolding 31 = .ok (.iconst (-1), 1) := by decide +kernel
theorem dX4_driveHolding_32 : decode cX4_driveHolding 32 = .ok (.ireturn, 1) := by decide +kernel
set_option maxRecDepth 20000 in
theorem ggX4_awayPlatters_X4_currentVersion : GoodIn wsX4_awayPlatters wsX4_currentVersion := goodIn_r _ [8, 9, 10, 18, 19, 20, 21, 22, 23, 24, 25, 26, 27, 28, 29, 30, 31, 32, 33, 34, 35] (by decide +kernel) (by decide +kernel)
set_option maxRecDepth 20000 in
theorem gX4_awayPlatters_X4_currentVersion : GoodIn wsX4_awayPlatters (wsV RX4 173 RX4 yX4_currentVersion wsX4_currentVersion) := goodIn_app (goodIn_of _ (by decide +kernel)) ggX4_awayPlatters_X4_currentVersion
set_option maxRecDepth 20000 in
theorem ggX4_awayPlatters_X4_driveHolding : GoodIn wsX4_awayPlatters wsX4_driveHolding := goodIn_r _ [14, 15, 16, 17, 18, 19, 20, 21, 22, 23, 24, 25, 26, 27, 28, 29, 30, 31, 32, 33, 34, 35, 43, 44, 45] (by decide +kernel) (by decide +kernel)
set_option maxRecDepth 20000 in
theorem gX4_awayPlatters_X4_driveHolding : GoodIn wsX4_awayPlatters (wsV RX4 191 RX4 yX4_driveHolding wsX4_driveHolding) := goodIn_app (goodIn_of _ (by decide +kernel)) ggX4_awayPlatters_X4_driveHolding
theorem dX4_awayPlatters_0 : decode cX4_awayPlatters 0 = .ok (.iconst 0, 1) := by decide +kernel
theorem dX4_awayPlatters_1 : decode cX4_awayPlatters 1 = .ok (.istore_n 2, 1) := by decide +kernel
theorem dX4_awayPlatters_2 : decode cX4_awayPlatters 2 = .ok (.iconst 0, 1) := by decide +kernel
theorem dX4_awayPlatters_3 : decode cX4_awayPlatters 3 = .ok (.istore_n 3, 1) := by decide +kernel
theorem dX4_awayPlatters_4 : decode cX4_awayPlatters 4 = .ok (.iload_n 3, 1) := by decide +kernel
theorem dX4_awayPlatters_5 : decode cX4_awayPlatters 5 = .ok (.aload_n 0, 1) := by decide +kernel
theorem dX4_awayPlatters_6 : decode cX4_awayPlatters 6 = .ok (.getfield 71, 3) := by decide +kernel
theorem dX4_awayPlatters_9 : decode cX4_awayPlatters 9 = .ok (.if_icmp .ge 46, 3) := by decide +kernel
theorem dX4_awayPlatters_12 : decode cX4_awayPlatters 12 = .ok (.aload_n 0, 1) := by decide +kernel
theorem dX4_awayPlatters_13 : decode cX4_awayPlatters 13 = .ok (.aload_n 0, 1) := by decide +kernel
theorem dX4_awayPlatters_14 : decode cX4_awayPlatters 14 = .ok (.getfield 36, 3) := by decide +kernel
theorem dX4_awayPlatters_17 : decode cX4_awayPlatters 17 = .ok (.iload_n 3, 1) := by decide +kernel
theorem dX4_awayPlatters_18 : decode cX4_awayPlatters 18 = .ok (.iaload, 1) := by decide +kernel
theorem dX4_awayPlatters_19 : decode cX4_awayPlatters 19 = .ok (.invokevirtual 173, 3) := by decide +kernel
theorem dX4_awayPlatters_22 : decode cX4_awayPlatters 22 = .ok (.getfield 134, 3) := by decide +kernel
theorem dX4_awayPlatters_25 : decode cX4_awayPlatters 25 = .ok (.istore 4, 2) := by decide +kernel
theorem dX4_awayPlatters_27 : decode cX4_awayPlatters 27 = .ok (.iload_n 3, 1) := by decide +kernel
theorem dX4_awayPlatters_28 : decode cX4_awayPlatters 28 = .ok (.iload_n 1, 1) := by decide +kernel
theorem dX4_awayPlatters_29 : decode cX4_awayPlatters 29 = .ok (.if_icmp .eq 20, 3) := by decide +kernel
theorem dX4_awayPlatters_32 : decode cX4_awayPlatters 32 = .ok (.aload_n 0, 1) := by decide +kernel
theorem dX4_awayPlatters_33 : decode cX4_awayPlatters 33 = .ok (.iload 4, 2) := by decide +kernel
theorem dX4_awayPlatters_35 : decode cX4_awayPlatters 35 = .ok (.invokevirtual 191, 3) := by decide +kernel
theorem dX4_awayPlatters_38 : decode cX4_awayPlatters 38 = .ok (.iconst (-1), 1) := by decide +kernel
theorem dX4_awayPlatters_39 : decode cX4_awayPlatters 39 = .ok (.if_icmp .ne 10, 3) := by decide +kernel
theorem dX4_awayPlatters_42 : decode cX4_awayPlatters 42 = .ok (.iload_n 2, 1) := by decide +kernel
theorem dX4_awayPlatters_43 : decode cX4_awayPlatters 43 = .ok (.iconst 1, 1) := by decide +kernel
theorem dX4_awayPlatters_44 : decode cX4_awayPlatters 44 = .ok (.iload 4, 2) := by decide +kernel
theorem dX4_awayPlatters_46 : decode cX4_awayPlatters 46 = .ok (.ishl, 1) := by decide +kernel
theorem dX4_awayPlatters_47 : decode cX4_awayPlatters 47 = .ok (.ior, 1) := by decide +kernel
theorem dX4_awayPlatters_48 : decode cX4_awayPlatters 48 = .ok (.istore_n 2, 1) := by decide +kernel
theorem dX4_awayPlatters_49 : decode cX4_awayPlatters 49 = .ok (.iinc 3 1, 3) := by decide +kernel
theorem dX4_awayPlatters_52 : decode cX4_awayPlatters 52 = .ok (.goto (-48), 3) := by decide +kernel
theorem dX4_awayPlatters_55 : decode cX4_awayPlatters 55 = .ok (.iload_n 2, 1) := by decide +kernel
theorem dX4_awayPlatters_56 : decode cX4_awayPlatters 56 = .ok (.ireturn, 1) := by decide +kernel
theorem dX4_driveForAway_0 : decode cX4_driveForAway 0 = .ok (.iconst (-1), 1) := by decide +kernel
theorem dX4_driveForAway_1 : decode cX4_driveForAway 1 = .ok (.istore_n 2, 1) := by decide +kernel
theorem dX4_driveForAway_2 : decode cX4_driveForAway 2 = .ok (.iconst 0, 1) := by decide +kernel
theorem dX4_driveForAway_3 : decode cX4_driveForAway 3 = .ok (.istore_n 3, 1) := by decide +kernel
theorem dX4_driveForAway_4 : decode cX4_driveForAway 4 = .ok (.iconst 0, 1) := by decide +kernel
theorem dX4_driveForAway_5 : decode cX4_driveForAway 5 = .ok (.istore 4, 2) := by decide +kernel
theorem dX4_driveForAway_7 : decode cX4_driveForAway 7 = .ok (.iload 4, 2) := by decide +kernel
theorem dX4_driveForAway_9 : decode cX4_driveForAway 9 = .ok (.aload_n 0, 1) := by decide +kernel
theorem dX4_driveForAway_10 : decode cX4_driveForAway 10 = .ok (.getfield 53, 3) := by decide +kernel
theorem dX4_driveForAway_13 : decode cX4_driveForAway 13 = .ok (.if_icmp .ge 76, 3) := by decide +kernel
theorem dX4_driveForAway_16 : decode cX4_driveForAway 16 = .ok (.aload_n 0, 1) := by decide +kernel
theorem dX4_driveForAway_17 : decode cX4_driveForAway 17 = .ok (.getfield 17, 3) := by decide +kernel
theorem dX4_driveForAway_20 : decode cX4_driveForAway 20 = .ok (.iload 4, 2) := by decide +kernel
theorem dX4_driveForAway_22 : decode cX4_driveForAway 22 = .ok (.aaload, 1) := by decide +kernel
theorem dX4_driveForAway_23 : decode cX4_driveForAway 23 = .ok (.getfield 115, 3) := by decide +kernel
theorem dX4_driveForAway_26 : decode cX4_driveForAway 26 = .ok (.iconst (-1), 1) := by decide +kernel
theorem dX4_driveForAway_27 : decode cX4_driveForAway 27 = .ok (.if_icmp .ne 6, 3) := by decide +kernel
theorem dX4_driveForAway_30 : decode cX4_driveForAway 30 = .ok (.iload 4, 2) := by decide +kernel
theorem dX4_driveForAway_32 : decode cX4_driveForAway 32 = .ok (.ireturn, 1) := by decide +kernel
theorem dX4_driveForAway_33 : decode cX4_driveForAway 33 = .ok (.iload_n 1, 1) := by decide +kernel
theorem dX4_driveForAway_34 : decode cX4_driveForAway 34 = .ok (.iload 4, 2) := by decide +kernel
theorem dX4_driveForAway_36 : decode cX4_driveForAway 36 = .ok (.ishr, 1) := by decide +kernel
theorem dX4_driveForAway_37 : decode cX4_driveForAway 37 = .ok (.iconst 1, 1) := by decide +kernel
theorem dX4_driveForAway_38 : decode cX4_driveForAway 38 = .ok (.iand, 1) := by decide +kernel
theorem dX4_driveForAway_39 : decode cX4_driveForAway 39 = .ok (.ifCond .eq 15, 3) := by decide +kernel
theorem dX4_driveForAway_42 : decode cX4_driveForAway 42 = .ok (.aload_n 0, 1) := by decide +kernel
theorem dX4_driveForAway_43 : decode cX4_driveForAway 43 = .ok (.getfield 56, 3) := by decide +kernel
theorem dX4_driveForAway_46 : decode cX4_driveForAway 46 = .ok (.iconst 1, 1) := by decide +kernel
theorem dX4_driveForAway_47 : decode cX4_driveForAway 47 = .ok (.iadd, 1) := by decide +kernel
theorem dX4_driveForAway_48 : decode cX4_driveForAway 48 = .ok (.iload 4, 2) := by decide +kernel
theorem dX4_driveForAway_50 : decode cX4_driveForAway 50 = .ok (.iadd, 1) := by decide +kernel
theorem dX4_driveForAway_51 : decode cX4_driveForAway 51 = .ok (.goto 13, 3) := by decide +kernel
theorem dX4_driveForAway_54 : decode cX4_driveForAway 54 = .ok (.aload_n 0, 1) := by decide +kernel
theorem dX4_driveForAway_55 : decode cX4_driveForAway 55 = .ok (.getfield 17, 3) := by decide +kernel
theorem dX4_driveForAway_58 : decode cX4_driveForAway 58 = .ok (.iload 4, 2) := by decide +kernel
theorem dX4_driveForAway_60 : decode cX4_driveForAway 60 = .ok (.aaload, 1) := by decide +kernel
theorem dX4_driveForAway_61 : decode cX4_driveForAway 61 = .ok (.getfield 118, 3) := by decide +kernel
theorem dX4_driveForAway_64 : decode cX4_driveForAway 64 = .ok (.istore 5, 2) := by decide +kernel
theorem dX4_driveForAway_66 : decode cX4_driveForAway 66 = .ok (.iload_n 2, 1) := by decide +kernel
theorem dX4_driveForAway_67 : decode cX4_driveForAway 67 = .ok (.iconst (-1), 1) := by decide +kernel
theorem dX4_driveForAway_68 : decode cX4_driveForAway 68 = .ok (.if_icmp .eq 9, 3) := by decide +kernel
theorem dX4_driveForAway_71 : decode cX4_driveForAway 71 = .ok (.iload 5, 2) := by decide +kernel
theorem dX4_driveForAway_73 : decode cX4_driveForAway 73 = .ok (.iload_n 3, 1) := by decide +kernel
theorem dX4_driveForAway_74 : decode cX4_driveForAway 74 = .ok (.if_icmp .ge 9, 3) := by decide +kernel
theorem dX4_driveForAway_77 : decode cX4_driveForAway 77 = .ok (.iload 4, 2) := by decide +kernel
theorem dX4_driveForAway_79 : decode cX4_driveForAway 79 = .ok (.istore_n 2, 1) := by decide +kernel
theorem dX4_driveForAway_80 : decode cX4_driveForAway 80 = .ok (.iload 5, 2) := by decide +kernel
theorem dX4_driveForAway_82 : decode cX4_driveForAway 82 = .ok (.istore_n 3, 1) := by decide +kernel
theorem dX4_driveForAway_83 : decode cX4_driveForAway 83 = .ok (.iinc 4 1, 3) := by decide +kernel
theorem dX4_driveForAway_86 : decode cX4_driveForAway 86 = .ok (.goto (-79), 3) := by decide +kernel
theorem dX4_driveForAway_89 : decode cX4_driveForAway 89 = .ok (.iload_n 2, 1) := by decide +kernel
theorem dX4_driveForAway_90 : decode cX4_driveForAway 90 = .ok (.ireturn, 1) := by decide +kernel
set_option maxRecDepth 20000 in
theorem ggX4_driveAfterReading_X4_currentVersion : GoodIn wsX4_driveAfterReading wsX4_currentVersion := goodIn_r _ [8, 9, 10, 24, 25, 26, 27, 28, 29, 30, 31, 32, 33, 34, 35, 36, 37, 38, 39, 40, 41] (by decide +kernel) (by decide +kernel)
set_option maxRecDepth 20000 in
theorem gX4_driveAfterReading_X4_currentVersion : GoodIn wsX4_driveAfterReading (wsV RX4 173 RX4 yX4_currentVersion wsX4_currentVersion) := goodIn_app (goodIn_of _ (by decide +kernel)) ggX4_driveAfterReading_X4_currentVersion
set_option maxRecDepth 20000 in
theorem ggX4_driveAfterReading_X4_driveHolding : GoodIn wsX4_driveAfterReading wsX4_driveHolding := goodIn_r _ [14, 15, 16, 17, 24, 25, 26, 27, 28, 29, 30, 31, 32, 33, 34, 35, 36, 37, 38, 39, 40, 41, 49, 50, 51] (by decide +kernel) (by decide +kernel)
set_option maxRecDepth 20000 in
theorem gX4_driveAfterReading_X4_driveHolding : GoodIn wsX4_driveAfterReading (wsV RX4 191 RX4 yX4_driveHolding wsX4_driveHolding) := goodIn_app (goodIn_of _ (by decide +kernel)) ggX4_driveAfterReading_X4_driveHolding
set_option maxRecDepth 20000 in
theorem ggX4_driveAfterReading_X4_driveForAway : GoodIn wsX4_driveAfterReading wsX4_driveForAway := goodIn_r _ [21, 15, 16, 17, 22, 23, 24, 25, 26, 27, 28, 29, 30, 31, 32, 33, 34, 35, 36, 37, 38, 39, 40, 41, 49, 50, 51] (by decide +kernel) (by decide +kernel)
set_option maxRecDepth 20000 in
theorem gX4_driveAfterReading_X4_driveForAway : GoodIn wsX4_driveAfterReading (wsV RX4 194 RX4 yX4_driveForAway wsX4_driveForAway) := goodIn_app (goodIn_of _ (by decide +kernel)) ggX4_driveAfterReading_X4_driveForAway
theorem dX4_driveAfterReading_0 : decode cX4_driveAfterReading 0 = .ok (.iconst 0, 1) := by decide +kernel
theorem dX4_driveAfterReading_1 : decode cX4_driveAfterReading 1 = .ok (.istore_n 2, 1) := by decide +kernel
theorem dX4_driveAfterReading_2 : decode cX4_driveAfterReading 2 = .ok (.iconst 0, 1) := by decide +kernel
theorem dX4_driveAfterReading_3 : decode cX4_driveAfterReading 3 = .ok (.istore_n 3, 1) := by decide +kernel
theorem dX4_driveAfterReading_4 : decode cX4_driveAfterReading 4 = .ok (.iload_n 3, 1) := by decide +kernel
theorem dX4_driveAfterReading_5 : decode cX4_driveAfterReading 5 = .ok (.aload_n 0, 1) := by decide +kernel
theorem dX4_driveAfterReading_6 : decode cX4_driveAfterReading 6 = .ok (.getfield 71, 3) := by decide +kernel
theorem dX4_driveAfterReading_9 : decode cX4_driveAfterReading 9 = .ok (.if_icmp .ge 46, 3) := by decide +kernel
theorem dX4_driveAfterReading_12 : decode cX4_driveAfterReading 12 = .ok (.aload_n 0, 1) := by decide +kernel
theorem dX4_driveAfterReading_13 : decode cX4_driveAfterReading 13 = .ok (.aload_n 0, 1) := by decide +kernel
theorem dX4_driveAfterReading_14 : decode cX4_driveAfterReading 14 = .ok (.aload_n 0, 1) := by decide +kernel
theorem dX4_driveAfterReading_15 : decode cX4_driveAfterReading 15 = .ok (.getfield 36, 3) := by decide +kernel
theorem dX4_driveAfterReading_18 : decode cX4_driveAfterReading 18 = .ok (.iload_n 3, 1) := by decide +kernel
theorem dX4_driveAfterReading_19 : decode cX4_driveAfterReading 19 = .ok (.iaload, 1) := by decide +kernel
theorem dX4_driveAfterReading_20 : decode cX4_driveAfterReading 20 = .ok (.invokevirtual 173, 3) := by decide +kernel
theorem dX4_driveAfterReading_23 : decode cX4_driveAfterReading 23 = .ok (.getfield 134, 3) := by decide +kernel
theorem dX4_driveAfterReading_26 : decode cX4_driveAfterReading 26 = .ok (.invokevirtual 191, 3) := by decide +kernel
theorem dX4_driveAfterReading_29 : decode cX4_driveAfterReading 29 = .ok (.istore 4, 2) := by decide +kernel
theorem dX4_driveAfterReading_31 : decode cX4_driveAfterReading 31 = .ok (.iload_n 3, 1) := by decide +kernel
theorem dX4_driveAfterReading_32 : decode cX4_driveAfterReading 32 = .ok (.iload_n 1, 1) := by decide +kernel
theorem dX4_driveAfterReading_33 : decode cX4_driveAfterReading 33 = .ok (.if_icmp .eq 16, 3) := by decide +kernel
theorem dX4_driveAfterReading_36 : decode cX4_driveAfterReading 36 = .ok (.iload 4, 2) := by decide +kernel
theorem dX4_driveAfterReading_38 : decode cX4_driveAfterReading 38 = .ok (.iconst (-1), 1) := by decide +kernel
theorem dX4_driveAfterReading_39 : decode cX4_driveAfterReading 39 = .ok (.if_icmp .eq 10, 3) := by decide +kernel
theorem dX4_driveAfterReading_42 : decode cX4_driveAfterReading 42 = .ok (.iload_n 2, 1) := by decide +kernel
theorem dX4_driveAfterReading_43 : decode cX4_driveAfterReading 43 = .ok (.iconst 1, 1) := by decide +kernel
theorem dX4_driveAfterReading_44 : decode cX4_driveAfterReading 44 = .ok (.iload 4, 2) := by decide +kernel
theorem dX4_driveAfterReading_46 : decode cX4_driveAfterReading 46 = .ok (.ishl, 1) := by decide +kernel
theorem dX4_driveAfterReading_47 : decode cX4_driveAfterReading 47 = .ok (.ior, 1) := by decide +kernel
theorem dX4_driveAfterReading_48 : decode cX4_driveAfterReading 48 = .ok (.istore_n 2, 1) := by decide +kernel
theorem dX4_driveAfterReading_49 : decode cX4_driveAfterReading 49 = .ok (.iinc 3 1, 3) := by decide +kernel
theorem dX4_driveAfterReading_52 : decode cX4_driveAfterReading 52 = .ok (.goto (-48), 3) := by decide +kernel
theorem dX4_driveAfterReading_55 : decode cX4_driveAfterReading 55 = .ok (.aload_n 0, 1) := by decide +kernel
theorem dX4_driveAfterReading_56 : decode cX4_driveAfterReading 56 = .ok (.iload_n 2, 1) := by decide +kernel
theorem dX4_driveAfterReading_57 : decode cX4_driveAfterReading 57 = .ok (.invokevirtual 194, 3) := by decide +kernel
theorem dX4_driveAfterReading_60 : decode cX4_driveAfterReading 60 = .ok (.ireturn, 1) := by decide +kernel
theorem dX4_hasDrive_0 : decode cX4_hasDrive 0 = .ok (.iload_n 1, 1) := by decide +kernel
theorem dX4_hasDrive_1 : decode cX4_hasDrive 1 = .ok (.ifCond .lt 15, 3) := by decide +kernel
theorem dX4_hasDrive_4 : decode cX4_hasDrive 4 = .ok (.iload_n 1, 1) := by decide +kernel
theorem dX4_hasDrive_5 : decode cX4_hasDrive 5 = .ok (.aload_n 0, 1) := by decide +kernel
theorem dX4_hasDrive_6 : decode cX4_hasDrive 6 = .ok (.getfield 53, 3) := by decide +kernel
theorem dX4_hasDrive_9 : decode cX4_hasDrive 9 = .ok (.if_icmp .ge 7, 3) := by decide +kernel
theorem dX4_hasDrive_12 : decode cX4_hasDrive 12 = .ok (.iconst 1, 1) := by decide +kernel
theorem dX4_hasDrive_13 : decode cX4_hasDrive 13 = .ok (.goto 4, 3) := by decide +kernel
theorem dX4_hasDrive_16 : decode cX4_hasDrive 16 = .ok (.iconst 0, 1) := by decide +kernel
theorem dX4_hasDrive_17 : decode cX4_hasDrive 17 = .ok (.ireturn, 1) := by decide +kernel
theorem dX4_bringMoves_0 : decode cX4_bringMoves 0 = .ok (.aload_n 0, 1) := by decide +kernel
theorem dX4_bringMoves_1 : decode cX4_bringMoves 1 = .ok (.getfield 17, 3) := by decide +kernel
theorem dX4_bringMoves_4 : decode cX4_bringMoves 4 = .ok (.iload_n 2, 1) := by decide +kernel
theorem dX4_bringMoves_5 : decode cX4_bringMoves 5 = .ok (.aaload, 1) := by decide +kernel
theorem dX4_bringMoves_6 : decode cX4_bringMoves 6 = .ok (.getfield 112, 3) := by decide +kernel
theorem dX4_bringMoves_9 : decode cX4_bringMoves 9 = .ok (.istore_n 3, 1) := by decide +kernel
theorem dX4_bringMoves_10 : decode cX4_bringMoves 10 = .ok (.aload_n 0, 1) := by decide +kernel
theorem dX4_bringMoves_11 : decode cX4_bringMoves 11 = .ok (.getfield 17, 3) := by decide +kernel
theorem dX4_bringMoves_14 : decode cX4_bringMoves 14 = .ok (.iload_n 2, 1) := by decide +kernel
theorem dX4_bringMoves_15 : decode cX4_bringMoves 15 = .ok (.aaload, 1) := by decide +kernel
theorem dX4_bringMoves_16 : decode cX4_bringMoves 16 = .ok (.getfield 115, 3) := by decide +kernel
theorem dX4_bringMoves_19 : decode cX4_bringMoves 19 = .ok (.istore 4, 2) := by decide +kernel
theorem dX4_bringMoves_21 : decode cX4_bringMoves 21 = .ok (.iconst 0, 1) := by decide +kernel
theorem dX4_bringMoves_22 : decode cX4_bringMoves 22 = .ok (.istore 5, 2) := by decide +kernel
theorem dX4_bringMoves_24 : decode cX4_bringMoves 24 = .ok (.aload_n 0, 1) := by decide +kernel
theorem dX4_bringMoves_25 : decode cX4_bringMoves 25 = .ok (.getfield 74, 3) := by decide +kernel
theorem dX4_bringMoves_28 : decode cX4_bringMoves 28 = .ok (.istore 6, 2) := by decide +kernel
theorem dX4_bringMoves_30 : decode cX4_bringMoves 30 = .ok (.iload 4, 2) := by decide +kernel
theorem dX4_bringMoves_32 : decode cX4_bringMoves 32 = .ok (.iconst (-1), 1) := by decide +kernel
theorem dX4_bringMoves_33 : decode cX4_bringMoves 33 = .ok (.if_icmp .eq 36, 3) := by decide +kernel
theorem dX4_bringMoves_36 : decode cX4_bringMoves 36 = .ok (.aload_n 0, 1) := by decide +kernel
theorem dX4_bringMoves_37 : decode cX4_bringMoves 37 = .ok (.getfield 23, 3) := by decide +kernel
theorem dX4_bringMoves_40 : decode cX4_bringMoves 40 = .ok (.iload 4, 2) := by decide +kernel
theorem dX4_bringMoves_42 : decode cX4_bringMoves 42 = .ok (.aaload, 1) := by decide +kernel
theorem dX4_bringMoves_43 : decode cX4_bringMoves 43 = .ok (.getfield 125, 3) := by decide +kernel
theorem dX4_bringMoves_46 : decode cX4_bringMoves 46 = .ok (.istore 7, 2) := by decide +kernel
theorem dX4_bringMoves_48 : decode cX4_bringMoves 48 = .ok (.iload 6, 2) := by decide +kernel
theorem dX4_bringMoves_50 : decode cX4_bringMoves 50 = .ok (.iload_n 3, 1) := by decide +kernel
theorem dX4_bringMoves_51 : decode cX4_bringMoves 51 = .ok (.isub, 1) := by decide +kernel
theorem dX4_bringMoves_52 : decode cX4_bringMoves 52 = .ok (.invokestatic 197, 3) := by decide +kernel
theorem dX4_bringMoves_55 : decode cX4_bringMoves 55 = .ok (.iload_n 3, 1) := by decide +kernel
theorem dX4_bringMoves_56 : decode cX4_bringMoves 56 = .ok (.iload 7, 2) := by decide +kernel
theorem dX4_bringMoves_58 : decode cX4_bringMoves 58 = .ok (.isub, 1) := by decide +kernel
theorem dX4_bringMoves_59 : decode cX4_bringMoves 59 = .ok (.invokestatic 197, 3) := by decide +kernel
theorem dX4_bringMoves_62 : decode cX4_bringMoves 62 = .ok (.iadd, 1) := by decide +kernel
theorem dX4_bringMoves_63 : decode cX4_bringMoves 63 = .ok (.istore 5, 2) := by decide +kernel
theorem dX4_bringMoves_65 : decode cX4_bringMoves 65 = .ok (.iload 7, 2) := by decide +kernel
theorem dX4_bringMoves_67 : decode cX4_bringMoves 67 = .ok (.istore 6, 2) := by decide +kernel
theorem dX4_bringMoves_69 : decode cX4_bringMoves 69 = .ok (.aload_n 0, 1) := by decide +kernel
theorem dX4_bringMoves_70 : decode cX4_bringMoves 70 = .ok (.getfield 23, 3) := by decide +kernel
theorem dX4_bringMoves_73 : decode cX4_bringMoves 73 = .ok (.iload_n 1, 1) := by decide +kernel
theorem dX4_bringMoves_74 : decode cX4_bringMoves 74 = .ok (.aaload, 1) := by decide +kernel
theorem dX4_bringMoves_75 : decode cX4_bringMoves 75 = .ok (.getfield 125, 3) := by decide +kernel
theorem dX4_bringMoves_78 : decode cX4_bringMoves 78 = .ok (.istore 7, 2) := by decide +kernel
theorem dX4_bringMoves_80 : decode cX4_bringMoves 80 = .ok (.iload 5, 2) := by decide +kernel
theorem dX4_bringMoves_82 : decode cX4_bringMoves 82 = .ok (.iload 6, 2) := by decide +kernel
theorem dX4_bringMoves_84 : decode cX4_bringMoves 84 = .ok (.iload 7, 2) := by decide +kernel
theorem dX4_bringMoves_86 : decode cX4_bringMoves 86 = .ok (.isub, 1) := by decide +kernel
theorem dX4_bringMoves_87 : decode cX4_bringMoves 87 = .ok (.invokestatic 197, 3) := by decide +kernel
theorem dX4_bringMoves_90 : decode cX4_bringMoves 90 = .ok (.iadd, 1) := by decide +kernel
theorem dX4_bringMoves_91 : decode cX4_bringMoves 91 = .ok (.iload 7, 2) := by decide +kernel
theorem dX4_bringMoves_93 : decode cX4_bringMoves 93 = .ok (.iload_n 3, 1) := by decide +kernel
theorem dX4_bringMoves_94 : decode cX4_bringMoves 94 = .ok (.isub, 1) := by decide +kernel
theorem dX4_bringMoves_95 : decode cX4_bringMoves 95 = .ok (.invokestatic 197, 3) := by decide +kernel
theorem dX4_bringMoves_98 : decode cX4_bringMoves 98 = .ok (.iadd, 1) := by decide +kernel
theorem dX4_bringMoves_99 : decode cX4_bringMoves 99 = .ok (.ireturn, 1) := by decide +kernel
set_option maxRecDepth 20000 in
theorem ggX4_bringTime_X4_bringMoves : GoodIn wsX4_bringTime wsX4_bringMoves := goodIn_r _ [8, 1, 9, 2, 10, 11, 12, 13, 14, 15, 16, 17, 18, 19, 20, 21, 22, 23, 24, 25, 26, 27, 28, 29, 30, 31, 32, 33, 34, 35, 36, 37, 38, 39, 40, 41, 42, 43, 44, 45, 46] (by decide +kernel) (by decide +kernel)
set_option maxRecDepth 20000 in
theorem gX4_bringTime_X4_bringMoves : GoodIn wsX4_bringTime (wsV RX4 205 RX4 yX4_bringMoves wsX4_bringMoves) := goodIn_app (goodIn_of _ (by decide +kernel)) ggX4_bringTime_X4_bringMoves
theorem dX4_bringTime_0 : decode cX4_bringTime 0 = .ok (.aload_n 0, 1) := by decide +kernel
theorem dX4_bringTime_1 : decode cX4_bringTime 1 = .ok (.getfield 17, 3) := by decide +kernel
theorem dX4_bringTime_4 : decode cX4_bringTime 4 = .ok (.iload_n 2, 1) := by decide +kernel
theorem dX4_bringTime_5 : decode cX4_bringTime 5 = .ok (.aaload, 1) := by decide +kernel
theorem dX4_bringTime_6 : decode cX4_bringTime 6 = .ok (.getfield 115, 3) := by decide +kernel
theorem dX4_bringTime_9 : decode cX4_bringTime 9 = .ok (.istore_n 3, 1) := by decide +kernel
theorem dX4_bringTime_10 : decode cX4_bringTime 10 = .ok (.iload_n 3, 1) := by decide +kernel
theorem dX4_bringTime_11 : decode cX4_bringTime 11 = .ok (.iload_n 1, 1) := by decide +kernel
theorem dX4_bringTime_12 : decode cX4_bringTime 12 = .ok (.if_icmp .ne 5, 3) := by decide +kernel
theorem dX4_bringTime_15 : decode cX4_bringTime 15 = .ok (.iconst 0, 1) := by decide +kernel
theorem dX4_bringTime_16 : decode cX4_bringTime 16 = .ok (.ireturn, 1) := by decide +kernel
theorem dX4_bringTime_17 : decode cX4_bringTime 17 = .ok (.iload_n 3, 1) := by decide +kernel
theorem dX4_bringTime_18 : decode cX4_bringTime 18 = .ok (.iconst (-1), 1) := by decide +kernel
theorem dX4_bringTime_19 : decode cX4_bringTime 19 = .ok (.if_icmp .ne 7, 3) := by decide +kernel
theorem dX4_bringTime_22 : decode cX4_bringTime 22 = .ok (.iconst 2, 1) := by decide +kernel
theorem dX4_bringTime_23 : decode cX4_bringTime 23 = .ok (.goto 4, 3) := by decide +kernel
theorem dX4_bringTime_26 : decode cX4_bringTime 26 = .ok (.iconst 4, 1) := by decide +kernel
theorem dX4_bringTime_27 : decode cX4_bringTime 27 = .ok (.istore 4, 2) := by decide +kernel
theorem dX4_bringTime_29 : decode cX4_bringTime 29 = .ok (.aload_n 0, 1) := by decide +kernel
theorem dX4_bringTime_30 : decode cX4_bringTime 30 = .ok (.iload_n 1, 1) := by decide +kernel
theorem dX4_bringTime_31 : decode cX4_bringTime 31 = .ok (.iload_n 2, 1) := by decide +kernel
theorem dX4_bringTime_32 : decode cX4_bringTime 32 = .ok (.invokevirtual 205, 3) := by decide +kernel
theorem dX4_bringTime_35 : decode cX4_bringTime 35 = .ok (.aload_n 0, 1) := by decide +kernel
theorem dX4_bringTime_36 : decode cX4_bringTime 36 = .ok (.getfield 9, 3) := by decide +kernel
theorem dX4_bringTime_39 : decode cX4_bringTime 39 = .ok (.iconst 0, 1) := by decide +kernel
theorem dX4_bringTime_40 : decode cX4_bringTime 40 = .ok (.iaload, 1) := by decide +kernel
theorem dX4_bringTime_41 : decode cX4_bringTime 41 = .ok (.imul, 1) := by decide +kernel
theorem dX4_bringTime_42 : decode cX4_bringTime 42 = .ok (.iload 4, 2) := by decide +kernel
theorem dX4_bringTime_44 : decode cX4_bringTime 44 = .ok (.aload_n 0, 1) := by decide +kernel
theorem dX4_bringTime_45 : decode cX4_bringTime 45 = .ok (.getfield 9, 3) := by decide +kernel
theorem dX4_bringTime_48 : decode cX4_bringTime 48 = .ok (.iconst 1, 1) := by decide +kernel
theorem dX4_bringTime_49 : decode cX4_bringTime 49 = .ok (.iaload, 1) := by decide +kernel
theorem dX4_bringTime_50 : decode cX4_bringTime 50 = .ok (.imul, 1) := by decide +kernel
theorem dX4_bringTime_51 : decode cX4_bringTime 51 = .ok (.iadd, 1) := by decide +kernel
theorem dX4_bringTime_52 : decode cX4_bringTime 52 = .ok (.aload_n 0, 1) := by decide +kernel
theorem dX4_bringTime_53 : decode cX4_bringTime 53 = .ok (.getfield 9, 3) := by decide +kernel
theorem dX4_bringTime_56 : decode cX4_bringTime 56 = .ok (.iconst 2, 1) := by decide +kernel
theorem dX4_bringTime_57 : decode cX4_bringTime 57 = .ok (.iaload, 1) := by decide +kernel
theorem dX4_bringTime_58 : decode cX4_bringTime 58 = .ok (.iadd, 1) := by decide +kernel
theorem dX4_bringTime_59 : decode cX4_bringTime 59 = .ok (.ireturn, 1) := by decide +kernel
theorem dX4_sectorsReadTime_0 : decode cX4_sectorsReadTime 0 = .ok (.aload_n 0, 1) := by decide +kernel
theorem dX4_sectorsReadTime_1 : decode cX4_sectorsReadTime 1 = .ok (.getfield 9, 3) := by decide +kernel
theorem dX4_sectorsReadTime_4 : decode cX4_sectorsReadTime 4 = .ok (.iconst 3, 1) := by decide +kernel
theorem dX4_sectorsReadTime_5 : decode cX4_sectorsReadTime 5 = .ok (.iaload, 1) := by decide +kernel
theorem dX4_sectorsReadTime_6 : decode cX4_sectorsReadTime 6 = .ok (.aload_n 1, 1) := by decide +kernel
theorem dX4_sectorsReadTime_7 : decode cX4_sectorsReadTime 7 = .ok (.getfield 141, 3) := by decide +kernel
theorem dX4_sectorsReadTime_10 : decode cX4_sectorsReadTime 10 = .ok (.aload_n 1, 1) := by decide +kernel
theorem dX4_sectorsReadTime_11 : decode cX4_sectorsReadTime 11 = .ok (.getfield 148, 3) := by decide +kernel
theorem dX4_sectorsReadTime_14 : decode cX4_sectorsReadTime 14 = .ok (.iadd, 1) := by decide +kernel
theorem dX4_sectorsReadTime_15 : decode cX4_sectorsReadTime 15 = .ok (.imul, 1) := by decide +kernel
theorem dX4_sectorsReadTime_16 : decode cX4_sectorsReadTime 16 = .ok (.ireturn, 1) := by decide +kernel
set_option maxRecDepth 20000 in
theorem ggX4_requestsReadTime_X4_currentVersion : GoodIn wsX4_requestsReadTime wsX4_currentVersion := goodIn_r _ [7, 8, 9, 17, 18, 19, 20, 21, 22, 23, 24, 25, 26, 27, 28, 29, 30, 31, 32, 33, 34] (by decide +kernel) (by decide +kernel)
set_option maxRecDepth 20000 in
theorem gX4_requestsReadTime_X4_currentVersion : GoodIn wsX4_requestsReadTime (wsV RX4 173 RX4 yX4_currentVersion wsX4_currentVersion) := goodIn_app (goodIn_of _ (by decide +kernel)) ggX4_requestsReadTime_X4_currentVersion
set_option maxRecDepth 20000 in
theorem ggX4_requestsReadTime_X4_sectorsReadTime : GoodIn wsX4_requestsReadTime wsX4_sectorsReadTime := goodIn_r _ [13, 14, 15, 16, 17, 18, 19, 20, 21, 22, 23, 24, 25, 26, 27, 28, 29, 30, 31, 32, 33, 34, 35, 36, 37, 38, 39, 40, 41] (by decide +kernel) (by decide +kernel)
set_option maxRecDepth 20000 in
theorem gX4_requestsReadTime_X4_sectorsReadTime : GoodIn wsX4_requestsReadTime (wsV RX4 223 RX4 yX4_sectorsReadTime wsX4_sectorsReadTime) := goodIn_app (goodIn_of _ (by decide +kernel)) ggX4_requestsReadTime_X4_sectorsReadTime
theorem dX4_requestsReadTime_0 : decode cX4_requestsReadTime 0 = .ok (.iconst 0, 1) := by decide +kernel
theorem dX4_requestsReadTime_1 : decode cX4_requestsReadTime 1 = .ok (.istore_n 2, 1) := by decide +kernel
theorem dX4_requestsReadTime_2 : decode cX4_requestsReadTime 2 = .ok (.iconst 0, 1) := by decide +kernel
theorem dX4_requestsReadTime_3 : decode cX4_requestsReadTime 3 = .ok (.istore_n 3, 1) := by decide +kernel
theorem dX4_requestsReadTime_4 : decode cX4_requestsReadTime 4 = .ok (.iload_n 3, 1) := by decide +kernel
theorem dX4_requestsReadTime_5 : decode cX4_requestsReadTime 5 = .ok (.aload_n 0, 1) := by decide +kernel
theorem dX4_requestsReadTime_6 : decode cX4_requestsReadTime 6 = .ok (.getfield 71, 3) := by decide +kernel
theorem dX4_requestsReadTime_9 : decode cX4_requestsReadTime 9 = .ok (.if_icmp .ge 31, 3) := by decide +kernel
theorem dX4_requestsReadTime_12 : decode cX4_requestsReadTime 12 = .ok (.iload_n 3, 1) := by decide +kernel
theorem dX4_requestsReadTime_13 : decode cX4_requestsReadTime 13 = .ok (.iload_n 1, 1) := by decide +kernel
theorem dX4_requestsReadTime_14 : decode cX4_requestsReadTime 14 = .ok (.if_icmp .eq 20, 3) := by decide +kernel
theorem dX4_requestsReadTime_17 : decode cX4_requestsReadTime 17 = .ok (.iload_n 2, 1) := by decide +kernel
theorem dX4_requestsReadTime_18 : decode cX4_requestsReadTime 18 = .ok (.aload_n 0, 1) := by decide +kernel
theorem dX4_requestsReadTime_19 : decode cX4_requestsReadTime 19 = .ok (.aload_n 0, 1) := by decide +kernel
theorem dX4_requestsReadTime_20 : decode cX4_requestsReadTime 20 = .ok (.aload_n 0, 1) := by decide +kernel
theorem dX4_requestsReadTime_21 : decode cX4_requestsReadTime 21 = .ok (.getfield 36, 3) := by decide +kernel
theorem dX4_requestsReadTime_24 : decode cX4_requestsReadTime 24 = .ok (.iload_n 3, 1) := by decide +kernel
theorem dX4_requestsReadTime_25 : decode cX4_requestsReadTime 25 = .ok (.iaload, 1) := by decide +kernel
theorem dX4_requestsReadTime_26 : decode cX4_requestsReadTime 26 = .ok (.invokevirtual 173, 3) := by decide +kernel
theorem dX4_requestsReadTime_29 : decode cX4_requestsReadTime 29 = .ok (.invokevirtual 223, 3) := by decide +kernel
theorem dX4_requestsReadTime_32 : decode cX4_requestsReadTime 32 = .ok (.iadd, 1) := by decide +kernel
theorem dX4_requestsReadTime_33 : decode cX4_requestsReadTime 33 = .ok (.istore_n 2, 1) := by decide +kernel
theorem dX4_requestsReadTime_34 : decode cX4_requestsReadTime 34 = .ok (.iinc 3 1, 3) := by decide +kernel
theorem dX4_requestsReadTime_37 : decode cX4_requestsReadTime 37 = .ok (.goto (-33), 3) := by decide +kernel
theorem dX4_requestsReadTime_40 : decode cX4_requestsReadTime 40 = .ok (.iload_n 2, 1) := by decide +kernel
theorem dX4_requestsReadTime_41 : decode cX4_requestsReadTime 41 = .ok (.ireturn, 1) := by decide +kernel
theorem dX4_hasSlot_0 : decode cX4_hasSlot 0 = .ok (.iload_n 1, 1) := by decide +kernel
theorem dX4_hasSlot_1 : decode cX4_hasSlot 1 = .ok (.ifCond .lt 15, 3) := by decide +kernel
theorem dX4_hasSlot_4 : decode cX4_hasSlot 4 = .ok (.iload_n 1, 1) := by decide +kernel
theorem dX4_hasSlot_5 : decode cX4_hasSlot 5 = .ok (.aload_n 0, 1) := by decide +kernel
theorem dX4_hasSlot_6 : decode cX4_hasSlot 6 = .ok (.getfield 45, 3) := by decide +kernel
theorem dX4_hasSlot_9 : decode cX4_hasSlot 9 = .ok (.if_icmp .ge 7, 3) := by decide +kernel
theorem dX4_hasSlot_12 : decode cX4_hasSlot 12 = .ok (.iconst 1, 1) := by decide +kernel
theorem dX4_hasSlot_13 : decode cX4_hasSlot 13 = .ok (.goto 4, 3) := by decide +kernel
theorem dX4_hasSlot_16 : decode cX4_hasSlot 16 = .ok (.iconst 0, 1) := by decide +kernel
theorem dX4_hasSlot_17 : decode cX4_hasSlot 17 = .ok (.ireturn, 1) := by decide +kernel
theorem dX4_hasPlatter_0 : decode cX4_hasPlatter 0 = .ok (.iload_n 1, 1) := by decide +kernel
theorem dX4_hasPlatter_1 : decode cX4_hasPlatter 1 = .ok (.ifCond .lt 15, 3) := by decide +kernel
theorem dX4_hasPlatter_4 : decode cX4_hasPlatter 4 = .ok (.iload_n 1, 1) := by decide +kernel
theorem dX4_hasPlatter_5 : decode cX4_hasPlatter 5 = .ok (.aload_n 0, 1) := by decide +kernel
theorem dX4_hasPlatter_6 : decode cX4_hasPlatter 6 = .ok (.getfield 59, 3) := by decide +kernel
theorem dX4_hasPlatter_9 : decode cX4_hasPlatter 9 = .ok (.if_icmp .ge 7, 3) := by decide +kernel
theorem dX4_hasPlatter_12 : decode cX4_hasPlatter 12 = .ok (.iconst 1, 1) := by decide +kernel
theorem dX4_hasPlatter_13 : decode cX4_hasPlatter 13 = .ok (.goto 4, 3) := by decide +kernel
theorem dX4_hasPlatter_16 : decode cX4_hasPlatter 16 = .ok (.iconst 0, 1) := by decide +kernel
theorem dX4_hasPlatter_17 : decode cX4_hasPlatter 17 = .ok (.ireturn, 1) := by decide +kernel
set_option maxRecDepth 20000 in
theorem ggX4_hasSession_X4_hasPlatter : GoodIn wsX4_hasSession wsX4_hasPlatter := goodIn_r _ [7, 8, 9, 10, 11, 12, 13, 14, 15, 16, 17, 18, 19, 20, 21, 22, 23, 24, 25, 26] (by decide +kernel) (by decide +kernel)
set_option maxRecDepth 20000 in
theorem gX4_hasSession_X4_hasPlatter : GoodIn wsX4_hasSession (wsV RX4 102 RX4 yX4_hasPlatter wsX4_hasPlatter) := goodIn_app (goodIn_of _ (by decide +kernel)) ggX4_hasSession_X4_hasPlatter
theorem dX4_hasSession_0 : decode cX4_hasSession 0 = .ok (.aload_n 0, 1) := by decide +kernel
theorem dX4_hasSession_1 : decode cX4_hasSession 1 = .ok (.iload_n 1, 1) := by decide +kernel
theorem dX4_hasSession_2 : decode cX4_hasSession 2 = .ok (.invokevirtual 102, 3) := by decide +kernel
theorem dX4_hasSession_5 : decode cX4_hasSession 5 = .ok (.ifCond .eq 24, 3) := by decide +kernel
theorem dX4_hasSession_8 : decode cX4_hasSession 8 = .ok (.iload_n 2, 1) := by decide +kernel
theorem dX4_hasSession_9 : decode cX4_hasSession 9 = .ok (.ifCond .lt 20, 3) := by decide +kernel
theorem dX4_hasSession_12 : decode cX4_hasSession 12 = .ok (.iload_n 2, 1) := by decide +kernel
theorem dX4_hasSession_13 : decode cX4_hasSession 13 = .ok (.aload_n 0, 1) := by decide +kernel
theorem dX4_hasSession_14 : decode cX4_hasSession 14 = .ok (.getfield 23, 3) := by decide +kernel
theorem dX4_hasSession_17 : decode cX4_hasSession 17 = .ok (.iload_n 1, 1) := by decide +kernel
theorem dX4_hasSession_18 : decode cX4_hasSession 18 = .ok (.aaload, 1) := by decide +kernel
theorem dX4_hasSession_19 : decode cX4_hasSession 19 = .ok (.getfield 106, 3) := by decide +kernel
theorem dX4_hasSession_22 : decode cX4_hasSession 22 = .ok (.if_icmp .ge 7, 3) := by decide +kernel
theorem dX4_hasSession_25 : decode cX4_hasSession 25 = .ok (.iconst 1, 1) := by decide +kernel
theorem dX4_hasSession_26 : decode cX4_hasSession 26 = .ok (.goto 4, 3) := by decide +kernel
theorem dX4_hasSession_29 : decode cX4_hasSession 29 = .ok (.iconst 0, 1) := by decide +kernel
theorem dX4_hasSession_30 : decode cX4_hasSession 30 = .ok (.ireturn, 1) := by decide +kernel
set_option maxRecDepth 20000 in
theorem ggX4_hasSector_X4_hasPlatter : GoodIn wsX4_hasSector wsX4_hasPlatter := goodIn_r _ [7, 8, 9, 10, 11, 12, 13, 14, 15, 16, 17, 18, 19, 20, 21, 22, 23, 24, 25, 26] (by decide +kernel) (by decide +kernel)
set_option maxRecDepth 20000 in
theorem gX4_hasSector_X4_hasPlatter : GoodIn wsX4_hasSector (wsV RX4 102 RX4 yX4_hasPlatter wsX4_hasPlatter) := goodIn_app (goodIn_of _ (by decide +kernel)) ggX4_hasSector_X4_hasPlatter
theorem dX4_hasSector_0 : decode cX4_hasSector 0 = .ok (.aload_n 0, 1) := by decide +kernel
theorem dX4_hasSector_1 : decode cX4_hasSector 1 = .ok (.iload_n 1, 1) := by decide +kernel
theorem dX4_hasSector_2 : decode cX4_hasSector 2 = .ok (.invokevirtual 102, 3) := by decide +kernel
theorem dX4_hasSector_5 : decode cX4_hasSector 5 = .ok (.ifCond .eq 24, 3) := by decide +kernel
theorem dX4_hasSector_8 : decode cX4_hasSector 8 = .ok (.iload_n 2, 1) := by decide +kernel
theorem dX4_hasSector_9 : decode cX4_hasSector 9 = .ok (.ifCond .lt 20, 3) := by decide +kernel
theorem dX4_hasSector_12 : decode cX4_hasSector 12 = .ok (.iload_n 2, 1) := by decide +kernel
theorem dX4_hasSector_13 : decode cX4_hasSector 13 = .ok (.aload_n 0, 1) := by decide +kernel
theorem dX4_hasSector_14 : decode cX4_hasSector 14 = .ok (.getfield 23, 3) := by decide +kernel
theorem dX4_hasSector_17 : decode cX4_hasSector 17 = .ok (.iload_n 1, 1) := by decide +kernel
theorem dX4_hasSector_18 : decode cX4_hasSector 18 = .ok (.aaload, 1) := by decide +kernel
theorem dX4_hasSector_19 : decode cX4_hasSector 19 = .ok (.getfield 109, 3) := by decide +kernel
theorem dX4_hasSector_22 : decode cX4_hasSector 22 = .ok (.if_icmp .ge 7, 3) := by decide +kernel
theorem dX4_hasSector_25 : decode cX4_hasSector 25 = .ok (.iconst 1, 1) := by decide +kernel
theorem dX4_hasSector_26 : decode cX4_hasSector 26 = .ok (.goto 4, 3) := by decide +kernel
theorem dX4_hasSector_29 : decode cX4_hasSector 29 = .ok (.iconst 0, 1) := by decide +kernel
theorem dX4_hasSector_30 : decode cX4_hasSector 30 = .ok (.ireturn, 1) := by decide +kernel
theorem dX4_hasFile_0 : decode cX4_hasFile 0 = .ok (.iload_n 1, 1) := by decide +kernel
theorem dX4_hasFile_1 : decode cX4_hasFile 1 = .ok (.ifCond .lt 15, 3) := by decide +kernel
theorem dX4_hasFile_4 : decode cX4_hasFile 4 = .ok (.iload_n 1, 1) := by decide +kernel
theorem dX4_hasFile_5 : decode cX4_hasFile 5 = .ok (.aload_n 0, 1) := by decide +kernel
theorem dX4_hasFile_6 : decode cX4_hasFile 6 = .ok (.getfield 68, 3) := by decide +kernel
theorem dX4_hasFile_9 : decode cX4_hasFile 9 = .ok (.if_icmp .ge 7, 3) := by decide +kernel
theorem dX4_hasFile_12 : decode cX4_hasFile 12 = .ok (.iconst 1, 1) := by decide +kernel
theorem dX4_hasFile_13 : decode cX4_hasFile 13 = .ok (.goto 4, 3) := by decide +kernel
theorem dX4_hasFile_16 : decode cX4_hasFile 16 = .ok (.iconst 0, 1) := by decide +kernel
theorem dX4_hasFile_17 : decode cX4_hasFile 17 = .ok (.ireturn, 1) := by decide +kernel
theorem dX4_hasRequest_0 : decode cX4_hasRequest 0 = .ok (.iload_n 1, 1) := by decide +kernel
theorem dX4_hasRequest_1 : decode cX4_hasRequest 1 = .ok (.ifCond .lt 15, 3) := by decide +kernel
theorem dX4_hasRequest_4 : decode cX4_hasRequest 4 = .ok (.iload_n 1, 1) := by decide +kernel
theorem dX4_hasRequest_5 : decode cX4_hasRequest 5 = .ok (.aload_n 0, 1) := by decide +kernel
theorem dX4_hasRequest_6 : decode cX4_hasRequest 6 = .ok (.getfield 71, 3) := by decide +kernel
theorem dX4_hasRequest_9 : decode cX4_hasRequest 9 = .ok (.if_icmp .ge 7, 3) := by decide +kernel
theorem dX4_hasRequest_12 : decode cX4_hasRequest 12 = .ok (.iconst 1, 1) := by decide +kernel
theorem dX4_hasRequest_13 : decode cX4_hasRequest 13 = .ok (.goto 4, 3) := by decide +kernel
theorem dX4_hasRequest_16 : decode cX4_hasRequest 16 = .ok (.iconst 0, 1) := by decide +kernel
theorem dX4_hasRequest_17 : decode cX4_hasRequest 17 = .ok (.ireturn, 1) := by decide +kernel
theorem dX4_addDrive_0 : decode cX4_addDrive 0 = .ok (.aload_n 0, 1) := by decide +kernel
theorem dX4_addDrive_1 : decode cX4_addDrive 1 = .ok (.getfield 53, 3) := by decide +kernel
theorem dX4_addDrive_4 : decode cX4_addDrive 4 = .ok (.iconst 4, 1) := by decide +kernel
theorem dX4_addDrive_5 : decode cX4_addDrive 5 = .ok (.if_icmp .ge 38, 3) := by decide +kernel
theorem dX4_addDrive_8 : decode cX4_addDrive 8 = .ok (.aload_n 0, 1) := by decide +kernel
theorem dX4_addDrive_9 : decode cX4_addDrive 9 = .ok (.getfield 17, 3) := by decide +kernel
theorem dX4_addDrive_12 : decode cX4_addDrive 12 = .ok (.aload_n 0, 1) := by decide +kernel
theorem dX4_addDrive_13 : decode cX4_addDrive 13 = .ok (.getfield 53, 3) := by decide +kernel
theorem dX4_addDrive_16 : decode cX4_addDrive 16 = .ok (.aaload, 1) := by decide +kernel
theorem dX4_addDrive_17 : decode cX4_addDrive 17 = .ok (.astore_n 2, 1) := by decide +kernel
theorem dX4_addDrive_18 : decode cX4_addDrive 18 = .ok (.aload_n 2, 1) := by decide +kernel
theorem dX4_addDrive_19 : decode cX4_addDrive 19 = .ok (.iload_n 1, 1) := by decide +kernel
theorem dX4_addDrive_20 : decode cX4_addDrive 20 = .ok (.putfield 112, 3) := by decide +kernel
theorem dX4_addDrive_23 : decode cX4_addDrive 23 = .ok (.aload_n 2, 1) := by decide +kernel
theorem dX4_addDrive_24 : decode cX4_addDrive 24 = .ok (.iconst (-1), 1) := by decide +kernel
theorem dX4_addDrive_25 : decode cX4_addDrive 25 = .ok (.putfield 115, 3) := by decide +kernel
theorem dX4_addDrive_28 : decode cX4_addDrive 28 = .ok (.aload_n 2, 1) := by decide +kernel
theorem dX4_addDrive_29 : decode cX4_addDrive 29 = .ok (.iconst 0, 1) := by decide +kernel
theorem dX4_addDrive_30 : decode cX4_addDrive 30 = .ok (.putfield 118, 3) := by decide +kernel
theorem dX4_addDrive_33 : decode cX4_addDrive 33 = .ok (.aload_n 0, 1) := by decide +kernel
theorem dX4_addDrive_34 : decode cX4_addDrive 34 = .ok (.dup, 1) := by decide +kernel
theorem dX4_addDrive_35 : decode cX4_addDrive 35 = .ok (.getfield 53, 3) := by decide +kernel
theorem dX4_addDrive_38 : decode cX4_addDrive 38 = .ok (.iconst 1, 1) := by decide +kernel
theorem dX4_addDrive_39 : decode cX4_addDrive 39 = .ok (.iadd, 1) := by decide +kernel
theorem dX4_addDrive_40 : decode cX4_addDrive 40 = .ok (.putfield 53, 3) := by decide +kernel
theorem dX4_addDrive_43 : decode cX4_addDrive 43 = .ok (.return_, 1) := by decide +kernel
set_option maxRecDepth 20000 in
theorem ggX4_addPlatter_X3_begin : GoodIn wsX4_addPlatter wsX3_begin := goodIn_r _ [7, 8, 9, 10, 11, 12, 13, 14, 15, 16, 17, 18, 37, 38, 39, 40, 41, 42, 43, 44, 45] (by decide +kernel) (by decide +kernel)
set_option maxRecDepth 20000 in
theorem gX4_addPlatter_X3_begin : GoodIn wsX4_addPlatter (wsV RX4 121 RX3 yX3_begin wsX3_begin) := goodIn_app (goodIn_of _ (by decide +kernel)) ggX4_addPlatter_X3_begin
theorem dX4_addPlatter_0 : decode cX4_addPlatter 0 = .ok (.aload_n 0, 1) := by decide +kernel
theorem dX4_addPlatter_1 : decode cX4_addPlatter 1 = .ok (.getfield 59, 3) := by decide +kernel
theorem dX4_addPlatter_4 : decode cX4_addPlatter 4 = .ok (.bipush 10, 2) := by decide +kernel
theorem dX4_addPlatter_6 : decode cX4_addPlatter 6 = .ok (.if_icmp .ge 28, 3) := by decide +kernel
theorem dX4_addPlatter_9 : decode cX4_addPlatter 9 = .ok (.aload_n 0, 1) := by decide +kernel
theorem dX4_addPlatter_10 : decode cX4_addPlatter 10 = .ok (.getfield 23, 3) := by decide +kernel
theorem dX4_addPlatter_13 : decode cX4_addPlatter 13 = .ok (.aload_n 0, 1) := by decide +kernel
theorem dX4_addPlatter_14 : decode cX4_addPlatter 14 = .ok (.getfield 59, 3) := by decide +kernel
theorem dX4_addPlatter_17 : decode cX4_addPlatter 17 = .ok (.aaload, 1) := by decide +kernel
theorem dX4_addPlatter_18 : decode cX4_addPlatter 18 = .ok (.iload_n 1, 1) := by decide +kernel
theorem dX4_addPlatter_19 : decode cX4_addPlatter 19 = .ok (.iload_n 2, 1) := by decide +kernel
theorem dX4_addPlatter_20 : decode cX4_addPlatter 20 = .ok (.iload_n 3, 1) := by decide +kernel
theorem dX4_addPlatter_21 : decode cX4_addPlatter 21 = .ok (.invokevirtual 121, 3) := by decide +kernel
theorem dX4_addPlatter_24 : decode cX4_addPlatter 24 = .ok (.aload_n 0, 1) := by decide +kernel
theorem dX4_addPlatter_25 : decode cX4_addPlatter 25 = .ok (.dup, 1) := by decide +kernel
theorem dX4_addPlatter_26 : decode cX4_addPlatter 26 = .ok (.getfield 59, 3) := by decide +kernel
theorem dX4_addPlatter_29 : decode cX4_addPlatter 29 = .ok (.iconst 1, 1) := by decide +kernel
theorem dX4_addPlatter_30 : decode cX4_addPlatter 30 = .ok (.iadd, 1) := by decide +kernel
theorem dX4_addPlatter_31 : decode cX4_addPlatter 31 = .ok (.putfield 59, 3) := by decide +kernel
theorem dX4_addPlatter_34 : decode cX4_addPlatter 34 = .ok (.return_, 1) := by decide +kernel
theorem dX4_platterWithHome_0 : decode cX4_platterWithHome 0 = .ok (.iconst 0, 1) := by decide +kernel
theorem dX4_platterWithHome_1 : decode cX4_platterWithHome 1 = .ok (.istore_n 2, 1) := by decide +kernel
theorem dX4_platterWithHome_2 : decode cX4_platterWithHome 2 = .ok (.iload_n 2, 1) := by decide +kernel
theorem dX4_platterWithHome_3 : decode cX4_platterWithHome 3 = .ok (.aload_n 0, 1) := by decide +kernel
theorem dX4_platterWithHome_4 : decode cX4_platterWithHome 4 = .ok (.getfield 59, 3) := by decide +kernel
theorem dX4_platterWithHome_7 : decode cX4_platterWithHome 7 = .ok (.if_icmp .ge 24, 3) := by decide +kernel
theorem dX4_platterWithHome_10 : decode cX4_platterWithHome 10 = .ok (.aload_n 0, 1) := by decide +kernel
theorem dX4_platterWithHome_11 : decode cX4_platterWithHome 11 = .ok (.getfield 23, 3) := by decide +kernel
theorem dX4_platterWithHome_14 : decode cX4_platterWithHome 14 = .ok (.iload_n 2, 1) := by decide +kernel
theorem dX4_platterWithHome_15 : decode cX4_platterWithHome 15 = .ok (.aaload, 1) := by decide +kernel
theorem dX4_platterWithHome_16 : decode cX4_platterWithHome 16 = .ok (.getfield 125, 3) := by decide +kernel
theorem dX4_platterWithHome_19 : decode cX4_platterWithHome 19 = .ok (.iload_n 1, 1) := by decide +kernel
theorem dX4_platterWithHome_20 : decode cX4_platterWithHome 20 = .ok (.if_icmp .ne 5, 3) := by decide +kernel
theorem dX4_platterWithHome_23 : decode cX4_platterWithHome 23 = .ok (.iload_n 2, 1) := by decide +kernel
theorem dX4_platterWithHome_24 : decode cX4_platterWithHome 24 = .ok (.ireturn, 1) := by decide +kernel
theorem dX4_platterWithHome_25 : decode cX4_platterWithHome 25 = .ok (.iinc 2 1, 3) := by decide +kernel
theorem dX4_platterWithHome_28 : decode cX4_platterWithHome 28 = .ok (.goto (-26), 3) := by decide +kernel
theorem dX4_platterWithHome_31 : decode cX4_platterWithHome 31 = .ok (.iconst (-1), 1) := by decide +kernel
theorem dX4_platterWithHome_32 : decode cX4_platterWithHome 32 = .ok (.ireturn, 1) := by decide +kernel
set_option maxRecDepth 20000 in
theorem ggX4_addVersion_X4_hasFile : GoodIn wsX4_addVersion wsX4_hasFile := goodIn_r _ [18, 19, 49, 50, 51, 52, 53, 54, 55, 56, 57, 58, 59, 60, 61, 62, 63, 64, 65, 66] (by decide +kernel) (by decide +kernel)
set_option maxRecDepth 20000 in
theorem gX4_addVersion_X4_hasFile : GoodIn wsX4_addVersion (wsV RX4 128 RX4 yX4_hasFile wsX4_hasFile) := goodIn_app (goodIn_of _ (by decide +kernel)) ggX4_addVersion_X4_hasFile
set_option maxRecDepth 20000 in
theorem ggX4_addVersion_X4_hasPlatter : GoodIn wsX4_addVersion wsX4_hasPlatter := goodIn_r _ [23, 24, 49, 50, 51, 52, 53, 54, 55, 56, 57, 58, 59, 60, 61, 62, 63, 64, 65, 66] (by decide +kernel) (by decide +kernel)
set_option maxRecDepth 20000 in
theorem gX4_addVersion_X4_hasPlatter : GoodIn wsX4_addVersion (wsV RX4 102 RX4 yX4_hasPlatter wsX4_hasPlatter) := goodIn_app (goodIn_of _ (by decide +kernel)) ggX4_addVersion_X4_hasPlatter
set_option maxRecDepth 20000 in
theorem ggX4_addVersion_X3_badAmongNext : GoodIn wsX4_addVersion wsX3_badAmongNext := goodIn_r _ [29, 30, 31, 32, 33, 28, 34, 35, 74, 75, 76, 77, 78, 79, 80, 81, 82] (by decide +kernel) (by decide +kernel)
set_option maxRecDepth 20000 in
theorem gX4_addVersion_X3_badAmongNext : GoodIn wsX4_addVersion (wsV RX4 144 RX3 yX3_badAmongNext wsX3_badAmongNext) := goodIn_app (goodIn_of _ (by decide +kernel)) ggX4_addVersion_X3_badAmongNext
set_option maxRecDepth 20000 in
theorem ggX4_addVersion_X3_takeSectors : GoodIn wsX4_addVersion wsX3_takeSectors := goodIn_r _ [39, 40, 41, 42, 30, 43, 44, 45, 46, 47, 28, 48, 74, 75, 76, 77, 78, 79, 80, 81, 82] (by decide +kernel) (by decide +kernel)
set_option maxRecDepth 20000 in
theorem gX4_addVersion_X3_takeSectors : GoodIn wsX4_addVersion (wsV RX4 155 RX3 yX3_takeSectors wsX3_takeSectors) := goodIn_app (goodIn_of _ (by decide +kernel)) ggX4_addVersion_X3_takeSectors
theorem dX4_addVersion_0 : decode cX4_addVersion 0 = .ok (.aload_n 0, 1) := by decide +kernel
theorem dX4_addVersion_1 : decode cX4_addVersion 1 = .ok (.getfield 65, 3) := by decide +kernel
theorem dX4_addVersion_4 : decode cX4_addVersion 4 = .ok (.bipush 40, 2) := by decide +kernel
theorem dX4_addVersion_6 : decode cX4_addVersion 6 = .ok (.if_icmp .ge 126, 3) := by decide +kernel
theorem dX4_addVersion_9 : decode cX4_addVersion 9 = .ok (.aload_n 0, 1) := by decide +kernel
theorem dX4_addVersion_10 : decode cX4_addVersion 10 = .ok (.iload_n 1, 1) := by decide +kernel
theorem dX4_addVersion_11 : decode cX4_addVersion 11 = .ok (.invokevirtual 128, 3) := by decide +kernel
theorem dX4_addVersion_14 : decode cX4_addVersion 14 = .ok (.ifCond .eq 118, 3) := by decide +kernel
theorem dX4_addVersion_17 : decode cX4_addVersion 17 = .ok (.aload_n 0, 1) := by decide +kernel
theorem dX4_addVersion_18 : decode cX4_addVersion 18 = .ok (.iload_n 3, 1) := by decide +kernel
theorem dX4_addVersion_19 : decode cX4_addVersion 19 = .ok (.invokevirtual 102, 3) := by decide +kernel
theorem dX4_addVersion_22 : decode cX4_addVersion 22 = .ok (.ifCond .eq 110, 3) := by decide +kernel
theorem dX4_addVersion_25 : decode cX4_addVersion 25 = .ok (.aload_n 0, 1) := by decide +kernel
theorem dX4_addVersion_26 : decode cX4_addVersion 26 = .ok (.getfield 23, 3) := by decide +kernel
theorem dX4_addVersion_29 : decode cX4_addVersion 29 = .ok (.iload_n 3, 1) := by decide +kernel
theorem dX4_addVersion_30 : decode cX4_addVersion 30 = .ok (.aaload, 1) := by decide +kernel
theorem dX4_addVersion_31 : decode cX4_addVersion 31 = .ok (.astore 4, 2) := by decide +kernel
theorem dX4_addVersion_33 : decode cX4_addVersion 33 = .ok (.aload_n 0, 1) := by decide +kernel
theorem dX4_addVersion_34 : decode cX4_addVersion 34 = .ok (.getfield 29, 3) := by decide +kernel
theorem dX4_addVersion_37 : decode cX4_addVersion 37 = .ok (.aload_n 0, 1) := by decide +kernel
theorem dX4_addVersion_38 : decode cX4_addVersion 38 = .ok (.getfield 65, 3) := by decide +kernel
theorem dX4_addVersion_41 : decode cX4_addVersion 41 = .ok (.aaload, 1) := by decide +kernel
theorem dX4_addVersion_42 : decode cX4_addVersion 42 = .ok (.astore 5, 2) := by decide +kernel
theorem dX4_addVersion_44 : decode cX4_addVersion 44 = .ok (.aload 5, 2) := by decide +kernel
theorem dX4_addVersion_46 : decode cX4_addVersion 46 = .ok (.iload_n 1, 1) := by decide +kernel
theorem dX4_addVersion_47 : decode cX4_addVersion 47 = .ok (.putfield 131, 3) := by decide +kernel
theorem dX4_addVersion_50 : decode cX4_addVersion 50 = .ok (.aload 5, 2) := by decide +kernel
theorem dX4_addVersion_52 : decode cX4_addVersion 52 = .ok (.iload_n 3, 1) := by decide +kernel
theorem dX4_addVersion_53 : decode cX4_addVersion 53 = .ok (.putfield 134, 3) := by decide +kernel
theorem dX4_addVersion_56 : decode cX4_addVersion 56 = .ok (.aload 5, 2) := by decide +kernel
theorem dX4_addVersion_58 : decode cX4_addVersion 58 = .ok (.aload 4, 2) := by decide +kernel
theorem dX4_addVersion_60 : decode cX4_addVersion 60 = .ok (.getfield 135, 3) := by decide +kernel
theorem dX4_addVersion_63 : decode cX4_addVersion 63 = .ok (.putfield 138, 3) := by decide +kernel
theorem dX4_addVersion_66 : decode cX4_addVersion 66 = .ok (.aload 5, 2) := by decide +kernel
theorem dX4_addVersion_68 : decode cX4_addVersion 68 = .ok (.iload_n 2, 1) := by decide +kernel
theorem dX4_addVersion_69 : decode cX4_addVersion 69 = .ok (.putfield 141, 3) := by decide +kernel
theorem dX4_addVersion_72 : decode cX4_addVersion 72 = .ok (.aload 5, 2) := by decide +kernel
theorem dX4_addVersion_74 : decode cX4_addVersion 74 = .ok (.aload 4, 2) := by decide +kernel
theorem dX4_addVersion_76 : decode cX4_addVersion 76 = .ok (.iload_n 2, 1) := by decide +kernel
theorem dX4_addVersion_77 : decode cX4_addVersion 77 = .ok (.invokevirtual 144, 3) := by decide +kernel
theorem dX4_addVersion_80 : decode cX4_addVersion 80 = .ok (.putfield 148, 3) := by decide +kernel
theorem dX4_addVersion_83 : decode cX4_addVersion 83 = .ok (.aload 5, 2) := by decide +kernel
theorem dX4_addVersion_85 : decode cX4_addVersion 85 = .ok (.iconst 0, 1) := by decide +kernel
theorem dX4_addVersion_86 : decode cX4_addVersion 86 = .ok (.putfield 151, 3) := by decide +kernel
theorem dX4_addVersion_89 : decode cX4_addVersion 89 = .ok (.aload 4, 2) := by decide +kernel
theorem dX4_addVersion_91 : decode cX4_addVersion 91 = .ok (.iload_n 2, 1) := by decide +kernel
theorem dX4_addVersion_92 : decode cX4_addVersion 92 = .ok (.aload 5, 2) := by decide +kernel
theorem dX4_addVersion_94 : decode cX4_addVersion 94 = .ok (.getfield 148, 3) := by decide +kernel
theorem dX4_addVersion_97 : decode cX4_addVersion 97 = .ok (.invokevirtual 155, 3) := by decide +kernel
theorem dX4_addVersion_100 : decode cX4_addVersion 100 = .ok (.aload 5, 2) := by decide +kernel
theorem dX4_addVersion_102 : decode cX4_addVersion 102 = .ok (.aload 4, 2) := by decide +kernel
theorem dX4_addVersion_104 : decode cX4_addVersion 104 = .ok (.getfield 106, 3) := by decide +kernel
theorem dX4_addVersion_107 : decode cX4_addVersion 107 = .ok (.iconst 1, 1) := by decide +kernel
theorem dX4_addVersion_108 : decode cX4_addVersion 108 = .ok (.isub, 1) := by decide +kernel
theorem dX4_addVersion_109 : decode cX4_addVersion 109 = .ok (.putfield 159, 3) := by decide +kernel
theorem dX4_addVersion_112 : decode cX4_addVersion 112 = .ok (.aload_n 0, 1) := by decide +kernel
theorem dX4_addVersion_113 : decode cX4_addVersion 113 = .ok (.getfield 33, 3) := by decide +kernel
theorem dX4_addVersion_116 : decode cX4_addVersion 116 = .ok (.iload_n 1, 1) := by decide +kernel
theorem dX4_addVersion_117 : decode cX4_addVersion 117 = .ok (.aload_n 0, 1) := by decide +kernel
theorem dX4_addVersion_118 : decode cX4_addVersion 118 = .ok (.getfield 65, 3) := by decide +kernel
theorem dX4_addVersion_121 : decode cX4_addVersion 121 = .ok (.iastore, 1) := by decide +kernel
theorem dX4_addVersion_122 : decode cX4_addVersion 122 = .ok (.aload_n 0, 1) := by decide +kernel
theorem dX4_addVersion_123 : decode cX4_addVersion 123 = .ok (.dup, 1) := by decide +kernel
theorem dX4_addVersion_124 : decode cX4_addVersion 124 = .ok (.getfield 65, 3) := by decide +kernel
theorem dX4_addVersion_127 : decode cX4_addVersion 127 = .ok (.iconst 1, 1) := by decide +kernel
theorem dX4_addVersion_128 : decode cX4_addVersion 128 = .ok (.iadd, 1) := by decide +kernel
theorem dX4_addVersion_129 : decode cX4_addVersion 129 = .ok (.putfield 65, 3) := by decide +kernel
theorem dX4_addVersion_132 : decode cX4_addVersion 132 = .ok (.return_, 1) := by decide +kernel
set_option maxRecDepth 20000 in
theorem ggX4_versionAt_X6_holds : GoodIn wsX4_versionAt wsX6_holds := goodIn_r _ [7, 8, 9, 10, 29, 30, 31, 32, 33, 34, 35] (by decide +kernel) (by decide +kernel)
set_option maxRecDepth 20000 in
theorem gX4_versionAt_X6_holds : GoodIn wsX4_versionAt (wsV RX4 181 RX6 yX6_holds wsX6_holds) := goodIn_app (goodIn_of _ (by decide +kernel)) ggX4_versionAt_X6_holds
theorem dX4_versionAt_0 : decode cX4_versionAt 0 = .ok (.iconst 0, 1) := by decide +kernel
theorem dX4_versionAt_1 : decode cX4_versionAt 1 = .ok (.istore_n 3, 1) := by decide +kernel
theorem dX4_versionAt_2 : decode cX4_versionAt 2 = .ok (.iload_n 3, 1) := by decide +kernel
theorem dX4_versionAt_3 : decode cX4_versionAt 3 = .ok (.aload_n 0, 1) := by decide +kernel
theorem dX4_versionAt_4 : decode cX4_versionAt 4 = .ok (.getfield 65, 3) := by decide +kernel
theorem dX4_versionAt_7 : decode cX4_versionAt 7 = .ok (.if_icmp .ge 25, 3) := by decide +kernel
theorem dX4_versionAt_10 : decode cX4_versionAt 10 = .ok (.aload_n 0, 1) := by decide +kernel
theorem dX4_versionAt_11 : decode cX4_versionAt 11 = .ok (.getfield 29, 3) := by decide +kernel
theorem dX4_versionAt_14 : decode cX4_versionAt 14 = .ok (.iload_n 3, 1) := by decide +kernel
theorem dX4_versionAt_15 : decode cX4_versionAt 15 = .ok (.aaload, 1) := by decide +kernel
theorem dX4_versionAt_16 : decode cX4_versionAt 16 = .ok (.iload_n 1, 1) := by decide +kernel
theorem dX4_versionAt_17 : decode cX4_versionAt 17 = .ok (.iload_n 2, 1) := by decide +kernel
theorem dX4_versionAt_18 : decode cX4_versionAt 18 = .ok (.invokevirtual 181, 3) := by decide +kernel
theorem dX4_versionAt_21 : decode cX4_versionAt 21 = .ok (.ifCond .eq 5, 3) := by decide +kernel
theorem dX4_versionAt_24 : decode cX4_versionAt 24 = .ok (.iload_n 3, 1) := by decide +kernel
theorem dX4_versionAt_25 : decode cX4_versionAt 25 = .ok (.ireturn, 1) := by decide +kernel
theorem dX4_versionAt_26 : decode cX4_versionAt 26 = .ok (.iinc 3 1, 3) := by decide +kernel
theorem dX4_versionAt_29 : decode cX4_versionAt 29 = .ok (.goto (-27), 3) := by decide +kernel
theorem dX4_versionAt_32 : decode cX4_versionAt 32 = .ok (.iconst (-1), 1) := by decide +kernel
theorem dX4_versionAt_33 : decode cX4_versionAt 33 = .ok (.ireturn, 1) := by decide +kernel
set_option maxRecDepth 20000 in
theorem ggX4_spoil_X3_setBad : GoodIn wsX4_spoil wsX3_setBad := goodIn_r _ [9, 10, 50, 51, 52, 53, 54, 55, 56, 57, 58] (by decide +kernel) (by decide +kernel)
set_option maxRecDepth 20000 in
theorem gX4_spoil_X3_setBad : GoodIn wsX4_spoil (wsV RX4 162 RX3 yX3_setBad wsX3_setBad) := goodIn_app (goodIn_of _ (by decide +kernel)) ggX4_spoil_X3_setBad
set_option maxRecDepth 20000 in
theorem ggX4_spoil_X4_versionAt : GoodIn wsX4_spoil wsX4_versionAt := goodIn_r _ [15, 16, 3, 17, 18, 19, 20, 21, 22, 23, 24, 25, 26, 27, 28, 29, 30, 31, 32, 33, 34, 35, 36, 37, 38, 39, 40, 41, 42, 43, 44, 45, 46, 47, 48, 49] (by decide +kernel) (by decide +kernel)
set_option maxRecDepth 20000 in
theorem gX4_spoil_X4_versionAt : GoodIn wsX4_spoil (wsV RX4 166 RX4 yX4_versionAt wsX4_versionAt) := goodIn_app (goodIn_of _ (by decide +kernel)) ggX4_spoil_X4_versionAt
theorem dX4_spoil_0 : decode cX4_spoil 0 = .ok (.aload_n 0, 1) := by decide +kernel
theorem dX4_spoil_1 : decode cX4_spoil 1 = .ok (.getfield 23, 3) := by decide +kernel
theorem dX4_spoil_4 : decode cX4_spoil 4 = .ok (.iload_n 1, 1) := by decide +kernel
theorem dX4_spoil_5 : decode cX4_spoil 5 = .ok (.aaload, 1) := by decide +kernel
theorem dX4_spoil_6 : decode cX4_spoil 6 = .ok (.iload_n 2, 1) := by decide +kernel
theorem dX4_spoil_7 : decode cX4_spoil 7 = .ok (.invokevirtual 162, 3) := by decide +kernel
theorem dX4_spoil_10 : decode cX4_spoil 10 = .ok (.aload_n 0, 1) := by decide +kernel
theorem dX4_spoil_11 : decode cX4_spoil 11 = .ok (.dup, 1) := by decide +kernel
theorem dX4_spoil_12 : decode cX4_spoil 12 = .ok (.getfield 62, 3) := by decide +kernel
theorem dX4_spoil_15 : decode cX4_spoil 15 = .ok (.iconst 1, 1) := by decide +kernel
theorem dX4_spoil_16 : decode cX4_spoil 16 = .ok (.iadd, 1) := by decide +kernel
theorem dX4_spoil_17 : decode cX4_spoil 17 = .ok (.putfield 62, 3) := by decide +kernel
theorem dX4_spoil_20 : decode cX4_spoil 20 = .ok (.aload_n 0, 1) := by decide +kernel
theorem dX4_spoil_21 : decode cX4_spoil 21 = .ok (.iload_n 1, 1) := by decide +kernel
theorem dX4_spoil_22 : decode cX4_spoil 22 = .ok (.iload_n 2, 1) := by decide +kernel
theorem dX4_spoil_23 : decode cX4_spoil 23 = .ok (.invokevirtual 166, 3) := by decide +kernel
theorem dX4_spoil_26 : decode cX4_spoil 26 = .ok (.istore_n 3, 1) := by decide +kernel
theorem dX4_spoil_27 : decode cX4_spoil 27 = .ok (.iload_n 3, 1) := by decide +kernel
theorem dX4_spoil_28 : decode cX4_spoil 28 = .ok (.iconst (-1), 1) := by decide +kernel
theorem dX4_spoil_29 : decode cX4_spoil 29 = .ok (.if_icmp .eq 13, 3) := by decide +kernel
theorem dX4_spoil_32 : decode cX4_spoil 32 = .ok (.aload_n 0, 1) := by decide +kernel
theorem dX4_spoil_33 : decode cX4_spoil 33 = .ok (.getfield 29, 3) := by decide +kernel
theorem dX4_spoil_36 : decode cX4_spoil 36 = .ok (.iload_n 3, 1) := by decide +kernel
theorem dX4_spoil_37 : decode cX4_spoil 37 = .ok (.aaload, 1) := by decide +kernel
theorem dX4_spoil_38 : decode cX4_spoil 38 = .ok (.iconst 1, 1) := by decide +kernel
theorem dX4_spoil_39 : decode cX4_spoil 39 = .ok (.putfield 151, 3) := by decide +kernel
theorem dX4_spoil_42 : decode cX4_spoil 42 = .ok (.return_, 1) := by decide +kernel
set_option maxRecDepth 20000 in
theorem ggX4_isGood_X3_isClosed : GoodIn wsX4_isGood wsX3_isClosed := goodIn_r _ [9, 10, 11, 37, 38, 39, 40, 41, 42, 43, 44, 45] (by decide +kernel) (by decide +kernel)
set_option maxRecDepth 20000 in
theorem gX4_isGood_X3_isClosed : GoodIn wsX4_isGood (wsV RX4 170 RX3 yX3_isClosed wsX3_isClosed) := goodIn_app (goodIn_of _ (by decide +kernel)) ggX4_isGood_X3_isClosed
theorem dX4_isGood_0 : decode cX4_isGood 0 = .ok (.aload_n 1, 1) := by decide +kernel
theorem dX4_isGood_1 : decode cX4_isGood 1 = .ok (.getfield 151, 3) := by decide +kernel
theorem dX4_isGood_4 : decode cX4_isGood 4 = .ok (.ifCond .ne 26, 3) := by decide +kernel
theorem dX4_isGood_7 : decode cX4_isGood 7 = .ok (.aload_n 0, 1) := by decide +kernel
theorem dX4_isGood_8 : decode cX4_isGood 8 = .ok (.getfield 23, 3) := by decide +kernel
theorem dX4_isGood_11 : decode cX4_isGood 11 = .ok (.aload_n 1, 1) := by decide +kernel
theorem dX4_isGood_12 : decode cX4_isGood 12 = .ok (.getfield 134, 3) := by decide +kernel
theorem dX4_isGood_15 : decode cX4_isGood 15 = .ok (.aaload, 1) := by decide +kernel
theorem dX4_isGood_16 : decode cX4_isGood 16 = .ok (.aload_n 1, 1) := by decide +kernel
theorem dX4_isGood_17 : decode cX4_isGood 17 = .ok (.getfield 159, 3) := by decide +kernel
theorem dX4_isGood_20 : decode cX4_isGood 20 = .ok (.invokevirtual 170, 3) := by decide +kernel
theorem dX4_isGood_23 : decode cX4_isGood 23 = .ok (.ifCond .eq 7, 3) := by decide +kernel
theorem dX4_isGood_26 : decode cX4_isGood 26 = .ok (.iconst 1, 1) := by decide +kernel
theorem dX4_isGood_27 : decode cX4_isGood 27 = .ok (.goto 4, 3) := by decide +kernel
theorem dX4_isGood_30 : decode cX4_isGood 30 = .ok (.iconst 0, 1) := by decide +kernel
theorem dX4_isGood_31 : decode cX4_isGood 31 = .ok (.ireturn, 1) := by decide +kernel
abbrev rm_X4_putTimes : Room := { frames := 0, cells := 0, slots := 0, locals := 0 }
set_option maxRecDepth 100000 in
set_option maxHeartbeats 4000000 in
theorem ct_X4_putTimes (l : Launch) (g : GT) (w : WT) (i : Nat) (hi : i ∈ k_S w.1) (sd : SD) (a1 : Int32) (a2 : Int32) (a3 : Int32) (a4 : Int32) (a5 : Int32) {q : SD} (hf : f_X4_putTimes sd a1 a2 a3 a4 a5 = some q) : Met l yX4_putTimes wsX4_putTimes rm_X4_putTimes (cPre g (wS w i sd) [.ref (adr i 4 0), .int a1, .int a2, .int a3, .int a4, .int a5]) (cQv g (wS w i q)) 0 0 (gA g) := by
  have i_4 : ∀ w ∈ u_ws RX4 TX4 18, w ∈ wsX4_putTimes := by decide +kernel
  refine x_met (by decide) rfl (Nat.le_of_ble_eq_true rfl) ?_
  intro p e s m below meth c hx hb hr hml hts hown hlocks hK hW hS ls hl
  have hown : s.vm.findClass RX4 = some m.cls := hown
  have hl : lv_has ls 6 [(0, .ref (adr i 4 0)), (1, .int a1), (2, .int a2), (3, .int a3), (4, .int a4), (5, .int a5)] := hl
  rw [f_X4_putTimes] at hf
  refine lv_aload_n hx hb dX4_putTimes_0 rfl (lv_at hl 0 rfl) ?_
  refine x_get (i := i) (k := 4) (j := 0) (t := 1) hx hb hts i_4 hown hK hW ⟨hi, by decide⟩ rfl ⟨by decide, by decide, rfl⟩ (hts (.fieldLink RX4 9 "OpticalJukebox$State" "times" "[I") (by decide +kernel)) (v := .ref (adr i 10 0)) rfl dX4_putTimes_1 ?_
  refine lv_iconst (v := 0) hx hb dX4_putTimes_4 (by decide) ?_
  refine lv_iload_n hx hb dX4_putTimes_5 rfl (lv_at hl 1 rfl) ?_
  obtain ⟨sd1, e_sd1, hf⟩ := x_letE hf
  refine x_iast (i := i) (k := 10) (j := 0) (w' := wS w i sd1) hx hb hK hW ⟨hi, by decide⟩ hS (by decide) rfl rfl rfl (by unfold vp_in; decide) dX4_putTimes_6 (fp_S e_sd1 rfl) (fun H locs hW hS => ?_)
  refine lv_aload_n hx hb dX4_putTimes_7 rfl (lv_at hl 0 rfl) ?_
  refine x_get (i := i) (k := 4) (j := 0) (t := 1) hx hb hts i_4 hown hK hW ⟨hi, by decide⟩ rfl ⟨by decide, by decide, rfl⟩ (hts (.fieldLink RX4 9 "OpticalJukebox$State" "times" "[I") (by decide +kernel)) (v := .ref (adr i 10 0)) rfl dX4_putTimes_8 ?_
  refine lv_iconst (v := 1) hx hb dX4_putTimes_11 (by decide) ?_
  refine lv_iload_n hx hb dX4_putTimes_12 rfl (lv_at hl 2 rfl) ?_
  obtain ⟨sd2, e_sd2, hf⟩ := x_letE hf
  refine x_iast (i := i) (k := 10) (j := 0) (w' := wS w i sd2) hx hb hK hW ⟨hi, by decide⟩ hS (by decide) rfl rfl rfl (by unfold vp_in; decide) dX4_putTimes_13 (fp_S e_sd2 rfl) (fun H locs hW hS => ?_)
  refine lv_aload_n hx hb dX4_putTimes_14 rfl (lv_at hl 0 rfl) ?_
  refine x_get (i := i) (k := 4) (j := 0) (t := 1) hx hb hts i_4 hown hK hW ⟨hi, by decide⟩ rfl ⟨by decide, by decide, rfl⟩ (hts (.fieldLink RX4 9 "OpticalJukebox$State" "times" "[I") (by decide +kernel)) (v := .ref (adr i 10 0)) rfl dX4_putTimes_15 ?_
  refine lv_iconst (v := 2) hx hb dX4_putTimes_18 (by decide) ?_
  refine lv_iload_n hx hb dX4_putTimes_19 rfl (lv_at hl 3 rfl) ?_
  obtain ⟨sd3, e_sd3, hf⟩ := x_letE hf
  refine x_iast (i := i) (k := 10) (j := 0) (w' := wS w i sd3) hx hb hK hW ⟨hi, by decide⟩ hS (by decide) rfl rfl rfl (by unfold vp_in; decide) dX4_putTimes_20 (fp_S e_sd3 rfl) (fun H locs hW hS => ?_)
  refine lv_aload_n hx hb dX4_putTimes_21 rfl (lv_at hl 0 rfl) ?_
  refine x_get (i := i) (k := 4) (j := 0) (t := 1) hx hb hts i_4 hown hK hW ⟨hi, by decide⟩ rfl ⟨by decide, by decide, rfl⟩ (hts (.fieldLink RX4 9 "OpticalJukebox$State" "times" "[I") (by decide +kernel)) (v := .ref (adr i 10 0)) rfl dX4_putTimes_22 ?_
  refine lv_iconst (v := 3) hx hb dX4_putTimes_25 (by decide) ?_
  refine lv_iload hx hb dX4_putTimes_26 (lv_at hl 4 rfl) ?_
  obtain ⟨sd4, e_sd4, hf⟩ := x_letE hf
  refine x_iast (i := i) (k := 10) (j := 0) (w' := wS w i sd4) hx hb hK hW ⟨hi, by decide⟩ hS (by decide) rfl rfl rfl (by unfold vp_in; decide) dX4_putTimes_28 (fp_S e_sd4 rfl) (fun H locs hW hS => ?_)
  refine lv_aload_n hx hb dX4_putTimes_29 rfl (lv_at hl 0 rfl) ?_
  refine x_get (i := i) (k := 4) (j := 0) (t := 1) hx hb hts i_4 hown hK hW ⟨hi, by decide⟩ rfl ⟨by decide, by decide, rfl⟩ (hts (.fieldLink RX4 9 "OpticalJukebox$State" "times" "[I") (by decide +kernel)) (v := .ref (adr i 10 0)) rfl dX4_putTimes_30 ?_
  refine lv_iconst (v := 4) hx hb dX4_putTimes_33 (by decide) ?_
  refine lv_iload hx hb dX4_putTimes_34 (lv_at hl 5 rfl) ?_
  obtain ⟨sd5, e_sd5, hf⟩ := x_letE hf
  refine x_iast (i := i) (k := 10) (j := 0) (w' := wS w i sd5) hx hb hK hW ⟨hi, by decide⟩ hS (by decide) rfl rfl rfl (by unfold vp_in; decide) dX4_putTimes_36 (fp_S e_sd5 rfl) (fun H locs hW hS => ?_)
  cases hf
  exact x_vret hx hb hr hlocks hK hW hS dX4_putTimes_37
abbrev rm_X4_beginEmpty : Room := { frames := 1, cells := 0, slots := 0, locals := 25 }
set_option maxRecDepth 100000 in
set_option maxHeartbeats 4000000 in
theorem ct_X4_beginEmpty (l : Launch) (g : GT) (w : WT) (i : Nat) (hi : i ∈ k_S w.1) (sd : SD) {q : SD} (hf : f_X4_beginEmpty sd  = some q) : Met l yX4_beginEmpty wsX4_beginEmpty rm_X4_beginEmpty (cPre g (wS w i sd) [.ref (adr i 4 0)]) (cQv g (wS w i q)) 0 0 (gA g) := by
  have i_4 : ∀ w ∈ u_ws RX4 TX4 18, w ∈ wsX4_beginEmpty := by decide +kernel
  refine x_met (by decide) rfl (Nat.le_of_ble_eq_true rfl) ?_
  intro p e s m below meth c hx hb hr hml hts hown hlocks hK hW hS ls hl
  have hown : s.vm.findClass RX4 = some m.cls := hown
  have hl : lv_has ls 1 [(0, .ref (adr i 4 0))] := hl
  rw [f_X4_beginEmpty] at hf
  refine lv_aload_n hx hb dX4_beginEmpty_0 rfl (lv_at hl 0 rfl) ?_
  refine lv_bipush (v := 12) hx hb dX4_beginEmpty_1 (by decide) ?_
  obtain ⟨sd1, e_sd1, hf⟩ := x_letE hf
  refine x_put (i := i) (k := 4) (j := 0) (t := 0) (w' := wS w i sd1) hx hb hts i_4 tyX4 tyX4_ok nmX4 hown hK hW ⟨hi, by decide⟩ hS rfl ⟨by decide, by decide, rfl⟩ (hts (.fieldLink RX4 45 "OpticalJukebox$State" "slotCount" "I") (by decide +kernel)) rfl (ty := .int) (by decide +kernel) rfl rfl ⟨rfl, rfl⟩ dX4_beginEmpty_3 (fp_S e_sd1 rfl) (fun H locs hW hS => ?_)
  refine lv_aload_n hx hb dX4_beginEmpty_6 rfl (lv_at hl 0 rfl) ?_
  refine lv_iconst (v := 1) hx hb dX4_beginEmpty_7 (by decide) ?_
  refine lv_iconst (v := 2) hx hb dX4_beginEmpty_8 (by decide) ?_
  refine lv_iconst (v := 5) hx hb dX4_beginEmpty_9 (by decide) ?_
  refine lv_iconst (v := 1) hx hb dX4_beginEmpty_10 (by decide) ?_
  refine lv_iconst (v := 3) hx hb dX4_beginEmpty_11 (by decide) ?_
  obtain ⟨q2, h_q2, hf⟩ := x_bindE hf
  refine x_cv0 (x_rV ⟨hx, hb, hml, hown, hts⟩ (ct_X4_putTimes l g w i hi sd1 ((1 : Int32)) ((2 : Int32)) ((5 : Int32)) ((1 : Int32)) ((3 : Int32)) h_q2) (cwV 5 hts gX4_beginEmpty_X4_putTimes rfl rfl rfl (by decide +kernel) ⟨Nat.le_of_ble_eq_true rfl, Nat.le_of_ble_eq_true rfl⟩) hK hW hS (x_recv (i := i) (k := 4) (j := 0) hK hW ⟨hi, by decide⟩ rfl (by decide)) rfl hl.1 (rest := []) rfl (Nat.le_of_ble_eq_true rfl) dX4_beginEmpty_12 ⟨Nat.le_of_ble_eq_true rfl, Nat.le_of_ble_eq_true rfl⟩) hS (fun H locs hW hS => ?_)
  have hW : World g (wS w i q2) H := hW
  refine lv_aload_n hx hb dX4_beginEmpty_15 rfl (lv_at hl 0 rfl) ?_
  refine lv_iconst (v := 0) hx hb dX4_beginEmpty_16 (by decide) ?_
  obtain ⟨sd3, e_sd3, hf⟩ := x_letE hf
  refine x_put (i := i) (k := 4) (j := 0) (t := 3) (w' := wS w i sd3) hx hb hts i_4 tyX4 tyX4_ok nmX4 hown hK hW ⟨hi, by decide⟩ hS rfl ⟨by decide, by decide, rfl⟩ (hts (.fieldLink RX4 53 "OpticalJukebox$State" "driveCount" "I") (by decide +kernel)) rfl (ty := .int) (by decide +kernel) rfl rfl ⟨rfl, rfl⟩ dX4_beginEmpty_17 (fp_S e_sd3 rfl) (fun H locs hW hS => ?_)
  refine lv_aload_n hx hb dX4_beginEmpty_20 rfl (lv_at hl 0 rfl) ?_
  refine lv_iconst (v := 0) hx hb dX4_beginEmpty_21 (by decide) ?_
  obtain ⟨sd4, e_sd4, hf⟩ := x_letE hf
  refine x_put (i := i) (k := 4) (j := 0) (t := 4) (w' := wS w i sd4) hx hb hts i_4 tyX4 tyX4_ok nmX4 hown hK hW ⟨hi, by decide⟩ hS rfl ⟨by decide, by decide, rfl⟩ (hts (.fieldLink RX4 56 "OpticalJukebox$State" "uses" "I") (by decide +kernel)) rfl (ty := .int) (by decide +kernel) rfl rfl ⟨rfl, rfl⟩ dX4_beginEmpty_22 (fp_S e_sd4 rfl) (fun H locs hW hS => ?_)
  refine lv_aload_n hx hb dX4_beginEmpty_25 rfl (lv_at hl 0 rfl) ?_
  refine lv_iconst (v := 0) hx hb dX4_beginEmpty_26 (by decide) ?_
  obtain ⟨sd5, e_sd5, hf⟩ := x_letE hf
  refine x_put (i := i) (k := 4) (j := 0) (t := 6) (w' := wS w i sd5) hx hb hts i_4 tyX4 tyX4_ok nmX4 hown hK hW ⟨hi, by decide⟩ hS rfl ⟨by decide, by decide, rfl⟩ (hts (.fieldLink RX4 59 "OpticalJukebox$State" "platterCount" "I") (by decide +kernel)) rfl (ty := .int) (by decide +kernel) rfl rfl ⟨rfl, rfl⟩ dX4_beginEmpty_27 (fp_S e_sd5 rfl) (fun H locs hW hS => ?_)
  refine lv_aload_n hx hb dX4_beginEmpty_30 rfl (lv_at hl 0 rfl) ?_
  refine lv_iconst (v := 0) hx hb dX4_beginEmpty_31 (by decide) ?_
  obtain ⟨sd6, e_sd6, hf⟩ := x_letE hf
  refine x_put (i := i) (k := 4) (j := 0) (t := 7) (w' := wS w i sd6) hx hb hts i_4 tyX4 tyX4_ok nmX4 hown hK hW ⟨hi, by decide⟩ hS rfl ⟨by decide, by decide, rfl⟩ (hts (.fieldLink RX4 62 "OpticalJukebox$State" "badCount" "I") (by decide +kernel)) rfl (ty := .int) (by decide +kernel) rfl rfl ⟨rfl, rfl⟩ dX4_beginEmpty_32 (fp_S e_sd6 rfl) (fun H locs hW hS => ?_)
  refine lv_aload_n hx hb dX4_beginEmpty_35 rfl (lv_at hl 0 rfl) ?_
  refine lv_iconst (v := 0) hx hb dX4_beginEmpty_36 (by decide) ?_
  obtain ⟨sd7, e_sd7, hf⟩ := x_letE hf
  refine x_put (i := i) (k := 4) (j := 0) (t := 9) (w' := wS w i sd7) hx hb hts i_4 tyX4 tyX4_ok nmX4 hown hK hW ⟨hi, by decide⟩ hS rfl ⟨by decide, by decide, rfl⟩ (hts (.fieldLink RX4 65 "OpticalJukebox$State" "versionCount" "I") (by decide +kernel)) rfl (ty := .int) (by decide +kernel) rfl rfl ⟨rfl, rfl⟩ dX4_beginEmpty_37 (fp_S e_sd7 rfl) (fun H locs hW hS => ?_)
  refine lv_aload_n hx hb dX4_beginEmpty_40 rfl (lv_at hl 0 rfl) ?_
  refine lv_iconst (v := 0) hx hb dX4_beginEmpty_41 (by decide) ?_
  obtain ⟨sd8, e_sd8, hf⟩ := x_letE hf
  refine x_put (i := i) (k := 4) (j := 0) (t := 11) (w' := wS w i sd8) hx hb hts i_4 tyX4 tyX4_ok nmX4 hown hK hW ⟨hi, by decide⟩ hS rfl ⟨by decide, by decide, rfl⟩ (hts (.fieldLink RX4 68 "OpticalJukebox$State" "fileCount" "I") (by decide +kernel)) rfl (ty := .int) (by decide +kernel) rfl rfl ⟨rfl, rfl⟩ dX4_beginEmpty_42 (fp_S e_sd8 rfl) (fun H locs hW hS => ?_)
  refine lv_aload_n hx hb dX4_beginEmpty_45 rfl (lv_at hl 0 rfl) ?_
  refine lv_iconst (v := 0) hx hb dX4_beginEmpty_46 (by decide) ?_
  obtain ⟨sd9, e_sd9, hf⟩ := x_letE hf
  refine x_put (i := i) (k := 4) (j := 0) (t := 13) (w' := wS w i sd9) hx hb hts i_4 tyX4 tyX4_ok nmX4 hown hK hW ⟨hi, by decide⟩ hS rfl ⟨by decide, by decide, rfl⟩ (hts (.fieldLink RX4 71 "OpticalJukebox$State" "requestCount" "I") (by decide +kernel)) rfl (ty := .int) (by decide +kernel) rfl rfl ⟨rfl, rfl⟩ dX4_beginEmpty_47 (fp_S e_sd9 rfl) (fun H locs hW hS => ?_)
  refine lv_aload_n hx hb dX4_beginEmpty_50 rfl (lv_at hl 0 rfl) ?_
  refine lv_iconst (v := 0) hx hb dX4_beginEmpty_51 (by decide) ?_
  obtain ⟨sd10, e_sd10, hf⟩ := x_letE hf
  refine x_put (i := i) (k := 4) (j := 0) (t := 14) (w' := wS w i sd10) hx hb hts i_4 tyX4 tyX4_ok nmX4 hown hK hW ⟨hi, by decide⟩ hS rfl ⟨by decide, by decide, rfl⟩ (hts (.fieldLink RX4 74 "OpticalJukebox$State" "picker" "I") (by decide +kernel)) rfl (ty := .int) (by decide +kernel) rfl rfl ⟨rfl, rfl⟩ dX4_beginEmpty_52 (fp_S e_sd10 rfl) (fun H locs hW hS => ?_)
  refine lv_aload_n hx hb dX4_beginEmpty_55 rfl (lv_at hl 0 rfl) ?_
  refine lv_iconst (v := 0) hx hb dX4_beginEmpty_56 (by decide) ?_
  obtain ⟨sd11, e_sd11, hf⟩ := x_letE hf
  refine x_put (i := i) (k := 4) (j := 0) (t := 15) (w' := wS w i sd11) hx hb hts i_4 tyX4 tyX4_ok nmX4 hown hK hW ⟨hi, by decide⟩ hS rfl ⟨by decide, by decide, rfl⟩ (hts (.fieldLink RX4 77 "OpticalJukebox$State" "clock" "I") (by decide +kernel)) rfl (ty := .int) (by decide +kernel) rfl rfl ⟨rfl, rfl⟩ dX4_beginEmpty_57 (fp_S e_sd11 rfl) (fun H locs hW hS => ?_)
  refine lv_aload_n hx hb dX4_beginEmpty_60 rfl (lv_at hl 0 rfl) ?_
  refine lv_iconst (v := 0) hx hb dX4_beginEmpty_61 (by decide) ?_
  obtain ⟨sd12, e_sd12, hf⟩ := x_letE hf
  refine x_put (i := i) (k := 4) (j := 0) (t := 16) (w' := wS w i sd12) hx hb hts i_4 tyX4 tyX4_ok nmX4 hown hK hW ⟨hi, by decide⟩ hS rfl ⟨by decide, by decide, rfl⟩ (hts (.fieldLink RX4 80 "OpticalJukebox$State" "exchanges" "I") (by decide +kernel)) rfl (ty := .int) (by decide +kernel) rfl rfl ⟨rfl, rfl⟩ dX4_beginEmpty_62 (fp_S e_sd12 rfl) (fun H locs hW hS => ?_)
  refine lv_aload_n hx hb dX4_beginEmpty_65 rfl (lv_at hl 0 rfl) ?_
  refine lv_iconst (v := 0) hx hb dX4_beginEmpty_66 (by decide) ?_
  obtain ⟨sd13, e_sd13, hf⟩ := x_letE hf
  refine x_put (i := i) (k := 4) (j := 0) (t := 17) (w' := wS w i sd13) hx hb hts i_4 tyX4 tyX4_ok nmX4 hown hK hW ⟨hi, by decide⟩ hS rfl ⟨by decide, by decide, rfl⟩ (hts (.fieldLink RX4 83 "OpticalJukebox$State" "travel" "I") (by decide +kernel)) rfl (ty := .int) (by decide +kernel) rfl rfl ⟨rfl, rfl⟩ dX4_beginEmpty_67 (fp_S e_sd13 rfl) (fun H locs hW hS => ?_)
  cases hf
  exact x_vret hx hb hr hlocks hK hW hS dX4_beginEmpty_70
abbrev rm_X4_copyFrom : Room := { frames := 2, cells := 0, slots := 0, locals := 69 }
set_option maxRecDepth 100000 in
set_option maxHeartbeats 4000000 in
theorem ct_X4_copyFrom (l : Launch) (g : GT) (w : WT) (i : Nat) (hi : i ∈ k_S w.1) (i2 : Nat) (hi2 : i2 ∈ k_S w.1) (hne : i2 ≠ i) (sd : SD) (so : SD) {q : SD} (hf : f_X4_copyFrom sd so  = some q) : Met l yX4_copyFrom wsX4_copyFrom rm_X4_copyFrom (cPre g (wS (wS w i2 so) i sd) [.ref (adr i 4 0), .ref (adr i2 4 0)]) (cQv g (wS (wS w i2 so) i q)) 0 0 (gA g) := by
  have i_4 : ∀ w ∈ u_ws RX4 TX4 18, w ∈ wsX4_copyFrom := by decide +kernel
  refine x_met (by decide) rfl (Nat.le_of_ble_eq_true rfl) ?_
  intro p e s m below meth c hx hb hr hml hts hown hlocks hK hW hS ls hl
  have hown : s.vm.findClass RX4 = some m.cls := hown
  have hl : lv_has ls 3 [(0, .ref (adr i 4 0)), (1, .ref (adr i2 4 0))] := hl
  rw [f_X4_copyFrom] at hf
  refine lv_aload_n hx hb dX4_copyFrom_0 rfl (lv_at hl 0 rfl) ?_
  refine lv_aload_n hx hb dX4_copyFrom_1 rfl (lv_at hl 1 rfl) ?_
  refine x_get (i := i2) (k := 4) (j := 0) (t := 0) hx hb hts i_4 hown hK hW ⟨hi2, by decide⟩ rfl ⟨by decide, by decide, rfl⟩ (hts (.fieldLink RX4 45 "OpticalJukebox$State" "slotCount" "I") (by decide +kernel)) (sv_S2 hne rfl (fun _ => rfl) rfl) dX4_copyFrom_2 ?_
  obtain ⟨sd1, e_sd1, hf⟩ := x_letE hf
  refine x_put (i := i) (k := 4) (j := 0) (t := 0) (w' := wS (wS w i2 so) i sd1) hx hb hts i_4 tyX4 tyX4_ok nmX4 hown hK hW ⟨hi, by decide⟩ hS rfl ⟨by decide, by decide, rfl⟩ (hts (.fieldLink RX4 45 "OpticalJukebox$State" "slotCount" "I") (by decide +kernel)) rfl (ty := .int) (by decide +kernel) rfl rfl ⟨rfl, rfl⟩ dX4_copyFrom_5 (fp_S e_sd1 rfl) (fun H locs hW hS => ?_)
  refine lv_aload_n hx hb dX4_copyFrom_8 rfl (lv_at hl 1 rfl) ?_
  refine x_get (i := i2) (k := 4) (j := 0) (t := 1) hx hb hts i_4 hown hK hW ⟨hi2, by decide⟩ rfl ⟨by decide, by decide, rfl⟩ (hts (.fieldLink RX4 9 "OpticalJukebox$State" "times" "[I") (by decide +kernel)) (v := .ref (adr i2 10 0)) rfl dX4_copyFrom_9 ?_
  refine lv_iconst (v := 0) hx hb dX4_copyFrom_12 (by decide) ?_
  refine lv_aload_n hx hb dX4_copyFrom_13 rfl (lv_at hl 0 rfl) ?_
  refine x_get (i := i) (k := 4) (j := 0) (t := 1) hx hb hts i_4 hown hK hW ⟨hi, by decide⟩ rfl ⟨by decide, by decide, rfl⟩ (hts (.fieldLink RX4 9 "OpticalJukebox$State" "times" "[I") (by decide +kernel)) (v := .ref (adr i 10 0)) rfl dX4_copyFrom_14 ?_
  refine lv_iconst (v := 0) hx hb dX4_copyFrom_17 (by decide) ?_
  refine lv_iconst (v := 5) hx hb dX4_copyFrom_18 (by decide) ?_
  obtain ⟨sd2, e_sd2, hf⟩ := x_letE hf
  refine x_cpy (i := i) (k := 10) (j := 0) (i2 := i2) (j2 := 0) (w' := wS (wS w i2 so) i sd2) hx hb (hml.trans hl.1.symm) hown (hts (.methodLink RX4 86 arraycopyName) (by decide +kernel)) (hts (.native arraycopyName) (by decide +kernel)) (hts (.static arraycopyName) (by decide +kernel)) (hts (.initialized "java/lang/System") (by decide +kernel)) hK hW ⟨hi2, by decide⟩ ⟨hi, by decide⟩ hS (by decide) rfl (ct_S2 hne rfl (fun _ => rfl)) (ct_S rfl (fun _ => rfl)) rfl (by decide) (Nat.le_of_ble_eq_true rfl) (Nat.le_of_ble_eq_true rfl) dX4_copyFrom_19 (fc_S e_sd2 rfl hW) (fun H locs hW hS => ?_)
  refine lv_aload_n hx hb dX4_copyFrom_22 rfl (lv_at hl 0 rfl) ?_
  refine lv_aload_n hx hb dX4_copyFrom_23 rfl (lv_at hl 1 rfl) ?_
  refine x_get (i := i2) (k := 4) (j := 0) (t := 3) hx hb hts i_4 hown hK hW ⟨hi2, by decide⟩ rfl ⟨by decide, by decide, rfl⟩ (hts (.fieldLink RX4 53 "OpticalJukebox$State" "driveCount" "I") (by decide +kernel)) (sv_S2 hne rfl (fun _ => rfl) rfl) dX4_copyFrom_24 ?_
  obtain ⟨sd3, e_sd3, hf⟩ := x_letE hf
  refine x_put (i := i) (k := 4) (j := 0) (t := 3) (w' := wS (wS w i2 so) i sd3) hx hb hts i_4 tyX4 tyX4_ok nmX4 hown hK hW ⟨hi, by decide⟩ hS rfl ⟨by decide, by decide, rfl⟩ (hts (.fieldLink RX4 53 "OpticalJukebox$State" "driveCount" "I") (by decide +kernel)) rfl (ty := .int) (by decide +kernel) rfl rfl ⟨rfl, rfl⟩ dX4_copyFrom_27 (fp_S e_sd3 rfl) (fun H locs hW hS => ?_)
  refine lv_iconst (v := 0) hx hb dX4_copyFrom_30 (by decide) ?_
  refine lv_istore_n (lv' := [(2, .int (0 : Int32)), (0, .ref (adr i 4 0)), (1, .ref (adr i2 4 0))]) hx hb dX4_copyFrom_31 rfl hl (by decide) rfl (fun ls hl => ?_)
  have L32 : ∀ (n : Nat) (v2_32 : Int32) (sd_32 : SD) (ls : Array Slot) (H : Heap) (locs : List Loc), lv_has ls 3 [(0, .ref (adr i 4 0)), (1, .ref (adr i2 4 0)), (2, .int v2_32)] → World g (wS (wS w i2 so) i sd_32) H → va_S (gA g) s.heap H locs → f_X4_copyFrom_L32 so n v2_32 sd_32 = some q → W p l e rm_X4_copyFrom s m [.ref (adr i 4 0), .ref (adr i2 4 0)].toArray below meth c H locs 0 0 (MQ below (cQv g (wS (wS w i2 so) i q)) [.ref (adr i 4 0), .ref (adr i2 4 0)].toArray s 0 0 (gA g)) (F0 m 32 ls []) := by
    clear hW hS hl
    intro n
    induction n with
    | zero => intro v2_32 sd_32 ls H locs hl hW hS hf; cases hf
    | succ n_32 ih =>
      intro v2_32 sd_32 ls H locs hl hW hS hf
      rw [f_X4_copyFrom_L32] at hf
      refine lv_iload_n hx hb dX4_copyFrom_32 rfl (lv_at hl 2 rfl) ?_
      refine lv_aload_n hx hb dX4_copyFrom_33 rfl (lv_at hl 0 rfl) ?_
      refine x_get (i := i) (k := 4) (j := 0) (t := 3) hx hb hts i_4 hown hK hW ⟨hi, by decide⟩ rfl ⟨by decide, by decide, rfl⟩ (hts (.fieldLink RX4 53 "OpticalJukebox$State" "driveCount" "I") (by decide +kernel)) (sv_S rfl (fun _ => rfl) rfl) dX4_copyFrom_34 ?_
      refine lv_icmp_ge (tgt := 61) hx hb dX4_copyFrom_37 (by decide) (fun hc => ?_) (fun hc => ?_)
      · have hf := x_iteT hf hc
        refine lv_aload_n hx hb dX4_copyFrom_61 rfl (lv_at hl 0 rfl) ?_
        refine lv_aload_n hx hb dX4_copyFrom_62 rfl (lv_at hl 1 rfl) ?_
        refine x_get (i := i2) (k := 4) (j := 0) (t := 4) hx hb hts i_4 hown hK hW ⟨hi2, by decide⟩ rfl ⟨by decide, by decide, rfl⟩ (hts (.fieldLink RX4 56 "OpticalJukebox$State" "uses" "I") (by decide +kernel)) (sv_S2 hne rfl (fun _ => rfl) rfl) dX4_copyFrom_63 ?_
        obtain ⟨sd4, e_sd4, hf⟩ := x_letE hf
        refine x_put (i := i) (k := 4) (j := 0) (t := 4) (w' := wS (wS w i2 so) i sd4) hx hb hts i_4 tyX4 tyX4_ok nmX4 hown hK hW ⟨hi, by decide⟩ hS rfl ⟨by decide, by decide, rfl⟩ (hts (.fieldLink RX4 56 "OpticalJukebox$State" "uses" "I") (by decide +kernel)) rfl (ty := .int) (by decide +kernel) rfl rfl ⟨rfl, rfl⟩ dX4_copyFrom_66 (fp_S e_sd4 rfl) (fun H locs hW hS => ?_)
        refine lv_aload_n hx hb dX4_copyFrom_69 rfl (lv_at hl 0 rfl) ?_
        refine lv_aload_n hx hb dX4_copyFrom_70 rfl (lv_at hl 1 rfl) ?_
        refine x_get (i := i2) (k := 4) (j := 0) (t := 6) hx hb hts i_4 hown hK hW ⟨hi2, by decide⟩ rfl ⟨by decide, by decide, rfl⟩ (hts (.fieldLink RX4 59 "OpticalJukebox$State" "platterCount" "I") (by decide +kernel)) (sv_S2 hne rfl (fun _ => rfl) rfl) dX4_copyFrom_71 ?_
        obtain ⟨sd5, e_sd5, hf⟩ := x_letE hf
        refine x_put (i := i) (k := 4) (j := 0) (t := 6) (w' := wS (wS w i2 so) i sd5) hx hb hts i_4 tyX4 tyX4_ok nmX4 hown hK hW ⟨hi, by decide⟩ hS rfl ⟨by decide, by decide, rfl⟩ (hts (.fieldLink RX4 59 "OpticalJukebox$State" "platterCount" "I") (by decide +kernel)) rfl (ty := .int) (by decide +kernel) rfl rfl ⟨rfl, rfl⟩ dX4_copyFrom_74 (fp_S e_sd5 rfl) (fun H locs hW hS => ?_)
        refine lv_iconst (v := 0) hx hb dX4_copyFrom_77 (by decide) ?_
        refine lv_istore_n (lv' := [(2, .int (0 : Int32)), (0, .ref (adr i 4 0)), (1, .ref (adr i2 4 0))]) hx hb dX4_copyFrom_78 rfl hl (by decide) rfl (fun ls hl => ?_)
        have L79 : ∀ (n : Nat) (v2_79 : Int32) (sd_79 : SD) (ls : Array Slot) (H : Heap) (locs : List Loc), lv_has ls 3 [(0, .ref (adr i 4 0)), (1, .ref (adr i2 4 0)), (2, .int v2_79)] → World g (wS (wS w i2 so) i sd_79) H → va_S (gA g) s.heap H locs → f_X4_copyFrom_L79 so n v2_79 sd_79 = some q → W p l e rm_X4_copyFrom s m [.ref (adr i 4 0), .ref (adr i2 4 0)].toArray below meth c H locs 0 0 (MQ below (cQv g (wS (wS w i2 so) i q)) [.ref (adr i 4 0), .ref (adr i2 4 0)].toArray s 0 0 (gA g)) (F0 m 79 ls []) := by
          clear hW hS hl
          intro n
          induction n with
          | zero => intro v2_79 sd_79 ls H locs hl hW hS hf; cases hf
          | succ n_79 ih =>
            intro v2_79 sd_79 ls H locs hl hW hS hf
            rw [f_X4_copyFrom_L79] at hf
            refine lv_iload_n hx hb dX4_copyFrom_79 rfl (lv_at hl 2 rfl) ?_
            refine lv_aload_n hx hb dX4_copyFrom_80 rfl (lv_at hl 0 rfl) ?_
            refine x_get (i := i) (k := 4) (j := 0) (t := 6) hx hb hts i_4 hown hK hW ⟨hi, by decide⟩ rfl ⟨by decide, by decide, rfl⟩ (hts (.fieldLink RX4 59 "OpticalJukebox$State" "platterCount" "I") (by decide +kernel)) (sv_S rfl (fun _ => rfl) rfl) dX4_copyFrom_81 ?_
            refine lv_icmp_ge (tgt := 108) hx hb dX4_copyFrom_84 (by decide) (fun hc => ?_) (fun hc => ?_)
            · have hf := x_iteT hf hc
              refine lv_aload_n hx hb dX4_copyFrom_108 rfl (lv_at hl 0 rfl) ?_
              refine lv_aload_n hx hb dX4_copyFrom_109 rfl (lv_at hl 1 rfl) ?_
              refine x_get (i := i2) (k := 4) (j := 0) (t := 7) hx hb hts i_4 hown hK hW ⟨hi2, by decide⟩ rfl ⟨by decide, by decide, rfl⟩ (hts (.fieldLink RX4 62 "OpticalJukebox$State" "badCount" "I") (by decide +kernel)) (sv_S2 hne rfl (fun _ => rfl) rfl) dX4_copyFrom_110 ?_
              obtain ⟨sd6, e_sd6, hf⟩ := x_letE hf
              refine x_put (i := i) (k := 4) (j := 0) (t := 7) (w' := wS (wS w i2 so) i sd6) hx hb hts i_4 tyX4 tyX4_ok nmX4 hown hK hW ⟨hi, by decide⟩ hS rfl ⟨by decide, by decide, rfl⟩ (hts (.fieldLink RX4 62 "OpticalJukebox$State" "badCount" "I") (by decide +kernel)) rfl (ty := .int) (by decide +kernel) rfl rfl ⟨rfl, rfl⟩ dX4_copyFrom_113 (fp_S e_sd6 rfl) (fun H locs hW hS => ?_)
              refine lv_aload_n hx hb dX4_copyFrom_116 rfl (lv_at hl 0 rfl) ?_
              refine lv_aload_n hx hb dX4_copyFrom_117 rfl (lv_at hl 1 rfl) ?_
              refine x_get (i := i2) (k := 4) (j := 0) (t := 9) hx hb hts i_4 hown hK hW ⟨hi2, by decide⟩ rfl ⟨by decide, by decide, rfl⟩ (hts (.fieldLink RX4 65 "OpticalJukebox$State" "versionCount" "I") (by decide +kernel)) (sv_S2 hne rfl (fun _ => rfl) rfl) dX4_copyFrom_118 ?_
              obtain ⟨sd7, e_sd7, hf⟩ := x_letE hf
              refine x_put (i := i) (k := 4) (j := 0) (t := 9) (w' := wS (wS w i2 so) i sd7) hx hb hts i_4 tyX4 tyX4_ok nmX4 hown hK hW ⟨hi, by decide⟩ hS rfl ⟨by decide, by decide, rfl⟩ (hts (.fieldLink RX4 65 "OpticalJukebox$State" "versionCount" "I") (by decide +kernel)) rfl (ty := .int) (by decide +kernel) rfl rfl ⟨rfl, rfl⟩ dX4_copyFrom_121 (fp_S e_sd7 rfl) (fun H locs hW hS => ?_)
              refine lv_iconst (v := 0) hx hb dX4_copyFrom_124 (by decide) ?_
              refine lv_istore_n (lv' := [(2, .int (0 : Int32)), (0, .ref (adr i 4 0)), (1, .ref (adr i2 4 0))]) hx hb dX4_copyFrom_125 rfl hl (by decide) rfl (fun ls hl => ?_)
              have L126 : ∀ (n : Nat) (v2_126 : Int32) (sd_126 : SD) (ls : Array Slot) (H : Heap) (locs : List Loc), lv_has ls 3 [(0, .ref (adr i 4 0)), (1, .ref (adr i2 4 0)), (2, .int v2_126)] → World g (wS (wS w i2 so) i sd_126) H → va_S (gA g) s.heap H locs → f_X4_copyFrom_L126 so n v2_126 sd_126 = some q → W p l e rm_X4_copyFrom s m [.ref (adr i 4 0), .ref (adr i2 4 0)].toArray below meth c H locs 0 0 (MQ below (cQv g (wS (wS w i2 so) i q)) [.ref (adr i 4 0), .ref (adr i2 4 0)].toArray s 0 0 (gA g)) (F0 m 126 ls []) := by
                clear hW hS hl
                intro n
                induction n with
                | zero => intro v2_126 sd_126 ls H locs hl hW hS hf; cases hf
                | succ n_126 ih =>
                  intro v2_126 sd_126 ls H locs hl hW hS hf
                  rw [f_X4_copyFrom_L126] at hf
                  refine lv_iload_n hx hb dX4_copyFrom_126 rfl (lv_at hl 2 rfl) ?_
                  refine lv_aload_n hx hb dX4_copyFrom_127 rfl (lv_at hl 0 rfl) ?_
                  refine x_get (i := i) (k := 4) (j := 0) (t := 9) hx hb hts i_4 hown hK hW ⟨hi, by decide⟩ rfl ⟨by decide, by decide, rfl⟩ (hts (.fieldLink RX4 65 "OpticalJukebox$State" "versionCount" "I") (by decide +kernel)) (sv_S rfl (fun _ => rfl) rfl) dX4_copyFrom_128 ?_
                  refine lv_icmp_ge (tgt := 155) hx hb dX4_copyFrom_131 (by decide) (fun hc => ?_) (fun hc => ?_)
                  · have hf := x_iteT hf hc
                    refine lv_aload_n hx hb dX4_copyFrom_155 rfl (lv_at hl 1 rfl) ?_
                    refine x_get (i := i2) (k := 4) (j := 0) (t := 10) hx hb hts i_4 hown hK hW ⟨hi2, by decide⟩ rfl ⟨by decide, by decide, rfl⟩ (hts (.fieldLink RX4 33 "OpticalJukebox$State" "current" "[I") (by decide +kernel)) (v := .ref (adr i2 14 0)) rfl dX4_copyFrom_156 ?_
                    refine lv_iconst (v := 0) hx hb dX4_copyFrom_159 (by decide) ?_
                    refine lv_aload_n hx hb dX4_copyFrom_160 rfl (lv_at hl 0 rfl) ?_
                    refine x_get (i := i) (k := 4) (j := 0) (t := 10) hx hb hts i_4 hown hK hW ⟨hi, by decide⟩ rfl ⟨by decide, by decide, rfl⟩ (hts (.fieldLink RX4 33 "OpticalJukebox$State" "current" "[I") (by decide +kernel)) (v := .ref (adr i 14 0)) rfl dX4_copyFrom_161 ?_
                    refine lv_iconst (v := 0) hx hb dX4_copyFrom_164 (by decide) ?_
                    refine lv_bipush (v := 20) hx hb dX4_copyFrom_165 (by decide) ?_
                    obtain ⟨sd8, e_sd8, hf⟩ := x_letE hf
                    refine x_cpy (i := i) (k := 14) (j := 0) (i2 := i2) (j2 := 0) (w' := wS (wS w i2 so) i sd8) hx hb (hml.trans hl.1.symm) hown (hts (.methodLink RX4 86 arraycopyName) (by decide +kernel)) (hts (.native arraycopyName) (by decide +kernel)) (hts (.static arraycopyName) (by decide +kernel)) (hts (.initialized "java/lang/System") (by decide +kernel)) hK hW ⟨hi2, by decide⟩ ⟨hi, by decide⟩ hS (by decide) rfl (ct_S2 hne rfl (fun _ => rfl)) (ct_S rfl (fun _ => rfl)) rfl (by decide) (Nat.le_of_ble_eq_true rfl) (Nat.le_of_ble_eq_true rfl) dX4_copyFrom_167 (fc_S e_sd8 rfl hW) (fun H locs hW hS => ?_)
                    refine lv_aload_n hx hb dX4_copyFrom_170 rfl (lv_at hl 0 rfl) ?_
                    refine lv_aload_n hx hb dX4_copyFrom_171 rfl (lv_at hl 1 rfl) ?_
                    refine x_get (i := i2) (k := 4) (j := 0) (t := 11) hx hb hts i_4 hown hK hW ⟨hi2, by decide⟩ rfl ⟨by decide, by decide, rfl⟩ (hts (.fieldLink RX4 68 "OpticalJukebox$State" "fileCount" "I") (by decide +kernel)) (sv_S2 hne rfl (fun _ => rfl) rfl) dX4_copyFrom_172 ?_
                    obtain ⟨sd9, e_sd9, hf⟩ := x_letE hf
                    refine x_put (i := i) (k := 4) (j := 0) (t := 11) (w' := wS (wS w i2 so) i sd9) hx hb hts i_4 tyX4 tyX4_ok nmX4 hown hK hW ⟨hi, by decide⟩ hS rfl ⟨by decide, by decide, rfl⟩ (hts (.fieldLink RX4 68 "OpticalJukebox$State" "fileCount" "I") (by decide +kernel)) rfl (ty := .int) (by decide +kernel) rfl rfl ⟨rfl, rfl⟩ dX4_copyFrom_175 (fp_S e_sd9 rfl) (fun H locs hW hS => ?_)
                    refine lv_aload_n hx hb dX4_copyFrom_178 rfl (lv_at hl 1 rfl) ?_
                    refine x_get (i := i2) (k := 4) (j := 0) (t := 12) hx hb hts i_4 hown hK hW ⟨hi2, by decide⟩ rfl ⟨by decide, by decide, rfl⟩ (hts (.fieldLink RX4 36 "OpticalJukebox$State" "requests" "[I") (by decide +kernel)) (v := .ref (adr i2 15 0)) rfl dX4_copyFrom_179 ?_
                    refine lv_iconst (v := 0) hx hb dX4_copyFrom_182 (by decide) ?_
                    refine lv_aload_n hx hb dX4_copyFrom_183 rfl (lv_at hl 0 rfl) ?_
                    refine x_get (i := i) (k := 4) (j := 0) (t := 12) hx hb hts i_4 hown hK hW ⟨hi, by decide⟩ rfl ⟨by decide, by decide, rfl⟩ (hts (.fieldLink RX4 36 "OpticalJukebox$State" "requests" "[I") (by decide +kernel)) (v := .ref (adr i 15 0)) rfl dX4_copyFrom_184 ?_
                    refine lv_iconst (v := 0) hx hb dX4_copyFrom_187 (by decide) ?_
                    refine lv_bipush (v := 16) hx hb dX4_copyFrom_188 (by decide) ?_
                    obtain ⟨sd10, e_sd10, hf⟩ := x_letE hf
                    refine x_cpy (i := i) (k := 15) (j := 0) (i2 := i2) (j2 := 0) (w' := wS (wS w i2 so) i sd10) hx hb (hml.trans hl.1.symm) hown (hts (.methodLink RX4 86 arraycopyName) (by decide +kernel)) (hts (.native arraycopyName) (by decide +kernel)) (hts (.static arraycopyName) (by decide +kernel)) (hts (.initialized "java/lang/System") (by decide +kernel)) hK hW ⟨hi2, by decide⟩ ⟨hi, by decide⟩ hS (by decide) rfl (ct_S2 hne rfl (fun _ => rfl)) (ct_S rfl (fun _ => rfl)) rfl (by decide) (Nat.le_of_ble_eq_true rfl) (Nat.le_of_ble_eq_true rfl) dX4_copyFrom_190 (fc_S e_sd10 rfl hW) (fun H locs hW hS => ?_)
                    refine lv_aload_n hx hb dX4_copyFrom_193 rfl (lv_at hl 0 rfl) ?_
                    refine lv_aload_n hx hb dX4_copyFrom_194 rfl (lv_at hl 1 rfl) ?_
                    refine x_get (i := i2) (k := 4) (j := 0) (t := 13) hx hb hts i_4 hown hK hW ⟨hi2, by decide⟩ rfl ⟨by decide, by decide, rfl⟩ (hts (.fieldLink RX4 71 "OpticalJukebox$State" "requestCount" "I") (by decide +kernel)) (sv_S2 hne rfl (fun _ => rfl) rfl) dX4_copyFrom_195 ?_
                    obtain ⟨sd11, e_sd11, hf⟩ := x_letE hf
                    refine x_put (i := i) (k := 4) (j := 0) (t := 13) (w' := wS (wS w i2 so) i sd11) hx hb hts i_4 tyX4 tyX4_ok nmX4 hown hK hW ⟨hi, by decide⟩ hS rfl ⟨by decide, by decide, rfl⟩ (hts (.fieldLink RX4 71 "OpticalJukebox$State" "requestCount" "I") (by decide +kernel)) rfl (ty := .int) (by decide +kernel) rfl rfl ⟨rfl, rfl⟩ dX4_copyFrom_198 (fp_S e_sd11 rfl) (fun H locs hW hS => ?_)
                    refine lv_aload_n hx hb dX4_copyFrom_201 rfl (lv_at hl 0 rfl) ?_
                    refine lv_aload_n hx hb dX4_copyFrom_202 rfl (lv_at hl 1 rfl) ?_
                    refine x_get (i := i2) (k := 4) (j := 0) (t := 14) hx hb hts i_4 hown hK hW ⟨hi2, by decide⟩ rfl ⟨by decide, by decide, rfl⟩ (hts (.fieldLink RX4 74 "OpticalJukebox$State" "picker" "I") (by decide +kernel)) (sv_S2 hne rfl (fun _ => rfl) rfl) dX4_copyFrom_203 ?_
                    obtain ⟨sd12, e_sd12, hf⟩ := x_letE hf
                    refine x_put (i := i) (k := 4) (j := 0) (t := 14) (w' := wS (wS w i2 so) i sd12) hx hb hts i_4 tyX4 tyX4_ok nmX4 hown hK hW ⟨hi, by decide⟩ hS rfl ⟨by decide, by decide, rfl⟩ (hts (.fieldLink RX4 74 "OpticalJukebox$State" "picker" "I") (by decide +kernel)) rfl (ty := .int) (by decide +kernel) rfl rfl ⟨rfl, rfl⟩ dX4_copyFrom_206 (fp_S e_sd12 rfl) (fun H locs hW hS => ?_)
                    refine lv_aload_n hx hb dX4_copyFrom_209 rfl (lv_at hl 0 rfl) ?_
                    refine lv_aload_n hx hb dX4_copyFrom_210 rfl (lv_at hl 1 rfl) ?_
                    refine x_get (i := i2) (k := 4) (j := 0) (t := 15) hx hb hts i_4 hown hK hW ⟨hi2, by decide⟩ rfl ⟨by decide, by decide, rfl⟩ (hts (.fieldLink RX4 77 "OpticalJukebox$State" "clock" "I") (by decide +kernel)) (sv_S2 hne rfl (fun _ => rfl) rfl) dX4_copyFrom_211 ?_
                    obtain ⟨sd13, e_sd13, hf⟩ := x_letE hf
                    refine x_put (i := i) (k := 4) (j := 0) (t := 15) (w' := wS (wS w i2 so) i sd13) hx hb hts i_4 tyX4 tyX4_ok nmX4 hown hK hW ⟨hi, by decide⟩ hS rfl ⟨by decide, by decide, rfl⟩ (hts (.fieldLink RX4 77 "OpticalJukebox$State" "clock" "I") (by decide +kernel)) rfl (ty := .int) (by decide +kernel) rfl rfl ⟨rfl, rfl⟩ dX4_copyFrom_214 (fp_S e_sd13 rfl) (fun H locs hW hS => ?_)
                    refine lv_aload_n hx hb dX4_copyFrom_217 rfl (lv_at hl 0 rfl) ?_
                    refine lv_aload_n hx hb dX4_copyFrom_218 rfl (lv_at hl 1 rfl) ?_
                    refine x_get (i := i2) (k := 4) (j := 0) (t := 16) hx hb hts i_4 hown hK hW ⟨hi2, by decide⟩ rfl ⟨by decide, by decide, rfl⟩ (hts (.fieldLink RX4 80 "OpticalJukebox$State" "exchanges" "I") (by decide +kernel)) (sv_S2 hne rfl (fun _ => rfl) rfl) dX4_copyFrom_219 ?_
                    obtain ⟨sd14, e_sd14, hf⟩ := x_letE hf
                    refine x_put (i := i) (k := 4) (j := 0) (t := 16) (w' := wS (wS w i2 so) i sd14) hx hb hts i_4 tyX4 tyX4_ok nmX4 hown hK hW ⟨hi, by decide⟩ hS rfl ⟨by decide, by decide, rfl⟩ (hts (.fieldLink RX4 80 "OpticalJukebox$State" "exchanges" "I") (by decide +kernel)) rfl (ty := .int) (by decide +kernel) rfl rfl ⟨rfl, rfl⟩ dX4_copyFrom_222 (fp_S e_sd14 rfl) (fun H locs hW hS => ?_)
                    refine lv_aload_n hx hb dX4_copyFrom_225 rfl (lv_at hl 0 rfl) ?_
                    refine lv_aload_n hx hb dX4_copyFrom_226 rfl (lv_at hl 1 rfl) ?_
                    refine x_get (i := i2) (k := 4) (j := 0) (t := 17) hx hb hts i_4 hown hK hW ⟨hi2, by decide⟩ rfl ⟨by decide, by decide, rfl⟩ (hts (.fieldLink RX4 83 "OpticalJukebox$State" "travel" "I") (by decide +kernel)) (sv_S2 hne rfl (fun _ => rfl) rfl) dX4_copyFrom_227 ?_
                    obtain ⟨sd15, e_sd15, hf⟩ := x_letE hf
                    refine x_put (i := i) (k := 4) (j := 0) (t := 17) (w' := wS (wS w i2 so) i sd15) hx hb hts i_4 tyX4 tyX4_ok nmX4 hown hK hW ⟨hi, by decide⟩ hS rfl ⟨by decide, by decide, rfl⟩ (hts (.fieldLink RX4 83 "OpticalJukebox$State" "travel" "I") (by decide +kernel)) rfl (ty := .int) (by decide +kernel) rfl rfl ⟨rfl, rfl⟩ dX4_copyFrom_230 (fp_S e_sd15 rfl) (fun H locs hW hS => ?_)
                    cases hf
                    exact x_vret hx hb hr hlocks hK hW hS dX4_copyFrom_233
                  · have hf := x_iteF hf hc
                    refine lv_aload_n hx hb dX4_copyFrom_134 rfl (lv_at hl 0 rfl) ?_
                    refine x_get (i := i) (k := 4) (j := 0) (t := 8) hx hb hts i_4 hown hK hW ⟨hi, by decide⟩ rfl ⟨by decide, by decide, rfl⟩ (hts (.fieldLink RX4 29 "OpticalJukebox$State" "versions" "[LOpticalJukebox$Version;") (by decide +kernel)) (v := .ref (adr i 13 0)) rfl dX4_copyFrom_135 ?_
                    refine lv_iload_n hx hb dX4_copyFrom_138 rfl (lv_at hl 2 rfl) ?_
                    obtain ⟨hg16, hf⟩ := x_guardE hf
                    refine x_aald (i := i) (k := 13) (j := 0) hx hb hK hW ⟨hi, by decide⟩ (by decide) rfl rfl hg16 dX4_copyFrom_139 ?_
                    refine W.eq (g2 := F0 m 140 ls [.ref (adr i 6 (v2_126).toNatClampNeg)]) rfl ?_
                    refine lv_aload_n hx hb dX4_copyFrom_140 rfl (lv_at hl 1 rfl) ?_
                    refine x_get (i := i2) (k := 4) (j := 0) (t := 8) hx hb hts i_4 hown hK hW ⟨hi2, by decide⟩ rfl ⟨by decide, by decide, rfl⟩ (hts (.fieldLink RX4 29 "OpticalJukebox$State" "versions" "[LOpticalJukebox$Version;") (by decide +kernel)) (v := .ref (adr i2 13 0)) rfl dX4_copyFrom_141 ?_
                    refine lv_iload_n hx hb dX4_copyFrom_144 rfl (lv_at hl 2 rfl) ?_
                    obtain ⟨hg17, hf⟩ := x_guardE hf
                    refine x_aald (i := i2) (k := 13) (j := 0) hx hb hK hW ⟨hi2, by decide⟩ (by decide) rfl rfl hg17 dX4_copyFrom_145 ?_
                    refine W.eq (g2 := F0 m 146 ls [.ref (adr i2 6 (v2_126).toNatClampNeg), .ref (adr i 6 (v2_126).toNatClampNeg)]) rfl ?_
                    obtain ⟨q18, h_q18, hf⟩ := x_bindE hf
                    refine x_cv0 (x_rV ⟨hx, hb, hml, hown, hts⟩ (ct_X6_copyFrom l g w i hi i2 hi2 hne sd_126 so ((v2_126).toNatClampNeg) ((x_lt hg16)) ((v2_126).toNatClampNeg) ((x_lt hg17)) h_q18) (cwV 1 hts gX4_copyFrom_X6_copyFrom rfl rfl rfl (by decide +kernel) ⟨Nat.le_of_ble_eq_true rfl, Nat.le_of_ble_eq_true rfl⟩) hK hW hS (x_recv (i := i) (k := 6) (j := (v2_126).toNatClampNeg) hK hW ⟨hi, (x_lt hg16)⟩ rfl (by decide)) rfl hl.1 (rest := []) rfl (Nat.le_of_ble_eq_true rfl) dX4_copyFrom_146 ⟨Nat.le_of_ble_eq_true rfl, Nat.le_of_ble_eq_true rfl⟩) hS (fun H locs hW hS => ?_)
                    have hW : World g (wS (wS w i2 so) i q18) H := hW
                    obtain ⟨x19, e_x19, hf⟩ := x_letE hf
                    refine lv_iinc (v := x19) (lv' := [(2, .int x19), (0, .ref (adr i 4 0)), (1, .ref (adr i2 4 0))]) hx hb dX4_copyFrom_149 hl (k := 2) rfl (by rw [e_x19]; rfl) (by decide) rfl (fun ls hl => ?_)
                    refine lv_goto (tgt := 126) hx hb dX4_copyFrom_152 (by decide) ?_
                    exact ih (x19) (q18) ls _ _ (lv_sub hl [1, 2, 0] rfl) hW hS hf
              exact L126 fuel ((0 : Int32)) (sd7) ls _ _ (lv_sub hl [1, 2, 0] rfl) hW hS hf
            · have hf := x_iteF hf hc
              refine lv_aload_n hx hb dX4_copyFrom_87 rfl (lv_at hl 0 rfl) ?_
              refine x_get (i := i) (k := 4) (j := 0) (t := 5) hx hb hts i_4 hown hK hW ⟨hi, by decide⟩ rfl ⟨by decide, by decide, rfl⟩ (hts (.fieldLink RX4 23 "OpticalJukebox$State" "platters" "[LOpticalJukebox$Platter;") (by decide +kernel)) (v := .ref (adr i 12 0)) rfl dX4_copyFrom_88 ?_
              refine lv_iload_n hx hb dX4_copyFrom_91 rfl (lv_at hl 2 rfl) ?_
              obtain ⟨hg20, hf⟩ := x_guardE hf
              refine x_aald (i := i) (k := 12) (j := 0) hx hb hK hW ⟨hi, by decide⟩ (by decide) rfl rfl hg20 dX4_copyFrom_92 ?_
              refine W.eq (g2 := F0 m 93 ls [.ref (adr i 3 (v2_79).toNatClampNeg)]) rfl ?_
              refine lv_aload_n hx hb dX4_copyFrom_93 rfl (lv_at hl 1 rfl) ?_
              refine x_get (i := i2) (k := 4) (j := 0) (t := 5) hx hb hts i_4 hown hK hW ⟨hi2, by decide⟩ rfl ⟨by decide, by decide, rfl⟩ (hts (.fieldLink RX4 23 "OpticalJukebox$State" "platters" "[LOpticalJukebox$Platter;") (by decide +kernel)) (v := .ref (adr i2 12 0)) rfl dX4_copyFrom_94 ?_
              refine lv_iload_n hx hb dX4_copyFrom_97 rfl (lv_at hl 2 rfl) ?_
              obtain ⟨hg21, hf⟩ := x_guardE hf
              refine x_aald (i := i2) (k := 12) (j := 0) hx hb hK hW ⟨hi2, by decide⟩ (by decide) rfl rfl hg21 dX4_copyFrom_98 ?_
              refine W.eq (g2 := F0 m 99 ls [.ref (adr i2 3 (v2_79).toNatClampNeg), .ref (adr i 3 (v2_79).toNatClampNeg)]) rfl ?_
              obtain ⟨q22, h_q22, hf⟩ := x_bindE hf
              refine x_cv0 (x_rV ⟨hx, hb, hml, hown, hts⟩ (ct_X3_copyFrom l g w i hi i2 hi2 hne sd_79 so ((v2_79).toNatClampNeg) ((x_lt hg20)) ((v2_79).toNatClampNeg) ((x_lt hg21)) h_q22) (cwV 1 hts gX4_copyFrom_X3_copyFrom rfl rfl rfl (by decide +kernel) ⟨Nat.le_of_ble_eq_true rfl, Nat.le_of_ble_eq_true rfl⟩) hK hW hS (x_recv (i := i) (k := 3) (j := (v2_79).toNatClampNeg) hK hW ⟨hi, (x_lt hg20)⟩ rfl (by decide)) rfl hl.1 (rest := []) rfl (Nat.le_of_ble_eq_true rfl) dX4_copyFrom_99 ⟨Nat.le_of_ble_eq_true rfl, Nat.le_of_ble_eq_true rfl⟩) hS (fun H locs hW hS => ?_)
              have hW : World g (wS (wS w i2 so) i q22) H := hW
              obtain ⟨x23, e_x23, hf⟩ := x_letE hf
              refine lv_iinc (v := x23) (lv' := [(2, .int x23), (0, .ref (adr i 4 0)), (1, .ref (adr i2 4 0))]) hx hb dX4_copyFrom_102 hl (k := 2) rfl (by rw [e_x23]; rfl) (by decide) rfl (fun ls hl => ?_)
              refine lv_goto (tgt := 79) hx hb dX4_copyFrom_105 (by decide) ?_
              exact ih (x23) (q22) ls _ _ (lv_sub hl [1, 2, 0] rfl) hW hS hf
        exact L79 fuel ((0 : Int32)) (sd5) ls _ _ (lv_sub hl [1, 2, 0] rfl) hW hS hf
      · have hf := x_iteF hf hc
        refine lv_aload_n hx hb dX4_copyFrom_40 rfl (lv_at hl 0 rfl) ?_
        refine x_get (i := i) (k := 4) (j := 0) (t := 2) hx hb hts i_4 hown hK hW ⟨hi, by decide⟩ rfl ⟨by decide, by decide, rfl⟩ (hts (.fieldLink RX4 17 "OpticalJukebox$State" "drives" "[LOpticalJukebox$Drive;") (by decide +kernel)) (v := .ref (adr i 11 0)) rfl dX4_copyFrom_41 ?_
        refine lv_iload_n hx hb dX4_copyFrom_44 rfl (lv_at hl 2 rfl) ?_
        obtain ⟨hg24, hf⟩ := x_guardE hf
        refine x_aald (i := i) (k := 11) (j := 0) hx hb hK hW ⟨hi, by decide⟩ (by decide) rfl rfl hg24 dX4_copyFrom_45 ?_
        refine W.eq (g2 := F0 m 46 ls [.ref (adr i 0 (v2_32).toNatClampNeg)]) rfl ?_
        refine lv_aload_n hx hb dX4_copyFrom_46 rfl (lv_at hl 1 rfl) ?_
        refine x_get (i := i2) (k := 4) (j := 0) (t := 2) hx hb hts i_4 hown hK hW ⟨hi2, by decide⟩ rfl ⟨by decide, by decide, rfl⟩ (hts (.fieldLink RX4 17 "OpticalJukebox$State" "drives" "[LOpticalJukebox$Drive;") (by decide +kernel)) (v := .ref (adr i2 11 0)) rfl dX4_copyFrom_47 ?_
        refine lv_iload_n hx hb dX4_copyFrom_50 rfl (lv_at hl 2 rfl) ?_
        obtain ⟨hg25, hf⟩ := x_guardE hf
        refine x_aald (i := i2) (k := 11) (j := 0) hx hb hK hW ⟨hi2, by decide⟩ (by decide) rfl rfl hg25 dX4_copyFrom_51 ?_
        refine W.eq (g2 := F0 m 52 ls [.ref (adr i2 0 (v2_32).toNatClampNeg), .ref (adr i 0 (v2_32).toNatClampNeg)]) rfl ?_
        obtain ⟨q26, h_q26, hf⟩ := x_bindE hf
        refine x_cv0 (x_rV ⟨hx, hb, hml, hown, hts⟩ (ct_X0_copyFrom l g w i hi i2 hi2 hne sd_32 so ((v2_32).toNatClampNeg) ((x_lt hg24)) ((v2_32).toNatClampNeg) ((x_lt hg25)) h_q26) (cwV 1 hts gX4_copyFrom_X0_copyFrom rfl rfl rfl (by decide +kernel) ⟨Nat.le_of_ble_eq_true rfl, Nat.le_of_ble_eq_true rfl⟩) hK hW hS (x_recv (i := i) (k := 0) (j := (v2_32).toNatClampNeg) hK hW ⟨hi, (x_lt hg24)⟩ rfl (by decide)) rfl hl.1 (rest := []) rfl (Nat.le_of_ble_eq_true rfl) dX4_copyFrom_52 ⟨Nat.le_of_ble_eq_true rfl, Nat.le_of_ble_eq_true rfl⟩) hS (fun H locs hW hS => ?_)
        have hW : World g (wS (wS w i2 so) i q26) H := hW
        obtain ⟨x27, e_x27, hf⟩ := x_letE hf
        refine lv_iinc (v := x27) (lv' := [(2, .int x27), (0, .ref (adr i 4 0)), (1, .ref (adr i2 4 0))]) hx hb dX4_copyFrom_55 hl (k := 2) rfl (by rw [e_x27]; rfl) (by decide) rfl (fun ls hl => ?_)
        refine lv_goto (tgt := 32) hx hb dX4_copyFrom_58 (by decide) ?_
        exact ih (x27) (q26) ls _ _ (lv_sub hl [1, 2, 0] rfl) hW hS hf
  exact L32 fuel ((0 : Int32)) (sd3) ls _ _ (lv_sub hl [1, 2, 0] rfl) hW hS hf
abbrev rm_X4_currentVersion : Room := { frames := 0, cells := 0, slots := 0, locals := 0 }
set_option maxRecDepth 100000 in
set_option maxHeartbeats 4000000 in
theorem ct_X4_currentVersion (l : Launch) (g : GT) (w : WT) (i : Nat) (hi : i ∈ k_S w.1) (sd : SD) (a1 : Int32) {q : Nat} (hf : f_X4_currentVersion sd a1 = some q) : Met l yX4_currentVersion wsX4_currentVersion rm_X4_currentVersion (cPre g (wS w i sd) [.ref (adr i 4 0), .int a1]) (cQr g (adr i 6 q) (wS w i sd)) 0 0 (gA g) := by
  have i_4 : ∀ w ∈ u_ws RX4 TX4 18, w ∈ wsX4_currentVersion := by decide +kernel
  refine x_met (by decide) rfl (Nat.le_of_ble_eq_true rfl) ?_
  intro p e s m below meth c hx hb hr hml hts hown hlocks hK hW hS ls hl
  have hown : s.vm.findClass RX4 = some m.cls := hown
  have hl : lv_has ls 2 [(0, .ref (adr i 4 0)), (1, .int a1)] := hl
  rw [f_X4_currentVersion] at hf
  refine lv_aload_n hx hb dX4_currentVersion_0 rfl (lv_at hl 0 rfl) ?_
  refine x_get (i := i) (k := 4) (j := 0) (t := 8) hx hb hts i_4 hown hK hW ⟨hi, by decide⟩ rfl ⟨by decide, by decide, rfl⟩ (hts (.fieldLink RX4 29 "OpticalJukebox$State" "versions" "[LOpticalJukebox$Version;") (by decide +kernel)) (v := .ref (adr i 13 0)) rfl dX4_currentVersion_1 ?_
  refine lv_aload_n hx hb dX4_currentVersion_4 rfl (lv_at hl 0 rfl) ?_
  refine x_get (i := i) (k := 4) (j := 0) (t := 10) hx hb hts i_4 hown hK hW ⟨hi, by decide⟩ rfl ⟨by decide, by decide, rfl⟩ (hts (.fieldLink RX4 33 "OpticalJukebox$State" "current" "[I") (by decide +kernel)) (v := .ref (adr i 14 0)) rfl dX4_currentVersion_5 ?_
  refine lv_iload_n hx hb dX4_currentVersion_8 rfl (lv_at hl 1 rfl) ?_
  obtain ⟨hg1, hf⟩ := x_guardE hf
  refine x_iald (i := i) (k := 14) (j := 0) (f := sd 14 0) hx hb hK hW ⟨hi, by decide⟩ (by decide) (ct_S rfl (fun _ => rfl)) rfl hg1 dX4_currentVersion_9 ?_
  obtain ⟨hg2, hf⟩ := x_guardE hf
  refine x_aald (i := i) (k := 13) (j := 0) hx hb hK hW ⟨hi, by decide⟩ (by decide) rfl rfl hg2 dX4_currentVersion_10 ?_
  refine W.eq (g2 := F0 m 11 ls [.ref (adr i 6 ((sd 14 0 (a1).toNatClampNeg)).toNatClampNeg)]) rfl ?_
  cases hf
  exact x_aret hx hb hr (Or.inl ⟨_, rfl⟩) hlocks hK hW hS rfl dX4_currentVersion_11
abbrev rm_X4_driveHolding : Room := { frames := 0, cells := 0, slots := 0, locals := 0 }
set_option maxRecDepth 100000 in
set_option maxHeartbeats 4000000 in
theorem ct_X4_driveHolding (l : Launch) (g : GT) (w : WT) (i : Nat) (hi : i ∈ k_S w.1) (sd : SD) (a1 : Int32) {q : Int32} (hf : f_X4_driveHolding sd a1 = some q) : Met l yX4_driveHolding wsX4_driveHolding rm_X4_driveHolding (cPre g (wS w i sd) [.ref (adr i 4 0), .int a1]) (cQi g q (wS w i sd)) 0 0 (gA g) := by
  have i_0 : ∀ w ∈ u_ws RX0 TX0 3, w ∈ wsX4_driveHolding := by decide +kernel
  have i_4 : ∀ w ∈ u_ws RX4 TX4 18, w ∈ wsX4_driveHolding := by decide +kernel
  refine x_met (by decide) rfl (Nat.le_of_ble_eq_true rfl) ?_
  intro p e s m below meth c hx hb hr hml hts hown hlocks hK hW hS ls hl
  have hown : s.vm.findClass RX4 = some m.cls := hown
  have hl : lv_has ls 3 [(0, .ref (adr i 4 0)), (1, .int a1)] := hl
  rw [f_X4_driveHolding] at hf
  refine lv_iconst (v := 0) hx hb dX4_driveHolding_0 (by decide) ?_
  refine lv_istore_n (lv' := [(2, .int (0 : Int32)), (0, .ref (adr i 4 0)), (1, .int a1)]) hx hb dX4_driveHolding_1 rfl hl (by decide) rfl (fun ls hl => ?_)
  have L2 : ∀ (n : Nat) (v2_2 : Int32) (ls : Array Slot) (H : Heap) (locs : List Loc), lv_has ls 3 [(0, .ref (adr i 4 0)), (1, .int a1), (2, .int v2_2)] → World g (wS w i sd) H → va_S (gA g) s.heap H locs → f_X4_driveHolding_L2 sd a1 n v2_2 = some q → W p l e rm_X4_driveHolding s m [.ref (adr i 4 0), .int a1].toArray below meth c H locs 0 0 (MQ below (cQi g q (wS w i sd)) [.ref (adr i 4 0), .int a1].toArray s 0 0 (gA g)) (F0 m 2 ls []) := by
    clear hW hS hl
    intro n
    induction n with
    | zero => intro v2_2 ls H locs hl hW hS hf; cases hf
    | succ n_2 ih =>
      intro v2_2 ls H locs hl hW hS hf
      rw [f_X4_driveHolding_L2] at hf
      refine lv_iload_n hx hb dX4_driveHolding_2 rfl (lv_at hl 2 rfl) ?_
      refine lv_aload_n hx hb dX4_driveHolding_3 rfl (lv_at hl 0 rfl) ?_
      refine x_get (i := i) (k := 4) (j := 0) (t := 3) hx hb hts i_4 hown hK hW ⟨hi, by decide⟩ rfl ⟨by decide, by decide, rfl⟩ (hts (.fieldLink RX4 53 "OpticalJukebox$State" "driveCount" "I") (by decide +kernel)) (sv_S rfl (fun _ => rfl) rfl) dX4_driveHolding_4 ?_
      refine lv_icmp_ge (tgt := 31) hx hb dX4_driveHolding_7 (by decide) (fun hc => ?_) (fun hc => ?_)
      · have hf := x_iteT hf hc
        refine lv_iconst (v := -1) hx hb dX4_driveHolding_31 (by decide) ?_
        cases hf
        exact x_iret hx hb hr hlocks hK hW hS rfl dX4_driveHolding_32
      · have hf := x_iteF hf hc
        refine lv_aload_n hx hb dX4_driveHolding_10 rfl (lv_at hl 0 rfl) ?_
        refine x_get (i := i) (k := 4) (j := 0) (t := 2) hx hb hts i_4 hown hK hW ⟨hi, by decide⟩ rfl ⟨by decide, by decide, rfl⟩ (hts (.fieldLink RX4 17 "OpticalJukebox$State" "drives" "[LOpticalJukebox$Drive;") (by decide +kernel)) (v := .ref (adr i 11 0)) rfl dX4_driveHolding_11 ?_
        refine lv_iload_n hx hb dX4_driveHolding_14 rfl (lv_at hl 2 rfl) ?_
        obtain ⟨hg1, hf⟩ := x_guardE hf
        refine x_aald (i := i) (k := 11) (j := 0) hx hb hK hW ⟨hi, by decide⟩ (by decide) rfl rfl hg1 dX4_driveHolding_15 ?_
        refine W.eq (g2 := F0 m 16 ls [.ref (adr i 0 (v2_2).toNatClampNeg)]) rfl ?_
        refine x_get (i := i) (k := 0) (j := (v2_2).toNatClampNeg) (t := 1) hx hb hts i_0 hown hK hW ⟨hi, (x_lt hg1)⟩ rfl ⟨by decide, by decide, rfl⟩ (hts (.fieldLink RX4 115 "OpticalJukebox$Drive" "platter" "I") (by decide +kernel)) (sv_S rfl (fun _ => rfl) rfl) dX4_driveHolding_16 ?_
        refine lv_iload_n hx hb dX4_driveHolding_19 rfl (lv_at hl 1 rfl) ?_
        refine lv_icmp_ne (tgt := 25) hx hb dX4_driveHolding_20 (by decide) (fun hc => ?_) (fun hc => ?_)
        · have hf := x_iteF hf hc
          obtain ⟨x2, e_x2, hf⟩ := x_letE hf
          refine lv_iinc (v := x2) (lv' := [(2, .int x2), (0, .ref (adr i 4 0)), (1, .int a1)]) hx hb dX4_driveHolding_25 hl (k := 2) rfl (by rw [e_x2]; rfl) (by decide) rfl (fun ls hl => ?_)
          refine lv_goto (tgt := 2) hx hb dX4_driveHolding_28 (by decide) ?_
          exact ih (x2) ls _ _ (lv_sub hl [1, 2, 0] rfl) hW hS hf
        · have hf := x_iteT hf hc
          refine lv_iload_n hx hb dX4_driveHolding_23 rfl (lv_at hl 2 rfl) ?_
          cases hf
          exact x_iret hx hb hr hlocks hK hW hS rfl dX4_driveHolding_24
  exact L2 fuel ((0 : Int32)) ls _ _ (lv_sub hl [1, 2, 0] rfl) hW hS hf
abbrev rm_X4_awayPlatters : Room := { frames := 1, cells := 0, slots := 0, locals := 22 }
set_option maxRecDepth 100000 in
set_option maxHeartbeats 4000000 in
theorem ct_X4_awayPlatters (l : Launch) (g : GT) (w : WT) (i : Nat) (hi : i ∈ k_S w.1) (sd : SD) (a1 : Int32) {q : Int32} (hf : f_X4_awayPlatters sd a1 = some q) : Met l yX4_awayPlatters wsX4_awayPlatters rm_X4_awayPlatters (cPre g (wS w i sd) [.ref (adr i 4 0), .int a1]) (cQi g q (wS w i sd)) 0 0 (gA g) := by
  have i_4 : ∀ w ∈ u_ws RX4 TX4 18, w ∈ wsX4_awayPlatters := by decide +kernel
  have i_6 : ∀ w ∈ u_ws RX6 TX6 7, w ∈ wsX4_awayPlatters := by decide +kernel
  refine x_met (by decide) rfl (Nat.le_of_ble_eq_true rfl) ?_
  intro p e s m below meth c hx hb hr hml hts hown hlocks hK hW hS ls hl
  have hown : s.vm.findClass RX4 = some m.cls := hown
  have hl : lv_has ls 5 [(0, .ref (adr i 4 0)), (1, .int a1)] := hl
  rw [f_X4_awayPlatters] at hf
  refine lv_iconst (v := 0) hx hb dX4_awayPlatters_0 (by decide) ?_
  refine lv_istore_n (lv' := [(2, .int (0 : Int32)), (0, .ref (adr i 4 0)), (1, .int a1)]) hx hb dX4_awayPlatters_1 rfl hl (by decide) rfl (fun ls hl => ?_)
  refine lv_iconst (v := 0) hx hb dX4_awayPlatters_2 (by decide) ?_
  refine lv_istore_n (lv' := [(3, .int (0 : Int32)), (2, .int (0 : Int32)), (0, .ref (adr i 4 0)), (1, .int a1)]) hx hb dX4_awayPlatters_3 rfl hl (by decide) rfl (fun ls hl => ?_)
  have L4 : ∀ (n : Nat) (v2_4 : Int32) (v3_4 : Int32) (ls : Array Slot) (H : Heap) (locs : List Loc), lv_has ls 5 [(0, .ref (adr i 4 0)), (1, .int a1), (2, .int v2_4), (3, .int v3_4)] → World g (wS w i sd) H → va_S (gA g) s.heap H locs → f_X4_awayPlatters_L4 sd a1 n v2_4 v3_4 = some q → W p l e rm_X4_awayPlatters s m [.ref (adr i 4 0), .int a1].toArray below meth c H locs 0 0 (MQ below (cQi g q (wS w i sd)) [.ref (adr i 4 0), .int a1].toArray s 0 0 (gA g)) (F0 m 4 ls []) := by
    clear hW hS hl
    intro n
    induction n with
    | zero => intro v2_4 v3_4 ls H locs hl hW hS hf; cases hf
    | succ n_4 ih =>
      intro v2_4 v3_4 ls H locs hl hW hS hf
      rw [f_X4_awayPlatters_L4] at hf
      refine lv_iload_n hx hb dX4_awayPlatters_4 rfl (lv_at hl 3 rfl) ?_
      refine lv_aload_n hx hb dX4_awayPlatters_5 rfl (lv_at hl 0 rfl) ?_
      refine x_get (i := i) (k := 4) (j := 0) (t := 13) hx hb hts i_4 hown hK hW ⟨hi, by decide⟩ rfl ⟨by decide, by decide, rfl⟩ (hts (.fieldLink RX4 71 "OpticalJukebox$State" "requestCount" "I") (by decide +kernel)) (sv_S rfl (fun _ => rfl) rfl) dX4_awayPlatters_6 ?_
      refine lv_icmp_ge (tgt := 55) hx hb dX4_awayPlatters_9 (by decide) (fun hc => ?_) (fun hc => ?_)
      · have hf := x_iteT hf hc
        refine lv_iload_n hx hb dX4_awayPlatters_55 rfl (lv_at hl 2 rfl) ?_
        cases hf
        exact x_iret hx hb hr hlocks hK hW hS rfl dX4_awayPlatters_56
      · have hf := x_iteF hf hc
        refine lv_aload_n hx hb dX4_awayPlatters_12 rfl (lv_at hl 0 rfl) ?_
        refine lv_aload_n hx hb dX4_awayPlatters_13 rfl (lv_at hl 0 rfl) ?_
        refine x_get (i := i) (k := 4) (j := 0) (t := 12) hx hb hts i_4 hown hK hW ⟨hi, by decide⟩ rfl ⟨by decide, by decide, rfl⟩ (hts (.fieldLink RX4 36 "OpticalJukebox$State" "requests" "[I") (by decide +kernel)) (v := .ref (adr i 15 0)) rfl dX4_awayPlatters_14 ?_
        refine lv_iload_n hx hb dX4_awayPlatters_17 rfl (lv_at hl 3 rfl) ?_
        obtain ⟨hg1, hf⟩ := x_guardE hf
        refine x_iald (i := i) (k := 15) (j := 0) (f := sd 15 0) hx hb hK hW ⟨hi, by decide⟩ (by decide) (ct_S rfl (fun _ => rfl)) rfl hg1 dX4_awayPlatters_18 ?_
        obtain ⟨q2, h_q2, hf⟩ := x_bindE hf
        refine x_cr0 (x_rV ⟨hx, hb, hml, hown, hts⟩ (ct_X4_currentVersion l g w i hi sd ((sd 15 0 (v3_4).toNatClampNeg)) h_q2) (cwV 1 hts gX4_awayPlatters_X4_currentVersion rfl rfl rfl (by decide +kernel) ⟨Nat.le_of_ble_eq_true rfl, Nat.le_of_ble_eq_true rfl⟩) hK hW hS (x_recv (i := i) (k := 4) (j := 0) hK hW ⟨hi, by decide⟩ rfl (by decide)) rfl hl.1 (rest := []) rfl (Nat.le_of_ble_eq_true rfl) dX4_awayPlatters_19 ⟨Nat.le_of_ble_eq_true rfl, Nat.le_of_ble_eq_true rfl⟩) hS (fun H locs hW hS => ?_)
        have hW : World g (wS w i sd) H := hW
        refine W.eq (g2 := F0 m 22 ls [.ref (adr i 6 q2)]) rfl ?_
        refine x_get (i := i) (k := 6) (j := q2) (t := 1) hx hb hts i_6 hown hK hW ⟨hi, (b_X4_currentVersion h_q2)⟩ rfl ⟨by decide, by decide, rfl⟩ (hts (.fieldLink RX4 134 "OpticalJukebox$Version" "platter" "I") (by decide +kernel)) (sv_S rfl (fun _ => rfl) rfl) dX4_awayPlatters_22 ?_
        obtain ⟨x3, e_x3, hf⟩ := x_letE hf
        refine x_topi e_x3 ?_
        refine lv_istore (lv' := [(4, .int x3), (0, .ref (adr i 4 0)), (1, .int a1), (2, .int v2_4), (3, .int v3_4)]) hx hb dX4_awayPlatters_25 hl (by decide) rfl (fun ls hl => ?_)
        refine lv_iload_n hx hb dX4_awayPlatters_27 rfl (lv_at hl 4 rfl) ?_
        refine lv_iload_n hx hb dX4_awayPlatters_28 rfl (lv_at hl 2 rfl) ?_
        refine lv_icmp_eq (tgt := 49) hx hb dX4_awayPlatters_29 (by decide) (fun hc => ?_) (fun hc => ?_)
        · have hf := x_iteT hf hc
          obtain ⟨x4, e_x4, hf⟩ := x_letE hf
          refine lv_iinc (v := x4) (lv' := [(3, .int x4), (4, .int x3), (0, .ref (adr i 4 0)), (1, .int a1), (2, .int v2_4)]) hx hb dX4_awayPlatters_49 hl (k := 4) rfl (by rw [e_x4]; rfl) (by decide) rfl (fun ls hl => ?_)
          refine lv_goto (tgt := 4) hx hb dX4_awayPlatters_52 (by decide) ?_
          exact ih (v2_4) (x4) ls _ _ (lv_sub hl [2, 3, 4, 0] rfl) hW hS hf
        · have hf := x_iteF hf hc
          refine lv_aload_n hx hb dX4_awayPlatters_32 rfl (lv_at hl 1 rfl) ?_
          refine lv_iload hx hb dX4_awayPlatters_33 (lv_at hl 0 rfl) ?_
          obtain ⟨q5, h_q5, hf⟩ := x_bindE hf
          refine x_ci0 (x_rV ⟨hx, hb, hml, hown, hts⟩ (ct_X4_driveHolding l g w i hi sd (x3) h_q5) (cwV 1 hts gX4_awayPlatters_X4_driveHolding rfl rfl rfl (by decide +kernel) ⟨Nat.le_of_ble_eq_true rfl, Nat.le_of_ble_eq_true rfl⟩) hK hW hS (x_recv (i := i) (k := 4) (j := 0) hK hW ⟨hi, by decide⟩ rfl (by decide)) rfl hl.1 (rest := []) rfl (Nat.le_of_ble_eq_true rfl) dX4_awayPlatters_35 ⟨Nat.le_of_ble_eq_true rfl, Nat.le_of_ble_eq_true rfl⟩) hS (fun H locs hW hS => ?_)
          have hW : World g (wS w i sd) H := hW
          refine W.eq (g2 := F0 m 38 ls [.int q5]) rfl ?_
          refine lv_iconst (v := -1) hx hb dX4_awayPlatters_38 (by decide) ?_
          refine lv_icmp_ne (tgt := 49) hx hb dX4_awayPlatters_39 (by decide) (fun hc => ?_) (fun hc => ?_)
          · have hf := x_iteF hf hc
            obtain ⟨x6, e_x6, hf⟩ := x_letE hf
            refine lv_iinc (v := x6) (lv' := [(3, .int x6), (4, .int x3), (0, .ref (adr i 4 0)), (1, .int a1), (2, .int v2_4)]) hx hb dX4_awayPlatters_49 hl (k := 4) rfl (by rw [e_x6]; rfl) (by decide) rfl (fun ls hl => ?_)
            refine lv_goto (tgt := 4) hx hb dX4_awayPlatters_52 (by decide) ?_
            exact ih (v2_4) (x6) ls _ _ (lv_sub hl [2, 3, 4, 0] rfl) hW hS hf
          · have hf := x_iteT hf hc
            refine lv_iload_n hx hb dX4_awayPlatters_42 rfl (lv_at hl 3 rfl) ?_
            refine lv_iconst (v := 1) hx hb dX4_awayPlatters_43 (by decide) ?_
            refine lv_iload hx hb dX4_awayPlatters_44 (lv_at hl 0 rfl) ?_
            refine lv_ishl hx hb dX4_awayPlatters_46 ?_
            refine lv_ior hx hb dX4_awayPlatters_47 ?_
            obtain ⟨x7, e_x7, hf⟩ := x_letE hf
            refine x_topi e_x7 ?_
            refine lv_istore_n (lv' := [(2, .int x7), (4, .int x3), (0, .ref (adr i 4 0)), (1, .int a1), (3, .int v3_4)]) hx hb dX4_awayPlatters_48 rfl hl (by decide) rfl (fun ls hl => ?_)
            obtain ⟨x8, e_x8, hf⟩ := x_letE hf
            refine lv_iinc (v := x8) (lv' := [(3, .int x8), (2, .int x7), (4, .int x3), (0, .ref (adr i 4 0)), (1, .int a1)]) hx hb dX4_awayPlatters_49 hl (k := 4) rfl (by rw [e_x8]; rfl) (by decide) rfl (fun ls hl => ?_)
            refine lv_goto (tgt := 4) hx hb dX4_awayPlatters_52 (by decide) ?_
            exact ih (x7) (x8) ls _ _ (lv_sub hl [3, 4, 1, 0] rfl) hW hS hf
  exact L4 fuel ((0 : Int32)) ((0 : Int32)) ls _ _ (lv_sub hl [2, 3, 1, 0] rfl) hW hS hf
abbrev rm_X4_driveForAway : Room := { frames := 0, cells := 0, slots := 0, locals := 0 }
set_option maxRecDepth 100000 in
set_option maxHeartbeats 4000000 in
theorem ct_X4_driveForAway (l : Launch) (g : GT) (w : WT) (i : Nat) (hi : i ∈ k_S w.1) (sd : SD) (a1 : Int32) {q : Int32} (hf : f_X4_driveForAway sd a1 = some q) : Met l yX4_driveForAway wsX4_driveForAway rm_X4_driveForAway (cPre g (wS w i sd) [.ref (adr i 4 0), .int a1]) (cQi g q (wS w i sd)) 0 0 (gA g) := by
  have i_0 : ∀ w ∈ u_ws RX0 TX0 3, w ∈ wsX4_driveForAway := by decide +kernel
  have i_4 : ∀ w ∈ u_ws RX4 TX4 18, w ∈ wsX4_driveForAway := by decide +kernel
  refine x_met (by decide) rfl (Nat.le_of_ble_eq_true rfl) ?_
  intro p e s m below meth c hx hb hr hml hts hown hlocks hK hW hS ls hl
  have hown : s.vm.findClass RX4 = some m.cls := hown
  have hl : lv_has ls 6 [(0, .ref (adr i 4 0)), (1, .int a1)] := hl
  rw [f_X4_driveForAway] at hf
  refine lv_iconst (v := -1) hx hb dX4_driveForAway_0 (by decide) ?_
  refine lv_istore_n (lv' := [(2, .int (-1 : Int32)), (0, .ref (adr i 4 0)), (1, .int a1)]) hx hb dX4_driveForAway_1 rfl hl (by decide) rfl (fun ls hl => ?_)
  refine lv_iconst (v := 0) hx hb dX4_driveForAway_2 (by decide) ?_
  refine lv_istore_n (lv' := [(3, .int (0 : Int32)), (2, .int (-1 : Int32)), (0, .ref (adr i 4 0)), (1, .int a1)]) hx hb dX4_driveForAway_3 rfl hl (by decide) rfl (fun ls hl => ?_)
  refine lv_iconst (v := 0) hx hb dX4_driveForAway_4 (by decide) ?_
  refine lv_istore (lv' := [(4, .int (0 : Int32)), (3, .int (0 : Int32)), (2, .int (-1 : Int32)), (0, .ref (adr i 4 0)), (1, .int a1)]) hx hb dX4_driveForAway_5 hl (by decide) rfl (fun ls hl => ?_)
  have L7 : ∀ (n : Nat) (v2_7 : Int32) (v3_7 : Int32) (v4_7 : Int32) (ls : Array Slot) (H : Heap) (locs : List Loc), lv_has ls 6 [(0, .ref (adr i 4 0)), (1, .int a1), (2, .int v2_7), (3, .int v3_7), (4, .int v4_7)] → World g (wS w i sd) H → va_S (gA g) s.heap H locs → f_X4_driveForAway_L7 sd a1 n v2_7 v3_7 v4_7 = some q → W p l e rm_X4_driveForAway s m [.ref (adr i 4 0), .int a1].toArray below meth c H locs 0 0 (MQ below (cQi g q (wS w i sd)) [.ref (adr i 4 0), .int a1].toArray s 0 0 (gA g)) (F0 m 7 ls []) := by
    clear hW hS hl
    intro n
    induction n with
    | zero => intro v2_7 v3_7 v4_7 ls H locs hl hW hS hf; cases hf
    | succ n_7 ih =>
      intro v2_7 v3_7 v4_7 ls H locs hl hW hS hf
      rw [f_X4_driveForAway_L7] at hf
      refine lv_iload hx hb dX4_driveForAway_7 (lv_at hl 4 rfl) ?_
      refine lv_aload_n hx hb dX4_driveForAway_9 rfl (lv_at hl 0 rfl) ?_
      refine x_get (i := i) (k := 4) (j := 0) (t := 3) hx hb hts i_4 hown hK hW ⟨hi, by decide⟩ rfl ⟨by decide, by decide, rfl⟩ (hts (.fieldLink RX4 53 "OpticalJukebox$State" "driveCount" "I") (by decide +kernel)) (sv_S rfl (fun _ => rfl) rfl) dX4_driveForAway_10 ?_
      refine lv_icmp_ge (tgt := 89) hx hb dX4_driveForAway_13 (by decide) (fun hc => ?_) (fun hc => ?_)
      · have hf := x_iteT hf hc
        refine lv_iload_n hx hb dX4_driveForAway_89 rfl (lv_at hl 2 rfl) ?_
        cases hf
        exact x_iret hx hb hr hlocks hK hW hS rfl dX4_driveForAway_90
      · have hf := x_iteF hf hc
        refine lv_aload_n hx hb dX4_driveForAway_16 rfl (lv_at hl 0 rfl) ?_
        refine x_get (i := i) (k := 4) (j := 0) (t := 2) hx hb hts i_4 hown hK hW ⟨hi, by decide⟩ rfl ⟨by decide, by decide, rfl⟩ (hts (.fieldLink RX4 17 "OpticalJukebox$State" "drives" "[LOpticalJukebox$Drive;") (by decide +kernel)) (v := .ref (adr i 11 0)) rfl dX4_driveForAway_17 ?_
        refine lv_iload hx hb dX4_driveForAway_20 (lv_at hl 4 rfl) ?_
        obtain ⟨hg1, hf⟩ := x_guardE hf
        refine x_aald (i := i) (k := 11) (j := 0) hx hb hK hW ⟨hi, by decide⟩ (by decide) rfl rfl hg1 dX4_driveForAway_22 ?_
        refine W.eq (g2 := F0 m 23 ls [.ref (adr i 0 (v4_7).toNatClampNeg)]) rfl ?_
        refine x_get (i := i) (k := 0) (j := (v4_7).toNatClampNeg) (t := 1) hx hb hts i_0 hown hK hW ⟨hi, (x_lt hg1)⟩ rfl ⟨by decide, by decide, rfl⟩ (hts (.fieldLink RX4 115 "OpticalJukebox$Drive" "platter" "I") (by decide +kernel)) (sv_S rfl (fun _ => rfl) rfl) dX4_driveForAway_23 ?_
        refine lv_iconst (v := -1) hx hb dX4_driveForAway_26 (by decide) ?_
        refine lv_icmp_ne (tgt := 33) hx hb dX4_driveForAway_27 (by decide) (fun hc => ?_) (fun hc => ?_)
        · have hf := x_iteF hf hc
          refine lv_iload_n hx hb dX4_driveForAway_33 rfl (lv_at hl 1 rfl) ?_
          refine lv_iload hx hb dX4_driveForAway_34 (lv_at hl 4 rfl) ?_
          refine lv_ishr hx hb dX4_driveForAway_36 ?_
          refine lv_iconst (v := 1) hx hb dX4_driveForAway_37 (by decide) ?_
          refine lv_iand hx hb dX4_driveForAway_38 ?_
          obtain ⟨K2, eK2, hf⟩ := x_letE hf
          have KK2 : ∀ (y3 : Int32) (ls : Array Slot) (H : Heap) (locs : List Loc), lv_has ls 6 [(0, .ref (adr i 4 0)), (1, .int a1), (2, .int v2_7), (3, .int v3_7), (4, .int v4_7)] → World g (wS w i sd) H → va_S (gA g) s.heap H locs → K2 y3 = some q → W p l e rm_X4_driveForAway s m [.ref (adr i 4 0), .int a1].toArray below meth c H locs 0 0 (MQ below (cQi g q (wS w i sd)) [.ref (adr i 4 0), .int a1].toArray s 0 0 (gA g)) (F0 m 64 ls [.int y3]) := by
            intro y3 ls H locs hl hW hS hf
            subst eK2
            refine lv_istore (lv' := [(5, .int y3), (0, .ref (adr i 4 0)), (1, .int a1), (2, .int v2_7), (3, .int v3_7), (4, .int v4_7)]) hx hb dX4_driveForAway_64 hl (by decide) rfl (fun ls hl => ?_)
            refine lv_iload_n hx hb dX4_driveForAway_66 rfl (lv_at hl 3 rfl) ?_
            refine lv_iconst (v := -1) hx hb dX4_driveForAway_67 (by decide) ?_
            obtain ⟨K4, eK4, hf⟩ := x_letE hf
            have KK4 : ∀ (_u : Unit) (ls : Array Slot) (H : Heap) (locs : List Loc), lv_has ls 6 [(0, .ref (adr i 4 0)), (1, .int a1), (2, .int v2_7), (3, .int v3_7), (4, .int v4_7), (5, .int y3)] → World g (wS w i sd) H → va_S (gA g) s.heap H locs → K4 _u = some q → W p l e rm_X4_driveForAway s m [.ref (adr i 4 0), .int a1].toArray below meth c H locs 0 0 (MQ below (cQi g q (wS w i sd)) [.ref (adr i 4 0), .int a1].toArray s 0 0 (gA g)) (F0 m 77 ls []) := by
              intro _u ls H locs hl hW hS hf
              subst eK4
              refine lv_iload hx hb dX4_driveForAway_77 (lv_at hl 4 rfl) ?_
              refine lv_istore_n (lv' := [(2, .int v4_7), (0, .ref (adr i 4 0)), (1, .int a1), (3, .int v3_7), (4, .int v4_7), (5, .int y3)]) hx hb dX4_driveForAway_79 rfl hl (by decide) rfl (fun ls hl => ?_)
              refine lv_iload hx hb dX4_driveForAway_80 (lv_at hl 5 rfl) ?_
              refine lv_istore_n (lv' := [(3, .int y3), (2, .int v4_7), (0, .ref (adr i 4 0)), (1, .int a1), (4, .int v4_7), (5, .int y3)]) hx hb dX4_driveForAway_82 rfl hl (by decide) rfl (fun ls hl => ?_)
              obtain ⟨x5, e_x5, hf⟩ := x_letE hf
              refine lv_iinc (v := x5) (lv' := [(4, .int x5), (3, .int y3), (2, .int v4_7), (0, .ref (adr i 4 0)), (1, .int a1), (5, .int y3)]) hx hb dX4_driveForAway_83 hl (k := 4) rfl (by rw [e_x5]; rfl) (by decide) rfl (fun ls hl => ?_)
              refine lv_goto (tgt := 7) hx hb dX4_driveForAway_86 (by decide) ?_
              exact ih (v4_7) (y3) (x5) ls _ _ (lv_sub hl [3, 4, 2, 1, 0] rfl) hW hS hf
            clear eK4
            refine lv_icmp_eq (tgt := 77) hx hb dX4_driveForAway_68 (by decide) (fun hc => ?_) (fun hc => ?_)
            · have hf := x_iteT hf hc
              exact KK4 (()) ls _ _ (lv_sub hl [1, 2, 3, 4, 5, 0] rfl) hW hS hf
            · have hf := x_iteF hf hc
              refine lv_iload hx hb dX4_driveForAway_71 (lv_at hl 0 rfl) ?_
              refine lv_iload_n hx hb dX4_driveForAway_73 rfl (lv_at hl 4 rfl) ?_
              refine lv_icmp_ge (tgt := 83) hx hb dX4_driveForAway_74 (by decide) (fun hc => ?_) (fun hc => ?_)
              · have hf := x_iteT hf hc
                obtain ⟨x6, e_x6, hf⟩ := x_letE hf
                refine lv_iinc (v := x6) (lv' := [(4, .int x6), (5, .int y3), (0, .ref (adr i 4 0)), (1, .int a1), (2, .int v2_7), (3, .int v3_7)]) hx hb dX4_driveForAway_83 hl (k := 5) rfl (by rw [e_x6]; rfl) (by decide) rfl (fun ls hl => ?_)
                refine lv_goto (tgt := 7) hx hb dX4_driveForAway_86 (by decide) ?_
                exact ih (v2_7) (v3_7) (x6) ls _ _ (lv_sub hl [2, 3, 4, 5, 0] rfl) hW hS hf
              · have hf := x_iteF hf hc
                exact KK4 (()) ls _ _ (lv_sub hl [1, 2, 3, 4, 5, 0] rfl) hW hS hf
          clear eK2
          refine lv_if_eq (tgt := 54) hx hb dX4_driveForAway_39 (by decide) (fun hc => ?_) (fun hc => ?_)
          · have hf := x_iteT hf hc
            refine lv_aload_n hx hb dX4_driveForAway_54 rfl (lv_at hl 0 rfl) ?_
            refine x_get (i := i) (k := 4) (j := 0) (t := 2) hx hb hts i_4 hown hK hW ⟨hi, by decide⟩ rfl ⟨by decide, by decide, rfl⟩ (hts (.fieldLink RX4 17 "OpticalJukebox$State" "drives" "[LOpticalJukebox$Drive;") (by decide +kernel)) (v := .ref (adr i 11 0)) rfl dX4_driveForAway_55 ?_
            refine lv_iload hx hb dX4_driveForAway_58 (lv_at hl 4 rfl) ?_
            obtain ⟨hg7, hf⟩ := x_guardE hf
            refine x_aald (i := i) (k := 11) (j := 0) hx hb hK hW ⟨hi, by decide⟩ (by decide) rfl rfl hg7 dX4_driveForAway_60 ?_
            refine W.eq (g2 := F0 m 61 ls [.ref (adr i 0 (v4_7).toNatClampNeg)]) rfl ?_
            refine x_get (i := i) (k := 0) (j := (v4_7).toNatClampNeg) (t := 2) hx hb hts i_0 hown hK hW ⟨hi, (x_lt hg7)⟩ rfl ⟨by decide, by decide, rfl⟩ (hts (.fieldLink RX4 118 "OpticalJukebox$Drive" "lastUse" "I") (by decide +kernel)) (sv_S rfl (fun _ => rfl) rfl) dX4_driveForAway_61 ?_
            exact KK2 ((sd 0 (v4_7).toNatClampNeg 2)) ls _ _ hl hW hS hf
          · have hf := x_iteF hf hc
            refine lv_aload_n hx hb dX4_driveForAway_42 rfl (lv_at hl 0 rfl) ?_
            refine x_get (i := i) (k := 4) (j := 0) (t := 4) hx hb hts i_4 hown hK hW ⟨hi, by decide⟩ rfl ⟨by decide, by decide, rfl⟩ (hts (.fieldLink RX4 56 "OpticalJukebox$State" "uses" "I") (by decide +kernel)) (sv_S rfl (fun _ => rfl) rfl) dX4_driveForAway_43 ?_
            refine lv_iconst (v := 1) hx hb dX4_driveForAway_46 (by decide) ?_
            refine lv_iadd hx hb dX4_driveForAway_47 ?_
            refine lv_iload hx hb dX4_driveForAway_48 (lv_at hl 4 rfl) ?_
            refine lv_iadd hx hb dX4_driveForAway_50 ?_
            refine lv_goto (tgt := 64) hx hb dX4_driveForAway_51 (by decide) ?_
            exact KK2 ((((sd 4 0 4) + (1 : Int32)) + v4_7)) ls _ _ hl hW hS hf
        · have hf := x_iteT hf hc
          refine lv_iload hx hb dX4_driveForAway_30 (lv_at hl 4 rfl) ?_
          cases hf
          exact x_iret hx hb hr hlocks hK hW hS rfl dX4_driveForAway_32
  exact L7 fuel ((-1 : Int32)) ((0 : Int32)) ((0 : Int32)) ls _ _ (lv_sub hl [3, 4, 2, 1, 0] rfl) hW hS hf
abbrev rm_X4_driveAfterReading : Room := { frames := 1, cells := 0, slots := 0, locals := 25 }
set_option maxRecDepth 100000 in
set_option maxHeartbeats 4000000 in
theorem ct_X4_driveAfterReading (l : Launch) (g : GT) (w : WT) (i : Nat) (hi : i ∈ k_S w.1) (sd : SD) (a1 : Int32) {q : Int32} (hf : f_X4_driveAfterReading sd a1 = some q) : Met l yX4_driveAfterReading wsX4_driveAfterReading rm_X4_driveAfterReading (cPre g (wS w i sd) [.ref (adr i 4 0), .int a1]) (cQi g q (wS w i sd)) 0 0 (gA g) := by
  have i_4 : ∀ w ∈ u_ws RX4 TX4 18, w ∈ wsX4_driveAfterReading := by decide +kernel
  have i_6 : ∀ w ∈ u_ws RX6 TX6 7, w ∈ wsX4_driveAfterReading := by decide +kernel
  refine x_met (by decide) rfl (Nat.le_of_ble_eq_true rfl) ?_
  intro p e s m below meth c hx hb hr hml hts hown hlocks hK hW hS ls hl
  have hown : s.vm.findClass RX4 = some m.cls := hown
  have hl : lv_has ls 5 [(0, .ref (adr i 4 0)), (1, .int a1)] := hl
  rw [f_X4_driveAfterReading] at hf
  refine lv_iconst (v := 0) hx hb dX4_driveAfterReading_0 (by decide) ?_
  refine lv_istore_n (lv' := [(2, .int (0 : Int32)), (0, .ref (adr i 4 0)), (1, .int a1)]) hx hb dX4_driveAfterReading_1 rfl hl (by decide) rfl (fun ls hl => ?_)
  refine lv_iconst (v := 0) hx hb dX4_driveAfterReading_2 (by decide) ?_
  refine lv_istore_n (lv' := [(3, .int (0 : Int32)), (2, .int (0 : Int32)), (0, .ref (adr i 4 0)), (1, .int a1)]) hx hb dX4_driveAfterReading_3 rfl hl (by decide) rfl (fun ls hl => ?_)
  have L4 : ∀ (n : Nat) (v2_4 : Int32) (v3_4 : Int32) (ls : Array Slot) (H : Heap) (locs : List Loc), lv_has ls 5 [(0, .ref (adr i 4 0)), (1, .int a1), (2, .int v2_4), (3, .int v3_4)] → World g (wS w i sd) H → va_S (gA g) s.heap H locs → f_X4_driveAfterReading_L4 sd a1 n v2_4 v3_4 = some q → W p l e rm_X4_driveAfterReading s m [.ref (adr i 4 0), .int a1].toArray below meth c H locs 0 0 (MQ below (cQi g q (wS w i sd)) [.ref (adr i 4 0), .int a1].toArray s 0 0 (gA g)) (F0 m 4 ls []) := by
    clear hW hS hl
    intro n
    induction n with
    | zero => intro v2_4 v3_4 ls H locs hl hW hS hf; cases hf
    | succ n_4 ih =>
      intro v2_4 v3_4 ls H locs hl hW hS hf
      rw [f_X4_driveAfterReading_L4] at hf
      refine lv_iload_n hx hb dX4_driveAfterReading_4 rfl (lv_at hl 3 rfl) ?_
      refine lv_aload_n hx hb dX4_driveAfterReading_5 rfl (lv_at hl 0 rfl) ?_
      refine x_get (i := i) (k := 4) (j := 0) (t := 13) hx hb hts i_4 hown hK hW ⟨hi, by decide⟩ rfl ⟨by decide, by decide, rfl⟩ (hts (.fieldLink RX4 71 "OpticalJukebox$State" "requestCount" "I") (by decide +kernel)) (sv_S rfl (fun _ => rfl) rfl) dX4_driveAfterReading_6 ?_
      refine lv_icmp_ge (tgt := 55) hx hb dX4_driveAfterReading_9 (by decide) (fun hc => ?_) (fun hc => ?_)
      · have hf := x_iteT hf hc
        refine lv_aload_n hx hb dX4_driveAfterReading_55 rfl (lv_at hl 0 rfl) ?_
        refine lv_iload_n hx hb dX4_driveAfterReading_56 rfl (lv_at hl 2 rfl) ?_
        obtain ⟨q1, h_q1, hf⟩ := x_bindE hf
        refine x_ci0 (x_rV ⟨hx, hb, hml, hown, hts⟩ (ct_X4_driveForAway l g w i hi sd (v2_4) h_q1) (cwV 1 hts gX4_driveAfterReading_X4_driveForAway rfl rfl rfl (by decide +kernel) ⟨Nat.le_of_ble_eq_true rfl, Nat.le_of_ble_eq_true rfl⟩) hK hW hS (x_recv (i := i) (k := 4) (j := 0) hK hW ⟨hi, by decide⟩ rfl (by decide)) rfl hl.1 (rest := []) rfl (Nat.le_of_ble_eq_true rfl) dX4_driveAfterReading_57 ⟨Nat.le_of_ble_eq_true rfl, Nat.le_of_ble_eq_true rfl⟩) hS (fun H locs hW hS => ?_)
        have hW : World g (wS w i sd) H := hW
        refine W.eq (g2 := F0 m 60 ls [.int q1]) rfl ?_
        cases hf
        exact x_iret hx hb hr hlocks hK hW hS rfl dX4_driveAfterReading_60
      · have hf := x_iteF hf hc
        refine lv_aload_n hx hb dX4_driveAfterReading_12 rfl (lv_at hl 0 rfl) ?_
        refine lv_aload_n hx hb dX4_driveAfterReading_13 rfl (lv_at hl 0 rfl) ?_
        refine lv_aload_n hx hb dX4_driveAfterReading_14 rfl (lv_at hl 0 rfl) ?_
        refine x_get (i := i) (k := 4) (j := 0) (t := 12) hx hb hts i_4 hown hK hW ⟨hi, by decide⟩ rfl ⟨by decide, by decide, rfl⟩ (hts (.fieldLink RX4 36 "OpticalJukebox$State" "requests" "[I") (by decide +kernel)) (v := .ref (adr i 15 0)) rfl dX4_driveAfterReading_15 ?_
        refine lv_iload_n hx hb dX4_driveAfterReading_18 rfl (lv_at hl 3 rfl) ?_
        obtain ⟨hg2, hf⟩ := x_guardE hf
        refine x_iald (i := i) (k := 15) (j := 0) (f := sd 15 0) hx hb hK hW ⟨hi, by decide⟩ (by decide) (ct_S rfl (fun _ => rfl)) rfl hg2 dX4_driveAfterReading_19 ?_
        obtain ⟨q3, h_q3, hf⟩ := x_bindE hf
        refine x_cr0 (x_rV ⟨hx, hb, hml, hown, hts⟩ (ct_X4_currentVersion l g w i hi sd ((sd 15 0 (v3_4).toNatClampNeg)) h_q3) (cwV 1 hts gX4_driveAfterReading_X4_currentVersion rfl rfl rfl (by decide +kernel) ⟨Nat.le_of_ble_eq_true rfl, Nat.le_of_ble_eq_true rfl⟩) hK hW hS (x_recv (i := i) (k := 4) (j := 0) hK hW ⟨hi, by decide⟩ rfl (by decide)) rfl hl.1 (rest := [.ref (adr i 4 0)]) rfl (Nat.le_of_ble_eq_true rfl) dX4_driveAfterReading_20 ⟨Nat.le_of_ble_eq_true rfl, Nat.le_of_ble_eq_true rfl⟩) hS (fun H locs hW hS => ?_)
        have hW : World g (wS w i sd) H := hW
        refine W.eq (g2 := F0 m 23 ls [.ref (adr i 6 q3), .ref (adr i 4 0)]) rfl ?_
        refine x_get (i := i) (k := 6) (j := q3) (t := 1) hx hb hts i_6 hown hK hW ⟨hi, (b_X4_currentVersion h_q3)⟩ rfl ⟨by decide, by decide, rfl⟩ (hts (.fieldLink RX4 134 "OpticalJukebox$Version" "platter" "I") (by decide +kernel)) (sv_S rfl (fun _ => rfl) rfl) dX4_driveAfterReading_23 ?_
        obtain ⟨q4, h_q4, hf⟩ := x_bindE hf
        refine x_ci0 (x_rV ⟨hx, hb, hml, hown, hts⟩ (ct_X4_driveHolding l g w i hi sd ((sd 6 q3 1)) h_q4) (cwV 1 hts gX4_driveAfterReading_X4_driveHolding rfl rfl rfl (by decide +kernel) ⟨Nat.le_of_ble_eq_true rfl, Nat.le_of_ble_eq_true rfl⟩) hK hW hS (x_recv (i := i) (k := 4) (j := 0) hK hW ⟨hi, by decide⟩ rfl (by decide)) rfl hl.1 (rest := []) rfl (Nat.le_of_ble_eq_true rfl) dX4_driveAfterReading_26 ⟨Nat.le_of_ble_eq_true rfl, Nat.le_of_ble_eq_true rfl⟩) hS (fun H locs hW hS => ?_)
        have hW : World g (wS w i sd) H := hW
        refine W.eq (g2 := F0 m 29 ls [.int q4]) rfl ?_
        refine lv_istore (lv' := [(4, .int q4), (0, .ref (adr i 4 0)), (1, .int a1), (2, .int v2_4), (3, .int v3_4)]) hx hb dX4_driveAfterReading_29 hl (by decide) rfl (fun ls hl => ?_)
        refine lv_iload_n hx hb dX4_driveAfterReading_31 rfl (lv_at hl 4 rfl) ?_
        refine lv_iload_n hx hb dX4_driveAfterReading_32 rfl (lv_at hl 2 rfl) ?_
        refine lv_icmp_eq (tgt := 49) hx hb dX4_driveAfterReading_33 (by decide) (fun hc => ?_) (fun hc => ?_)
        · have hf := x_iteT hf hc
          obtain ⟨x5, e_x5, hf⟩ := x_letE hf
          refine lv_iinc (v := x5) (lv' := [(3, .int x5), (4, .int q4), (0, .ref (adr i 4 0)), (1, .int a1), (2, .int v2_4)]) hx hb dX4_driveAfterReading_49 hl (k := 4) rfl (by rw [e_x5]; rfl) (by decide) rfl (fun ls hl => ?_)
          refine lv_goto (tgt := 4) hx hb dX4_driveAfterReading_52 (by decide) ?_
          exact ih (v2_4) (x5) ls _ _ (lv_sub hl [2, 3, 4, 0] rfl) hW hS hf
        · have hf := x_iteF hf hc
          refine lv_iload hx hb dX4_driveAfterReading_36 (lv_at hl 0 rfl) ?_
          refine lv_iconst (v := -1) hx hb dX4_driveAfterReading_38 (by decide) ?_
          refine lv_icmp_eq (tgt := 49) hx hb dX4_driveAfterReading_39 (by decide) (fun hc => ?_) (fun hc => ?_)
          · have hf := x_iteT hf hc
            obtain ⟨x6, e_x6, hf⟩ := x_letE hf
            refine lv_iinc (v := x6) (lv' := [(3, .int x6), (4, .int q4), (0, .ref (adr i 4 0)), (1, .int a1), (2, .int v2_4)]) hx hb dX4_driveAfterReading_49 hl (k := 4) rfl (by rw [e_x6]; rfl) (by decide) rfl (fun ls hl => ?_)
            refine lv_goto (tgt := 4) hx hb dX4_driveAfterReading_52 (by decide) ?_
            exact ih (v2_4) (x6) ls _ _ (lv_sub hl [2, 3, 4, 0] rfl) hW hS hf
          · have hf := x_iteF hf hc
            refine lv_iload_n hx hb dX4_driveAfterReading_42 rfl (lv_at hl 3 rfl) ?_
            refine lv_iconst (v := 1) hx hb dX4_driveAfterReading_43 (by decide) ?_
            refine lv_iload hx hb dX4_driveAfterReading_44 (lv_at hl 0 rfl) ?_
            refine lv_ishl hx hb dX4_driveAfterReading_46 ?_
            refine lv_ior hx hb dX4_driveAfterReading_47 ?_
            obtain ⟨x7, e_x7, hf⟩ := x_letE hf
            refine x_topi e_x7 ?_
            refine lv_istore_n (lv' := [(2, .int x7), (4, .int q4), (0, .ref (adr i 4 0)), (1, .int a1), (3, .int v3_4)]) hx hb dX4_driveAfterReading_48 rfl hl (by decide) rfl (fun ls hl => ?_)
            obtain ⟨x8, e_x8, hf⟩ := x_letE hf
            refine lv_iinc (v := x8) (lv' := [(3, .int x8), (2, .int x7), (4, .int q4), (0, .ref (adr i 4 0)), (1, .int a1)]) hx hb dX4_driveAfterReading_49 hl (k := 4) rfl (by rw [e_x8]; rfl) (by decide) rfl (fun ls hl => ?_)
            refine lv_goto (tgt := 4) hx hb dX4_driveAfterReading_52 (by decide) ?_
            exact ih (x7) (x8) ls _ _ (lv_sub hl [3, 4, 1, 0] rfl) hW hS hf
  exact L4 fuel ((0 : Int32)) ((0 : Int32)) ls _ _ (lv_sub hl [2, 3, 1, 0] rfl) hW hS hf
abbrev rm_X4_hasDrive : Room := { frames := 0, cells := 0, slots := 0, locals := 0 }
set_option maxRecDepth 100000 in
set_option maxHeartbeats 4000000 in
theorem ct_X4_hasDrive (l : Launch) (g : GT) (w : WT) (i : Nat) (hi : i ∈ k_S w.1) (sd : SD) (a1 : Int32) {q : Int32} (hf : f_X4_hasDrive sd a1 = some q) : Met l yX4_hasDrive wsX4_hasDrive rm_X4_hasDrive (cPre g (wS w i sd) [.ref (adr i 4 0), .int a1]) (cQi g q (wS w i sd)) 0 0 (gA g) := by
  have i_4 : ∀ w ∈ u_ws RX4 TX4 18, w ∈ wsX4_hasDrive := by decide +kernel
  refine x_met (by decide) rfl (Nat.le_of_ble_eq_true rfl) ?_
  intro p e s m below meth c hx hb hr hml hts hown hlocks hK hW hS ls hl
  have hown : s.vm.findClass RX4 = some m.cls := hown
  have hl : lv_has ls 2 [(0, .ref (adr i 4 0)), (1, .int a1)] := hl
  rw [f_X4_hasDrive] at hf
  refine lv_iload_n hx hb dX4_hasDrive_0 rfl (lv_at hl 1 rfl) ?_
  refine lv_if_lt (tgt := 16) hx hb dX4_hasDrive_1 (by decide) (fun hc => ?_) (fun hc => ?_)
  · have hf := x_iteT hf hc
    refine lv_iconst (v := 0) hx hb dX4_hasDrive_16 (by decide) ?_
    cases hf
    exact x_zret hx hb hr hlocks hK hW hS (Or.inl rfl) rfl dX4_hasDrive_17
  · have hf := x_iteF hf hc
    refine lv_iload_n hx hb dX4_hasDrive_4 rfl (lv_at hl 1 rfl) ?_
    refine lv_aload_n hx hb dX4_hasDrive_5 rfl (lv_at hl 0 rfl) ?_
    refine x_get (i := i) (k := 4) (j := 0) (t := 3) hx hb hts i_4 hown hK hW ⟨hi, by decide⟩ rfl ⟨by decide, by decide, rfl⟩ (hts (.fieldLink RX4 53 "OpticalJukebox$State" "driveCount" "I") (by decide +kernel)) (sv_S rfl (fun _ => rfl) rfl) dX4_hasDrive_6 ?_
    refine lv_icmp_ge (tgt := 16) hx hb dX4_hasDrive_9 (by decide) (fun hc => ?_) (fun hc => ?_)
    · have hf := x_iteT hf hc
      refine lv_iconst (v := 0) hx hb dX4_hasDrive_16 (by decide) ?_
      cases hf
      exact x_zret hx hb hr hlocks hK hW hS (Or.inl rfl) rfl dX4_hasDrive_17
    · have hf := x_iteF hf hc
      refine lv_iconst (v := 1) hx hb dX4_hasDrive_12 (by decide) ?_
      refine lv_goto (tgt := 17) hx hb dX4_hasDrive_13 (by decide) ?_
      cases hf
      exact x_zret hx hb hr hlocks hK hW hS (Or.inr rfl) rfl dX4_hasDrive_17
abbrev rm_X4_bringMoves : Room := { frames := 1, cells := 0, slots := 0, locals := 21 }
set_option maxRecDepth 100000 in
set_option maxHeartbeats 4000000 in
theorem ct_X4_bringMoves (l : Launch) (g : GT) (w : WT) (i : Nat) (hi : i ∈ k_S w.1) (sd : SD) (a1 : Int32) (a2 : Int32) {q : Int32} (hf : f_X4_bringMoves sd a1 a2 = some q) : Met l yX4_bringMoves wsX4_bringMoves rm_X4_bringMoves (cPre g (wS w i sd) [.ref (adr i 4 0), .int a1, .int a2]) (cQi g q (wS w i sd)) 0 0 (gA g) := by
  have i_0 : ∀ w ∈ u_ws RX0 TX0 3, w ∈ wsX4_bringMoves := by decide +kernel
  have i_3 : ∀ w ∈ u_ws RX3 TX3 9, w ∈ wsX4_bringMoves := by decide +kernel
  have i_4 : ∀ w ∈ u_ws RX4 TX4 18, w ∈ wsX4_bringMoves := by decide +kernel
  refine x_met (by decide) rfl (Nat.le_of_ble_eq_true rfl) ?_
  intro p e s m below meth c hx hb hr hml hts hown hlocks hK hW hS ls hl
  have hown : s.vm.findClass RX4 = some m.cls := hown
  have hl : lv_has ls 8 [(0, .ref (adr i 4 0)), (1, .int a1), (2, .int a2)] := hl
  rw [f_X4_bringMoves] at hf
  refine lv_aload_n hx hb dX4_bringMoves_0 rfl (lv_at hl 0 rfl) ?_
  refine x_get (i := i) (k := 4) (j := 0) (t := 2) hx hb hts i_4 hown hK hW ⟨hi, by decide⟩ rfl ⟨by decide, by decide, rfl⟩ (hts (.fieldLink RX4 17 "OpticalJukebox$State" "drives" "[LOpticalJukebox$Drive;") (by decide +kernel)) (v := .ref (adr i 11 0)) rfl dX4_bringMoves_1 ?_
  refine lv_iload_n hx hb dX4_bringMoves_4 rfl (lv_at hl 2 rfl) ?_
  obtain ⟨hg1, hf⟩ := x_guardE hf
  refine x_aald (i := i) (k := 11) (j := 0) hx hb hK hW ⟨hi, by decide⟩ (by decide) rfl rfl hg1 dX4_bringMoves_5 ?_
  refine W.eq (g2 := F0 m 6 ls [.ref (adr i 0 (a2).toNatClampNeg)]) rfl ?_
  refine x_get (i := i) (k := 0) (j := (a2).toNatClampNeg) (t := 0) hx hb hts i_0 hown hK hW ⟨hi, (x_lt hg1)⟩ rfl ⟨by decide, by decide, rfl⟩ (hts (.fieldLink RX4 112 "OpticalJukebox$Drive" "position" "I") (by decide +kernel)) (sv_S rfl (fun _ => rfl) rfl) dX4_bringMoves_6 ?_
  obtain ⟨x2, e_x2, hf⟩ := x_letE hf
  refine x_topi e_x2 ?_
  refine lv_istore_n (lv' := [(3, .int x2), (0, .ref (adr i 4 0)), (1, .int a1), (2, .int a2)]) hx hb dX4_bringMoves_9 rfl hl (by decide) rfl (fun ls hl => ?_)
  refine lv_aload_n hx hb dX4_bringMoves_10 rfl (lv_at hl 1 rfl) ?_
  refine x_get (i := i) (k := 4) (j := 0) (t := 2) hx hb hts i_4 hown hK hW ⟨hi, by decide⟩ rfl ⟨by decide, by decide, rfl⟩ (hts (.fieldLink RX4 17 "OpticalJukebox$State" "drives" "[LOpticalJukebox$Drive;") (by decide +kernel)) (v := .ref (adr i 11 0)) rfl dX4_bringMoves_11 ?_
  refine lv_iload_n hx hb dX4_bringMoves_14 rfl (lv_at hl 3 rfl) ?_
  obtain ⟨hg3, hf⟩ := x_guardE hf
  refine x_aald (i := i) (k := 11) (j := 0) hx hb hK hW ⟨hi, by decide⟩ (by decide) rfl rfl hg3 dX4_bringMoves_15 ?_
  refine W.eq (g2 := F0 m 16 ls [.ref (adr i 0 (a2).toNatClampNeg)]) rfl ?_
  refine x_get (i := i) (k := 0) (j := (a2).toNatClampNeg) (t := 1) hx hb hts i_0 hown hK hW ⟨hi, (x_lt hg3)⟩ rfl ⟨by decide, by decide, rfl⟩ (hts (.fieldLink RX4 115 "OpticalJukebox$Drive" "platter" "I") (by decide +kernel)) (sv_S rfl (fun _ => rfl) rfl) dX4_bringMoves_16 ?_
  obtain ⟨x4, e_x4, hf⟩ := x_letE hf
  refine x_topi e_x4 ?_
  refine lv_istore (lv' := [(4, .int x4), (3, .int x2), (0, .ref (adr i 4 0)), (1, .int a1), (2, .int a2)]) hx hb dX4_bringMoves_19 hl (by decide) rfl (fun ls hl => ?_)
  refine lv_iconst (v := 0) hx hb dX4_bringMoves_21 (by decide) ?_
  refine lv_istore (lv' := [(5, .int (0 : Int32)), (4, .int x4), (3, .int x2), (0, .ref (adr i 4 0)), (1, .int a1), (2, .int a2)]) hx hb dX4_bringMoves_22 hl (by decide) rfl (fun ls hl => ?_)
  refine lv_aload_n hx hb dX4_bringMoves_24 rfl (lv_at hl 3 rfl) ?_
  refine x_get (i := i) (k := 4) (j := 0) (t := 14) hx hb hts i_4 hown hK hW ⟨hi, by decide⟩ rfl ⟨by decide, by decide, rfl⟩ (hts (.fieldLink RX4 74 "OpticalJukebox$State" "picker" "I") (by decide +kernel)) (sv_S rfl (fun _ => rfl) rfl) dX4_bringMoves_25 ?_
  obtain ⟨x5, e_x5, hf⟩ := x_letE hf
  refine x_topi e_x5 ?_
  refine lv_istore (lv' := [(6, .int x5), (5, .int (0 : Int32)), (4, .int x4), (3, .int x2), (0, .ref (adr i 4 0)), (1, .int a1), (2, .int a2)]) hx hb dX4_bringMoves_28 hl (by decide) rfl (fun ls hl => ?_)
  refine lv_iload hx hb dX4_bringMoves_30 (lv_at hl 2 rfl) ?_
  refine lv_iconst (v := -1) hx hb dX4_bringMoves_32 (by decide) ?_
  obtain ⟨K6, eK6, hf⟩ := x_letE hf
  have KK6 : ∀ (y7 : Int32) (y8 : Int32) (ls : Array Slot) (H : Heap) (locs : List Loc), lv_has ls 8 [(0, .ref (adr i 4 0)), (1, .int a1), (2, .int a2), (3, .int x2), (4, .int x4), (5, .int y8), (6, .int y7)] → World g (wS w i sd) H → va_S (gA g) s.heap H locs → K6 y7 y8 = some q → W p l e rm_X4_bringMoves s m [.ref (adr i 4 0), .int a1, .int a2].toArray below meth c H locs 0 0 (MQ below (cQi g q (wS w i sd)) [.ref (adr i 4 0), .int a1, .int a2].toArray s 0 0 (gA g)) (F0 m 69 ls []) := by
    intro y7 y8 ls H locs hl hW hS hf
    subst eK6
    refine lv_aload_n hx hb dX4_bringMoves_69 rfl (lv_at hl 0 rfl) ?_
    refine x_get (i := i) (k := 4) (j := 0) (t := 5) hx hb hts i_4 hown hK hW ⟨hi, by decide⟩ rfl ⟨by decide, by decide, rfl⟩ (hts (.fieldLink RX4 23 "OpticalJukebox$State" "platters" "[LOpticalJukebox$Platter;") (by decide +kernel)) (v := .ref (adr i 12 0)) rfl dX4_bringMoves_70 ?_
    refine lv_iload_n hx hb dX4_bringMoves_73 rfl (lv_at hl 1 rfl) ?_
    obtain ⟨hg9, hf⟩ := x_guardE hf
    refine x_aald (i := i) (k := 12) (j := 0) hx hb hK hW ⟨hi, by decide⟩ (by decide) rfl rfl hg9 dX4_bringMoves_74 ?_
    refine W.eq (g2 := F0 m 75 ls [.ref (adr i 3 (a1).toNatClampNeg)]) rfl ?_
    refine x_get (i := i) (k := 3) (j := (a1).toNatClampNeg) (t := 0) hx hb hts i_3 hown hK hW ⟨hi, (x_lt hg9)⟩ rfl ⟨by decide, by decide, rfl⟩ (hts (.fieldLink RX4 125 "OpticalJukebox$Platter" "home" "I") (by decide +kernel)) (sv_S rfl (fun _ => rfl) rfl) dX4_bringMoves_75 ?_
    obtain ⟨x10, e_x10, hf⟩ := x_letE hf
    refine x_topi e_x10 ?_
    refine lv_istore (lv' := [(7, .int x10), (0, .ref (adr i 4 0)), (1, .int a1), (2, .int a2), (3, .int x2), (4, .int x4), (5, .int y8), (6, .int y7)]) hx hb dX4_bringMoves_78 hl (by decide) rfl (fun ls hl => ?_)
    refine lv_iload hx hb dX4_bringMoves_80 (lv_at hl 6 rfl) ?_
    refine lv_iload hx hb dX4_bringMoves_82 (lv_at hl 7 rfl) ?_
    refine lv_iload hx hb dX4_bringMoves_84 (lv_at hl 0 rfl) ?_
    refine lv_isub hx hb dX4_bringMoves_86 ?_
    refine va_mabs hx hb (hml.trans hl.1.symm) hown (hts (.methodLink RX4 197 Lib.Math.abs.name) (by decide +kernel)) (hts (.static Lib.Math.abs.name) (by decide +kernel)) (hts (.initialized "java/lang/Math") (by decide +kernel)) (hts (.code Lib.Math.abs.name Lib.Math.abs.code 1 (some .int)) (by decide +kernel)) (Nat.le_of_ble_eq_true rfl) (Nat.le_of_ble_eq_true rfl) (Nat.le_of_ble_eq_true rfl) (Nat.le_of_ble_eq_true rfl) dX4_bringMoves_87 ?_
    refine lv_iadd hx hb dX4_bringMoves_90 ?_
    refine lv_iload hx hb dX4_bringMoves_91 (lv_at hl 0 rfl) ?_
    refine lv_iload_n hx hb dX4_bringMoves_93 rfl (lv_at hl 4 rfl) ?_
    refine lv_isub hx hb dX4_bringMoves_94 ?_
    refine va_mabs hx hb (hml.trans hl.1.symm) hown (hts (.methodLink RX4 197 Lib.Math.abs.name) (by decide +kernel)) (hts (.static Lib.Math.abs.name) (by decide +kernel)) (hts (.initialized "java/lang/Math") (by decide +kernel)) (hts (.code Lib.Math.abs.name Lib.Math.abs.code 1 (some .int)) (by decide +kernel)) (Nat.le_of_ble_eq_true rfl) (Nat.le_of_ble_eq_true rfl) (Nat.le_of_ble_eq_true rfl) (Nat.le_of_ble_eq_true rfl) dX4_bringMoves_95 ?_
    refine lv_iadd hx hb dX4_bringMoves_98 ?_
    cases hf
    exact x_iret hx hb hr hlocks hK hW hS rfl dX4_bringMoves_99
  clear eK6
  refine lv_icmp_eq (tgt := 69) hx hb dX4_bringMoves_33 (by decide) (fun hc => ?_) (fun hc => ?_)
  · have hf := x_iteT hf hc
    exact KK6 (x5) ((0 : Int32)) ls _ _ (lv_sub hl [4, 5, 6, 3, 2, 1, 0] rfl) hW hS hf
  · have hf := x_iteF hf hc
    refine lv_aload_n hx hb dX4_bringMoves_36 rfl (lv_at hl 4 rfl) ?_
    refine x_get (i := i) (k := 4) (j := 0) (t := 5) hx hb hts i_4 hown hK hW ⟨hi, by decide⟩ rfl ⟨by decide, by decide, rfl⟩ (hts (.fieldLink RX4 23 "OpticalJukebox$State" "platters" "[LOpticalJukebox$Platter;") (by decide +kernel)) (v := .ref (adr i 12 0)) rfl dX4_bringMoves_37 ?_
    refine lv_iload hx hb dX4_bringMoves_40 (lv_at hl 2 rfl) ?_
    obtain ⟨hg11, hf⟩ := x_guardE hf
    refine x_aald (i := i) (k := 12) (j := 0) hx hb hK hW ⟨hi, by decide⟩ (by decide) rfl rfl hg11 dX4_bringMoves_42 ?_
    refine W.eq (g2 := F0 m 43 ls [.ref (adr i 3 (x4).toNatClampNeg)]) rfl ?_
    refine x_get (i := i) (k := 3) (j := (x4).toNatClampNeg) (t := 0) hx hb hts i_3 hown hK hW ⟨hi, (x_lt hg11)⟩ rfl ⟨by decide, by decide, rfl⟩ (hts (.fieldLink RX4 125 "OpticalJukebox$Platter" "home" "I") (by decide +kernel)) (sv_S rfl (fun _ => rfl) rfl) dX4_bringMoves_43 ?_
    obtain ⟨x12, e_x12, hf⟩ := x_letE hf
    refine x_topi e_x12 ?_
    refine lv_istore (lv' := [(7, .int x12), (6, .int x5), (5, .int (0 : Int32)), (4, .int x4), (3, .int x2), (0, .ref (adr i 4 0)), (1, .int a1), (2, .int a2)]) hx hb dX4_bringMoves_46 hl (by decide) rfl (fun ls hl => ?_)
    refine lv_iload hx hb dX4_bringMoves_48 (lv_at hl 1 rfl) ?_
    refine lv_iload_n hx hb dX4_bringMoves_50 rfl (lv_at hl 4 rfl) ?_
    refine lv_isub hx hb dX4_bringMoves_51 ?_
    refine va_mabs hx hb (hml.trans hl.1.symm) hown (hts (.methodLink RX4 197 Lib.Math.abs.name) (by decide +kernel)) (hts (.static Lib.Math.abs.name) (by decide +kernel)) (hts (.initialized "java/lang/Math") (by decide +kernel)) (hts (.code Lib.Math.abs.name Lib.Math.abs.code 1 (some .int)) (by decide +kernel)) (Nat.le_of_ble_eq_true rfl) (Nat.le_of_ble_eq_true rfl) (Nat.le_of_ble_eq_true rfl) (Nat.le_of_ble_eq_true rfl) dX4_bringMoves_52 ?_
    refine lv_iload_n hx hb dX4_bringMoves_55 rfl (lv_at hl 4 rfl) ?_
    refine lv_iload hx hb dX4_bringMoves_56 (lv_at hl 0 rfl) ?_
    refine lv_isub hx hb dX4_bringMoves_58 ?_
    refine va_mabs hx hb (hml.trans hl.1.symm) hown (hts (.methodLink RX4 197 Lib.Math.abs.name) (by decide +kernel)) (hts (.static Lib.Math.abs.name) (by decide +kernel)) (hts (.initialized "java/lang/Math") (by decide +kernel)) (hts (.code Lib.Math.abs.name Lib.Math.abs.code 1 (some .int)) (by decide +kernel)) (Nat.le_of_ble_eq_true rfl) (Nat.le_of_ble_eq_true rfl) (Nat.le_of_ble_eq_true rfl) (Nat.le_of_ble_eq_true rfl) dX4_bringMoves_59 ?_
    refine lv_iadd hx hb dX4_bringMoves_62 ?_
    obtain ⟨x13, e_x13, hf⟩ := x_letE hf
    refine x_topi e_x13 ?_
    refine lv_istore (lv' := [(5, .int x13), (7, .int x12), (6, .int x5), (4, .int x4), (3, .int x2), (0, .ref (adr i 4 0)), (1, .int a1), (2, .int a2)]) hx hb dX4_bringMoves_63 hl (by decide) rfl (fun ls hl => ?_)
    refine lv_iload hx hb dX4_bringMoves_65 (lv_at hl 1 rfl) ?_
    refine lv_istore (lv' := [(6, .int x12), (5, .int x13), (7, .int x12), (4, .int x4), (3, .int x2), (0, .ref (adr i 4 0)), (1, .int a1), (2, .int a2)]) hx hb dX4_bringMoves_67 hl (by decide) rfl (fun ls hl => ?_)
    exact KK6 (x12) (x13) ls _ _ (lv_sub hl [5, 6, 7, 4, 3, 1, 0] rfl) hW hS hf
abbrev rm_X4_bringTime : Room := { frames := 2, cells := 0, slots := 0, locals := 48 }
set_option maxRecDepth 100000 in
set_option maxHeartbeats 4000000 in
theorem ct_X4_bringTime (l : Launch) (g : GT) (w : WT) (i : Nat) (hi : i ∈ k_S w.1) (sd : SD) (a1 : Int32) (a2 : Int32) {q : Int32} (hf : f_X4_bringTime sd a1 a2 = some q) : Met l yX4_bringTime wsX4_bringTime rm_X4_bringTime (cPre g (wS w i sd) [.ref (adr i 4 0), .int a1, .int a2]) (cQi g q (wS w i sd)) 0 0 (gA g) := by
  have i_0 : ∀ w ∈ u_ws RX0 TX0 3, w ∈ wsX4_bringTime := by decide +kernel
  have i_4 : ∀ w ∈ u_ws RX4 TX4 18, w ∈ wsX4_bringTime := by decide +kernel
  refine x_met (by decide) rfl (Nat.le_of_ble_eq_true rfl) ?_
  intro p e s m below meth c hx hb hr hml hts hown hlocks hK hW hS ls hl
  have hown : s.vm.findClass RX4 = some m.cls := hown
  have hl : lv_has ls 5 [(0, .ref (adr i 4 0)), (1, .int a1), (2, .int a2)] := hl
  rw [f_X4_bringTime] at hf
  refine lv_aload_n hx hb dX4_bringTime_0 rfl (lv_at hl 0 rfl) ?_
  refine x_get (i := i) (k := 4) (j := 0) (t := 2) hx hb hts i_4 hown hK hW ⟨hi, by decide⟩ rfl ⟨by decide, by decide, rfl⟩ (hts (.fieldLink RX4 17 "OpticalJukebox$State" "drives" "[LOpticalJukebox$Drive;") (by decide +kernel)) (v := .ref (adr i 11 0)) rfl dX4_bringTime_1 ?_
  refine lv_iload_n hx hb dX4_bringTime_4 rfl (lv_at hl 2 rfl) ?_
  obtain ⟨hg1, hf⟩ := x_guardE hf
  refine x_aald (i := i) (k := 11) (j := 0) hx hb hK hW ⟨hi, by decide⟩ (by decide) rfl rfl hg1 dX4_bringTime_5 ?_
  refine W.eq (g2 := F0 m 6 ls [.ref (adr i 0 (a2).toNatClampNeg)]) rfl ?_
  refine x_get (i := i) (k := 0) (j := (a2).toNatClampNeg) (t := 1) hx hb hts i_0 hown hK hW ⟨hi, (x_lt hg1)⟩ rfl ⟨by decide, by decide, rfl⟩ (hts (.fieldLink RX4 115 "OpticalJukebox$Drive" "platter" "I") (by decide +kernel)) (sv_S rfl (fun _ => rfl) rfl) dX4_bringTime_6 ?_
  obtain ⟨x2, e_x2, hf⟩ := x_letE hf
  refine x_topi e_x2 ?_
  refine lv_istore_n (lv' := [(3, .int x2), (0, .ref (adr i 4 0)), (1, .int a1), (2, .int a2)]) hx hb dX4_bringTime_9 rfl hl (by decide) rfl (fun ls hl => ?_)
  refine lv_iload_n hx hb dX4_bringTime_10 rfl (lv_at hl 0 rfl) ?_
  refine lv_iload_n hx hb dX4_bringTime_11 rfl (lv_at hl 2 rfl) ?_
  refine lv_icmp_ne (tgt := 17) hx hb dX4_bringTime_12 (by decide) (fun hc => ?_) (fun hc => ?_)
  · have hf := x_iteF hf hc
    refine lv_iload_n hx hb dX4_bringTime_17 rfl (lv_at hl 0 rfl) ?_
    refine lv_iconst (v := -1) hx hb dX4_bringTime_18 (by decide) ?_
    obtain ⟨K3, eK3, hf⟩ := x_letE hf
    have KK3 : ∀ (y4 : Int32) (ls : Array Slot) (H : Heap) (locs : List Loc), lv_has ls 5 [(0, .ref (adr i 4 0)), (1, .int a1), (2, .int a2), (3, .int x2)] → World g (wS w i sd) H → va_S (gA g) s.heap H locs → K3 y4 = some q → W p l e rm_X4_bringTime s m [.ref (adr i 4 0), .int a1, .int a2].toArray below meth c H locs 0 0 (MQ below (cQi g q (wS w i sd)) [.ref (adr i 4 0), .int a1, .int a2].toArray s 0 0 (gA g)) (F0 m 27 ls [.int y4]) := by
      intro y4 ls H locs hl hW hS hf
      subst eK3
      refine lv_istore (lv' := [(4, .int y4), (0, .ref (adr i 4 0)), (1, .int a1), (2, .int a2), (3, .int x2)]) hx hb dX4_bringTime_27 hl (by decide) rfl (fun ls hl => ?_)
      refine lv_aload_n hx hb dX4_bringTime_29 rfl (lv_at hl 1 rfl) ?_
      refine lv_iload_n hx hb dX4_bringTime_30 rfl (lv_at hl 2 rfl) ?_
      refine lv_iload_n hx hb dX4_bringTime_31 rfl (lv_at hl 3 rfl) ?_
      obtain ⟨q5, h_q5, hf⟩ := x_bindE hf
      refine x_ci0 (x_rV ⟨hx, hb, hml, hown, hts⟩ (ct_X4_bringMoves l g w i hi sd (a1) (a2) h_q5) (cwV 2 hts gX4_bringTime_X4_bringMoves rfl rfl rfl (by decide +kernel) ⟨Nat.le_of_ble_eq_true rfl, Nat.le_of_ble_eq_true rfl⟩) hK hW hS (x_recv (i := i) (k := 4) (j := 0) hK hW ⟨hi, by decide⟩ rfl (by decide)) rfl hl.1 (rest := []) rfl (Nat.le_of_ble_eq_true rfl) dX4_bringTime_32 ⟨Nat.le_of_ble_eq_true rfl, Nat.le_of_ble_eq_true rfl⟩) hS (fun H locs hW hS => ?_)
      have hW : World g (wS w i sd) H := hW
      refine W.eq (g2 := F0 m 35 ls [.int q5]) rfl ?_
      refine lv_aload_n hx hb dX4_bringTime_35 rfl (lv_at hl 1 rfl) ?_
      refine x_get (i := i) (k := 4) (j := 0) (t := 1) hx hb hts i_4 hown hK hW ⟨hi, by decide⟩ rfl ⟨by decide, by decide, rfl⟩ (hts (.fieldLink RX4 9 "OpticalJukebox$State" "times" "[I") (by decide +kernel)) (v := .ref (adr i 10 0)) rfl dX4_bringTime_36 ?_
      refine lv_iconst (v := 0) hx hb dX4_bringTime_39 (by decide) ?_
      refine x_iald (i := i) (k := 10) (j := 0) (f := sd 10 0) hx hb hK hW ⟨hi, by decide⟩ (by decide) (ct_S rfl (fun _ => rfl)) rfl (by unfold vp_in; decide) dX4_bringTime_40 ?_
      refine W.eq (g2 := F0 m 41 ls [.int (sd 10 0 0), .int q5]) rfl ?_
      refine lv_imul hx hb dX4_bringTime_41 ?_
      refine lv_iload hx hb dX4_bringTime_42 (lv_at hl 0 rfl) ?_
      refine lv_aload_n hx hb dX4_bringTime_44 rfl (lv_at hl 1 rfl) ?_
      refine x_get (i := i) (k := 4) (j := 0) (t := 1) hx hb hts i_4 hown hK hW ⟨hi, by decide⟩ rfl ⟨by decide, by decide, rfl⟩ (hts (.fieldLink RX4 9 "OpticalJukebox$State" "times" "[I") (by decide +kernel)) (v := .ref (adr i 10 0)) rfl dX4_bringTime_45 ?_
      refine lv_iconst (v := 1) hx hb dX4_bringTime_48 (by decide) ?_
      refine x_iald (i := i) (k := 10) (j := 0) (f := sd 10 0) hx hb hK hW ⟨hi, by decide⟩ (by decide) (ct_S rfl (fun _ => rfl)) rfl (by unfold vp_in; decide) dX4_bringTime_49 ?_
      refine W.eq (g2 := F0 m 50 ls [.int (sd 10 0 1), .int y4, .int (q5 * (sd 10 0 0))]) rfl ?_
      refine lv_imul hx hb dX4_bringTime_50 ?_
      refine lv_iadd hx hb dX4_bringTime_51 ?_
      refine lv_aload_n hx hb dX4_bringTime_52 rfl (lv_at hl 1 rfl) ?_
      refine x_get (i := i) (k := 4) (j := 0) (t := 1) hx hb hts i_4 hown hK hW ⟨hi, by decide⟩ rfl ⟨by decide, by decide, rfl⟩ (hts (.fieldLink RX4 9 "OpticalJukebox$State" "times" "[I") (by decide +kernel)) (v := .ref (adr i 10 0)) rfl dX4_bringTime_53 ?_
      refine lv_iconst (v := 2) hx hb dX4_bringTime_56 (by decide) ?_
      refine x_iald (i := i) (k := 10) (j := 0) (f := sd 10 0) hx hb hK hW ⟨hi, by decide⟩ (by decide) (ct_S rfl (fun _ => rfl)) rfl (by unfold vp_in; decide) dX4_bringTime_57 ?_
      refine W.eq (g2 := F0 m 58 ls [.int (sd 10 0 2), .int ((q5 * (sd 10 0 0)) + (y4 * (sd 10 0 1)))]) rfl ?_
      refine lv_iadd hx hb dX4_bringTime_58 ?_
      cases hf
      exact x_iret hx hb hr hlocks hK hW hS rfl dX4_bringTime_59
    clear eK3
    refine lv_icmp_ne (tgt := 26) hx hb dX4_bringTime_19 (by decide) (fun hc => ?_) (fun hc => ?_)
    · have hf := x_iteF hf hc
      refine lv_iconst (v := 4) hx hb dX4_bringTime_26 (by decide) ?_
      exact KK3 ((4 : Int32)) ls _ _ (lv_sub hl [1, 2, 3, 0] rfl) hW hS hf
    · have hf := x_iteT hf hc
      refine lv_iconst (v := 2) hx hb dX4_bringTime_22 (by decide) ?_
      refine lv_goto (tgt := 27) hx hb dX4_bringTime_23 (by decide) ?_
      exact KK3 ((2 : Int32)) ls _ _ (lv_sub hl [1, 2, 3, 0] rfl) hW hS hf
  · have hf := x_iteT hf hc
    refine lv_iconst (v := 0) hx hb dX4_bringTime_15 (by decide) ?_
    cases hf
    exact x_iret hx hb hr hlocks hK hW hS rfl dX4_bringTime_16
abbrev rm_X4_sectorsReadTime : Room := { frames := 0, cells := 0, slots := 0, locals := 0 }
set_option maxRecDepth 100000 in
set_option maxHeartbeats 4000000 in
theorem ct_X4_sectorsReadTime (l : Launch) (g : GT) (w : WT) (i : Nat) (hi : i ∈ k_S w.1) (sd : SD) (j1 : Nat) (hj1 : j1 < 40) {q : Int32} (hf : f_X4_sectorsReadTime sd j1 = some q) : Met l yX4_sectorsReadTime wsX4_sectorsReadTime rm_X4_sectorsReadTime (cPre g (wS w i sd) [.ref (adr i 4 0), .ref (adr i 6 j1)]) (cQi g q (wS w i sd)) 0 0 (gA g) := by
  have i_4 : ∀ w ∈ u_ws RX4 TX4 18, w ∈ wsX4_sectorsReadTime := by decide +kernel
  have i_6 : ∀ w ∈ u_ws RX6 TX6 7, w ∈ wsX4_sectorsReadTime := by decide +kernel
  refine x_met (by decide) rfl (Nat.le_of_ble_eq_true rfl) ?_
  intro p e s m below meth c hx hb hr hml hts hown hlocks hK hW hS ls hl
  have hown : s.vm.findClass RX4 = some m.cls := hown
  have hl : lv_has ls 2 [(0, .ref (adr i 4 0)), (1, .ref (adr i 6 j1))] := hl
  rw [f_X4_sectorsReadTime] at hf
  refine lv_aload_n hx hb dX4_sectorsReadTime_0 rfl (lv_at hl 0 rfl) ?_
  refine x_get (i := i) (k := 4) (j := 0) (t := 1) hx hb hts i_4 hown hK hW ⟨hi, by decide⟩ rfl ⟨by decide, by decide, rfl⟩ (hts (.fieldLink RX4 9 "OpticalJukebox$State" "times" "[I") (by decide +kernel)) (v := .ref (adr i 10 0)) rfl dX4_sectorsReadTime_1 ?_
  refine lv_iconst (v := 3) hx hb dX4_sectorsReadTime_4 (by decide) ?_
  refine x_iald (i := i) (k := 10) (j := 0) (f := sd 10 0) hx hb hK hW ⟨hi, by decide⟩ (by decide) (ct_S rfl (fun _ => rfl)) rfl (by unfold vp_in; decide) dX4_sectorsReadTime_5 ?_
  refine W.eq (g2 := F0 m 6 ls [.int (sd 10 0 3)]) rfl ?_
  refine lv_aload_n hx hb dX4_sectorsReadTime_6 rfl (lv_at hl 1 rfl) ?_
  refine x_get (i := i) (k := 6) (j := j1) (t := 3) hx hb hts i_6 hown hK hW ⟨hi, hj1⟩ rfl ⟨by decide, by decide, rfl⟩ (hts (.fieldLink RX4 141 "OpticalJukebox$Version" "size" "I") (by decide +kernel)) (sv_S rfl (fun _ => rfl) rfl) dX4_sectorsReadTime_7 ?_
  refine lv_aload_n hx hb dX4_sectorsReadTime_10 rfl (lv_at hl 1 rfl) ?_
  refine x_get (i := i) (k := 6) (j := j1) (t := 5) hx hb hts i_6 hown hK hW ⟨hi, hj1⟩ rfl ⟨by decide, by decide, rfl⟩ (hts (.fieldLink RX4 148 "OpticalJukebox$Version" "remapped" "I") (by decide +kernel)) (sv_S rfl (fun _ => rfl) rfl) dX4_sectorsReadTime_11 ?_
  refine lv_iadd hx hb dX4_sectorsReadTime_14 ?_
  refine lv_imul hx hb dX4_sectorsReadTime_15 ?_
  cases hf
  exact x_iret hx hb hr hlocks hK hW hS rfl dX4_sectorsReadTime_16
abbrev rm_X4_requestsReadTime : Room := { frames := 1, cells := 0, slots := 0, locals := 21 }
set_option maxRecDepth 100000 in
set_option maxHeartbeats 4000000 in
theorem ct_X4_requestsReadTime (l : Launch) (g : GT) (w : WT) (i : Nat) (hi : i ∈ k_S w.1) (sd : SD) (a1 : Int32) {q : Int32} (hf : f_X4_requestsReadTime sd a1 = some q) : Met l yX4_requestsReadTime wsX4_requestsReadTime rm_X4_requestsReadTime (cPre g (wS w i sd) [.ref (adr i 4 0), .int a1]) (cQi g q (wS w i sd)) 0 0 (gA g) := by
  have i_4 : ∀ w ∈ u_ws RX4 TX4 18, w ∈ wsX4_requestsReadTime := by decide +kernel
  refine x_met (by decide) rfl (Nat.le_of_ble_eq_true rfl) ?_
  intro p e s m below meth c hx hb hr hml hts hown hlocks hK hW hS ls hl
  have hown : s.vm.findClass RX4 = some m.cls := hown
  have hl : lv_has ls 4 [(0, .ref (adr i 4 0)), (1, .int a1)] := hl
  rw [f_X4_requestsReadTime] at hf
  refine lv_iconst (v := 0) hx hb dX4_requestsReadTime_0 (by decide) ?_
  refine lv_istore_n (lv' := [(2, .int (0 : Int32)), (0, .ref (adr i 4 0)), (1, .int a1)]) hx hb dX4_requestsReadTime_1 rfl hl (by decide) rfl (fun ls hl => ?_)
  refine lv_iconst (v := 0) hx hb dX4_requestsReadTime_2 (by decide) ?_
  refine lv_istore_n (lv' := [(3, .int (0 : Int32)), (2, .int (0 : Int32)), (0, .ref (adr i 4 0)), (1, .int a1)]) hx hb dX4_requestsReadTime_3 rfl hl (by decide) rfl (fun ls hl => ?_)
  have L4 : ∀ (n : Nat) (v2_4 : Int32) (v3_4 : Int32) (ls : Array Slot) (H : Heap) (locs : List Loc), lv_has ls 4 [(0, .ref (adr i 4 0)), (1, .int a1), (2, .int v2_4), (3, .int v3_4)] → World g (wS w i sd) H → va_S (gA g) s.heap H locs → f_X4_requestsReadTime_L4 sd a1 n v2_4 v3_4 = some q → W p l e rm_X4_requestsReadTime s m [.ref (adr i 4 0), .int a1].toArray below meth c H locs 0 0 (MQ below (cQi g q (wS w i sd)) [.ref (adr i 4 0), .int a1].toArray s 0 0 (gA g)) (F0 m 4 ls []) := by
    clear hW hS hl
    intro n
    induction n with
    | zero => intro v2_4 v3_4 ls H locs hl hW hS hf; cases hf
    | succ n_4 ih =>
      intro v2_4 v3_4 ls H locs hl hW hS hf
      rw [f_X4_requestsReadTime_L4] at hf
      refine lv_iload_n hx hb dX4_requestsReadTime_4 rfl (lv_at hl 3 rfl) ?_
      refine lv_aload_n hx hb dX4_requestsReadTime_5 rfl (lv_at hl 0 rfl) ?_
      refine x_get (i := i) (k := 4) (j := 0) (t := 13) hx hb hts i_4 hown hK hW ⟨hi, by decide⟩ rfl ⟨by decide, by decide, rfl⟩ (hts (.fieldLink RX4 71 "OpticalJukebox$State" "requestCount" "I") (by decide +kernel)) (sv_S rfl (fun _ => rfl) rfl) dX4_requestsReadTime_6 ?_
      refine lv_icmp_ge (tgt := 40) hx hb dX4_requestsReadTime_9 (by decide) (fun hc => ?_) (fun hc => ?_)
      · have hf := x_iteT hf hc
        refine lv_iload_n hx hb dX4_requestsReadTime_40 rfl (lv_at hl 2 rfl) ?_
        cases hf
        exact x_iret hx hb hr hlocks hK hW hS rfl dX4_requestsReadTime_41
      · have hf := x_iteF hf hc
        refine lv_iload_n hx hb dX4_requestsReadTime_12 rfl (lv_at hl 3 rfl) ?_
        refine lv_iload_n hx hb dX4_requestsReadTime_13 rfl (lv_at hl 1 rfl) ?_
        refine lv_icmp_eq (tgt := 34) hx hb dX4_requestsReadTime_14 (by decide) (fun hc => ?_) (fun hc => ?_)
        · have hf := x_iteT hf hc
          obtain ⟨x1, e_x1, hf⟩ := x_letE hf
          refine lv_iinc (v := x1) (lv' := [(3, .int x1), (0, .ref (adr i 4 0)), (1, .int a1), (2, .int v2_4)]) hx hb dX4_requestsReadTime_34 hl (k := 3) rfl (by rw [e_x1]; rfl) (by decide) rfl (fun ls hl => ?_)
          refine lv_goto (tgt := 4) hx hb dX4_requestsReadTime_37 (by decide) ?_
          exact ih (v2_4) (x1) ls _ _ (lv_sub hl [1, 2, 3, 0] rfl) hW hS hf
        · have hf := x_iteF hf hc
          refine lv_iload_n hx hb dX4_requestsReadTime_17 rfl (lv_at hl 2 rfl) ?_
          refine lv_aload_n hx hb dX4_requestsReadTime_18 rfl (lv_at hl 0 rfl) ?_
          refine lv_aload_n hx hb dX4_requestsReadTime_19 rfl (lv_at hl 0 rfl) ?_
          refine lv_aload_n hx hb dX4_requestsReadTime_20 rfl (lv_at hl 0 rfl) ?_
          refine x_get (i := i) (k := 4) (j := 0) (t := 12) hx hb hts i_4 hown hK hW ⟨hi, by decide⟩ rfl ⟨by decide, by decide, rfl⟩ (hts (.fieldLink RX4 36 "OpticalJukebox$State" "requests" "[I") (by decide +kernel)) (v := .ref (adr i 15 0)) rfl dX4_requestsReadTime_21 ?_
          refine lv_iload_n hx hb dX4_requestsReadTime_24 rfl (lv_at hl 3 rfl) ?_
          obtain ⟨hg2, hf⟩ := x_guardE hf
          refine x_iald (i := i) (k := 15) (j := 0) (f := sd 15 0) hx hb hK hW ⟨hi, by decide⟩ (by decide) (ct_S rfl (fun _ => rfl)) rfl hg2 dX4_requestsReadTime_25 ?_
          obtain ⟨q3, h_q3, hf⟩ := x_bindE hf
          refine x_cr0 (x_rV ⟨hx, hb, hml, hown, hts⟩ (ct_X4_currentVersion l g w i hi sd ((sd 15 0 (v3_4).toNatClampNeg)) h_q3) (cwV 1 hts gX4_requestsReadTime_X4_currentVersion rfl rfl rfl (by decide +kernel) ⟨Nat.le_of_ble_eq_true rfl, Nat.le_of_ble_eq_true rfl⟩) hK hW hS (x_recv (i := i) (k := 4) (j := 0) hK hW ⟨hi, by decide⟩ rfl (by decide)) rfl hl.1 (rest := [.ref (adr i 4 0), .int v2_4]) rfl (Nat.le_of_ble_eq_true rfl) dX4_requestsReadTime_26 ⟨Nat.le_of_ble_eq_true rfl, Nat.le_of_ble_eq_true rfl⟩) hS (fun H locs hW hS => ?_)
          have hW : World g (wS w i sd) H := hW
          refine W.eq (g2 := F0 m 29 ls [.ref (adr i 6 q3), .ref (adr i 4 0), .int v2_4]) rfl ?_
          obtain ⟨q4, h_q4, hf⟩ := x_bindE hf
          refine x_ci0 (x_rV ⟨hx, hb, hml, hown, hts⟩ (ct_X4_sectorsReadTime l g w i hi sd (q3) ((b_X4_currentVersion h_q3)) h_q4) (cwV 1 hts gX4_requestsReadTime_X4_sectorsReadTime rfl rfl rfl (by decide +kernel) ⟨Nat.le_of_ble_eq_true rfl, Nat.le_of_ble_eq_true rfl⟩) hK hW hS (x_recv (i := i) (k := 4) (j := 0) hK hW ⟨hi, by decide⟩ rfl (by decide)) rfl hl.1 (rest := [.int v2_4]) rfl (Nat.le_of_ble_eq_true rfl) dX4_requestsReadTime_29 ⟨Nat.le_of_ble_eq_true rfl, Nat.le_of_ble_eq_true rfl⟩) hS (fun H locs hW hS => ?_)
          have hW : World g (wS w i sd) H := hW
          refine W.eq (g2 := F0 m 32 ls [.int q4, .int v2_4]) rfl ?_
          refine lv_iadd hx hb dX4_requestsReadTime_32 ?_
          obtain ⟨x5, e_x5, hf⟩ := x_letE hf
          refine x_topi e_x5 ?_
          refine lv_istore_n (lv' := [(2, .int x5), (0, .ref (adr i 4 0)), (1, .int a1), (3, .int v3_4)]) hx hb dX4_requestsReadTime_33 rfl hl (by decide) rfl (fun ls hl => ?_)
          obtain ⟨x6, e_x6, hf⟩ := x_letE hf
          refine lv_iinc (v := x6) (lv' := [(3, .int x6), (2, .int x5), (0, .ref (adr i 4 0)), (1, .int a1)]) hx hb dX4_requestsReadTime_34 hl (k := 3) rfl (by rw [e_x6]; rfl) (by decide) rfl (fun ls hl => ?_)
          refine lv_goto (tgt := 4) hx hb dX4_requestsReadTime_37 (by decide) ?_
          exact ih (x5) (x6) ls _ _ (lv_sub hl [2, 3, 1, 0] rfl) hW hS hf
  exact L4 fuel ((0 : Int32)) ((0 : Int32)) ls _ _ (lv_sub hl [2, 3, 1, 0] rfl) hW hS hf
abbrev rm_X4_hasSlot : Room := { frames := 0, cells := 0, slots := 0, locals := 0 }
set_option maxRecDepth 100000 in
set_option maxHeartbeats 4000000 in
theorem ct_X4_hasSlot (l : Launch) (g : GT) (w : WT) (i : Nat) (hi : i ∈ k_S w.1) (sd : SD) (a1 : Int32) {q : Int32} (hf : f_X4_hasSlot sd a1 = some q) : Met l yX4_hasSlot wsX4_hasSlot rm_X4_hasSlot (cPre g (wS w i sd) [.ref (adr i 4 0), .int a1]) (cQi g q (wS w i sd)) 0 0 (gA g) := by
  have i_4 : ∀ w ∈ u_ws RX4 TX4 18, w ∈ wsX4_hasSlot := by decide +kernel
  refine x_met (by decide) rfl (Nat.le_of_ble_eq_true rfl) ?_
  intro p e s m below meth c hx hb hr hml hts hown hlocks hK hW hS ls hl
  have hown : s.vm.findClass RX4 = some m.cls := hown
  have hl : lv_has ls 2 [(0, .ref (adr i 4 0)), (1, .int a1)] := hl
  rw [f_X4_hasSlot] at hf
  refine lv_iload_n hx hb dX4_hasSlot_0 rfl (lv_at hl 1 rfl) ?_
  refine lv_if_lt (tgt := 16) hx hb dX4_hasSlot_1 (by decide) (fun hc => ?_) (fun hc => ?_)
  · have hf := x_iteT hf hc
    refine lv_iconst (v := 0) hx hb dX4_hasSlot_16 (by decide) ?_
    cases hf
    exact x_zret hx hb hr hlocks hK hW hS (Or.inl rfl) rfl dX4_hasSlot_17
  · have hf := x_iteF hf hc
    refine lv_iload_n hx hb dX4_hasSlot_4 rfl (lv_at hl 1 rfl) ?_
    refine lv_aload_n hx hb dX4_hasSlot_5 rfl (lv_at hl 0 rfl) ?_
    refine x_get (i := i) (k := 4) (j := 0) (t := 0) hx hb hts i_4 hown hK hW ⟨hi, by decide⟩ rfl ⟨by decide, by decide, rfl⟩ (hts (.fieldLink RX4 45 "OpticalJukebox$State" "slotCount" "I") (by decide +kernel)) (sv_S rfl (fun _ => rfl) rfl) dX4_hasSlot_6 ?_
    refine lv_icmp_ge (tgt := 16) hx hb dX4_hasSlot_9 (by decide) (fun hc => ?_) (fun hc => ?_)
    · have hf := x_iteT hf hc
      refine lv_iconst (v := 0) hx hb dX4_hasSlot_16 (by decide) ?_
      cases hf
      exact x_zret hx hb hr hlocks hK hW hS (Or.inl rfl) rfl dX4_hasSlot_17
    · have hf := x_iteF hf hc
      refine lv_iconst (v := 1) hx hb dX4_hasSlot_12 (by decide) ?_
      refine lv_goto (tgt := 17) hx hb dX4_hasSlot_13 (by decide) ?_
      cases hf
      exact x_zret hx hb hr hlocks hK hW hS (Or.inr rfl) rfl dX4_hasSlot_17
abbrev rm_X4_hasPlatter : Room := { frames := 0, cells := 0, slots := 0, locals := 0 }
set_option maxRecDepth 100000 in
set_option maxHeartbeats 4000000 in
theorem ct_X4_hasPlatter (l : Launch) (g : GT) (w : WT) (i : Nat) (hi : i ∈ k_S w.1) (sd : SD) (a1 : Int32) {q : Int32} (hf : f_X4_hasPlatter sd a1 = some q) : Met l yX4_hasPlatter wsX4_hasPlatter rm_X4_hasPlatter (cPre g (wS w i sd) [.ref (adr i 4 0), .int a1]) (cQi g q (wS w i sd)) 0 0 (gA g) := by
  have i_4 : ∀ w ∈ u_ws RX4 TX4 18, w ∈ wsX4_hasPlatter := by decide +kernel
  refine x_met (by decide) rfl (Nat.le_of_ble_eq_true rfl) ?_
  intro p e s m below meth c hx hb hr hml hts hown hlocks hK hW hS ls hl
  have hown : s.vm.findClass RX4 = some m.cls := hown
  have hl : lv_has ls 2 [(0, .ref (adr i 4 0)), (1, .int a1)] := hl
  rw [f_X4_hasPlatter] at hf
  refine lv_iload_n hx hb dX4_hasPlatter_0 rfl (lv_at hl 1 rfl) ?_
  refine lv_if_lt (tgt := 16) hx hb dX4_hasPlatter_1 (by decide) (fun hc => ?_) (fun hc => ?_)
  · have hf := x_iteT hf hc
    refine lv_iconst (v := 0) hx hb dX4_hasPlatter_16 (by decide) ?_
    cases hf
    exact x_zret hx hb hr hlocks hK hW hS (Or.inl rfl) rfl dX4_hasPlatter_17
  · have hf := x_iteF hf hc
    refine lv_iload_n hx hb dX4_hasPlatter_4 rfl (lv_at hl 1 rfl) ?_
    refine lv_aload_n hx hb dX4_hasPlatter_5 rfl (lv_at hl 0 rfl) ?_
    refine x_get (i := i) (k := 4) (j := 0) (t := 6) hx hb hts i_4 hown hK hW ⟨hi, by decide⟩ rfl ⟨by decide, by decide, rfl⟩ (hts (.fieldLink RX4 59 "OpticalJukebox$State" "platterCount" "I") (by decide +kernel)) (sv_S rfl (fun _ => rfl) rfl) dX4_hasPlatter_6 ?_
    refine lv_icmp_ge (tgt := 16) hx hb dX4_hasPlatter_9 (by decide) (fun hc => ?_) (fun hc => ?_)
    · have hf := x_iteT hf hc
      refine lv_iconst (v := 0) hx hb dX4_hasPlatter_16 (by decide) ?_
      cases hf
      exact x_zret hx hb hr hlocks hK hW hS (Or.inl rfl) rfl dX4_hasPlatter_17
    · have hf := x_iteF hf hc
      refine lv_iconst (v := 1) hx hb dX4_hasPlatter_12 (by decide) ?_
      refine lv_goto (tgt := 17) hx hb dX4_hasPlatter_13 (by decide) ?_
      cases hf
      exact x_zret hx hb hr hlocks hK hW hS (Or.inr rfl) rfl dX4_hasPlatter_17
abbrev rm_X4_hasSession : Room := { frames := 1, cells := 0, slots := 0, locals := 21 }
set_option maxRecDepth 100000 in
set_option maxHeartbeats 4000000 in
theorem ct_X4_hasSession (l : Launch) (g : GT) (w : WT) (i : Nat) (hi : i ∈ k_S w.1) (sd : SD) (a1 : Int32) (a2 : Int32) {q : Int32} (hf : f_X4_hasSession sd a1 a2 = some q) : Met l yX4_hasSession wsX4_hasSession rm_X4_hasSession (cPre g (wS w i sd) [.ref (adr i 4 0), .int a1, .int a2]) (cQi g q (wS w i sd)) 0 0 (gA g) := by
  have i_3 : ∀ w ∈ u_ws RX3 TX3 9, w ∈ wsX4_hasSession := by decide +kernel
  have i_4 : ∀ w ∈ u_ws RX4 TX4 18, w ∈ wsX4_hasSession := by decide +kernel
  refine x_met (by decide) rfl (Nat.le_of_ble_eq_true rfl) ?_
  intro p e s m below meth c hx hb hr hml hts hown hlocks hK hW hS ls hl
  have hown : s.vm.findClass RX4 = some m.cls := hown
  have hl : lv_has ls 3 [(0, .ref (adr i 4 0)), (1, .int a1), (2, .int a2)] := hl
  rw [f_X4_hasSession] at hf
  refine lv_aload_n hx hb dX4_hasSession_0 rfl (lv_at hl 0 rfl) ?_
  refine lv_iload_n hx hb dX4_hasSession_1 rfl (lv_at hl 1 rfl) ?_
  obtain ⟨q1, h_q1, hf⟩ := x_bindE hf
  refine x_ci0 (x_rV ⟨hx, hb, hml, hown, hts⟩ (ct_X4_hasPlatter l g w i hi sd (a1) h_q1) (cwV 1 hts gX4_hasSession_X4_hasPlatter rfl rfl rfl (by decide +kernel) ⟨Nat.le_of_ble_eq_true rfl, Nat.le_of_ble_eq_true rfl⟩) hK hW hS (x_recv (i := i) (k := 4) (j := 0) hK hW ⟨hi, by decide⟩ rfl (by decide)) rfl hl.1 (rest := []) rfl (Nat.le_of_ble_eq_true rfl) dX4_hasSession_2 ⟨Nat.le_of_ble_eq_true rfl, Nat.le_of_ble_eq_true rfl⟩) hS (fun H locs hW hS => ?_)
  have hW : World g (wS w i sd) H := hW
  refine W.eq (g2 := F0 m 5 ls [.int q1]) rfl ?_
  refine lv_if_eq (tgt := 29) hx hb dX4_hasSession_5 (by decide) (fun hc => ?_) (fun hc => ?_)
  · have hf := x_iteT hf hc
    refine lv_iconst (v := 0) hx hb dX4_hasSession_29 (by decide) ?_
    cases hf
    exact x_zret hx hb hr hlocks hK hW hS (Or.inl rfl) rfl dX4_hasSession_30
  · have hf := x_iteF hf hc
    refine lv_iload_n hx hb dX4_hasSession_8 rfl (lv_at hl 2 rfl) ?_
    refine lv_if_lt (tgt := 29) hx hb dX4_hasSession_9 (by decide) (fun hc => ?_) (fun hc => ?_)
    · have hf := x_iteT hf hc
      refine lv_iconst (v := 0) hx hb dX4_hasSession_29 (by decide) ?_
      cases hf
      exact x_zret hx hb hr hlocks hK hW hS (Or.inl rfl) rfl dX4_hasSession_30
    · have hf := x_iteF hf hc
      refine lv_iload_n hx hb dX4_hasSession_12 rfl (lv_at hl 2 rfl) ?_
      refine lv_aload_n hx hb dX4_hasSession_13 rfl (lv_at hl 0 rfl) ?_
      refine x_get (i := i) (k := 4) (j := 0) (t := 5) hx hb hts i_4 hown hK hW ⟨hi, by decide⟩ rfl ⟨by decide, by decide, rfl⟩ (hts (.fieldLink RX4 23 "OpticalJukebox$State" "platters" "[LOpticalJukebox$Platter;") (by decide +kernel)) (v := .ref (adr i 12 0)) rfl dX4_hasSession_14 ?_
      refine lv_iload_n hx hb dX4_hasSession_17 rfl (lv_at hl 1 rfl) ?_
      obtain ⟨hg2, hf⟩ := x_guardE hf
      refine x_aald (i := i) (k := 12) (j := 0) hx hb hK hW ⟨hi, by decide⟩ (by decide) rfl rfl hg2 dX4_hasSession_18 ?_
      refine W.eq (g2 := F0 m 19 ls [.ref (adr i 3 (a1).toNatClampNeg), .int a2]) rfl ?_
      refine x_get (i := i) (k := 3) (j := (a1).toNatClampNeg) (t := 4) hx hb hts i_3 hown hK hW ⟨hi, (x_lt hg2)⟩ rfl ⟨by decide, by decide, rfl⟩ (hts (.fieldLink RX4 106 "OpticalJukebox$Platter" "sessions" "I") (by decide +kernel)) (sv_S rfl (fun _ => rfl) rfl) dX4_hasSession_19 ?_
      refine lv_icmp_ge (tgt := 29) hx hb dX4_hasSession_22 (by decide) (fun hc => ?_) (fun hc => ?_)
      · have hf := x_iteT hf hc
        refine lv_iconst (v := 0) hx hb dX4_hasSession_29 (by decide) ?_
        cases hf
        exact x_zret hx hb hr hlocks hK hW hS (Or.inl rfl) rfl dX4_hasSession_30
      · have hf := x_iteF hf hc
        refine lv_iconst (v := 1) hx hb dX4_hasSession_25 (by decide) ?_
        refine lv_goto (tgt := 30) hx hb dX4_hasSession_26 (by decide) ?_
        cases hf
        exact x_zret hx hb hr hlocks hK hW hS (Or.inr rfl) rfl dX4_hasSession_30
abbrev rm_X4_hasSector : Room := { frames := 1, cells := 0, slots := 0, locals := 21 }
set_option maxRecDepth 100000 in
set_option maxHeartbeats 4000000 in
theorem ct_X4_hasSector (l : Launch) (g : GT) (w : WT) (i : Nat) (hi : i ∈ k_S w.1) (sd : SD) (a1 : Int32) (a2 : Int32) {q : Int32} (hf : f_X4_hasSector sd a1 a2 = some q) : Met l yX4_hasSector wsX4_hasSector rm_X4_hasSector (cPre g (wS w i sd) [.ref (adr i 4 0), .int a1, .int a2]) (cQi g q (wS w i sd)) 0 0 (gA g) := by
  have i_3 : ∀ w ∈ u_ws RX3 TX3 9, w ∈ wsX4_hasSector := by decide +kernel
  have i_4 : ∀ w ∈ u_ws RX4 TX4 18, w ∈ wsX4_hasSector := by decide +kernel
  refine x_met (by decide) rfl (Nat.le_of_ble_eq_true rfl) ?_
  intro p e s m below meth c hx hb hr hml hts hown hlocks hK hW hS ls hl
  have hown : s.vm.findClass RX4 = some m.cls := hown
  have hl : lv_has ls 3 [(0, .ref (adr i 4 0)), (1, .int a1), (2, .int a2)] := hl
  rw [f_X4_hasSector] at hf
  refine lv_aload_n hx hb dX4_hasSector_0 rfl (lv_at hl 0 rfl) ?_
  refine lv_iload_n hx hb dX4_hasSector_1 rfl (lv_at hl 1 rfl) ?_
  obtain ⟨q1, h_q1, hf⟩ := x_bindE hf
  refine x_ci0 (x_rV ⟨hx, hb, hml, hown, hts⟩ (ct_X4_hasPlatter l g w i hi sd (a1) h_q1) (cwV 1 hts gX4_hasSector_X4_hasPlatter rfl rfl rfl (by decide +kernel) ⟨Nat.le_of_ble_eq_true rfl, Nat.le_of_ble_eq_true rfl⟩) hK hW hS (x_recv (i := i) (k := 4) (j := 0) hK hW ⟨hi, by decide⟩ rfl (by decide)) rfl hl.1 (rest := []) rfl (Nat.le_of_ble_eq_true rfl) dX4_hasSector_2 ⟨Nat.le_of_ble_eq_true rfl, Nat.le_of_ble_eq_true rfl⟩) hS (fun H locs hW hS => ?_)
  have hW : World g (wS w i sd) H := hW
  refine W.eq (g2 := F0 m 5 ls [.int q1]) rfl ?_
  refine lv_if_eq (tgt := 29) hx hb dX4_hasSector_5 (by decide) (fun hc => ?_) (fun hc => ?_)
  · have hf := x_iteT hf hc
    refine lv_iconst (v := 0) hx hb dX4_hasSector_29 (by decide) ?_
    cases hf
    exact x_zret hx hb hr hlocks hK hW hS (Or.inl rfl) rfl dX4_hasSector_30
  · have hf := x_iteF hf hc
    refine lv_iload_n hx hb dX4_hasSector_8 rfl (lv_at hl 2 rfl) ?_
    refine lv_if_lt (tgt := 29) hx hb dX4_hasSector_9 (by decide) (fun hc => ?_) (fun hc => ?_)
    · have hf := x_iteT hf hc
      refine lv_iconst (v := 0) hx hb dX4_hasSector_29 (by decide) ?_
      cases hf
      exact x_zret hx hb hr hlocks hK hW hS (Or.inl rfl) rfl dX4_hasSector_30
    · have hf := x_iteF hf hc
      refine lv_iload_n hx hb dX4_hasSector_12 rfl (lv_at hl 2 rfl) ?_
      refine lv_aload_n hx hb dX4_hasSector_13 rfl (lv_at hl 0 rfl) ?_
      refine x_get (i := i) (k := 4) (j := 0) (t := 5) hx hb hts i_4 hown hK hW ⟨hi, by decide⟩ rfl ⟨by decide, by decide, rfl⟩ (hts (.fieldLink RX4 23 "OpticalJukebox$State" "platters" "[LOpticalJukebox$Platter;") (by decide +kernel)) (v := .ref (adr i 12 0)) rfl dX4_hasSector_14 ?_
      refine lv_iload_n hx hb dX4_hasSector_17 rfl (lv_at hl 1 rfl) ?_
      obtain ⟨hg2, hf⟩ := x_guardE hf
      refine x_aald (i := i) (k := 12) (j := 0) hx hb hK hW ⟨hi, by decide⟩ (by decide) rfl rfl hg2 dX4_hasSector_18 ?_
      refine W.eq (g2 := F0 m 19 ls [.ref (adr i 3 (a1).toNatClampNeg), .int a2]) rfl ?_
      refine x_get (i := i) (k := 3) (j := (a1).toNatClampNeg) (t := 1) hx hb hts i_3 hown hK hW ⟨hi, (x_lt hg2)⟩ rfl ⟨by decide, by decide, rfl⟩ (hts (.fieldLink RX4 109 "OpticalJukebox$Platter" "capacity" "I") (by decide +kernel)) (sv_S rfl (fun _ => rfl) rfl) dX4_hasSector_19 ?_
      refine lv_icmp_ge (tgt := 29) hx hb dX4_hasSector_22 (by decide) (fun hc => ?_) (fun hc => ?_)
      · have hf := x_iteT hf hc
        refine lv_iconst (v := 0) hx hb dX4_hasSector_29 (by decide) ?_
        cases hf
        exact x_zret hx hb hr hlocks hK hW hS (Or.inl rfl) rfl dX4_hasSector_30
      · have hf := x_iteF hf hc
        refine lv_iconst (v := 1) hx hb dX4_hasSector_25 (by decide) ?_
        refine lv_goto (tgt := 30) hx hb dX4_hasSector_26 (by decide) ?_
        cases hf
        exact x_zret hx hb hr hlocks hK hW hS (Or.inr rfl) rfl dX4_hasSector_30
abbrev rm_X4_hasFile : Room := { frames := 0, cells := 0, slots := 0, locals := 0 }
set_option maxRecDepth 100000 in
set_option maxHeartbeats 4000000 in
theorem ct_X4_hasFile (l : Launch) (g : GT) (w : WT) (i : Nat) (hi : i ∈ k_S w.1) (sd : SD) (a1 : Int32) {q : Int32} (hf : f_X4_hasFile sd a1 = some q) : Met l yX4_hasFile wsX4_hasFile rm_X4_hasFile (cPre g (wS w i sd) [.ref (adr i 4 0), .int a1]) (cQi g q (wS w i sd)) 0 0 (gA g) := by
  have i_4 : ∀ w ∈ u_ws RX4 TX4 18, w ∈ wsX4_hasFile := by decide +kernel
  refine x_met (by decide) rfl (Nat.le_of_ble_eq_true rfl) ?_
  intro p e s m below meth c hx hb hr hml hts hown hlocks hK hW hS ls hl
  have hown : s.vm.findClass RX4 = some m.cls := hown
  have hl : lv_has ls 2 [(0, .ref (adr i 4 0)), (1, .int a1)] := hl
  rw [f_X4_hasFile] at hf
  refine lv_iload_n hx hb dX4_hasFile_0 rfl (lv_at hl 1 rfl) ?_
  refine lv_if_lt (tgt := 16) hx hb dX4_hasFile_1 (by decide) (fun hc => ?_) (fun hc => ?_)
  · have hf := x_iteT hf hc
    refine lv_iconst (v := 0) hx hb dX4_hasFile_16 (by decide) ?_
    cases hf
    exact x_zret hx hb hr hlocks hK hW hS (Or.inl rfl) rfl dX4_hasFile_17
  · have hf := x_iteF hf hc
    refine lv_iload_n hx hb dX4_hasFile_4 rfl (lv_at hl 1 rfl) ?_
    refine lv_aload_n hx hb dX4_hasFile_5 rfl (lv_at hl 0 rfl) ?_
    refine x_get (i := i) (k := 4) (j := 0) (t := 11) hx hb hts i_4 hown hK hW ⟨hi, by decide⟩ rfl ⟨by decide, by decide, rfl⟩ (hts (.fieldLink RX4 68 "OpticalJukebox$State" "fileCount" "I") (by decide +kernel)) (sv_S rfl (fun _ => rfl) rfl) dX4_hasFile_6 ?_
    refine lv_icmp_ge (tgt := 16) hx hb dX4_hasFile_9 (by decide) (fun hc => ?_) (fun hc => ?_)
    · have hf := x_iteT hf hc
      refine lv_iconst (v := 0) hx hb dX4_hasFile_16 (by decide) ?_
      cases hf
      exact x_zret hx hb hr hlocks hK hW hS (Or.inl rfl) rfl dX4_hasFile_17
    · have hf := x_iteF hf hc
      refine lv_iconst (v := 1) hx hb dX4_hasFile_12 (by decide) ?_
      refine lv_goto (tgt := 17) hx hb dX4_hasFile_13 (by decide) ?_
      cases hf
      exact x_zret hx hb hr hlocks hK hW hS (Or.inr rfl) rfl dX4_hasFile_17
abbrev rm_X4_hasRequest : Room := { frames := 0, cells := 0, slots := 0, locals := 0 }
set_option maxRecDepth 100000 in
set_option maxHeartbeats 4000000 in
theorem ct_X4_hasRequest (l : Launch) (g : GT) (w : WT) (i : Nat) (hi : i ∈ k_S w.1) (sd : SD) (a1 : Int32) {q : Int32} (hf : f_X4_hasRequest sd a1 = some q) : Met l yX4_hasRequest wsX4_hasRequest rm_X4_hasRequest (cPre g (wS w i sd) [.ref (adr i 4 0), .int a1]) (cQi g q (wS w i sd)) 0 0 (gA g) := by
  have i_4 : ∀ w ∈ u_ws RX4 TX4 18, w ∈ wsX4_hasRequest := by decide +kernel
  refine x_met (by decide) rfl (Nat.le_of_ble_eq_true rfl) ?_
  intro p e s m below meth c hx hb hr hml hts hown hlocks hK hW hS ls hl
  have hown : s.vm.findClass RX4 = some m.cls := hown
  have hl : lv_has ls 2 [(0, .ref (adr i 4 0)), (1, .int a1)] := hl
  rw [f_X4_hasRequest] at hf
  refine lv_iload_n hx hb dX4_hasRequest_0 rfl (lv_at hl 1 rfl) ?_
  refine lv_if_lt (tgt := 16) hx hb dX4_hasRequest_1 (by decide) (fun hc => ?_) (fun hc => ?_)
  · have hf := x_iteT hf hc
    refine lv_iconst (v := 0) hx hb dX4_hasRequest_16 (by decide) ?_
    cases hf
    exact x_zret hx hb hr hlocks hK hW hS (Or.inl rfl) rfl dX4_hasRequest_17
  · have hf := x_iteF hf hc
    refine lv_iload_n hx hb dX4_hasRequest_4 rfl (lv_at hl 1 rfl) ?_
    refine lv_aload_n hx hb dX4_hasRequest_5 rfl (lv_at hl 0 rfl) ?_
    refine x_get (i := i) (k := 4) (j := 0) (t := 13) hx hb hts i_4 hown hK hW ⟨hi, by decide⟩ rfl ⟨by decide, by decide, rfl⟩ (hts (.fieldLink RX4 71 "OpticalJukebox$State" "requestCount" "I") (by decide +kernel)) (sv_S rfl (fun _ => rfl) rfl) dX4_hasRequest_6 ?_
    refine lv_icmp_ge (tgt := 16) hx hb dX4_hasRequest_9 (by decide) (fun hc => ?_) (fun hc => ?_)
    · have hf := x_iteT hf hc
      refine lv_iconst (v := 0) hx hb dX4_hasRequest_16 (by decide) ?_
      cases hf
      exact x_zret hx hb hr hlocks hK hW hS (Or.inl rfl) rfl dX4_hasRequest_17
    · have hf := x_iteF hf hc
      refine lv_iconst (v := 1) hx hb dX4_hasRequest_12 (by decide) ?_
      refine lv_goto (tgt := 17) hx hb dX4_hasRequest_13 (by decide) ?_
      cases hf
      exact x_zret hx hb hr hlocks hK hW hS (Or.inr rfl) rfl dX4_hasRequest_17
abbrev rm_X4_addDrive : Room := { frames := 0, cells := 0, slots := 0, locals := 0 }
set_option maxRecDepth 100000 in
set_option maxHeartbeats 4000000 in
theorem ct_X4_addDrive (l : Launch) (g : GT) (w : WT) (i : Nat) (hi : i ∈ k_S w.1) (sd : SD) (a1 : Int32) {q : SD} (hf : f_X4_addDrive sd a1 = some q) : Met l yX4_addDrive wsX4_addDrive rm_X4_addDrive (cPre g (wS w i sd) [.ref (adr i 4 0), .int a1]) (cQv g (wS w i q)) 0 0 (gA g) := by
  have i_0 : ∀ w ∈ u_ws RX0 TX0 3, w ∈ wsX4_addDrive := by decide +kernel
  have i_4 : ∀ w ∈ u_ws RX4 TX4 18, w ∈ wsX4_addDrive := by decide +kernel
  refine x_met (by decide) rfl (Nat.le_of_ble_eq_true rfl) ?_
  intro p e s m below meth c hx hb hr hml hts hown hlocks hK hW hS ls hl
  have hown : s.vm.findClass RX4 = some m.cls := hown
  have hl : lv_has ls 3 [(0, .ref (adr i 4 0)), (1, .int a1)] := hl
  rw [f_X4_addDrive] at hf
  refine lv_aload_n hx hb dX4_addDrive_0 rfl (lv_at hl 0 rfl) ?_
  refine x_get (i := i) (k := 4) (j := 0) (t := 3) hx hb hts i_4 hown hK hW ⟨hi, by decide⟩ rfl ⟨by decide, by decide, rfl⟩ (hts (.fieldLink RX4 53 "OpticalJukebox$State" "driveCount" "I") (by decide +kernel)) (sv_S rfl (fun _ => rfl) rfl) dX4_addDrive_1 ?_
  refine lv_iconst (v := 4) hx hb dX4_addDrive_4 (by decide) ?_
  refine lv_icmp_ge (tgt := 43) hx hb dX4_addDrive_5 (by decide) (fun hc => ?_) (fun hc => ?_)
  · have hf := x_iteT hf hc
    cases hf
    exact x_vret hx hb hr hlocks hK hW hS dX4_addDrive_43
  · have hf := x_iteF hf hc
    refine lv_aload_n hx hb dX4_addDrive_8 rfl (lv_at hl 0 rfl) ?_
    refine x_get (i := i) (k := 4) (j := 0) (t := 2) hx hb hts i_4 hown hK hW ⟨hi, by decide⟩ rfl ⟨by decide, by decide, rfl⟩ (hts (.fieldLink RX4 17 "OpticalJukebox$State" "drives" "[LOpticalJukebox$Drive;") (by decide +kernel)) (v := .ref (adr i 11 0)) rfl dX4_addDrive_9 ?_
    refine lv_aload_n hx hb dX4_addDrive_12 rfl (lv_at hl 0 rfl) ?_
    refine x_get (i := i) (k := 4) (j := 0) (t := 3) hx hb hts i_4 hown hK hW ⟨hi, by decide⟩ rfl ⟨by decide, by decide, rfl⟩ (hts (.fieldLink RX4 53 "OpticalJukebox$State" "driveCount" "I") (by decide +kernel)) (sv_S rfl (fun _ => rfl) rfl) dX4_addDrive_13 ?_
    obtain ⟨hg1, hf⟩ := x_guardE hf
    refine x_aald (i := i) (k := 11) (j := 0) hx hb hK hW ⟨hi, by decide⟩ (by decide) rfl rfl hg1 dX4_addDrive_16 ?_
    refine W.eq (g2 := F0 m 17 ls [.ref (adr i 0 ((sd 4 0 3)).toNatClampNeg)]) rfl ?_
    refine lv_astore_n (lv' := [(2, .ref (adr i 0 ((sd 4 0 3)).toNatClampNeg)), (0, .ref (adr i 4 0)), (1, .int a1)]) hx hb dX4_addDrive_17 rfl hl (by decide) rfl (fun ls hl => ?_)
    refine lv_aload_n hx hb dX4_addDrive_18 rfl (lv_at hl 0 rfl) ?_
    refine lv_iload_n hx hb dX4_addDrive_19 rfl (lv_at hl 2 rfl) ?_
    obtain ⟨sd2, e_sd2, hf⟩ := x_letE hf
    refine x_put (i := i) (k := 0) (j := ((sd 4 0 3)).toNatClampNeg) (t := 0) (w' := wS w i sd2) hx hb hts i_0 tyX0 tyX0_ok nmX0 hown hK hW ⟨hi, (x_lt hg1)⟩ hS rfl ⟨by decide, by decide, rfl⟩ (hts (.fieldLink RX4 112 "OpticalJukebox$Drive" "position" "I") (by decide +kernel)) rfl (ty := .int) (by decide +kernel) rfl rfl ⟨rfl, rfl⟩ dX4_addDrive_20 (fp_S e_sd2 rfl) (fun H locs hW hS => ?_)
    refine lv_aload_n hx hb dX4_addDrive_23 rfl (lv_at hl 0 rfl) ?_
    refine lv_iconst (v := -1) hx hb dX4_addDrive_24 (by decide) ?_
    obtain ⟨sd3, e_sd3, hf⟩ := x_letE hf
    refine x_put (i := i) (k := 0) (j := ((sd 4 0 3)).toNatClampNeg) (t := 1) (w' := wS w i sd3) hx hb hts i_0 tyX0 tyX0_ok nmX0 hown hK hW ⟨hi, (x_lt hg1)⟩ hS rfl ⟨by decide, by decide, rfl⟩ (hts (.fieldLink RX4 115 "OpticalJukebox$Drive" "platter" "I") (by decide +kernel)) rfl (ty := .int) (by decide +kernel) rfl rfl ⟨rfl, rfl⟩ dX4_addDrive_25 (fp_S e_sd3 rfl) (fun H locs hW hS => ?_)
    refine lv_aload_n hx hb dX4_addDrive_28 rfl (lv_at hl 0 rfl) ?_
    refine lv_iconst (v := 0) hx hb dX4_addDrive_29 (by decide) ?_
    obtain ⟨sd4, e_sd4, hf⟩ := x_letE hf
    refine x_put (i := i) (k := 0) (j := ((sd 4 0 3)).toNatClampNeg) (t := 2) (w' := wS w i sd4) hx hb hts i_0 tyX0 tyX0_ok nmX0 hown hK hW ⟨hi, (x_lt hg1)⟩ hS rfl ⟨by decide, by decide, rfl⟩ (hts (.fieldLink RX4 118 "OpticalJukebox$Drive" "lastUse" "I") (by decide +kernel)) rfl (ty := .int) (by decide +kernel) rfl rfl ⟨rfl, rfl⟩ dX4_addDrive_30 (fp_S e_sd4 rfl) (fun H locs hW hS => ?_)
    refine lv_aload_n hx hb dX4_addDrive_33 rfl (lv_at hl 1 rfl) ?_
    refine lv_dup hx hb dX4_addDrive_34 rfl ?_
    refine x_get (i := i) (k := 4) (j := 0) (t := 3) hx hb hts i_4 hown hK hW ⟨hi, by decide⟩ rfl ⟨by decide, by decide, rfl⟩ (hts (.fieldLink RX4 53 "OpticalJukebox$State" "driveCount" "I") (by decide +kernel)) (sv_S rfl (fun _ => rfl) rfl) dX4_addDrive_35 ?_
    refine lv_iconst (v := 1) hx hb dX4_addDrive_38 (by decide) ?_
    refine lv_iadd hx hb dX4_addDrive_39 ?_
    obtain ⟨sd5, e_sd5, hf⟩ := x_letE hf
    refine x_put (i := i) (k := 4) (j := 0) (t := 3) (w' := wS w i sd5) hx hb hts i_4 tyX4 tyX4_ok nmX4 hown hK hW ⟨hi, by decide⟩ hS rfl ⟨by decide, by decide, rfl⟩ (hts (.fieldLink RX4 53 "OpticalJukebox$State" "driveCount" "I") (by decide +kernel)) rfl (ty := .int) (by decide +kernel) rfl rfl ⟨rfl, rfl⟩ dX4_addDrive_40 (fp_S e_sd5 rfl) (fun H locs hW hS => ?_)
    cases hf
    exact x_vret hx hb hr hlocks hK hW hS dX4_addDrive_43
abbrev rm_X4_addPlatter : Room := { frames := 2, cells := 0, slots := 0, locals := 46 }
set_option maxRecDepth 100000 in
set_option maxHeartbeats 4000000 in
theorem ct_X4_addPlatter (l : Launch) (g : GT) (w : WT) (i : Nat) (hi : i ∈ k_S w.1) (sd : SD) (a1 : Int32) (a2 : Int32) (a3 : Int32) {q : SD} (hf : f_X4_addPlatter sd a1 a2 a3 = some q) : Met l yX4_addPlatter wsX4_addPlatter rm_X4_addPlatter (cPre g (wS w i sd) [.ref (adr i 4 0), .int a1, .int a2, .int a3]) (cQv g (wS w i q)) 0 0 (gA g) := by
  have i_4 : ∀ w ∈ u_ws RX4 TX4 18, w ∈ wsX4_addPlatter := by decide +kernel
  refine x_met (by decide) rfl (Nat.le_of_ble_eq_true rfl) ?_
  intro p e s m below meth c hx hb hr hml hts hown hlocks hK hW hS ls hl
  have hown : s.vm.findClass RX4 = some m.cls := hown
  have hl : lv_has ls 4 [(0, .ref (adr i 4 0)), (1, .int a1), (2, .int a2), (3, .int a3)] := hl
  rw [f_X4_addPlatter] at hf
  refine lv_aload_n hx hb dX4_addPlatter_0 rfl (lv_at hl 0 rfl) ?_
  refine x_get (i := i) (k := 4) (j := 0) (t := 6) hx hb hts i_4 hown hK hW ⟨hi, by decide⟩ rfl ⟨by decide, by decide, rfl⟩ (hts (.fieldLink RX4 59 "OpticalJukebox$State" "platterCount" "I") (by decide +kernel)) (sv_S rfl (fun _ => rfl) rfl) dX4_addPlatter_1 ?_
  refine lv_bipush (v := 10) hx hb dX4_addPlatter_4 (by decide) ?_
  refine lv_icmp_ge (tgt := 34) hx hb dX4_addPlatter_6 (by decide) (fun hc => ?_) (fun hc => ?_)
  · have hf := x_iteT hf hc
    cases hf
    exact x_vret hx hb hr hlocks hK hW hS dX4_addPlatter_34
  · have hf := x_iteF hf hc
    refine lv_aload_n hx hb dX4_addPlatter_9 rfl (lv_at hl 0 rfl) ?_
    refine x_get (i := i) (k := 4) (j := 0) (t := 5) hx hb hts i_4 hown hK hW ⟨hi, by decide⟩ rfl ⟨by decide, by decide, rfl⟩ (hts (.fieldLink RX4 23 "OpticalJukebox$State" "platters" "[LOpticalJukebox$Platter;") (by decide +kernel)) (v := .ref (adr i 12 0)) rfl dX4_addPlatter_10 ?_
    refine lv_aload_n hx hb dX4_addPlatter_13 rfl (lv_at hl 0 rfl) ?_
    refine x_get (i := i) (k := 4) (j := 0) (t := 6) hx hb hts i_4 hown hK hW ⟨hi, by decide⟩ rfl ⟨by decide, by decide, rfl⟩ (hts (.fieldLink RX4 59 "OpticalJukebox$State" "platterCount" "I") (by decide +kernel)) (sv_S rfl (fun _ => rfl) rfl) dX4_addPlatter_14 ?_
    obtain ⟨hg1, hf⟩ := x_guardE hf
    refine x_aald (i := i) (k := 12) (j := 0) hx hb hK hW ⟨hi, by decide⟩ (by decide) rfl rfl hg1 dX4_addPlatter_17 ?_
    refine W.eq (g2 := F0 m 18 ls [.ref (adr i 3 ((sd 4 0 6)).toNatClampNeg)]) rfl ?_
    refine lv_iload_n hx hb dX4_addPlatter_18 rfl (lv_at hl 1 rfl) ?_
    refine lv_iload_n hx hb dX4_addPlatter_19 rfl (lv_at hl 2 rfl) ?_
    refine lv_iload_n hx hb dX4_addPlatter_20 rfl (lv_at hl 3 rfl) ?_
    obtain ⟨q2, h_q2, hf⟩ := x_bindE hf
    refine x_cv0 (x_rV ⟨hx, hb, hml, hown, hts⟩ (ct_X3_begin l g w i hi sd (((sd 4 0 6)).toNatClampNeg) ((x_lt hg1)) (a1) (a2) (a3) h_q2) (cwV 3 hts gX4_addPlatter_X3_begin rfl rfl rfl (by decide +kernel) ⟨Nat.le_of_ble_eq_true rfl, Nat.le_of_ble_eq_true rfl⟩) hK hW hS (x_recv (i := i) (k := 3) (j := ((sd 4 0 6)).toNatClampNeg) hK hW ⟨hi, (x_lt hg1)⟩ rfl (by decide)) rfl hl.1 (rest := []) rfl (Nat.le_of_ble_eq_true rfl) dX4_addPlatter_21 ⟨Nat.le_of_ble_eq_true rfl, Nat.le_of_ble_eq_true rfl⟩) hS (fun H locs hW hS => ?_)
    have hW : World g (wS w i q2) H := hW
    refine lv_aload_n hx hb dX4_addPlatter_24 rfl (lv_at hl 0 rfl) ?_
    refine lv_dup hx hb dX4_addPlatter_25 rfl ?_
    refine x_get (i := i) (k := 4) (j := 0) (t := 6) hx hb hts i_4 hown hK hW ⟨hi, by decide⟩ rfl ⟨by decide, by decide, rfl⟩ (hts (.fieldLink RX4 59 "OpticalJukebox$State" "platterCount" "I") (by decide +kernel)) (sv_S rfl (fun _ => rfl) rfl) dX4_addPlatter_26 ?_
    refine lv_iconst (v := 1) hx hb dX4_addPlatter_29 (by decide) ?_
    refine lv_iadd hx hb dX4_addPlatter_30 ?_
    obtain ⟨sd3, e_sd3, hf⟩ := x_letE hf
    refine x_put (i := i) (k := 4) (j := 0) (t := 6) (w' := wS w i sd3) hx hb hts i_4 tyX4 tyX4_ok nmX4 hown hK hW ⟨hi, by decide⟩ hS rfl ⟨by decide, by decide, rfl⟩ (hts (.fieldLink RX4 59 "OpticalJukebox$State" "platterCount" "I") (by decide +kernel)) rfl (ty := .int) (by decide +kernel) rfl rfl ⟨rfl, rfl⟩ dX4_addPlatter_31 (fp_S e_sd3 rfl) (fun H locs hW hS => ?_)
    cases hf
    exact x_vret hx hb hr hlocks hK hW hS dX4_addPlatter_34
abbrev rm_X4_platterWithHome : Room := { frames := 0, cells := 0, slots := 0, locals := 0 }
set_option maxRecDepth 100000 in
set_option maxHeartbeats 4000000 in
theorem ct_X4_platterWithHome (l : Launch) (g : GT) (w : WT) (i : Nat) (hi : i ∈ k_S w.1) (sd : SD) (a1 : Int32) {q : Int32} (hf : f_X4_platterWithHome sd a1 = some q) : Met l yX4_platterWithHome wsX4_platterWithHome rm_X4_platterWithHome (cPre g (wS w i sd) [.ref (adr i 4 0), .int a1]) (cQi g q (wS w i sd)) 0 0 (gA g) := by
  have i_3 : ∀ w ∈ u_ws RX3 TX3 9, w ∈ wsX4_platterWithHome := by decide +kernel
  have i_4 : ∀ w ∈ u_ws RX4 TX4 18, w ∈ wsX4_platterWithHome := by decide +kernel
  refine x_met (by decide) rfl (Nat.le_of_ble_eq_true rfl) ?_
  intro p e s m below meth c hx hb hr hml hts hown hlocks hK hW hS ls hl
  have hown : s.vm.findClass RX4 = some m.cls := hown
  have hl : lv_has ls 3 [(0, .ref (adr i 4 0)), (1, .int a1)] := hl
  rw [f_X4_platterWithHome] at hf
  refine lv_iconst (v := 0) hx hb dX4_platterWithHome_0 (by decide) ?_
  refine lv_istore_n (lv' := [(2, .int (0 : Int32)), (0, .ref (adr i 4 0)), (1, .int a1)]) hx hb dX4_platterWithHome_1 rfl hl (by decide) rfl (fun ls hl => ?_)
  have L2 : ∀ (n : Nat) (v2_2 : Int32) (ls : Array Slot) (H : Heap) (locs : List Loc), lv_has ls 3 [(0, .ref (adr i 4 0)), (1, .int a1), (2, .int v2_2)] → World g (wS w i sd) H → va_S (gA g) s.heap H locs → f_X4_platterWithHome_L2 sd a1 n v2_2 = some q → W p l e rm_X4_platterWithHome s m [.ref (adr i 4 0), .int a1].toArray below meth c H locs 0 0 (MQ below (cQi g q (wS w i sd)) [.ref (adr i 4 0), .int a1].toArray s 0 0 (gA g)) (F0 m 2 ls []) := by
    clear hW hS hl
    intro n
    induction n with
    | zero => intro v2_2 ls H locs hl hW hS hf; cases hf
    | succ n_2 ih =>
      intro v2_2 ls H locs hl hW hS hf
      rw [f_X4_platterWithHome_L2] at hf
      refine lv_iload_n hx hb dX4_platterWithHome_2 rfl (lv_at hl 2 rfl) ?_
      refine lv_aload_n hx hb dX4_platterWithHome_3 rfl (lv_at hl 0 rfl) ?_
      refine x_get (i := i) (k := 4) (j := 0) (t := 6) hx hb hts i_4 hown hK hW ⟨hi, by decide⟩ rfl ⟨by decide, by decide, rfl⟩ (hts (.fieldLink RX4 59 "OpticalJukebox$State" "platterCount" "I") (by decide +kernel)) (sv_S rfl (fun _ => rfl) rfl) dX4_platterWithHome_4 ?_
      refine lv_icmp_ge (tgt := 31) hx hb dX4_platterWithHome_7 (by decide) (fun hc => ?_) (fun hc => ?_)
      · have hf := x_iteT hf hc
        refine lv_iconst (v := -1) hx hb dX4_platterWithHome_31 (by decide) ?_
        cases hf
        exact x_iret hx hb hr hlocks hK hW hS rfl dX4_platterWithHome_32
      · have hf := x_iteF hf hc
        refine lv_aload_n hx hb dX4_platterWithHome_10 rfl (lv_at hl 0 rfl) ?_
        refine x_get (i := i) (k := 4) (j := 0) (t := 5) hx hb hts i_4 hown hK hW ⟨hi, by decide⟩ rfl ⟨by decide, by decide, rfl⟩ (hts (.fieldLink RX4 23 "OpticalJukebox$State" "platters" "[LOpticalJukebox$Platter;") (by decide +kernel)) (v := .ref (adr i 12 0)) rfl dX4_platterWithHome_11 ?_
        refine lv_iload_n hx hb dX4_platterWithHome_14 rfl (lv_at hl 2 rfl) ?_
        obtain ⟨hg1, hf⟩ := x_guardE hf
        refine x_aald (i := i) (k := 12) (j := 0) hx hb hK hW ⟨hi, by decide⟩ (by decide) rfl rfl hg1 dX4_platterWithHome_15 ?_
        refine W.eq (g2 := F0 m 16 ls [.ref (adr i 3 (v2_2).toNatClampNeg)]) rfl ?_
        refine x_get (i := i) (k := 3) (j := (v2_2).toNatClampNeg) (t := 0) hx hb hts i_3 hown hK hW ⟨hi, (x_lt hg1)⟩ rfl ⟨by decide, by decide, rfl⟩ (hts (.fieldLink RX4 125 "OpticalJukebox$Platter" "home" "I") (by decide +kernel)) (sv_S rfl (fun _ => rfl) rfl) dX4_platterWithHome_16 ?_
        refine lv_iload_n hx hb dX4_platterWithHome_19 rfl (lv_at hl 1 rfl) ?_
        refine lv_icmp_ne (tgt := 25) hx hb dX4_platterWithHome_20 (by decide) (fun hc => ?_) (fun hc => ?_)
        · have hf := x_iteF hf hc
          obtain ⟨x2, e_x2, hf⟩ := x_letE hf
          refine lv_iinc (v := x2) (lv' := [(2, .int x2), (0, .ref (adr i 4 0)), (1, .int a1)]) hx hb dX4_platterWithHome_25 hl (k := 2) rfl (by rw [e_x2]; rfl) (by decide) rfl (fun ls hl => ?_)
          refine lv_goto (tgt := 2) hx hb dX4_platterWithHome_28 (by decide) ?_
          exact ih (x2) ls _ _ (lv_sub hl [1, 2, 0] rfl) hW hS hf
        · have hf := x_iteT hf hc
          refine lv_iload_n hx hb dX4_platterWithHome_23 rfl (lv_at hl 2 rfl) ?_
          cases hf
          exact x_iret hx hb hr hlocks hK hW hS rfl dX4_platterWithHome_24
  exact L2 fuel ((0 : Int32)) ls _ _ (lv_sub hl [1, 2, 0] rfl) hW hS hf
abbrev rm_X4_addVersion : Room := { frames := 2, cells := 0, slots := 0, locals := 44 }
set_option maxRecDepth 100000 in
set_option maxHeartbeats 4000000 in
theorem ct_X4_addVersion (l : Launch) (g : GT) (w : WT) (i : Nat) (hi : i ∈ k_S w.1) (sd : SD) (a1 : Int32) (a2 : Int32) (a3 : Int32) {q : SD} (hf : f_X4_addVersion sd a1 a2 a3 = some q) : Met l yX4_addVersion wsX4_addVersion rm_X4_addVersion (cPre g (wS w i sd) [.ref (adr i 4 0), .int a1, .int a2, .int a3]) (cQv g (wS w i q)) 0 0 (gA g) := by
  have i_3 : ∀ w ∈ u_ws RX3 TX3 9, w ∈ wsX4_addVersion := by decide +kernel
  have i_4 : ∀ w ∈ u_ws RX4 TX4 18, w ∈ wsX4_addVersion := by decide +kernel
  have i_6 : ∀ w ∈ u_ws RX6 TX6 7, w ∈ wsX4_addVersion := by decide +kernel
  refine x_met (by decide) rfl (Nat.le_of_ble_eq_true rfl) ?_
  intro p e s m below meth c hx hb hr hml hts hown hlocks hK hW hS ls hl
  have hown : s.vm.findClass RX4 = some m.cls := hown
  have hl : lv_has ls 6 [(0, .ref (adr i 4 0)), (1, .int a1), (2, .int a2), (3, .int a3)] := hl
  rw [f_X4_addVersion] at hf
  refine lv_aload_n hx hb dX4_addVersion_0 rfl (lv_at hl 0 rfl) ?_
  refine x_get (i := i) (k := 4) (j := 0) (t := 9) hx hb hts i_4 hown hK hW ⟨hi, by decide⟩ rfl ⟨by decide, by decide, rfl⟩ (hts (.fieldLink RX4 65 "OpticalJukebox$State" "versionCount" "I") (by decide +kernel)) (sv_S rfl (fun _ => rfl) rfl) dX4_addVersion_1 ?_
  refine lv_bipush (v := 40) hx hb dX4_addVersion_4 (by decide) ?_
  refine lv_icmp_ge (tgt := 132) hx hb dX4_addVersion_6 (by decide) (fun hc => ?_) (fun hc => ?_)
  · have hf := x_iteT hf hc
    cases hf
    exact x_vret hx hb hr hlocks hK hW hS dX4_addVersion_132
  · have hf := x_iteF hf hc
    refine lv_aload_n hx hb dX4_addVersion_9 rfl (lv_at hl 0 rfl) ?_
    refine lv_iload_n hx hb dX4_addVersion_10 rfl (lv_at hl 1 rfl) ?_
    obtain ⟨q1, h_q1, hf⟩ := x_bindE hf
    refine x_ci0 (x_rV ⟨hx, hb, hml, hown, hts⟩ (ct_X4_hasFile l g w i hi sd (a1) h_q1) (cwV 1 hts gX4_addVersion_X4_hasFile rfl rfl rfl (by decide +kernel) ⟨Nat.le_of_ble_eq_true rfl, Nat.le_of_ble_eq_true rfl⟩) hK hW hS (x_recv (i := i) (k := 4) (j := 0) hK hW ⟨hi, by decide⟩ rfl (by decide)) rfl hl.1 (rest := []) rfl (Nat.le_of_ble_eq_true rfl) dX4_addVersion_11 ⟨Nat.le_of_ble_eq_true rfl, Nat.le_of_ble_eq_true rfl⟩) hS (fun H locs hW hS => ?_)
    have hW : World g (wS w i sd) H := hW
    refine W.eq (g2 := F0 m 14 ls [.int q1]) rfl ?_
    refine lv_if_eq (tgt := 132) hx hb dX4_addVersion_14 (by decide) (fun hc => ?_) (fun hc => ?_)
    · have hf := x_iteT hf hc
      cases hf
      exact x_vret hx hb hr hlocks hK hW hS dX4_addVersion_132
    · have hf := x_iteF hf hc
      refine lv_aload_n hx hb dX4_addVersion_17 rfl (lv_at hl 0 rfl) ?_
      refine lv_iload_n hx hb dX4_addVersion_18 rfl (lv_at hl 3 rfl) ?_
      obtain ⟨q2, h_q2, hf⟩ := x_bindE hf
      refine x_ci0 (x_rV ⟨hx, hb, hml, hown, hts⟩ (ct_X4_hasPlatter l g w i hi sd (a3) h_q2) (cwV 1 hts gX4_addVersion_X4_hasPlatter rfl rfl rfl (by decide +kernel) ⟨Nat.le_of_ble_eq_true rfl, Nat.le_of_ble_eq_true rfl⟩) hK hW hS (x_recv (i := i) (k := 4) (j := 0) hK hW ⟨hi, by decide⟩ rfl (by decide)) rfl hl.1 (rest := []) rfl (Nat.le_of_ble_eq_true rfl) dX4_addVersion_19 ⟨Nat.le_of_ble_eq_true rfl, Nat.le_of_ble_eq_true rfl⟩) hS (fun H locs hW hS => ?_)
      have hW : World g (wS w i sd) H := hW
      refine W.eq (g2 := F0 m 22 ls [.int q2]) rfl ?_
      refine lv_if_eq (tgt := 132) hx hb dX4_addVersion_22 (by decide) (fun hc => ?_) (fun hc => ?_)
      · have hf := x_iteT hf hc
        cases hf
        exact x_vret hx hb hr hlocks hK hW hS dX4_addVersion_132
      · have hf := x_iteF hf hc
        refine lv_aload_n hx hb dX4_addVersion_25 rfl (lv_at hl 0 rfl) ?_
        refine x_get (i := i) (k := 4) (j := 0) (t := 5) hx hb hts i_4 hown hK hW ⟨hi, by decide⟩ rfl ⟨by decide, by decide, rfl⟩ (hts (.fieldLink RX4 23 "OpticalJukebox$State" "platters" "[LOpticalJukebox$Platter;") (by decide +kernel)) (v := .ref (adr i 12 0)) rfl dX4_addVersion_26 ?_
        refine lv_iload_n hx hb dX4_addVersion_29 rfl (lv_at hl 3 rfl) ?_
        obtain ⟨hg3, hf⟩ := x_guardE hf
        refine x_aald (i := i) (k := 12) (j := 0) hx hb hK hW ⟨hi, by decide⟩ (by decide) rfl rfl hg3 dX4_addVersion_30 ?_
        refine W.eq (g2 := F0 m 31 ls [.ref (adr i 3 (a3).toNatClampNeg)]) rfl ?_
        refine lv_astore (lv' := [(4, .ref (adr i 3 (a3).toNatClampNeg)), (0, .ref (adr i 4 0)), (1, .int a1), (2, .int a2), (3, .int a3)]) hx hb dX4_addVersion_31 hl (by decide) rfl (fun ls hl => ?_)
        refine lv_aload_n hx hb dX4_addVersion_33 rfl (lv_at hl 1 rfl) ?_
        refine x_get (i := i) (k := 4) (j := 0) (t := 8) hx hb hts i_4 hown hK hW ⟨hi, by decide⟩ rfl ⟨by decide, by decide, rfl⟩ (hts (.fieldLink RX4 29 "OpticalJukebox$State" "versions" "[LOpticalJukebox$Version;") (by decide +kernel)) (v := .ref (adr i 13 0)) rfl dX4_addVersion_34 ?_
        refine lv_aload_n hx hb dX4_addVersion_37 rfl (lv_at hl 1 rfl) ?_
        refine x_get (i := i) (k := 4) (j := 0) (t := 9) hx hb hts i_4 hown hK hW ⟨hi, by decide⟩ rfl ⟨by decide, by decide, rfl⟩ (hts (.fieldLink RX4 65 "OpticalJukebox$State" "versionCount" "I") (by decide +kernel)) (sv_S rfl (fun _ => rfl) rfl) dX4_addVersion_38 ?_
        obtain ⟨hg4, hf⟩ := x_guardE hf
        refine x_aald (i := i) (k := 13) (j := 0) hx hb hK hW ⟨hi, by decide⟩ (by decide) rfl rfl hg4 dX4_addVersion_41 ?_
        refine W.eq (g2 := F0 m 42 ls [.ref (adr i 6 ((sd 4 0 9)).toNatClampNeg)]) rfl ?_
        refine lv_astore (lv' := [(5, .ref (adr i 6 ((sd 4 0 9)).toNatClampNeg)), (4, .ref (adr i 3 (a3).toNatClampNeg)), (0, .ref (adr i 4 0)), (1, .int a1), (2, .int a2), (3, .int a3)]) hx hb dX4_addVersion_42 hl (by decide) rfl (fun ls hl => ?_)
        refine lv_aload hx hb dX4_addVersion_44 (lv_at hl 0 rfl) ?_
        refine lv_iload_n hx hb dX4_addVersion_46 rfl (lv_at hl 3 rfl) ?_
        obtain ⟨sd5, e_sd5, hf⟩ := x_letE hf
        refine x_put (i := i) (k := 6) (j := ((sd 4 0 9)).toNatClampNeg) (t := 0) (w' := wS w i sd5) hx hb hts i_6 tyX6 tyX6_ok nmX6 hown hK hW ⟨hi, (x_lt hg4)⟩ hS rfl ⟨by decide, by decide, rfl⟩ (hts (.fieldLink RX4 131 "OpticalJukebox$Version" "file" "I") (by decide +kernel)) rfl (ty := .int) (by decide +kernel) rfl rfl ⟨rfl, rfl⟩ dX4_addVersion_47 (fp_S e_sd5 rfl) (fun H locs hW hS => ?_)
        refine lv_aload hx hb dX4_addVersion_50 (lv_at hl 0 rfl) ?_
        refine lv_iload_n hx hb dX4_addVersion_52 rfl (lv_at hl 5 rfl) ?_
        obtain ⟨sd6, e_sd6, hf⟩ := x_letE hf
        refine x_put (i := i) (k := 6) (j := ((sd 4 0 9)).toNatClampNeg) (t := 1) (w' := wS w i sd6) hx hb hts i_6 tyX6 tyX6_ok nmX6 hown hK hW ⟨hi, (x_lt hg4)⟩ hS rfl ⟨by decide, by decide, rfl⟩ (hts (.fieldLink RX4 134 "OpticalJukebox$Version" "platter" "I") (by decide +kernel)) rfl (ty := .int) (by decide +kernel) rfl rfl ⟨rfl, rfl⟩ dX4_addVersion_53 (fp_S e_sd6 rfl) (fun H locs hW hS => ?_)
        refine lv_aload hx hb dX4_addVersion_56 (lv_at hl 0 rfl) ?_
        refine lv_aload hx hb dX4_addVersion_58 (lv_at hl 1 rfl) ?_
        refine x_get (i := i) (k := 3) (j := (a3).toNatClampNeg) (t := 3) hx hb hts i_3 hown hK hW ⟨hi, (x_lt hg3)⟩ rfl ⟨by decide, by decide, rfl⟩ (hts (.fieldLink RX4 135 "OpticalJukebox$Platter" "end" "I") (by decide +kernel)) (sv_S rfl (fun _ => rfl) rfl) dX4_addVersion_60 ?_
        obtain ⟨sd7, e_sd7, hf⟩ := x_letE hf
        refine x_put (i := i) (k := 6) (j := ((sd 4 0 9)).toNatClampNeg) (t := 2) (w' := wS w i sd7) hx hb hts i_6 tyX6 tyX6_ok nmX6 hown hK hW ⟨hi, (x_lt hg4)⟩ hS rfl ⟨by decide, by decide, rfl⟩ (hts (.fieldLink RX4 138 "OpticalJukebox$Version" "start" "I") (by decide +kernel)) rfl (ty := .int) (by decide +kernel) rfl rfl ⟨rfl, rfl⟩ dX4_addVersion_63 (fp_S e_sd7 rfl) (fun H locs hW hS => ?_)
        refine lv_aload hx hb dX4_addVersion_66 (lv_at hl 0 rfl) ?_
        refine lv_iload_n hx hb dX4_addVersion_68 rfl (lv_at hl 4 rfl) ?_
        obtain ⟨sd8, e_sd8, hf⟩ := x_letE hf
        refine x_put (i := i) (k := 6) (j := ((sd 4 0 9)).toNatClampNeg) (t := 3) (w' := wS w i sd8) hx hb hts i_6 tyX6 tyX6_ok nmX6 hown hK hW ⟨hi, (x_lt hg4)⟩ hS rfl ⟨by decide, by decide, rfl⟩ (hts (.fieldLink RX4 141 "OpticalJukebox$Version" "size" "I") (by decide +kernel)) rfl (ty := .int) (by decide +kernel) rfl rfl ⟨rfl, rfl⟩ dX4_addVersion_69 (fp_S e_sd8 rfl) (fun H locs hW hS => ?_)
        refine lv_aload hx hb dX4_addVersion_72 (lv_at hl 0 rfl) ?_
        refine lv_aload hx hb dX4_addVersion_74 (lv_at hl 1 rfl) ?_
        refine lv_iload_n hx hb dX4_addVersion_76 rfl (lv_at hl 4 rfl) ?_
        obtain ⟨q9, h_q9, hf⟩ := x_bindE hf
        refine x_ci0 (x_rV ⟨hx, hb, hml, hown, hts⟩ (ct_X3_badAmongNext l g w i hi sd8 ((a3).toNatClampNeg) ((x_lt hg3)) (a2) h_q9) (cwV 1 hts gX4_addVersion_X3_badAmongNext rfl rfl rfl (by decide +kernel) ⟨Nat.le_of_ble_eq_true rfl, Nat.le_of_ble_eq_true rfl⟩) hK hW hS (x_recv (i := i) (k := 3) (j := (a3).toNatClampNeg) hK hW ⟨hi, (x_lt hg3)⟩ rfl (by decide)) rfl hl.1 (rest := [.ref (adr i 6 ((sd 4 0 9)).toNatClampNeg)]) rfl (Nat.le_of_ble_eq_true rfl) dX4_addVersion_77 ⟨Nat.le_of_ble_eq_true rfl, Nat.le_of_ble_eq_true rfl⟩) hS (fun H locs hW hS => ?_)
        have hW : World g (wS w i sd8) H := hW
        refine W.eq (g2 := F0 m 80 ls [.int q9, .ref (adr i 6 ((sd 4 0 9)).toNatClampNeg)]) rfl ?_
        obtain ⟨sd10, e_sd10, hf⟩ := x_letE hf
        refine x_put (i := i) (k := 6) (j := ((sd 4 0 9)).toNatClampNeg) (t := 5) (w' := wS w i sd10) hx hb hts i_6 tyX6 tyX6_ok nmX6 hown hK hW ⟨hi, (x_lt hg4)⟩ hS rfl ⟨by decide, by decide, rfl⟩ (hts (.fieldLink RX4 148 "OpticalJukebox$Version" "remapped" "I") (by decide +kernel)) rfl (ty := .int) (by decide +kernel) rfl rfl ⟨rfl, rfl⟩ dX4_addVersion_80 (fp_S e_sd10 rfl) (fun H locs hW hS => ?_)
        refine lv_aload hx hb dX4_addVersion_83 (lv_at hl 0 rfl) ?_
        refine lv_iconst (v := 0) hx hb dX4_addVersion_85 (by decide) ?_
        obtain ⟨sd11, e_sd11, hf⟩ := x_letE hf
        refine x_put (i := i) (k := 6) (j := ((sd 4 0 9)).toNatClampNeg) (t := 6) (w' := wS w i sd11) hx hb hts i_6 tyX6 tyX6_ok nmX6 hown hK hW ⟨hi, (x_lt hg4)⟩ hS rfl ⟨by decide, by decide, rfl⟩ (hts (.fieldLink RX4 151 "OpticalJukebox$Version" "damaged" "Z") (by decide +kernel)) rfl (ty := .boolean) (by decide +kernel) rfl rfl ⟨rfl, rfl⟩ dX4_addVersion_86 (fp_S e_sd11 rfl) (fun H locs hW hS => ?_)
        refine lv_aload hx hb dX4_addVersion_89 (lv_at hl 1 rfl) ?_
        refine lv_iload_n hx hb dX4_addVersion_91 rfl (lv_at hl 4 rfl) ?_
        refine lv_aload hx hb dX4_addVersion_92 (lv_at hl 0 rfl) ?_
        refine x_get (i := i) (k := 6) (j := ((sd 4 0 9)).toNatClampNeg) (t := 5) hx hb hts i_6 hown hK hW ⟨hi, (x_lt hg4)⟩ rfl ⟨by decide, by decide, rfl⟩ (hts (.fieldLink RX4 148 "OpticalJukebox$Version" "remapped" "I") (by decide +kernel)) (sv_S rfl (fun _ => rfl) rfl) dX4_addVersion_94 ?_
        obtain ⟨q12, h_q12, hf⟩ := x_bindE hf
        refine x_cv0 (x_rV ⟨hx, hb, hml, hown, hts⟩ (ct_X3_takeSectors l g w i hi sd11 ((a3).toNatClampNeg) ((x_lt hg3)) (a2) ((sd11 6 ((sd 4 0 9)).toNatClampNeg 5)) h_q12) (cwV 2 hts gX4_addVersion_X3_takeSectors rfl rfl rfl (by decide +kernel) ⟨Nat.le_of_ble_eq_true rfl, Nat.le_of_ble_eq_true rfl⟩) hK hW hS (x_recv (i := i) (k := 3) (j := (a3).toNatClampNeg) hK hW ⟨hi, (x_lt hg3)⟩ rfl (by decide)) rfl hl.1 (rest := []) rfl (Nat.le_of_ble_eq_true rfl) dX4_addVersion_97 ⟨Nat.le_of_ble_eq_true rfl, Nat.le_of_ble_eq_true rfl⟩) hS (fun H locs hW hS => ?_)
        have hW : World g (wS w i q12) H := hW
        refine lv_aload hx hb dX4_addVersion_100 (lv_at hl 0 rfl) ?_
        refine lv_aload hx hb dX4_addVersion_102 (lv_at hl 1 rfl) ?_
        refine x_get (i := i) (k := 3) (j := (a3).toNatClampNeg) (t := 4) hx hb hts i_3 hown hK hW ⟨hi, (x_lt hg3)⟩ rfl ⟨by decide, by decide, rfl⟩ (hts (.fieldLink RX4 106 "OpticalJukebox$Platter" "sessions" "I") (by decide +kernel)) (sv_S rfl (fun _ => rfl) rfl) dX4_addVersion_104 ?_
        refine lv_iconst (v := 1) hx hb dX4_addVersion_107 (by decide) ?_
        refine lv_isub hx hb dX4_addVersion_108 ?_
        obtain ⟨sd13, e_sd13, hf⟩ := x_letE hf
        refine x_put (i := i) (k := 6) (j := ((sd 4 0 9)).toNatClampNeg) (t := 4) (w' := wS w i sd13) hx hb hts i_6 tyX6 tyX6_ok nmX6 hown hK hW ⟨hi, (x_lt hg4)⟩ hS rfl ⟨by decide, by decide, rfl⟩ (hts (.fieldLink RX4 159 "OpticalJukebox$Version" "session" "I") (by decide +kernel)) rfl (ty := .int) (by decide +kernel) rfl rfl ⟨rfl, rfl⟩ dX4_addVersion_109 (fp_S e_sd13 rfl) (fun H locs hW hS => ?_)
        refine lv_aload_n hx hb dX4_addVersion_112 rfl (lv_at hl 2 rfl) ?_
        refine x_get (i := i) (k := 4) (j := 0) (t := 10) hx hb hts i_4 hown hK hW ⟨hi, by decide⟩ rfl ⟨by decide, by decide, rfl⟩ (hts (.fieldLink RX4 33 "OpticalJukebox$State" "current" "[I") (by decide +kernel)) (v := .ref (adr i 14 0)) rfl dX4_addVersion_113 ?_
        refine lv_iload_n hx hb dX4_addVersion_116 rfl (lv_at hl 3 rfl) ?_
        refine lv_aload_n hx hb dX4_addVersion_117 rfl (lv_at hl 2 rfl) ?_
        refine x_get (i := i) (k := 4) (j := 0) (t := 9) hx hb hts i_4 hown hK hW ⟨hi, by decide⟩ rfl ⟨by decide, by decide, rfl⟩ (hts (.fieldLink RX4 65 "OpticalJukebox$State" "versionCount" "I") (by decide +kernel)) (sv_S rfl (fun _ => rfl) rfl) dX4_addVersion_118 ?_
        obtain ⟨hg14, hf⟩ := x_guardE hf
        obtain ⟨sd15, e_sd15, hf⟩ := x_letE hf
        refine x_iast (i := i) (k := 14) (j := 0) (w' := wS w i sd15) hx hb hK hW ⟨hi, by decide⟩ hS (by decide) rfl rfl rfl hg14 dX4_addVersion_121 (fp_S e_sd15 rfl) (fun H locs hW hS => ?_)
        refine lv_aload_n hx hb dX4_addVersion_122 rfl (lv_at hl 2 rfl) ?_
        refine lv_dup hx hb dX4_addVersion_123 rfl ?_
        refine x_get (i := i) (k := 4) (j := 0) (t := 9) hx hb hts i_4 hown hK hW ⟨hi, by decide⟩ rfl ⟨by decide, by decide, rfl⟩ (hts (.fieldLink RX4 65 "OpticalJukebox$State" "versionCount" "I") (by decide +kernel)) (sv_S rfl (fun _ => rfl) rfl) dX4_addVersion_124 ?_
        refine lv_iconst (v := 1) hx hb dX4_addVersion_127 (by decide) ?_
        refine lv_iadd hx hb dX4_addVersion_128 ?_
        obtain ⟨sd16, e_sd16, hf⟩ := x_letE hf
        refine x_put (i := i) (k := 4) (j := 0) (t := 9) (w' := wS w i sd16) hx hb hts i_4 tyX4 tyX4_ok nmX4 hown hK hW ⟨hi, by decide⟩ hS rfl ⟨by decide, by decide, rfl⟩ (hts (.fieldLink RX4 65 "OpticalJukebox$State" "versionCount" "I") (by decide +kernel)) rfl (ty := .int) (by decide +kernel) rfl rfl ⟨rfl, rfl⟩ dX4_addVersion_129 (fp_S e_sd16 rfl) (fun H locs hW hS => ?_)
        cases hf
        exact x_vret hx hb hr hlocks hK hW hS dX4_addVersion_132
abbrev rm_X4_versionAt : Room := { frames := 1, cells := 0, slots := 0, locals := 22 }
set_option maxRecDepth 100000 in
set_option maxHeartbeats 4000000 in
theorem ct_X4_versionAt (l : Launch) (g : GT) (w : WT) (i : Nat) (hi : i ∈ k_S w.1) (sd : SD) (a1 : Int32) (a2 : Int32) {q : Int32} (hf : f_X4_versionAt sd a1 a2 = some q) : Met l yX4_versionAt wsX4_versionAt rm_X4_versionAt (cPre g (wS w i sd) [.ref (adr i 4 0), .int a1, .int a2]) (cQi g q (wS w i sd)) 0 0 (gA g) := by
  have i_4 : ∀ w ∈ u_ws RX4 TX4 18, w ∈ wsX4_versionAt := by decide +kernel
  refine x_met (by decide) rfl (Nat.le_of_ble_eq_true rfl) ?_
  intro p e s m below meth c hx hb hr hml hts hown hlocks hK hW hS ls hl
  have hown : s.vm.findClass RX4 = some m.cls := hown
  have hl : lv_has ls 4 [(0, .ref (adr i 4 0)), (1, .int a1), (2, .int a2)] := hl
  rw [f_X4_versionAt] at hf
  refine lv_iconst (v := 0) hx hb dX4_versionAt_0 (by decide) ?_
  refine lv_istore_n (lv' := [(3, .int (0 : Int32)), (0, .ref (adr i 4 0)), (1, .int a1), (2, .int a2)]) hx hb dX4_versionAt_1 rfl hl (by decide) rfl (fun ls hl => ?_)
  have L2 : ∀ (n : Nat) (v3_2 : Int32) (ls : Array Slot) (H : Heap) (locs : List Loc), lv_has ls 4 [(0, .ref (adr i 4 0)), (1, .int a1), (2, .int a2), (3, .int v3_2)] → World g (wS w i sd) H → va_S (gA g) s.heap H locs → f_X4_versionAt_L2 sd a1 a2 n v3_2 = some q → W p l e rm_X4_versionAt s m [.ref (adr i 4 0), .int a1, .int a2].toArray below meth c H locs 0 0 (MQ below (cQi g q (wS w i sd)) [.ref (adr i 4 0), .int a1, .int a2].toArray s 0 0 (gA g)) (F0 m 2 ls []) := by
    clear hW hS hl
    intro n
    induction n with
    | zero => intro v3_2 ls H locs hl hW hS hf; cases hf
    | succ n_2 ih =>
      intro v3_2 ls H locs hl hW hS hf
      rw [f_X4_versionAt_L2] at hf
      refine lv_iload_n hx hb dX4_versionAt_2 rfl (lv_at hl 3 rfl) ?_
      refine lv_aload_n hx hb dX4_versionAt_3 rfl (lv_at hl 0 rfl) ?_
      refine x_get (i := i) (k := 4) (j := 0) (t := 9) hx hb hts i_4 hown hK hW ⟨hi, by decide⟩ rfl ⟨by decide, by decide, rfl⟩ (hts (.fieldLink RX4 65 "OpticalJukebox$State" "versionCount" "I") (by decide +kernel)) (sv_S rfl (fun _ => rfl) rfl) dX4_versionAt_4 ?_
      refine lv_icmp_ge (tgt := 32) hx hb dX4_versionAt_7 (by decide) (fun hc => ?_) (fun hc => ?_)
      · have hf := x_iteT hf hc
        refine lv_iconst (v := -1) hx hb dX4_versionAt_32 (by decide) ?_
        cases hf
        exact x_iret hx hb hr hlocks hK hW hS rfl dX4_versionAt_33
      · have hf := x_iteF hf hc
        refine lv_aload_n hx hb dX4_versionAt_10 rfl (lv_at hl 0 rfl) ?_
        refine x_get (i := i) (k := 4) (j := 0) (t := 8) hx hb hts i_4 hown hK hW ⟨hi, by decide⟩ rfl ⟨by decide, by decide, rfl⟩ (hts (.fieldLink RX4 29 "OpticalJukebox$State" "versions" "[LOpticalJukebox$Version;") (by decide +kernel)) (v := .ref (adr i 13 0)) rfl dX4_versionAt_11 ?_
        refine lv_iload_n hx hb dX4_versionAt_14 rfl (lv_at hl 3 rfl) ?_
        obtain ⟨hg1, hf⟩ := x_guardE hf
        refine x_aald (i := i) (k := 13) (j := 0) hx hb hK hW ⟨hi, by decide⟩ (by decide) rfl rfl hg1 dX4_versionAt_15 ?_
        refine W.eq (g2 := F0 m 16 ls [.ref (adr i 6 (v3_2).toNatClampNeg)]) rfl ?_
        refine lv_iload_n hx hb dX4_versionAt_16 rfl (lv_at hl 1 rfl) ?_
        refine lv_iload_n hx hb dX4_versionAt_17 rfl (lv_at hl 2 rfl) ?_
        obtain ⟨q2, h_q2, hf⟩ := x_bindE hf
        refine x_ci0 (x_rV ⟨hx, hb, hml, hown, hts⟩ (ct_X6_holds l g w i hi sd ((v3_2).toNatClampNeg) ((x_lt hg1)) (a1) (a2) h_q2) (cwV 2 hts gX4_versionAt_X6_holds rfl rfl rfl (by decide +kernel) ⟨Nat.le_of_ble_eq_true rfl, Nat.le_of_ble_eq_true rfl⟩) hK hW hS (x_recv (i := i) (k := 6) (j := (v3_2).toNatClampNeg) hK hW ⟨hi, (x_lt hg1)⟩ rfl (by decide)) rfl hl.1 (rest := []) rfl (Nat.le_of_ble_eq_true rfl) dX4_versionAt_18 ⟨Nat.le_of_ble_eq_true rfl, Nat.le_of_ble_eq_true rfl⟩) hS (fun H locs hW hS => ?_)
        have hW : World g (wS w i sd) H := hW
        refine W.eq (g2 := F0 m 21 ls [.int q2]) rfl ?_
        refine lv_if_eq (tgt := 26) hx hb dX4_versionAt_21 (by decide) (fun hc => ?_) (fun hc => ?_)
        · have hf := x_iteT hf hc
          obtain ⟨x3, e_x3, hf⟩ := x_letE hf
          refine lv_iinc (v := x3) (lv' := [(3, .int x3), (0, .ref (adr i 4 0)), (1, .int a1), (2, .int a2)]) hx hb dX4_versionAt_26 hl (k := 3) rfl (by rw [e_x3]; rfl) (by decide) rfl (fun ls hl => ?_)
          refine lv_goto (tgt := 2) hx hb dX4_versionAt_29 (by decide) ?_
          exact ih (x3) ls _ _ (lv_sub hl [1, 2, 3, 0] rfl) hW hS hf
        · have hf := x_iteF hf hc
          refine lv_iload_n hx hb dX4_versionAt_24 rfl (lv_at hl 3 rfl) ?_
          cases hf
          exact x_iret hx hb hr hlocks hK hW hS rfl dX4_versionAt_25
  exact L2 fuel ((0 : Int32)) ls _ _ (lv_sub hl [1, 2, 3, 0] rfl) hW hS hf
abbrev rm_X4_spoil : Room := { frames := 2, cells := 0, slots := 0, locals := 45 }
set_option maxRecDepth 100000 in
set_option maxHeartbeats 4000000 in
theorem ct_X4_spoil (l : Launch) (g : GT) (w : WT) (i : Nat) (hi : i ∈ k_S w.1) (sd : SD) (a1 : Int32) (a2 : Int32) {q : SD} (hf : f_X4_spoil sd a1 a2 = some q) : Met l yX4_spoil wsX4_spoil rm_X4_spoil (cPre g (wS w i sd) [.ref (adr i 4 0), .int a1, .int a2]) (cQv g (wS w i q)) 0 0 (gA g) := by
  have i_4 : ∀ w ∈ u_ws RX4 TX4 18, w ∈ wsX4_spoil := by decide +kernel
  have i_6 : ∀ w ∈ u_ws RX6 TX6 7, w ∈ wsX4_spoil := by decide +kernel
  refine x_met (by decide) rfl (Nat.le_of_ble_eq_true rfl) ?_
  intro p e s m below meth c hx hb hr hml hts hown hlocks hK hW hS ls hl
  have hown : s.vm.findClass RX4 = some m.cls := hown
  have hl : lv_has ls 4 [(0, .ref (adr i 4 0)), (1, .int a1), (2, .int a2)] := hl
  rw [f_X4_spoil] at hf
  refine lv_aload_n hx hb dX4_spoil_0 rfl (lv_at hl 0 rfl) ?_
  refine x_get (i := i) (k := 4) (j := 0) (t := 5) hx hb hts i_4 hown hK hW ⟨hi, by decide⟩ rfl ⟨by decide, by decide, rfl⟩ (hts (.fieldLink RX4 23 "OpticalJukebox$State" "platters" "[LOpticalJukebox$Platter;") (by decide +kernel)) (v := .ref (adr i 12 0)) rfl dX4_spoil_1 ?_
  refine lv_iload_n hx hb dX4_spoil_4 rfl (lv_at hl 1 rfl) ?_
  obtain ⟨hg1, hf⟩ := x_guardE hf
  refine x_aald (i := i) (k := 12) (j := 0) hx hb hK hW ⟨hi, by decide⟩ (by decide) rfl rfl hg1 dX4_spoil_5 ?_
  refine W.eq (g2 := F0 m 6 ls [.ref (adr i 3 (a1).toNatClampNeg)]) rfl ?_
  refine lv_iload_n hx hb dX4_spoil_6 rfl (lv_at hl 2 rfl) ?_
  obtain ⟨q2, h_q2, hf⟩ := x_bindE hf
  refine x_cv0 (x_rV ⟨hx, hb, hml, hown, hts⟩ (ct_X3_setBad l g w i hi sd ((a1).toNatClampNeg) ((x_lt hg1)) (a2) h_q2) (cwV 1 hts gX4_spoil_X3_setBad rfl rfl rfl (by decide +kernel) ⟨Nat.le_of_ble_eq_true rfl, Nat.le_of_ble_eq_true rfl⟩) hK hW hS (x_recv (i := i) (k := 3) (j := (a1).toNatClampNeg) hK hW ⟨hi, (x_lt hg1)⟩ rfl (by decide)) rfl hl.1 (rest := []) rfl (Nat.le_of_ble_eq_true rfl) dX4_spoil_7 ⟨Nat.le_of_ble_eq_true rfl, Nat.le_of_ble_eq_true rfl⟩) hS (fun H locs hW hS => ?_)
  have hW : World g (wS w i q2) H := hW
  refine lv_aload_n hx hb dX4_spoil_10 rfl (lv_at hl 0 rfl) ?_
  refine lv_dup hx hb dX4_spoil_11 rfl ?_
  refine x_get (i := i) (k := 4) (j := 0) (t := 7) hx hb hts i_4 hown hK hW ⟨hi, by decide⟩ rfl ⟨by decide, by decide, rfl⟩ (hts (.fieldLink RX4 62 "OpticalJukebox$State" "badCount" "I") (by decide +kernel)) (sv_S rfl (fun _ => rfl) rfl) dX4_spoil_12 ?_
  refine lv_iconst (v := 1) hx hb dX4_spoil_15 (by decide) ?_
  refine lv_iadd hx hb dX4_spoil_16 ?_
  obtain ⟨sd3, e_sd3, hf⟩ := x_letE hf
  refine x_put (i := i) (k := 4) (j := 0) (t := 7) (w' := wS w i sd3) hx hb hts i_4 tyX4 tyX4_ok nmX4 hown hK hW ⟨hi, by decide⟩ hS rfl ⟨by decide, by decide, rfl⟩ (hts (.fieldLink RX4 62 "OpticalJukebox$State" "badCount" "I") (by decide +kernel)) rfl (ty := .int) (by decide +kernel) rfl rfl ⟨rfl, rfl⟩ dX4_spoil_17 (fp_S e_sd3 rfl) (fun H locs hW hS => ?_)
  refine lv_aload_n hx hb dX4_spoil_20 rfl (lv_at hl 0 rfl) ?_
  refine lv_iload_n hx hb dX4_spoil_21 rfl (lv_at hl 1 rfl) ?_
  refine lv_iload_n hx hb dX4_spoil_22 rfl (lv_at hl 2 rfl) ?_
  obtain ⟨q4, h_q4, hf⟩ := x_bindE hf
  refine x_ci0 (x_rV ⟨hx, hb, hml, hown, hts⟩ (ct_X4_versionAt l g w i hi sd3 (a1) (a2) h_q4) (cwV 2 hts gX4_spoil_X4_versionAt rfl rfl rfl (by decide +kernel) ⟨Nat.le_of_ble_eq_true rfl, Nat.le_of_ble_eq_true rfl⟩) hK hW hS (x_recv (i := i) (k := 4) (j := 0) hK hW ⟨hi, by decide⟩ rfl (by decide)) rfl hl.1 (rest := []) rfl (Nat.le_of_ble_eq_true rfl) dX4_spoil_23 ⟨Nat.le_of_ble_eq_true rfl, Nat.le_of_ble_eq_true rfl⟩) hS (fun H locs hW hS => ?_)
  have hW : World g (wS w i sd3) H := hW
  refine W.eq (g2 := F0 m 26 ls [.int q4]) rfl ?_
  refine lv_istore_n (lv' := [(3, .int q4), (0, .ref (adr i 4 0)), (1, .int a1), (2, .int a2)]) hx hb dX4_spoil_26 rfl hl (by decide) rfl (fun ls hl => ?_)
  refine lv_iload_n hx hb dX4_spoil_27 rfl (lv_at hl 0 rfl) ?_
  refine lv_iconst (v := -1) hx hb dX4_spoil_28 (by decide) ?_
  refine lv_icmp_eq (tgt := 42) hx hb dX4_spoil_29 (by decide) (fun hc => ?_) (fun hc => ?_)
  · have hf := x_iteT hf hc
    cases hf
    exact x_vret hx hb hr hlocks hK hW hS dX4_spoil_42
  · have hf := x_iteF hf hc
    refine lv_aload_n hx hb dX4_spoil_32 rfl (lv_at hl 1 rfl) ?_
    refine x_get (i := i) (k := 4) (j := 0) (t := 8) hx hb hts i_4 hown hK hW ⟨hi, by decide⟩ rfl ⟨by decide, by decide, rfl⟩ (hts (.fieldLink RX4 29 "OpticalJukebox$State" "versions" "[LOpticalJukebox$Version;") (by decide +kernel)) (v := .ref (adr i 13 0)) rfl dX4_spoil_33 ?_
    refine lv_iload_n hx hb dX4_spoil_36 rfl (lv_at hl 0 rfl) ?_
    obtain ⟨hg5, hf⟩ := x_guardE hf
    refine x_aald (i := i) (k := 13) (j := 0) hx hb hK hW ⟨hi, by decide⟩ (by decide) rfl rfl hg5 dX4_spoil_37 ?_
    refine W.eq (g2 := F0 m 38 ls [.ref (adr i 6 (q4).toNatClampNeg)]) rfl ?_
    refine lv_iconst (v := 1) hx hb dX4_spoil_38 (by decide) ?_
    obtain ⟨sd6, e_sd6, hf⟩ := x_letE hf
    refine x_put (i := i) (k := 6) (j := (q4).toNatClampNeg) (t := 6) (w' := wS w i sd6) hx hb hts i_6 tyX6 tyX6_ok nmX6 hown hK hW ⟨hi, (x_lt hg5)⟩ hS rfl ⟨by decide, by decide, rfl⟩ (hts (.fieldLink RX4 151 "OpticalJukebox$Version" "damaged" "Z") (by decide +kernel)) rfl (ty := .boolean) (by decide +kernel) rfl rfl ⟨rfl, rfl⟩ dX4_spoil_39 (fp_S e_sd6 rfl) (fun H locs hW hS => ?_)
    cases hf
    exact x_vret hx hb hr hlocks hK hW hS dX4_spoil_42
abbrev rm_X4_isGood : Room := { frames := 1, cells := 0, slots := 0, locals := 21 }
set_option maxRecDepth 100000 in
set_option maxHeartbeats 4000000 in
theorem ct_X4_isGood (l : Launch) (g : GT) (w : WT) (i : Nat) (hi : i ∈ k_S w.1) (sd : SD) (j1 : Nat) (hj1 : j1 < 40) {q : Int32} (hf : f_X4_isGood sd j1 = some q) : Met l yX4_isGood wsX4_isGood rm_X4_isGood (cPre g (wS w i sd) [.ref (adr i 4 0), .ref (adr i 6 j1)]) (cQi g q (wS w i sd)) 0 0 (gA g) := by
  have i_4 : ∀ w ∈ u_ws RX4 TX4 18, w ∈ wsX4_isGood := by decide +kernel
  have i_6 : ∀ w ∈ u_ws RX6 TX6 7, w ∈ wsX4_isGood := by decide +kernel
  refine x_met (by decide) rfl (Nat.le_of_ble_eq_true rfl) ?_
  intro p e s m below meth c hx hb hr hml hts hown hlocks hK hW hS ls hl
  have hown : s.vm.findClass RX4 = some m.cls := hown
  have hl : lv_has ls 2 [(0, .ref (adr i 4 0)), (1, .ref (adr i 6 j1))] := hl
  rw [f_X4_isGood] at hf
  refine lv_aload_n hx hb dX4_isGood_0 rfl (lv_at hl 1 rfl) ?_
  refine x_get (i := i) (k := 6) (j := j1) (t := 6) hx hb hts i_6 hown hK hW ⟨hi, hj1⟩ rfl ⟨by decide, by decide, rfl⟩ (hts (.fieldLink RX4 151 "OpticalJukebox$Version" "damaged" "Z") (by decide +kernel)) (sv_S rfl (fun _ => rfl) rfl) dX4_isGood_1 ?_
  refine lv_if_ne (tgt := 30) hx hb dX4_isGood_4 (by decide) (fun hc => ?_) (fun hc => ?_)
  · have hf := x_iteF hf hc
    refine lv_iconst (v := 0) hx hb dX4_isGood_30 (by decide) ?_
    cases hf
    exact x_zret hx hb hr hlocks hK hW hS (Or.inl rfl) rfl dX4_isGood_31
  · have hf := x_iteT hf hc
    refine lv_aload_n hx hb dX4_isGood_7 rfl (lv_at hl 0 rfl) ?_
    refine x_get (i := i) (k := 4) (j := 0) (t := 5) hx hb hts i_4 hown hK hW ⟨hi, by decide⟩ rfl ⟨by decide, by decide, rfl⟩ (hts (.fieldLink RX4 23 "OpticalJukebox$State" "platters" "[LOpticalJukebox$Platter;") (by decide +kernel)) (v := .ref (adr i 12 0)) rfl dX4_isGood_8 ?_
    refine lv_aload_n hx hb dX4_isGood_11 rfl (lv_at hl 1 rfl) ?_
    refine x_get (i := i) (k := 6) (j := j1) (t := 1) hx hb hts i_6 hown hK hW ⟨hi, hj1⟩ rfl ⟨by decide, by decide, rfl⟩ (hts (.fieldLink RX4 134 "OpticalJukebox$Version" "platter" "I") (by decide +kernel)) (sv_S rfl (fun _ => rfl) rfl) dX4_isGood_12 ?_
    obtain ⟨hg1, hf⟩ := x_guardE hf
    refine x_aald (i := i) (k := 12) (j := 0) hx hb hK hW ⟨hi, by decide⟩ (by decide) rfl rfl hg1 dX4_isGood_15 ?_
    refine W.eq (g2 := F0 m 16 ls [.ref (adr i 3 ((sd 6 j1 1)).toNatClampNeg)]) rfl ?_
    refine lv_aload_n hx hb dX4_isGood_16 rfl (lv_at hl 1 rfl) ?_
    refine x_get (i := i) (k := 6) (j := j1) (t := 4) hx hb hts i_6 hown hK hW ⟨hi, hj1⟩ rfl ⟨by decide, by decide, rfl⟩ (hts (.fieldLink RX4 159 "OpticalJukebox$Version" "session" "I") (by decide +kernel)) (sv_S rfl (fun _ => rfl) rfl) dX4_isGood_17 ?_
    obtain ⟨q2, h_q2, hf⟩ := x_bindE hf
    refine x_ci0 (x_rV ⟨hx, hb, hml, hown, hts⟩ (ct_X3_isClosed l g w i hi sd (((sd 6 j1 1)).toNatClampNeg) ((x_lt hg1)) ((sd 6 j1 4)) h_q2) (cwV 1 hts gX4_isGood_X3_isClosed rfl rfl rfl (by decide +kernel) ⟨Nat.le_of_ble_eq_true rfl, Nat.le_of_ble_eq_true rfl⟩) hK hW hS (x_recv (i := i) (k := 3) (j := ((sd 6 j1 1)).toNatClampNeg) hK hW ⟨hi, (x_lt hg1)⟩ rfl (by decide)) rfl hl.1 (rest := []) rfl (Nat.le_of_ble_eq_true rfl) dX4_isGood_20 ⟨Nat.le_of_ble_eq_true rfl, Nat.le_of_ble_eq_true rfl⟩) hS (fun H locs hW hS => ?_)
    have hW : World g (wS w i sd) H := hW
    refine W.eq (g2 := F0 m 23 ls [.int q2]) rfl ?_
    refine lv_if_eq (tgt := 30) hx hb dX4_isGood_23 (by decide) (fun hc => ?_) (fun hc => ?_)
    · have hf := x_iteT hf hc
      refine lv_iconst (v := 0) hx hb dX4_isGood_30 (by decide) ?_
      cases hf
      exact x_zret hx hb hr hlocks hK hW hS (Or.inl rfl) rfl dX4_isGood_31
    · have hf := x_iteF hf hc
      refine lv_iconst (v := 1) hx hb dX4_isGood_26 (by decide) ?_
      refine lv_goto (tgt := 31) hx hb dX4_isGood_27 (by decide) ?_
      cases hf
      exact x_zret hx hb hr hlocks hK hW hS (Or.inr rfl) rfl dX4_isGood_31
