theorem dX5_appendFourBytes_0 : decode cX5_appendFourBytes 0 = .ok (.bipush 24, 2) := by decide +kernel
theorem dX5_appendFourBytes_2 : decode cX5_appendFourBytes 2 = .ok (.istore_n 2, 1) := by decide +kernel
theorem dX5_appendFourBytes_3 : decode cX5_appendFourBytes 3 = .ok (.iload_n 2, 1) := by decide +kernel
theorem dX5_appendFourBytes_4 : decode cX5_appendFourBytes 4 = .ok (.ifCond .lt 42, 3) := by decide +kernel
theorem dX5_appendFourBytes_7 : decode cX5_appendFourBytes 7 = .ok (.aload_n 0, 1) := by decide +kernel
theorem dX5_appendFourBytes_8 : decode cX5_appendFourBytes 8 = .ok (.getfield 19, 3) := by decide +kernel
theorem dX5_appendFourBytes_11 : decode cX5_appendFourBytes 11 = .ok (.sipush 900, 3) := by decide +kernel
theorem dX5_appendFourBytes_14 : decode cX5_appendFourBytes 14 = .ok (.if_icmp .ge 32, 3) := by decide +kernel
theorem dX5_appendFourBytes_17 : decode cX5_appendFourBytes 17 = .ok (.aload_n 0, 1) := by decide +kernel
theorem dX5_appendFourBytes_18 : decode cX5_appendFourBytes 18 = .ok (.getfield 9, 3) := by decide +kernel
theorem dX5_appendFourBytes_21 : decode cX5_appendFourBytes 21 = .ok (.aload_n 0, 1) := by decide +kernel
theorem dX5_appendFourBytes_22 : decode cX5_appendFourBytes 22 = .ok (.getfield 19, 3) := by decide +kernel
theorem dX5_appendFourBytes_25 : decode cX5_appendFourBytes 25 = .ok (.iload_n 1, 1) := by decide +kernel
theorem dX5_appendFourBytes_26 : decode cX5_appendFourBytes 26 = .ok (.iload_n 2, 1) := by decide +kernel
theorem dX5_appendFourBytes_27 : decode cX5_appendFourBytes 27 = .ok (.ishr, 1) := by decide +kernel
theorem dX5_appendFourBytes_28 : decode cX5_appendFourBytes 28 = .ok (.i2b, 1) := by decide +kernel
theorem dX5_appendFourBytes_29 : decode cX5_appendFourBytes 29 = .ok (.bastore, 1) := by decide +kernel
theorem dX5_appendFourBytes_30 : decode cX5_appendFourBytes 30 = .ok (.aload_n 0, 1) := by decide +kernel
theorem dX5_appendFourBytes_31 : decode cX5_appendFourBytes 31 = .ok (.dup, 1) := by decide +kernel
theorem dX5_appendFourBytes_32 : decode cX5_appendFourBytes 32 = .ok (.getfield 19, 3) := by decide +kernel
theorem dX5_appendFourBytes_35 : decode cX5_appendFourBytes 35 = .ok (.iconst 1, 1) := by decide +kernel
theorem dX5_appendFourBytes_36 : decode cX5_appendFourBytes 36 = .ok (.iadd, 1) := by decide +kernel
theorem dX5_appendFourBytes_37 : decode cX5_appendFourBytes 37 = .ok (.putfield 19, 3) := by decide +kernel
theorem dX5_appendFourBytes_40 : decode cX5_appendFourBytes 40 = .ok (.iinc 2 (-8), 3) := by decide +kernel
theorem dX5_appendFourBytes_43 : decode cX5_appendFourBytes 43 = .ok (.goto (-40), 3) := by decide +kernel
theorem dX5_appendFourBytes_46 : decode cX5_appendFourBytes 46 = .ok (.return_, 1) := by decide +kernel
theorem dX5_isBetween_0 : decode cX5_isBetween 0 = .ok (.aload_n 0, 1) := by decide +kernel
theorem dX5_isBetween_1 : decode cX5_isBetween 1 = .ok (.getfield 9, 3) := by decide +kernel
theorem dX5_isBetween_4 : decode cX5_isBetween 4 = .ok (.iload_n 1, 1) := by decide +kernel
theorem dX5_isBetween_5 : decode cX5_isBetween 5 = .ok (.baload, 1) := by decide +kernel
theorem dX5_isBetween_6 : decode cX5_isBetween 6 = .ok (.iload_n 2, 1) := by decide +kernel
theorem dX5_isBetween_7 : decode cX5_isBetween 7 = .ok (.if_icmp .lt 17, 3) := by decide +kernel
theorem dX5_isBetween_10 : decode cX5_isBetween 10 = .ok (.aload_n 0, 1) := by decide +kernel
theorem dX5_isBetween_11 : decode cX5_isBetween 11 = .ok (.getfield 9, 3) := by decide +kernel
theorem dX5_isBetween_14 : decode cX5_isBetween 14 = .ok (.iload_n 1, 1) := by decide +kernel
theorem dX5_isBetween_15 : decode cX5_isBetween 15 = .ok (.baload, 1) := by decide +kernel
theorem dX5_isBetween_16 : decode cX5_isBetween 16 = .ok (.iload_n 3, 1) := by decide +kernel
theorem dX5_isBetween_17 : decode cX5_isBetween 17 = .ok (.if_icmp .gt 7, 3) := by decide +kernel
theorem dX5_isBetween_20 : decode cX5_isBetween 20 = .ok (.iconst 1, 1) := by decide +kernel
theorem dX5_isBetween_21 : decode cX5_isBetween 21 = .ok (.goto 4, 3) := by decide +kernel
theorem dX5_isBetween_24 : decode cX5_isBetween 24 = .ok (.iconst 0, 1) := by decide +kernel
theorem dX5_isBetween_25 : decode cX5_isBetween 25 = .ok (.ireturn, 1) := by decide +kernel
set_option maxRecDepth 20000 in
theorem ggX5_endOfRun_X5_isBetween : GoodIn wsX5_endOfRun wsX5_isBetween := goodIn_r _ [8, 9, 10, 11, 12, 13, 14, 15, 16, 17, 18] (by decide +kernel) (by decide +kernel)
set_option maxRecDepth 20000 in
theorem gX5_endOfRun_X5_isBetween : GoodIn wsX5_endOfRun (wsV RX5 187 RX5 yX5_isBetween wsX5_isBetween) := goodIn_app (goodIn_of _ (by decide +kernel)) ggX5_endOfRun_X5_isBetween
theorem dX5_endOfRun_0 : decode cX5_endOfRun 0 = .ok (.aload_n 0, 1) := by decide +kernel
theorem dX5_endOfRun_1 : decode cX5_endOfRun 1 = .ok (.getfield 32, 3) := by decide +kernel
theorem dX5_endOfRun_4 : decode cX5_endOfRun 4 = .ok (.aload_n 0, 1) := by decide +kernel
theorem dX5_endOfRun_5 : decode cX5_endOfRun 5 = .ok (.getfield 29, 3) := by decide +kernel
theorem dX5_endOfRun_8 : decode cX5_endOfRun 8 = .ok (.if_icmp .ge 29, 3) := by decide +kernel
theorem dX5_endOfRun_11 : decode cX5_endOfRun 11 = .ok (.aload_n 0, 1) := by decide +kernel
theorem dX5_endOfRun_12 : decode cX5_endOfRun 12 = .ok (.aload_n 0, 1) := by decide +kernel
theorem dX5_endOfRun_13 : decode cX5_endOfRun 13 = .ok (.getfield 32, 3) := by decide +kernel
theorem dX5_endOfRun_16 : decode cX5_endOfRun 16 = .ok (.iload_n 1, 1) := by decide +kernel
theorem dX5_endOfRun_17 : decode cX5_endOfRun 17 = .ok (.iload_n 2, 1) := by decide +kernel
theorem dX5_endOfRun_18 : decode cX5_endOfRun 18 = .ok (.invokevirtual 187, 3) := by decide +kernel
theorem dX5_endOfRun_21 : decode cX5_endOfRun 21 = .ok (.ifCond .eq 16, 3) := by decide +kernel
theorem dX5_endOfRun_24 : decode cX5_endOfRun 24 = .ok (.aload_n 0, 1) := by decide +kernel
theorem dX5_endOfRun_25 : decode cX5_endOfRun 25 = .ok (.dup, 1) := by decide +kernel
theorem dX5_endOfRun_26 : decode cX5_endOfRun 26 = .ok (.getfield 32, 3) := by decide +kernel
theorem dX5_endOfRun_29 : decode cX5_endOfRun 29 = .ok (.iconst 1, 1) := by decide +kernel
theorem dX5_endOfRun_30 : decode cX5_endOfRun 30 = .ok (.iadd, 1) := by decide +kernel
theorem dX5_endOfRun_31 : decode cX5_endOfRun 31 = .ok (.putfield 32, 3) := by decide +kernel
theorem dX5_endOfRun_34 : decode cX5_endOfRun 34 = .ok (.goto (-34), 3) := by decide +kernel
theorem dX5_endOfRun_37 : decode cX5_endOfRun 37 = .ok (.aload_n 0, 1) := by decide +kernel
theorem dX5_endOfRun_38 : decode cX5_endOfRun 38 = .ok (.getfield 32, 3) := by decide +kernel
theorem dX5_endOfRun_41 : decode cX5_endOfRun 41 = .ok (.aload_n 0, 1) := by decide +kernel
theorem dX5_endOfRun_42 : decode cX5_endOfRun 42 = .ok (.getfield 184, 3) := by decide +kernel
theorem dX5_endOfRun_45 : decode cX5_endOfRun 45 = .ok (.isub, 1) := by decide +kernel
theorem dX5_endOfRun_46 : decode cX5_endOfRun 46 = .ok (.ireturn, 1) := by decide +kernel
set_option maxRecDepth 20000 in
theorem ggX5_nextToken_X5_isBetween : GoodIn wsX5_nextToken wsX5_isBetween := goodIn_r _ [10, 4, 15, 16, 17, 18, 19, 20, 21, 22, 23] (by decide +kernel) (by decide +kernel)
set_option maxRecDepth 20000 in
theorem gX5_nextToken_X5_isBetween : GoodIn wsX5_nextToken (wsV RX5 187 RX5 yX5_isBetween wsX5_isBetween) := goodIn_app (goodIn_of _ (by decide +kernel)) ggX5_nextToken_X5_isBetween
set_option maxRecDepth 20000 in
theorem ggX5_nextToken_X5_endOfRun : GoodIn wsX5_nextToken wsX5_endOfRun := goodIn_r _ [14, 1, 3, 2, 6, 7, 8, 9, 10, 4, 15, 16, 17, 18, 19, 20, 21, 22, 23] (by decide +kernel) (by decide +kernel)
set_option maxRecDepth 20000 in
theorem gX5_nextToken_X5_endOfRun : GoodIn wsX5_nextToken (wsV RX5 191 RX5 yX5_endOfRun wsX5_endOfRun) := goodIn_app (goodIn_of _ (by decide +kernel)) ggX5_nextToken_X5_endOfRun
theorem dX5_nextToken_0 : decode cX5_nextToken 0 = .ok (.aload_n 0, 1) := by decide +kernel
theorem dX5_nextToken_1 : decode cX5_nextToken 1 = .ok (.aload_n 0, 1) := by decide +kernel
theorem dX5_nextToken_2 : decode cX5_nextToken 2 = .ok (.getfield 32, 3) := by decide +kernel
theorem dX5_nextToken_5 : decode cX5_nextToken 5 = .ok (.putfield 184, 3) := by decide +kernel
theorem dX5_nextToken_8 : decode cX5_nextToken 8 = .ok (.aload_n 0, 1) := by decide +kernel
theorem dX5_nextToken_9 : decode cX5_nextToken 9 = .ok (.getfield 184, 3) := by decide +kernel
theorem dX5_nextToken_12 : decode cX5_nextToken 12 = .ok (.aload_n 0, 1) := by decide +kernel
theorem dX5_nextToken_13 : decode cX5_nextToken 13 = .ok (.getfield 29, 3) := by decide +kernel
theorem dX5_nextToken_16 : decode cX5_nextToken 16 = .ok (.if_icmp .ge 44, 3) := by decide +kernel
theorem dX5_nextToken_19 : decode cX5_nextToken 19 = .ok (.aload_n 0, 1) := by decide +kernel
theorem dX5_nextToken_20 : decode cX5_nextToken 20 = .ok (.getfield 9, 3) := by decide +kernel
theorem dX5_nextToken_23 : decode cX5_nextToken 23 = .ok (.aload_n 0, 1) := by decide +kernel
theorem dX5_nextToken_24 : decode cX5_nextToken 24 = .ok (.getfield 184, 3) := by decide +kernel
theorem dX5_nextToken_27 : decode cX5_nextToken 27 = .ok (.baload, 1) := by decide +kernel
theorem dX5_nextToken_28 : decode cX5_nextToken 28 = .ok (.bipush 32, 2) := by decide +kernel
theorem dX5_nextToken_30 : decode cX5_nextToken 30 = .ok (.if_icmp .eq 17, 3) := by decide +kernel
theorem dX5_nextToken_33 : decode cX5_nextToken 33 = .ok (.aload_n 0, 1) := by decide +kernel
theorem dX5_nextToken_34 : decode cX5_nextToken 34 = .ok (.getfield 9, 3) := by decide +kernel
theorem dX5_nextToken_37 : decode cX5_nextToken 37 = .ok (.aload_n 0, 1) := by decide +kernel
theorem dX5_nextToken_38 : decode cX5_nextToken 38 = .ok (.getfield 184, 3) := by decide +kernel
theorem dX5_nextToken_41 : decode cX5_nextToken 41 = .ok (.baload, 1) := by decide +kernel
theorem dX5_nextToken_42 : decode cX5_nextToken 42 = .ok (.bipush 10, 2) := by decide +kernel
theorem dX5_nextToken_44 : decode cX5_nextToken 44 = .ok (.if_icmp .ne 16, 3) := by decide +kernel
theorem dX5_nextToken_47 : decode cX5_nextToken 47 = .ok (.aload_n 0, 1) := by decide +kernel
theorem dX5_nextToken_48 : decode cX5_nextToken 48 = .ok (.dup, 1) := by decide +kernel
theorem dX5_nextToken_49 : decode cX5_nextToken 49 = .ok (.getfield 184, 3) := by decide +kernel
theorem dX5_nextToken_52 : decode cX5_nextToken 52 = .ok (.iconst 1, 1) := by decide +kernel
theorem dX5_nextToken_53 : decode cX5_nextToken 53 = .ok (.iadd, 1) := by decide +kernel
theorem dX5_nextToken_54 : decode cX5_nextToken 54 = .ok (.putfield 184, 3) := by decide +kernel
theorem dX5_nextToken_57 : decode cX5_nextToken 57 = .ok (.goto (-49), 3) := by decide +kernel
theorem dX5_nextToken_60 : decode cX5_nextToken 60 = .ok (.aload_n 0, 1) := by decide +kernel
theorem dX5_nextToken_61 : decode cX5_nextToken 61 = .ok (.aload_n 0, 1) := by decide +kernel
theorem dX5_nextToken_62 : decode cX5_nextToken 62 = .ok (.getfield 184, 3) := by decide +kernel
theorem dX5_nextToken_65 : decode cX5_nextToken 65 = .ok (.putfield 32, 3) := by decide +kernel
theorem dX5_nextToken_68 : decode cX5_nextToken 68 = .ok (.aload_n 0, 1) := by decide +kernel
theorem dX5_nextToken_69 : decode cX5_nextToken 69 = .ok (.getfield 184, 3) := by decide +kernel
theorem dX5_nextToken_72 : decode cX5_nextToken 72 = .ok (.aload_n 0, 1) := by decide +kernel
theorem dX5_nextToken_73 : decode cX5_nextToken 73 = .ok (.getfield 29, 3) := by decide +kernel
theorem dX5_nextToken_76 : decode cX5_nextToken 76 = .ok (.if_icmp .lt 11, 3) := by decide +kernel
theorem dX5_nextToken_79 : decode cX5_nextToken 79 = .ok (.aload_n 0, 1) := by decide +kernel
theorem dX5_nextToken_80 : decode cX5_nextToken 80 = .ok (.iconst 0, 1) := by decide +kernel
theorem dX5_nextToken_81 : decode cX5_nextToken 81 = .ok (.putfield 49, 3) := by decide +kernel
theorem dX5_nextToken_84 : decode cX5_nextToken 84 = .ok (.goto 115, 3) := by decide +kernel
theorem dX5_nextToken_87 : decode cX5_nextToken 87 = .ok (.aload_n 0, 1) := by decide +kernel
theorem dX5_nextToken_88 : decode cX5_nextToken 88 = .ok (.aload_n 0, 1) := by decide +kernel
theorem dX5_nextToken_89 : decode cX5_nextToken 89 = .ok (.getfield 184, 3) := by decide +kernel
theorem dX5_nextToken_92 : decode cX5_nextToken 92 = .ok (.bipush 97, 2) := by decide +kernel
theorem dX5_nextToken_94 : decode cX5_nextToken 94 = .ok (.bipush 122, 2) := by decide +kernel
theorem dX5_nextToken_96 : decode cX5_nextToken 96 = .ok (.invokevirtual 187, 3) := by decide +kernel
theorem dX5_nextToken_99 : decode cX5_nextToken 99 = .ok (.ifCond .eq 28, 3) := by decide +kernel
theorem dX5_nextToken_102 : decode cX5_nextToken 102 = .ok (.aload_n 0, 1) := by decide +kernel
theorem dX5_nextToken_103 : decode cX5_nextToken 103 = .ok (.aload_n 0, 1) := by decide +kernel
theorem dX5_nextToken_104 : decode cX5_nextToken 104 = .ok (.bipush 97, 2) := by decide +kernel
theorem dX5_nextToken_106 : decode cX5_nextToken 106 = .ok (.bipush 122, 2) := by decide +kernel
theorem dX5_nextToken_108 : decode cX5_nextToken 108 = .ok (.invokevirtual 191, 3) := by decide +kernel
theorem dX5_nextToken_111 : decode cX5_nextToken 111 = .ok (.bipush 8, 2) := by decide +kernel
theorem dX5_nextToken_113 : decode cX5_nextToken 113 = .ok (.if_icmp .gt 7, 3) := by decide +kernel
theorem dX5_nextToken_116 : decode cX5_nextToken 116 = .ok (.iconst 2, 1) := by decide +kernel
theorem dX5_nextToken_117 : decode cX5_nextToken 117 = .ok (.goto 4, 3) := by decide +kernel
theorem dX5_nextToken_120 : decode cX5_nextToken 120 = .ok (.iconst 1, 1) := by decide +kernel
theorem dX5_nextToken_121 : decode cX5_nextToken 121 = .ok (.putfield 49, 3) := by decide +kernel
theorem dX5_nextToken_124 : decode cX5_nextToken 124 = .ok (.goto 75, 3) := by decide +kernel
theorem dX5_nextToken_127 : decode cX5_nextToken 127 = .ok (.aload_n 0, 1) := by decide +kernel
theorem dX5_nextToken_128 : decode cX5_nextToken 128 = .ok (.aload_n 0, 1) := by decide +kernel
theorem dX5_nextToken_129 : decode cX5_nextToken 129 = .ok (.getfield 184, 3) := by decide +kernel
theorem dX5_nextToken_132 : decode cX5_nextToken 132 = .ok (.bipush 48, 2) := by decide +kernel
theorem dX5_nextToken_134 : decode cX5_nextToken 134 = .ok (.bipush 57, 2) := by decide +kernel
theorem dX5_nextToken_136 : decode cX5_nextToken 136 = .ok (.invokevirtual 187, 3) := by decide +kernel
theorem dX5_nextToken_139 : decode cX5_nextToken 139 = .ok (.ifCond .eq 27, 3) := by decide +kernel
theorem dX5_nextToken_142 : decode cX5_nextToken 142 = .ok (.aload_n 0, 1) := by decide +kernel
theorem dX5_nextToken_143 : decode cX5_nextToken 143 = .ok (.aload_n 0, 1) := by decide +kernel
theorem dX5_nextToken_144 : decode cX5_nextToken 144 = .ok (.bipush 48, 2) := by decide +kernel
theorem dX5_nextToken_146 : decode cX5_nextToken 146 = .ok (.bipush 57, 2) := by decide +kernel
theorem dX5_nextToken_148 : decode cX5_nextToken 148 = .ok (.invokevirtual 191, 3) := by decide +kernel
theorem dX5_nextToken_151 : decode cX5_nextToken 151 = .ok (.iconst 5, 1) := by decide +kernel
theorem dX5_nextToken_152 : decode cX5_nextToken 152 = .ok (.if_icmp .gt 7, 3) := by decide +kernel
theorem dX5_nextToken_155 : decode cX5_nextToken 155 = .ok (.iconst 3, 1) := by decide +kernel
theorem dX5_nextToken_156 : decode cX5_nextToken 156 = .ok (.goto 4, 3) := by decide +kernel
theorem dX5_nextToken_159 : decode cX5_nextToken 159 = .ok (.iconst 1, 1) := by decide +kernel
theorem dX5_nextToken_160 : decode cX5_nextToken 160 = .ok (.putfield 49, 3) := by decide +kernel
theorem dX5_nextToken_163 : decode cX5_nextToken 163 = .ok (.goto 36, 3) := by decide +kernel
theorem dX5_nextToken_166 : decode cX5_nextToken 166 = .ok (.aload_n 0, 1) := by decide +kernel
theorem dX5_nextToken_167 : decode cX5_nextToken 167 = .ok (.aload_n 0, 1) := by decide +kernel
theorem dX5_nextToken_168 : decode cX5_nextToken 168 = .ok (.getfield 9, 3) := by decide +kernel
theorem dX5_nextToken_171 : decode cX5_nextToken 171 = .ok (.aload_n 0, 1) := by decide +kernel
theorem dX5_nextToken_172 : decode cX5_nextToken 172 = .ok (.getfield 184, 3) := by decide +kernel
theorem dX5_nextToken_175 : decode cX5_nextToken 175 = .ok (.baload, 1) := by decide +kernel
theorem dX5_nextToken_176 : decode cX5_nextToken 176 = .ok (.bipush 59, 2) := by decide +kernel
theorem dX5_nextToken_178 : decode cX5_nextToken 178 = .ok (.if_icmp .ne 7, 3) := by decide +kernel
theorem dX5_nextToken_181 : decode cX5_nextToken 181 = .ok (.iconst 4, 1) := by decide +kernel
theorem dX5_nextToken_182 : decode cX5_nextToken 182 = .ok (.goto 4, 3) := by decide +kernel
theorem dX5_nextToken_185 : decode cX5_nextToken 185 = .ok (.iconst 1, 1) := by decide +kernel
theorem dX5_nextToken_186 : decode cX5_nextToken 186 = .ok (.putfield 49, 3) := by decide +kernel
theorem dX5_nextToken_189 : decode cX5_nextToken 189 = .ok (.aload_n 0, 1) := by decide +kernel
theorem dX5_nextToken_190 : decode cX5_nextToken 190 = .ok (.dup, 1) := by decide +kernel
theorem dX5_nextToken_191 : decode cX5_nextToken 191 = .ok (.getfield 32, 3) := by decide +kernel
theorem dX5_nextToken_194 : decode cX5_nextToken 194 = .ok (.iconst 1, 1) := by decide +kernel
theorem dX5_nextToken_195 : decode cX5_nextToken 195 = .ok (.iadd, 1) := by decide +kernel
theorem dX5_nextToken_196 : decode cX5_nextToken 196 = .ok (.putfield 32, 3) := by decide +kernel
theorem dX5_nextToken_199 : decode cX5_nextToken 199 = .ok (.return_, 1) := by decide +kernel
theorem dX5_fail_0 : decode cX5_fail 0 = .ok (.aload_n 0, 1) := by decide +kernel
theorem dX5_fail_1 : decode cX5_fail 1 = .ok (.iload_n 1, 1) := by decide +kernel
theorem dX5_fail_2 : decode cX5_fail 2 = .ok (.putfield 35, 3) := by decide +kernel
theorem dX5_fail_5 : decode cX5_fail 5 = .ok (.aload_n 0, 1) := by decide +kernel
theorem dX5_fail_6 : decode cX5_fail 6 = .ok (.aload_n 0, 1) := by decide +kernel
theorem dX5_fail_7 : decode cX5_fail 7 = .ok (.getfield 184, 3) := by decide +kernel
theorem dX5_fail_10 : decode cX5_fail 10 = .ok (.putfield 38, 3) := by decide +kernel
theorem dX5_fail_13 : decode cX5_fail 13 = .ok (.iconst 0, 1) := by decide +kernel
theorem dX5_fail_14 : decode cX5_fail 14 = .ok (.ireturn, 1) := by decide +kernel
set_option maxRecDepth 20000 in
theorem ggX5_failUnexpected_X5_fail : GoodIn wsX5_failUnexpected wsX5_fail := goodIn_r _ [6, 7, 8, 9, 10, 11, 12, 13, 14, 15, 16, 17, 18] (by decide +kernel) (by decide +kernel)
set_option maxRecDepth 20000 in
theorem gX5_failUnexpected_X5_fail : GoodIn wsX5_failUnexpected (wsV RX5 70 RX5 yX5_fail wsX5_fail) := goodIn_app (goodIn_of _ (by decide +kernel)) ggX5_failUnexpected_X5_fail
theorem dX5_failUnexpected_0 : decode cX5_failUnexpected 0 = .ok (.aload_n 0, 1) := by decide +kernel
theorem dX5_failUnexpected_1 : decode cX5_failUnexpected 1 = .ok (.aload_n 0, 1) := by decide +kernel
theorem dX5_failUnexpected_2 : decode cX5_failUnexpected 2 = .ok (.getfield 49, 3) := by decide +kernel
theorem dX5_failUnexpected_5 : decode cX5_failUnexpected 5 = .ok (.iconst 1, 1) := by decide +kernel
theorem dX5_failUnexpected_6 : decode cX5_failUnexpected 6 = .ok (.if_icmp .ne 7, 3) := by decide +kernel
theorem dX5_failUnexpected_9 : decode cX5_failUnexpected 9 = .ok (.iconst 1, 1) := by decide +kernel
theorem dX5_failUnexpected_10 : decode cX5_failUnexpected 10 = .ok (.goto 4, 3) := by decide +kernel
theorem dX5_failUnexpected_13 : decode cX5_failUnexpected 13 = .ok (.iconst 2, 1) := by decide +kernel
theorem dX5_failUnexpected_14 : decode cX5_failUnexpected 14 = .ok (.invokevirtual 70, 3) := by decide +kernel
theorem dX5_failUnexpected_17 : decode cX5_failUnexpected 17 = .ok (.ireturn, 1) := by decide +kernel
theorem dX5_tokenValue_0 : decode cX5_tokenValue 0 = .ok (.iconst 0, 1) := by decide +kernel
theorem dX5_tokenValue_1 : decode cX5_tokenValue 1 = .ok (.istore_n 1, 1) := by decide +kernel
theorem dX5_tokenValue_2 : decode cX5_tokenValue 2 = .ok (.aload_n 0, 1) := by decide +kernel
theorem dX5_tokenValue_3 : decode cX5_tokenValue 3 = .ok (.getfield 184, 3) := by decide +kernel
theorem dX5_tokenValue_6 : decode cX5_tokenValue 6 = .ok (.istore_n 2, 1) := by decide +kernel
theorem dX5_tokenValue_7 : decode cX5_tokenValue 7 = .ok (.iload_n 2, 1) := by decide +kernel
theorem dX5_tokenValue_8 : decode cX5_tokenValue 8 = .ok (.aload_n 0, 1) := by decide +kernel
theorem dX5_tokenValue_9 : decode cX5_tokenValue 9 = .ok (.getfield 32, 3) := by decide +kernel
theorem dX5_tokenValue_12 : decode cX5_tokenValue 12 = .ok (.if_icmp .ge 24, 3) := by decide +kernel
theorem dX5_tokenValue_15 : decode cX5_tokenValue 15 = .ok (.iload_n 1, 1) := by decide +kernel
theorem dX5_tokenValue_16 : decode cX5_tokenValue 16 = .ok (.bipush 10, 2) := by decide +kernel
theorem dX5_tokenValue_18 : decode cX5_tokenValue 18 = .ok (.imul, 1) := by decide +kernel
theorem dX5_tokenValue_19 : decode cX5_tokenValue 19 = .ok (.aload_n 0, 1) := by decide +kernel
theorem dX5_tokenValue_20 : decode cX5_tokenValue 20 = .ok (.getfield 9, 3) := by decide +kernel
theorem dX5_tokenValue_23 : decode cX5_tokenValue 23 = .ok (.iload_n 2, 1) := by decide +kernel
theorem dX5_tokenValue_24 : decode cX5_tokenValue 24 = .ok (.baload, 1) := by decide +kernel
theorem dX5_tokenValue_25 : decode cX5_tokenValue 25 = .ok (.bipush 48, 2) := by decide +kernel
theorem dX5_tokenValue_27 : decode cX5_tokenValue 27 = .ok (.isub, 1) := by decide +kernel
theorem dX5_tokenValue_28 : decode cX5_tokenValue 28 = .ok (.iadd, 1) := by decide +kernel
theorem dX5_tokenValue_29 : decode cX5_tokenValue 29 = .ok (.istore_n 1, 1) := by decide +kernel
theorem dX5_tokenValue_30 : decode cX5_tokenValue 30 = .ok (.iinc 2 1, 3) := by decide +kernel
theorem dX5_tokenValue_33 : decode cX5_tokenValue 33 = .ok (.goto (-26), 3) := by decide +kernel
theorem dX5_tokenValue_36 : decode cX5_tokenValue 36 = .ok (.iload_n 1, 1) := by decide +kernel
theorem dX5_tokenValue_37 : decode cX5_tokenValue 37 = .ok (.ireturn, 1) := by decide +kernel
set_option maxRecDepth 20000 in
theorem ggX5_readNumber_X5_nextToken : GoodIn wsX5_readNumber wsX5_nextToken := goodIn_r _ [6, 7, 8, 9, 10, 1, 11, 12, 13, 5, 14, 15, 16, 17, 18, 33, 34, 35, 36, 37, 38, 39, 40, 41] (by decide +kernel) (by decide +kernel)
set_option maxRecDepth 20000 in
theorem gX5_readNumber_X5_nextToken : GoodIn wsX5_readNumber (wsV RX5 46 RX5 yX5_nextToken wsX5_nextToken) := goodIn_app (goodIn_of _ (by decide +kernel)) ggX5_readNumber_X5_nextToken
set_option maxRecDepth 20000 in
theorem ggX5_readNumber_X5_failUnexpected : GoodIn wsX5_readNumber wsX5_failUnexpected := goodIn_r _ [22, 1, 23, 24, 25, 5, 26, 27, 8, 28, 33, 34, 35, 36, 37, 38, 39, 40, 41] (by decide +kernel) (by decide +kernel)
set_option maxRecDepth 20000 in
theorem gX5_readNumber_X5_failUnexpected : GoodIn wsX5_readNumber (wsV RX5 104 RX5 yX5_failUnexpected wsX5_failUnexpected) := goodIn_app (goodIn_of _ (by decide +kernel)) ggX5_readNumber_X5_failUnexpected
set_option maxRecDepth 20000 in
theorem ggX5_readNumber_X5_tokenValue : GoodIn wsX5_readNumber wsX5_tokenValue := goodIn_r _ [32, 8, 7, 10, 33, 34, 35, 36, 37, 38, 39, 40, 41] (by decide +kernel) (by decide +kernel)
set_option maxRecDepth 20000 in
theorem gX5_readNumber_X5_tokenValue : GoodIn wsX5_readNumber (wsV RX5 181 RX5 yX5_tokenValue wsX5_tokenValue) := goodIn_app (goodIn_of _ (by decide +kernel)) ggX5_readNumber_X5_tokenValue
set_option maxRecDepth 20000 in
theorem ggX5_readNumber_X5_fail : GoodIn wsX5_readNumber wsX5_fail := goodIn_r _ [26, 27, 8, 28, 33, 34, 35, 36, 37, 38, 39, 40, 41] (by decide +kernel) (by decide +kernel)
set_option maxRecDepth 20000 in
theorem gX5_readNumber_X5_fail : GoodIn wsX5_readNumber (wsV RX5 70 RX5 yX5_fail wsX5_fail) := goodIn_app (goodIn_of _ (by decide +kernel)) ggX5_readNumber_X5_fail
theorem dX5_readNumber_0 : decode cX5_readNumber 0 = .ok (.aload_n 0, 1) := by decide +kernel
theorem dX5_readNumber_1 : decode cX5_readNumber 1 = .ok (.invokevirtual 46, 3) := by decide +kernel
theorem dX5_readNumber_4 : decode cX5_readNumber 4 = .ok (.aload_n 0, 1) := by decide +kernel
theorem dX5_readNumber_5 : decode cX5_readNumber 5 = .ok (.getfield 49, 3) := by decide +kernel
theorem dX5_readNumber_8 : decode cX5_readNumber 8 = .ok (.iconst 3, 1) := by decide +kernel
theorem dX5_readNumber_9 : decode cX5_readNumber 9 = .ok (.if_icmp .eq 10, 3) := by decide +kernel
theorem dX5_readNumber_12 : decode cX5_readNumber 12 = .ok (.aload_n 0, 1) := by decide +kernel
theorem dX5_readNumber_13 : decode cX5_readNumber 13 = .ok (.invokevirtual 104, 3) := by decide +kernel
theorem dX5_readNumber_16 : decode cX5_readNumber 16 = .ok (.pop, 1) := by decide +kernel
theorem dX5_readNumber_17 : decode cX5_readNumber 17 = .ok (.iconst (-1), 1) := by decide +kernel
theorem dX5_readNumber_18 : decode cX5_readNumber 18 = .ok (.ireturn, 1) := by decide +kernel
theorem dX5_readNumber_19 : decode cX5_readNumber 19 = .ok (.aload_n 0, 1) := by decide +kernel
theorem dX5_readNumber_20 : decode cX5_readNumber 20 = .ok (.invokevirtual 181, 3) := by decide +kernel
theorem dX5_readNumber_23 : decode cX5_readNumber 23 = .ok (.istore_n 3, 1) := by decide +kernel
theorem dX5_readNumber_24 : decode cX5_readNumber 24 = .ok (.iload_n 3, 1) := by decide +kernel
theorem dX5_readNumber_25 : decode cX5_readNumber 25 = .ok (.iload_n 1, 1) := by decide +kernel
theorem dX5_readNumber_26 : decode cX5_readNumber 26 = .ok (.if_icmp .lt 8, 3) := by decide +kernel
theorem dX5_readNumber_29 : decode cX5_readNumber 29 = .ok (.iload_n 3, 1) := by decide +kernel
theorem dX5_readNumber_30 : decode cX5_readNumber 30 = .ok (.iload_n 2, 1) := by decide +kernel
theorem dX5_readNumber_31 : decode cX5_readNumber 31 = .ok (.if_icmp .le 11, 3) := by decide +kernel
theorem dX5_readNumber_34 : decode cX5_readNumber 34 = .ok (.aload_n 0, 1) := by decide +kernel
theorem dX5_readNumber_35 : decode cX5_readNumber 35 = .ok (.iconst 3, 1) := by decide +kernel
theorem dX5_readNumber_36 : decode cX5_readNumber 36 = .ok (.invokevirtual 70, 3) := by decide +kernel
theorem dX5_readNumber_39 : decode cX5_readNumber 39 = .ok (.pop, 1) := by decide +kernel
theorem dX5_readNumber_40 : decode cX5_readNumber 40 = .ok (.iconst (-1), 1) := by decide +kernel
theorem dX5_readNumber_41 : decode cX5_readNumber 41 = .ok (.ireturn, 1) := by decide +kernel
theorem dX5_readNumber_42 : decode cX5_readNumber 42 = .ok (.iload_n 3, 1) := by decide +kernel
theorem dX5_readNumber_43 : decode cX5_readNumber 43 = .ok (.ireturn, 1) := by decide +kernel
set_option maxRecDepth 20000 in
theorem ggX5_readSlots_X5_readNumber : GoodIn wsX5_readSlots wsX5_readNumber := goodIn_r _ [6, 7, 8, 9, 10, 5, 11, 12, 13, 14, 15, 16, 17, 18, 19, 20, 21, 22, 23, 24, 25, 26, 27, 28, 29, 30, 31, 32, 33, 34, 35, 36, 37, 56, 57, 58, 59, 60, 61, 62, 63, 64] (by decide +kernel) (by decide +kernel)
set_option maxRecDepth 20000 in
theorem gX5_readSlots_X5_readNumber : GoodIn wsX5_readSlots (wsV RX5 107 RX5 yX5_readNumber wsX5_readNumber) := goodIn_app (goodIn_of _ (by decide +kernel)) ggX5_readSlots_X5_readNumber
theorem dX5_readSlots_0 : decode cX5_readSlots 0 = .ok (.aload_n 0, 1) := by decide +kernel
theorem dX5_readSlots_1 : decode cX5_readSlots 1 = .ok (.iconst 4, 1) := by decide +kernel
theorem dX5_readSlots_2 : decode cX5_readSlots 2 = .ok (.bipush 24, 2) := by decide +kernel
theorem dX5_readSlots_4 : decode cX5_readSlots 4 = .ok (.invokevirtual 107, 3) := by decide +kernel
theorem dX5_readSlots_7 : decode cX5_readSlots 7 = .ok (.istore_n 2, 1) := by decide +kernel
theorem dX5_readSlots_8 : decode cX5_readSlots 8 = .ok (.iload_n 2, 1) := by decide +kernel
theorem dX5_readSlots_9 : decode cX5_readSlots 9 = .ok (.iconst (-1), 1) := by decide +kernel
theorem dX5_readSlots_10 : decode cX5_readSlots 10 = .ok (.if_icmp .ne 5, 3) := by decide +kernel
theorem dX5_readSlots_13 : decode cX5_readSlots 13 = .ok (.iconst 0, 1) := by decide +kernel
theorem dX5_readSlots_14 : decode cX5_readSlots 14 = .ok (.ireturn, 1) := by decide +kernel
theorem dX5_readSlots_15 : decode cX5_readSlots 15 = .ok (.aload_n 1, 1) := by decide +kernel
theorem dX5_readSlots_16 : decode cX5_readSlots 16 = .ok (.iload_n 2, 1) := by decide +kernel
theorem dX5_readSlots_17 : decode cX5_readSlots 17 = .ok (.putfield 110, 3) := by decide +kernel
theorem dX5_readSlots_20 : decode cX5_readSlots 20 = .ok (.iconst 1, 1) := by decide +kernel
theorem dX5_readSlots_21 : decode cX5_readSlots 21 = .ok (.ireturn, 1) := by decide +kernel
set_option maxRecDepth 20000 in
theorem ggX5_readDrive_X5_fail : GoodIn wsX5_readDrive wsX5_fail := goodIn_r _ [7, 8, 9, 10, 67, 68, 69, 70, 71, 72, 73, 74, 75] (by decide +kernel) (by decide +kernel)
set_option maxRecDepth 20000 in
theorem gX5_readDrive_X5_fail : GoodIn wsX5_readDrive (wsV RX5 70 RX5 yX5_fail wsX5_fail) := goodIn_app (goodIn_of _ (by decide +kernel)) ggX5_readDrive_X5_fail
set_option maxRecDepth 20000 in
theorem ggX5_readDrive_X5_readNumber : GoodIn wsX5_readDrive wsX5_readNumber := goodIn_r _ [14, 15, 16, 17, 18, 6, 19, 20, 9, 21, 22, 23, 24, 25, 26, 27, 28, 29, 30, 31, 32, 33, 34, 3, 4, 5, 7, 8, 10, 35, 36, 37, 38, 67, 68, 69, 70, 71, 72, 73, 74, 75] (by decide +kernel) (by decide +kernel)
set_option maxRecDepth 20000 in
theorem gX5_readDrive_X5_readNumber : GoodIn wsX5_readDrive (wsV RX5 107 RX5 yX5_readNumber wsX5_readNumber) := goodIn_app (goodIn_of _ (by decide +kernel)) ggX5_readDrive_X5_readNumber
set_option maxRecDepth 20000 in
theorem ggX5_readDrive_X4_addDrive : GoodIn wsX5_readDrive wsX4_addDrive := goodIn_r _ [43, 44, 45, 46, 47, 48, 49, 50, 51, 52, 53, 54, 55, 56, 57, 58, 59, 60, 61, 62, 63, 64, 65, 66, 76, 77, 78] (by decide +kernel) (by decide +kernel)
set_option maxRecDepth 20000 in
theorem gX5_readDrive_X4_addDrive : GoodIn wsX5_readDrive (wsV RX5 116 RX4 yX4_addDrive wsX4_addDrive) := goodIn_app (goodIn_of _ (by decide +kernel)) ggX5_readDrive_X4_addDrive
theorem dX5_readDrive_0 : decode cX5_readDrive 0 = .ok (.aload_n 1, 1) := by decide +kernel
theorem dX5_readDrive_1 : decode cX5_readDrive 1 = .ok (.getfield 113, 3) := by decide +kernel
theorem dX5_readDrive_4 : decode cX5_readDrive 4 = .ok (.iconst 4, 1) := by decide +kernel
theorem dX5_readDrive_5 : decode cX5_readDrive 5 = .ok (.if_icmp .lt 9, 3) := by decide +kernel
theorem dX5_readDrive_8 : decode cX5_readDrive 8 = .ok (.aload_n 0, 1) := by decide +kernel
theorem dX5_readDrive_9 : decode cX5_readDrive 9 = .ok (.iconst 5, 1) := by decide +kernel
theorem dX5_readDrive_10 : decode cX5_readDrive 10 = .ok (.invokevirtual 70, 3) := by decide +kernel
theorem dX5_readDrive_13 : decode cX5_readDrive 13 = .ok (.ireturn, 1) := by decide +kernel
theorem dX5_readDrive_14 : decode cX5_readDrive 14 = .ok (.aload_n 0, 1) := by decide +kernel
theorem dX5_readDrive_15 : decode cX5_readDrive 15 = .ok (.iconst 0, 1) := by decide +kernel
theorem dX5_readDrive_16 : decode cX5_readDrive 16 = .ok (.aload_n 1, 1) := by decide +kernel
theorem dX5_readDrive_17 : decode cX5_readDrive 17 = .ok (.getfield 110, 3) := by decide +kernel
theorem dX5_readDrive_20 : decode cX5_readDrive 20 = .ok (.iconst 1, 1) := by decide +kernel
theorem dX5_readDrive_21 : decode cX5_readDrive 21 = .ok (.isub, 1) := by decide +kernel
theorem dX5_readDrive_22 : decode cX5_readDrive 22 = .ok (.invokevirtual 107, 3) := by decide +kernel
theorem dX5_readDrive_25 : decode cX5_readDrive 25 = .ok (.istore_n 2, 1) := by decide +kernel
theorem dX5_readDrive_26 : decode cX5_readDrive 26 = .ok (.iload_n 2, 1) := by decide +kernel
theorem dX5_readDrive_27 : decode cX5_readDrive 27 = .ok (.iconst (-1), 1) := by decide +kernel
theorem dX5_readDrive_28 : decode cX5_readDrive 28 = .ok (.if_icmp .ne 5, 3) := by decide +kernel
theorem dX5_readDrive_31 : decode cX5_readDrive 31 = .ok (.iconst 0, 1) := by decide +kernel
theorem dX5_readDrive_32 : decode cX5_readDrive 32 = .ok (.ireturn, 1) := by decide +kernel
theorem dX5_readDrive_33 : decode cX5_readDrive 33 = .ok (.aload_n 1, 1) := by decide +kernel
theorem dX5_readDrive_34 : decode cX5_readDrive 34 = .ok (.iload_n 2, 1) := by decide +kernel
theorem dX5_readDrive_35 : decode cX5_readDrive 35 = .ok (.invokevirtual 116, 3) := by decide +kernel
theorem dX5_readDrive_38 : decode cX5_readDrive 38 = .ok (.iconst 1, 1) := by decide +kernel
theorem dX5_readDrive_39 : decode cX5_readDrive 39 = .ok (.ireturn, 1) := by decide +kernel
set_option maxRecDepth 20000 in
theorem ggX5_readTimes_X5_readNumber : GoodIn wsX5_readTimes wsX5_readNumber := goodIn_r _ [6, 7, 8, 9, 10, 5, 11, 12, 13, 14, 15, 16, 17, 18, 19, 20, 21, 22, 23, 24, 25, 26, 27, 28, 29, 30, 31, 32, 33, 34, 35, 36, 37, 56, 57, 58, 59, 60, 61, 62, 63, 64] (by decide +kernel) (by decide +kernel)
set_option maxRecDepth 20000 in
theorem gX5_readTimes_X5_readNumber : GoodIn wsX5_readTimes (wsV RX5 107 RX5 yX5_readNumber wsX5_readNumber) := goodIn_app (goodIn_of _ (by decide +kernel)) ggX5_readTimes_X5_readNumber
theorem dX5_readTimes_0 : decode cX5_readTimes 0 = .ok (.iconst 0, 1) := by decide +kernel
theorem dX5_readTimes_1 : decode cX5_readTimes 1 = .ok (.istore_n 2, 1) := by decide +kernel
theorem dX5_readTimes_2 : decode cX5_readTimes 2 = .ok (.iload_n 2, 1) := by decide +kernel
theorem dX5_readTimes_3 : decode cX5_readTimes 3 = .ok (.iconst 5, 1) := by decide +kernel
theorem dX5_readTimes_4 : decode cX5_readTimes 4 = .ok (.if_icmp .ge 31, 3) := by decide +kernel
theorem dX5_readTimes_7 : decode cX5_readTimes 7 = .ok (.aload_n 0, 1) := by decide +kernel
theorem dX5_readTimes_8 : decode cX5_readTimes 8 = .ok (.iconst 0, 1) := by decide +kernel
theorem dX5_readTimes_9 : decode cX5_readTimes 9 = .ok (.bipush 99, 2) := by decide +kernel
theorem dX5_readTimes_11 : decode cX5_readTimes 11 = .ok (.invokevirtual 107, 3) := by decide +kernel
theorem dX5_readTimes_14 : decode cX5_readTimes 14 = .ok (.istore_n 3, 1) := by decide +kernel
theorem dX5_readTimes_15 : decode cX5_readTimes 15 = .ok (.iload_n 3, 1) := by decide +kernel
theorem dX5_readTimes_16 : decode cX5_readTimes 16 = .ok (.iconst (-1), 1) := by decide +kernel
theorem dX5_readTimes_17 : decode cX5_readTimes 17 = .ok (.if_icmp .ne 5, 3) := by decide +kernel
theorem dX5_readTimes_20 : decode cX5_readTimes 20 = .ok (.iconst 0, 1) := by decide +kernel
theorem dX5_readTimes_21 : decode cX5_readTimes 21 = .ok (.ireturn, 1) := by decide +kernel
theorem dX5_readTimes_22 : decode cX5_readTimes 22 = .ok (.aload_n 1, 1) := by decide +kernel
theorem dX5_readTimes_23 : decode cX5_readTimes 23 = .ok (.getfield 120, 3) := by decide +kernel
theorem dX5_readTimes_26 : decode cX5_readTimes 26 = .ok (.iload_n 2, 1) := by decide +kernel
theorem dX5_readTimes_27 : decode cX5_readTimes 27 = .ok (.iload_n 3, 1) := by decide +kernel
theorem dX5_readTimes_28 : decode cX5_readTimes 28 = .ok (.iastore, 1) := by decide +kernel
theorem dX5_readTimes_29 : decode cX5_readTimes 29 = .ok (.iinc 2 1, 3) := by decide +kernel
theorem dX5_readTimes_32 : decode cX5_readTimes 32 = .ok (.goto (-30), 3) := by decide +kernel
theorem dX5_readTimes_35 : decode cX5_readTimes 35 = .ok (.iconst 1, 1) := by decide +kernel
theorem dX5_readTimes_36 : decode cX5_readTimes 36 = .ok (.ireturn, 1) := by decide +kernel
set_option maxRecDepth 20000 in
theorem ggX5_readPlatter_X5_fail : GoodIn wsX5_readPlatter wsX5_fail := goodIn_r _ [7, 8, 9, 10, 85, 86, 87, 88, 89, 90, 91, 92, 93] (by decide +kernel) (by decide +kernel)
set_option maxRecDepth 20000 in
theorem gX5_readPlatter_X5_fail : GoodIn wsX5_readPlatter (wsV RX5 70 RX5 yX5_fail wsX5_fail) := goodIn_app (goodIn_of _ (by decide +kernel)) ggX5_readPlatter_X5_fail
set_option maxRecDepth 20000 in
theorem ggX5_readPlatter_X5_readNumber : GoodIn wsX5_readPlatter wsX5_readNumber := goodIn_r _ [14, 15, 16, 17, 18, 6, 19, 20, 9, 21, 22, 23, 24, 25, 26, 27, 28, 29, 30, 31, 32, 33, 34, 3, 4, 5, 7, 8, 10, 35, 36, 37, 38, 85, 86, 87, 88, 89, 90, 91, 92, 93] (by decide +kernel) (by decide +kernel)
set_option maxRecDepth 20000 in
theorem gX5_readPlatter_X5_readNumber : GoodIn wsX5_readPlatter (wsV RX5 107 RX5 yX5_readNumber wsX5_readNumber) := goodIn_app (goodIn_of _ (by decide +kernel)) ggX5_readPlatter_X5_readNumber
set_option maxRecDepth 20000 in
theorem ggX5_readPlatter_X4_platterWithHome : GoodIn wsX5_readPlatter wsX4_platterWithHome := goodIn_r _ [43, 44, 45, 46, 67, 68, 69, 70, 71, 72, 73, 74, 75, 76, 77, 78, 79, 80, 81, 82, 83, 84, 94, 95, 96, 97, 98, 99, 100, 101, 102] (by decide +kernel) (by decide +kernel)
set_option maxRecDepth 20000 in
theorem gX5_readPlatter_X4_platterWithHome : GoodIn wsX5_readPlatter (wsV RX5 127 RX4 yX4_platterWithHome wsX4_platterWithHome) := goodIn_app (goodIn_of _ (by decide +kernel)) ggX5_readPlatter_X4_platterWithHome
set_option maxRecDepth 20000 in
theorem ggX5_readPlatter_X4_addPlatter : GoodIn wsX5_readPlatter wsX4_addPlatter := goodIn_r _ [50, 44, 45, 51, 52, 53, 54, 55, 56, 57, 58, 59, 60, 61, 62, 63, 64, 65, 66, 67, 68, 69, 70, 71, 72, 73, 74, 75, 76, 77, 78, 79, 80, 81, 82, 83, 84, 94, 95, 96, 97, 98, 99, 100, 101, 102] (by decide +kernel) (by decide +kernel)
set_option maxRecDepth 20000 in
theorem gX5_readPlatter_X4_addPlatter : GoodIn wsX5_readPlatter (wsV RX5 131 RX4 yX4_addPlatter wsX4_addPlatter) := goodIn_app (goodIn_of _ (by decide +kernel)) ggX5_readPlatter_X4_addPlatter
theorem dX5_readPlatter_0 : decode cX5_readPlatter 0 = .ok (.aload_n 1, 1) := by decide +kernel
theorem dX5_readPlatter_1 : decode cX5_readPlatter 1 = .ok (.getfield 124, 3) := by decide +kernel
theorem dX5_readPlatter_4 : decode cX5_readPlatter 4 = .ok (.bipush 10, 2) := by decide +kernel
theorem dX5_readPlatter_6 : decode cX5_readPlatter 6 = .ok (.if_icmp .lt 9, 3) := by decide +kernel
theorem dX5_readPlatter_9 : decode cX5_readPlatter 9 = .ok (.aload_n 0, 1) := by decide +kernel
theorem dX5_readPlatter_10 : decode cX5_readPlatter 10 = .ok (.iconst 5, 1) := by decide +kernel
theorem dX5_readPlatter_11 : decode cX5_readPlatter 11 = .ok (.invokevirtual 70, 3) := by decide +kernel
theorem dX5_readPlatter_14 : decode cX5_readPlatter 14 = .ok (.ireturn, 1) := by decide +kernel
theorem dX5_readPlatter_15 : decode cX5_readPlatter 15 = .ok (.aload_n 0, 1) := by decide +kernel
theorem dX5_readPlatter_16 : decode cX5_readPlatter 16 = .ok (.iconst 0, 1) := by decide +kernel
theorem dX5_readPlatter_17 : decode cX5_readPlatter 17 = .ok (.aload_n 1, 1) := by decide +kernel
theorem dX5_readPlatter_18 : decode cX5_readPlatter 18 = .ok (.getfield 110, 3) := by decide +kernel
theorem dX5_readPlatter_21 : decode cX5_readPlatter 21 = .ok (.iconst 1, 1) := by decide +kernel
theorem dX5_readPlatter_22 : decode cX5_readPlatter 22 = .ok (.isub, 1) := by decide +kernel
theorem dX5_readPlatter_23 : decode cX5_readPlatter 23 = .ok (.invokevirtual 107, 3) := by decide +kernel
theorem dX5_readPlatter_26 : decode cX5_readPlatter 26 = .ok (.istore_n 2, 1) := by decide +kernel
theorem dX5_readPlatter_27 : decode cX5_readPlatter 27 = .ok (.iload_n 2, 1) := by decide +kernel
theorem dX5_readPlatter_28 : decode cX5_readPlatter 28 = .ok (.iconst (-1), 1) := by decide +kernel
theorem dX5_readPlatter_29 : decode cX5_readPlatter 29 = .ok (.if_icmp .ne 5, 3) := by decide +kernel
theorem dX5_readPlatter_32 : decode cX5_readPlatter 32 = .ok (.iconst 0, 1) := by decide +kernel
theorem dX5_readPlatter_33 : decode cX5_readPlatter 33 = .ok (.ireturn, 1) := by decide +kernel
theorem dX5_readPlatter_34 : decode cX5_readPlatter 34 = .ok (.aload_n 1, 1) := by decide +kernel
theorem dX5_readPlatter_35 : decode cX5_readPlatter 35 = .ok (.iload_n 2, 1) := by decide +kernel
theorem dX5_readPlatter_36 : decode cX5_readPlatter 36 = .ok (.invokevirtual 127, 3) := by decide +kernel
theorem dX5_readPlatter_39 : decode cX5_readPlatter 39 = .ok (.iconst (-1), 1) := by decide +kernel
theorem dX5_readPlatter_40 : decode cX5_readPlatter 40 = .ok (.if_icmp .eq 9, 3) := by decide +kernel
theorem dX5_readPlatter_43 : decode cX5_readPlatter 43 = .ok (.aload_n 0, 1) := by decide +kernel
theorem dX5_readPlatter_44 : decode cX5_readPlatter 44 = .ok (.iconst 4, 1) := by decide +kernel
theorem dX5_readPlatter_45 : decode cX5_readPlatter 45 = .ok (.invokevirtual 70, 3) := by decide +kernel
theorem dX5_readPlatter_48 : decode cX5_readPlatter 48 = .ok (.ireturn, 1) := by decide +kernel
theorem dX5_readPlatter_49 : decode cX5_readPlatter 49 = .ok (.aload_n 0, 1) := by decide +kernel
theorem dX5_readPlatter_50 : decode cX5_readPlatter 50 = .ok (.bipush 10, 2) := by decide +kernel
theorem dX5_readPlatter_52 : decode cX5_readPlatter 52 = .ok (.sipush 300, 3) := by decide +kernel
theorem dX5_readPlatter_55 : decode cX5_readPlatter 55 = .ok (.invokevirtual 107, 3) := by decide +kernel
theorem dX5_readPlatter_58 : decode cX5_readPlatter 58 = .ok (.istore_n 3, 1) := by decide +kernel
theorem dX5_readPlatter_59 : decode cX5_readPlatter 59 = .ok (.iload_n 3, 1) := by decide +kernel
theorem dX5_readPlatter_60 : decode cX5_readPlatter 60 = .ok (.iconst (-1), 1) := by decide +kernel
theorem dX5_readPlatter_61 : decode cX5_readPlatter 61 = .ok (.if_icmp .ne 5, 3) := by decide +kernel
theorem dX5_readPlatter_64 : decode cX5_readPlatter 64 = .ok (.iconst 0, 1) := by decide +kernel
theorem dX5_readPlatter_65 : decode cX5_readPlatter 65 = .ok (.ireturn, 1) := by decide +kernel
theorem dX5_readPlatter_66 : decode cX5_readPlatter 66 = .ok (.aload_n 0, 1) := by decide +kernel
theorem dX5_readPlatter_67 : decode cX5_readPlatter 67 = .ok (.iconst 0, 1) := by decide +kernel
theorem dX5_readPlatter_68 : decode cX5_readPlatter 68 = .ok (.bipush 9, 2) := by decide +kernel
theorem dX5_readPlatter_70 : decode cX5_readPlatter 70 = .ok (.invokevirtual 107, 3) := by decide +kernel
theorem dX5_readPlatter_73 : decode cX5_readPlatter 73 = .ok (.istore 4, 2) := by decide +kernel
theorem dX5_readPlatter_75 : decode cX5_readPlatter 75 = .ok (.iload 4, 2) := by decide +kernel
theorem dX5_readPlatter_77 : decode cX5_readPlatter 77 = .ok (.iconst (-1), 1) := by decide +kernel
theorem dX5_readPlatter_78 : decode cX5_readPlatter 78 = .ok (.if_icmp .ne 5, 3) := by decide +kernel
theorem dX5_readPlatter_81 : decode cX5_readPlatter 81 = .ok (.iconst 0, 1) := by decide +kernel
theorem dX5_readPlatter_82 : decode cX5_readPlatter 82 = .ok (.ireturn, 1) := by decide +kernel
theorem dX5_readPlatter_83 : decode cX5_readPlatter 83 = .ok (.aload_n 1, 1) := by decide +kernel
theorem dX5_readPlatter_84 : decode cX5_readPlatter 84 = .ok (.iload_n 2, 1) := by decide +kernel
theorem dX5_readPlatter_85 : decode cX5_readPlatter 85 = .ok (.iload_n 3, 1) := by decide +kernel
theorem dX5_readPlatter_86 : decode cX5_readPlatter 86 = .ok (.iload 4, 2) := by decide +kernel
theorem dX5_readPlatter_88 : decode cX5_readPlatter 88 = .ok (.invokevirtual 131, 3) := by decide +kernel
theorem dX5_readPlatter_91 : decode cX5_readPlatter 91 = .ok (.iconst 1, 1) := by decide +kernel
theorem dX5_readPlatter_92 : decode cX5_readPlatter 92 = .ok (.ireturn, 1) := by decide +kernel
set_option maxRecDepth 20000 in
theorem ggX5_readBad_X5_fail : GoodIn wsX5_readBad wsX5_fail := goodIn_r _ [9, 10, 11, 12, 100, 101, 102, 103, 104, 105, 106, 107, 108] (by decide +kernel) (by decide +kernel)
set_option maxRecDepth 20000 in
theorem gX5_readBad_X5_fail : GoodIn wsX5_readBad (wsV RX5 70 RX5 yX5_fail wsX5_fail) := goodIn_app (goodIn_of _ (by decide +kernel)) ggX5_readBad_X5_fail
set_option maxRecDepth 20000 in
theorem ggX5_readBad_X5_readNumber : GoodIn wsX5_readBad wsX5_readNumber := goodIn_r _ [16, 17, 18, 19, 20, 8, 21, 22, 11, 23, 24, 25, 26, 27, 28, 29, 30, 31, 32, 33, 34, 35, 36, 5, 6, 7, 9, 10, 12, 37, 38, 39, 40, 100, 101, 102, 103, 104, 105, 106, 107, 108] (by decide +kernel) (by decide +kernel)
set_option maxRecDepth 20000 in
theorem gX5_readBad_X5_readNumber : GoodIn wsX5_readBad (wsV RX5 107 RX5 yX5_readNumber wsX5_readNumber) := goodIn_app (goodIn_of _ (by decide +kernel)) ggX5_readBad_X5_readNumber
set_option maxRecDepth 20000 in
theorem ggX5_readBad_X3_isBad : GoodIn wsX5_readBad wsX3_isBad := goodIn_r _ [45, 46, 91, 92, 93, 94, 95, 96, 97, 98, 99] (by decide +kernel) (by decide +kernel)
set_option maxRecDepth 20000 in
theorem gX5_readBad_X3_isBad : GoodIn wsX5_readBad (wsV RX5 147 RX3 yX3_isBad wsX3_isBad) := goodIn_app (goodIn_of _ (by decide +kernel)) ggX5_readBad_X3_isBad
set_option maxRecDepth 20000 in
theorem ggX5_readBad_X4_spoil : GoodIn wsX5_readBad wsX4_spoil := goodIn_r _ [51, 52, 53, 54, 55, 56, 57, 58, 44, 59, 46, 60, 61, 62, 50, 63, 64, 65, 66, 67, 68, 69, 70, 71, 72, 73, 74, 75, 76, 77, 78, 79, 80, 81, 82, 83, 84, 85, 86, 87, 88, 89, 90, 109, 110, 111, 112, 113, 114, 115, 91, 92, 93, 94, 95, 96, 97, 98, 99] (by decide +kernel) (by decide +kernel)
set_option maxRecDepth 20000 in
theorem gX5_readBad_X4_spoil : GoodIn wsX5_readBad (wsV RX5 150 RX4 yX4_spoil wsX4_spoil) := goodIn_app (goodIn_of _ (by decide +kernel)) ggX5_readBad_X4_spoil
theorem dX5_readBad_0 : decode cX5_readBad 0 = .ok (.aload_n 1, 1) := by decide +kernel
theorem dX5_readBad_1 : decode cX5_readBad 1 = .ok (.getfield 135, 3) := by decide +kernel
theorem dX5_readBad_4 : decode cX5_readBad 4 = .ok (.bipush 20, 2) := by decide +kernel
theorem dX5_readBad_6 : decode cX5_readBad 6 = .ok (.if_icmp .lt 9, 3) := by decide +kernel
theorem dX5_readBad_9 : decode cX5_readBad 9 = .ok (.aload_n 0, 1) := by decide +kernel
theorem dX5_readBad_10 : decode cX5_readBad 10 = .ok (.iconst 5, 1) := by decide +kernel
theorem dX5_readBad_11 : decode cX5_readBad 11 = .ok (.invokevirtual 70, 3) := by decide +kernel
theorem dX5_readBad_14 : decode cX5_readBad 14 = .ok (.ireturn, 1) := by decide +kernel
theorem dX5_readBad_15 : decode cX5_readBad 15 = .ok (.aload_n 0, 1) := by decide +kernel
theorem dX5_readBad_16 : decode cX5_readBad 16 = .ok (.iconst 0, 1) := by decide +kernel
theorem dX5_readBad_17 : decode cX5_readBad 17 = .ok (.aload_n 1, 1) := by decide +kernel
theorem dX5_readBad_18 : decode cX5_readBad 18 = .ok (.getfield 124, 3) := by decide +kernel
theorem dX5_readBad_21 : decode cX5_readBad 21 = .ok (.iconst 1, 1) := by decide +kernel
theorem dX5_readBad_22 : decode cX5_readBad 22 = .ok (.isub, 1) := by decide +kernel
theorem dX5_readBad_23 : decode cX5_readBad 23 = .ok (.invokevirtual 107, 3) := by decide +kernel
theorem dX5_readBad_26 : decode cX5_readBad 26 = .ok (.istore_n 2, 1) := by decide +kernel
theorem dX5_readBad_27 : decode cX5_readBad 27 = .ok (.iload_n 2, 1) := by decide +kernel
theorem dX5_readBad_28 : decode cX5_readBad 28 = .ok (.iconst (-1), 1) := by decide +kernel
theorem dX5_readBad_29 : decode cX5_readBad 29 = .ok (.if_icmp .ne 5, 3) := by decide +kernel
theorem dX5_readBad_32 : decode cX5_readBad 32 = .ok (.iconst 0, 1) := by decide +kernel
theorem dX5_readBad_33 : decode cX5_readBad 33 = .ok (.ireturn, 1) := by decide +kernel
theorem dX5_readBad_34 : decode cX5_readBad 34 = .ok (.aload_n 0, 1) := by decide +kernel
theorem dX5_readBad_35 : decode cX5_readBad 35 = .ok (.iconst 0, 1) := by decide +kernel
theorem dX5_readBad_36 : decode cX5_readBad 36 = .ok (.aload_n 1, 1) := by decide +kernel
theorem dX5_readBad_37 : decode cX5_readBad 37 = .ok (.getfield 138, 3) := by decide +kernel
theorem dX5_readBad_40 : decode cX5_readBad 40 = .ok (.iload_n 2, 1) := by decide +kernel
theorem dX5_readBad_41 : decode cX5_readBad 41 = .ok (.aaload, 1) := by decide +kernel
theorem dX5_readBad_42 : decode cX5_readBad 42 = .ok (.getfield 142, 3) := by decide +kernel
theorem dX5_readBad_45 : decode cX5_readBad 45 = .ok (.iconst 1, 1) := by decide +kernel
theorem dX5_readBad_46 : decode cX5_readBad 46 = .ok (.isub, 1) := by decide +kernel
theorem dX5_readBad_47 : decode cX5_readBad 47 = .ok (.invokevirtual 107, 3) := by decide +kernel
theorem dX5_readBad_50 : decode cX5_readBad 50 = .ok (.istore_n 3, 1) := by decide +kernel
theorem dX5_readBad_51 : decode cX5_readBad 51 = .ok (.iload_n 3, 1) := by decide +kernel
theorem dX5_readBad_52 : decode cX5_readBad 52 = .ok (.iconst (-1), 1) := by decide +kernel
theorem dX5_readBad_53 : decode cX5_readBad 53 = .ok (.if_icmp .ne 5, 3) := by decide +kernel
theorem dX5_readBad_56 : decode cX5_readBad 56 = .ok (.iconst 0, 1) := by decide +kernel
theorem dX5_readBad_57 : decode cX5_readBad 57 = .ok (.ireturn, 1) := by decide +kernel
theorem dX5_readBad_58 : decode cX5_readBad 58 = .ok (.aload_n 1, 1) := by decide +kernel
theorem dX5_readBad_59 : decode cX5_readBad 59 = .ok (.getfield 138, 3) := by decide +kernel
theorem dX5_readBad_62 : decode cX5_readBad 62 = .ok (.iload_n 2, 1) := by decide +kernel
theorem dX5_readBad_63 : decode cX5_readBad 63 = .ok (.aaload, 1) := by decide +kernel
theorem dX5_readBad_64 : decode cX5_readBad 64 = .ok (.iload_n 3, 1) := by decide +kernel
theorem dX5_readBad_65 : decode cX5_readBad 65 = .ok (.invokevirtual 147, 3) := by decide +kernel
theorem dX5_readBad_68 : decode cX5_readBad 68 = .ok (.ifCond .eq 9, 3) := by decide +kernel
theorem dX5_readBad_71 : decode cX5_readBad 71 = .ok (.aload_n 0, 1) := by decide +kernel
theorem dX5_readBad_72 : decode cX5_readBad 72 = .ok (.iconst 4, 1) := by decide +kernel
theorem dX5_readBad_73 : decode cX5_readBad 73 = .ok (.invokevirtual 70, 3) := by decide +kernel
theorem dX5_readBad_76 : decode cX5_readBad 76 = .ok (.ireturn, 1) := by decide +kernel
theorem dX5_readBad_77 : decode cX5_readBad 77 = .ok (.aload_n 1, 1) := by decide +kernel
theorem dX5_readBad_78 : decode cX5_readBad 78 = .ok (.iload_n 2, 1) := by decide +kernel
theorem dX5_readBad_79 : decode cX5_readBad 79 = .ok (.iload_n 3, 1) := by decide +kernel
theorem dX5_readBad_80 : decode cX5_readBad 80 = .ok (.invokevirtual 150, 3) := by decide +kernel
theorem dX5_readBad_83 : decode cX5_readBad 83 = .ok (.iconst 1, 1) := by decide +kernel
theorem dX5_readBad_84 : decode cX5_readBad 84 = .ok (.ireturn, 1) := by decide +kernel
set_option maxRecDepth 20000 in
theorem ggX5_isReserved_X5_wordIs : GoodIn wsX5_isReserved wsX5_wordIs := goodIn_r _ [5, 6, 7, 8, 9, 10, 11, 12, 13, 14, 15, 16, 17, 18, 19, 20, 21, 22, 23, 24, 25, 26, 27, 28, 29, 30, 31, 32, 33, 34, 35, 36, 37, 38, 39, 40, 41, 42, 43, 44, 45, 46, 47, 48, 49, 50, 51, 52, 53, 54, 55, 56, 57, 58, 59, 60, 61, 62, 63, 64, 65, 66, 67] (by decide +kernel) (by decide +kernel)
set_option maxRecDepth 20000 in
theorem gX5_isReserved_X5_wordIs : GoodIn wsX5_isReserved (wsV RX5 62 RX5 yX5_wordIs wsX5_wordIs) := goodIn_app (goodIn_of _ (by decide +kernel)) ggX5_isReserved_X5_wordIs
theorem dX5_isReserved_0 : decode cX5_isReserved 0 = .ok (.aload_n 0, 1) := by decide +kernel
theorem dX5_isReserved_1 : decode cX5_isReserved 1 = .ok (.ldc 60, 2) := by decide +kernel
theorem dX5_isReserved_3 : decode cX5_isReserved 3 = .ok (.invokevirtual 62, 3) := by decide +kernel
theorem dX5_isReserved_6 : decode cX5_isReserved 6 = .ok (.ifCond .ne 57, 3) := by decide +kernel
theorem dX5_isReserved_9 : decode cX5_isReserved 9 = .ok (.aload_n 0, 1) := by decide +kernel
theorem dX5_isReserved_10 : decode cX5_isReserved 10 = .ok (.ldc 74, 2) := by decide +kernel
theorem dX5_isReserved_12 : decode cX5_isReserved 12 = .ok (.invokevirtual 62, 3) := by decide +kernel
theorem dX5_isReserved_15 : decode cX5_isReserved 15 = .ok (.ifCond .ne 48, 3) := by decide +kernel
theorem dX5_isReserved_18 : decode cX5_isReserved 18 = .ok (.aload_n 0, 1) := by decide +kernel
theorem dX5_isReserved_19 : decode cX5_isReserved 19 = .ok (.ldc 79, 2) := by decide +kernel
theorem dX5_isReserved_21 : decode cX5_isReserved 21 = .ok (.invokevirtual 62, 3) := by decide +kernel
theorem dX5_isReserved_24 : decode cX5_isReserved 24 = .ok (.ifCond .ne 39, 3) := by decide +kernel
theorem dX5_isReserved_27 : decode cX5_isReserved 27 = .ok (.aload_n 0, 1) := by decide +kernel
theorem dX5_isReserved_28 : decode cX5_isReserved 28 = .ok (.ldc 84, 2) := by decide +kernel
theorem dX5_isReserved_30 : decode cX5_isReserved 30 = .ok (.invokevirtual 62, 3) := by decide +kernel
theorem dX5_isReserved_33 : decode cX5_isReserved 33 = .ok (.ifCond .ne 30, 3) := by decide +kernel
theorem dX5_isReserved_36 : decode cX5_isReserved 36 = .ok (.aload_n 0, 1) := by decide +kernel
theorem dX5_isReserved_37 : decode cX5_isReserved 37 = .ok (.ldc 89, 2) := by decide +kernel
theorem dX5_isReserved_39 : decode cX5_isReserved 39 = .ok (.invokevirtual 62, 3) := by decide +kernel
theorem dX5_isReserved_42 : decode cX5_isReserved 42 = .ok (.ifCond .ne 21, 3) := by decide +kernel
theorem dX5_isReserved_45 : decode cX5_isReserved 45 = .ok (.aload_n 0, 1) := by decide +kernel
theorem dX5_isReserved_46 : decode cX5_isReserved 46 = .ok (.ldc 94, 2) := by decide +kernel
theorem dX5_isReserved_48 : decode cX5_isReserved 48 = .ok (.invokevirtual 62, 3) := by decide +kernel
theorem dX5_isReserved_51 : decode cX5_isReserved 51 = .ok (.ifCond .ne 12, 3) := by decide +kernel
theorem dX5_isReserved_54 : decode cX5_isReserved 54 = .ok (.aload_n 0, 1) := by decide +kernel
theorem dX5_isReserved_55 : decode cX5_isReserved 55 = .ok (.ldc 99, 2) := by decide +kernel
theorem dX5_isReserved_57 : decode cX5_isReserved 57 = .ok (.invokevirtual 62, 3) := by decide +kernel
theorem dX5_isReserved_60 : decode cX5_isReserved 60 = .ok (.ifCond .eq 7, 3) := by decide +kernel
theorem dX5_isReserved_63 : decode cX5_isReserved 63 = .ok (.iconst 1, 1) := by decide +kernel
theorem dX5_isReserved_64 : decode cX5_isReserved 64 = .ok (.goto 4, 3) := by decide +kernel
theorem dX5_isReserved_67 : decode cX5_isReserved 67 = .ok (.iconst 0, 1) := by decide +kernel
theorem dX5_isReserved_68 : decode cX5_isReserved 68 = .ok (.ireturn, 1) := by decide +kernel
theorem dX5_wordNumber_0 : decode cX5_wordNumber 0 = .ok (.lconst 0, 1) := by decide +kernel
theorem dX5_wordNumber_1 : decode cX5_wordNumber 1 = .ok (.lstore_n 1, 1) := by decide +kernel
theorem dX5_wordNumber_2 : decode cX5_wordNumber 2 = .ok (.aload_n 0, 1) := by decide +kernel
theorem dX5_wordNumber_3 : decode cX5_wordNumber 3 = .ok (.getfield 184, 3) := by decide +kernel
theorem dX5_wordNumber_6 : decode cX5_wordNumber 6 = .ok (.istore_n 3, 1) := by decide +kernel
theorem dX5_wordNumber_7 : decode cX5_wordNumber 7 = .ok (.iload_n 3, 1) := by decide +kernel
theorem dX5_wordNumber_8 : decode cX5_wordNumber 8 = .ok (.aload_n 0, 1) := by decide +kernel
theorem dX5_wordNumber_9 : decode cX5_wordNumber 9 = .ok (.getfield 32, 3) := by decide +kernel
theorem dX5_wordNumber_12 : decode cX5_wordNumber 12 = .ok (.if_icmp .ge 28, 3) := by decide +kernel
theorem dX5_wordNumber_15 : decode cX5_wordNumber 15 = .ok (.lload_n 1, 1) := by decide +kernel
theorem dX5_wordNumber_16 : decode cX5_wordNumber 16 = .ok (.ldc2_w 202, 3) := by decide +kernel
theorem dX5_wordNumber_19 : decode cX5_wordNumber 19 = .ok (.lmul, 1) := by decide +kernel
theorem dX5_wordNumber_20 : decode cX5_wordNumber 20 = .ok (.aload_n 0, 1) := by decide +kernel
theorem dX5_wordNumber_21 : decode cX5_wordNumber 21 = .ok (.getfield 9, 3) := by decide +kernel
theorem dX5_wordNumber_24 : decode cX5_wordNumber 24 = .ok (.iload_n 3, 1) := by decide +kernel
theorem dX5_wordNumber_25 : decode cX5_wordNumber 25 = .ok (.baload, 1) := by decide +kernel
theorem dX5_wordNumber_26 : decode cX5_wordNumber 26 = .ok (.bipush 97, 2) := by decide +kernel
theorem dX5_wordNumber_28 : decode cX5_wordNumber 28 = .ok (.isub, 1) := by decide +kernel
theorem dX5_wordNumber_29 : decode cX5_wordNumber 29 = .ok (.iconst 1, 1) := by decide +kernel
theorem dX5_wordNumber_30 : decode cX5_wordNumber 30 = .ok (.iadd, 1) := by decide +kernel
theorem dX5_wordNumber_31 : decode cX5_wordNumber 31 = .ok (.i2l, 1) := by decide +kernel
theorem dX5_wordNumber_32 : decode cX5_wordNumber 32 = .ok (.ladd, 1) := by decide +kernel
theorem dX5_wordNumber_33 : decode cX5_wordNumber 33 = .ok (.lstore_n 1, 1) := by decide +kernel
theorem dX5_wordNumber_34 : decode cX5_wordNumber 34 = .ok (.iinc 3 1, 3) := by decide +kernel
theorem dX5_wordNumber_37 : decode cX5_wordNumber 37 = .ok (.goto (-30), 3) := by decide +kernel
theorem dX5_wordNumber_40 : decode cX5_wordNumber 40 = .ok (.lload_n 1, 1) := by decide +kernel
theorem dX5_wordNumber_41 : decode cX5_wordNumber 41 = .ok (.lreturn, 1) := by decide +kernel
set_option maxRecDepth 20000 in
theorem ggX5_keepName_X5_wordNumber : GoodIn wsX5_keepName wsX5_wordNumber := goodIn_r _ [6, 7, 8, 9, 10, 11, 12, 13, 14, 15, 16, 17, 18, 19] (by decide +kernel) (by decide +kernel)
set_option maxRecDepth 20000 in
theorem gX5_keepName_X5_wordNumber : GoodIn wsX5_keepName (wsV RX5 177 RX5 yX5_wordNumber wsX5_wordNumber) := goodIn_app (goodIn_of _ (by decide +kernel)) ggX5_keepName_X5_wordNumber
theorem dX5_keepName_0 : decode cX5_keepName 0 = .ok (.aload_n 0, 1) := by decide +kernel
theorem dX5_keepName_1 : decode cX5_keepName 1 = .ok (.invokevirtual 177, 3) := by decide +kernel
theorem dX5_keepName_4 : decode cX5_keepName 4 = .ok (.lstore_n 2, 1) := by decide +kernel
theorem dX5_keepName_5 : decode cX5_keepName 5 = .ok (.iconst 0, 1) := by decide +kernel
theorem dX5_keepName_6 : decode cX5_keepName 6 = .ok (.istore 4, 2) := by decide +kernel
theorem dX5_keepName_8 : decode cX5_keepName 8 = .ok (.iload 4, 2) := by decide +kernel
theorem dX5_keepName_10 : decode cX5_keepName 10 = .ok (.iload_n 1, 1) := by decide +kernel
theorem dX5_keepName_11 : decode cX5_keepName 11 = .ok (.if_icmp .ge 23, 3) := by decide +kernel
theorem dX5_keepName_14 : decode cX5_keepName 14 = .ok (.aload_n 0, 1) := by decide +kernel
theorem dX5_keepName_15 : decode cX5_keepName 15 = .ok (.getfield 15, 3) := by decide +kernel
theorem dX5_keepName_18 : decode cX5_keepName 18 = .ok (.iload 4, 2) := by decide +kernel
theorem dX5_keepName_20 : decode cX5_keepName 20 = .ok (.laload, 1) := by decide +kernel
theorem dX5_keepName_21 : decode cX5_keepName 21 = .ok (.lload_n 2, 1) := by decide +kernel
theorem dX5_keepName_22 : decode cX5_keepName 22 = .ok (.lcmp, 1) := by decide +kernel
theorem dX5_keepName_23 : decode cX5_keepName 23 = .ok (.ifCond .ne 5, 3) := by decide +kernel
theorem dX5_keepName_26 : decode cX5_keepName 26 = .ok (.iconst 0, 1) := by decide +kernel
theorem dX5_keepName_27 : decode cX5_keepName 27 = .ok (.ireturn, 1) := by decide +kernel
theorem dX5_keepName_28 : decode cX5_keepName 28 = .ok (.iinc 4 1, 3) := by decide +kernel
theorem dX5_keepName_31 : decode cX5_keepName 31 = .ok (.goto (-23), 3) := by decide +kernel
theorem dX5_keepName_34 : decode cX5_keepName 34 = .ok (.aload_n 0, 1) := by decide +kernel
theorem dX5_keepName_35 : decode cX5_keepName 35 = .ok (.getfield 15, 3) := by decide +kernel
theorem dX5_keepName_38 : decode cX5_keepName 38 = .ok (.iload_n 1, 1) := by decide +kernel
theorem dX5_keepName_39 : decode cX5_keepName 39 = .ok (.lload_n 2, 1) := by decide +kernel
theorem dX5_keepName_40 : decode cX5_keepName 40 = .ok (.lastore, 1) := by decide +kernel
theorem dX5_keepName_41 : decode cX5_keepName 41 = .ok (.iconst 1, 1) := by decide +kernel
theorem dX5_keepName_42 : decode cX5_keepName 42 = .ok (.ireturn, 1) := by decide +kernel
set_option maxRecDepth 20000 in
theorem ggX5_readNewFile_X5_fail : GoodIn wsX5_readNewFile wsX5_fail := goodIn_r _ [9, 10, 11, 12, 187, 188, 189, 190, 191, 192, 193, 194, 195] (by decide +kernel) (by decide +kernel)
set_option maxRecDepth 20000 in
theorem gX5_readNewFile_X5_fail : GoodIn wsX5_readNewFile (wsV RX5 70 RX5 yX5_fail wsX5_fail) := goodIn_app (goodIn_of _ (by decide +kernel)) ggX5_readNewFile_X5_fail
set_option maxRecDepth 20000 in
theorem ggX5_readNewFile_X5_nextToken : GoodIn wsX5_readNewFile wsX5_nextToken := goodIn_r _ [16, 17, 11, 18, 19, 2, 20, 21, 22, 8, 23, 24, 25, 26, 27, 187, 188, 189, 190, 191, 192, 193, 194, 195] (by decide +kernel) (by decide +kernel)
set_option maxRecDepth 20000 in
theorem gX5_readNewFile_X5_nextToken : GoodIn wsX5_readNewFile (wsV RX5 46 RX5 yX5_nextToken wsX5_nextToken) := goodIn_app (goodIn_of _ (by decide +kernel)) ggX5_readNewFile_X5_nextToken
set_option maxRecDepth 20000 in
theorem ggX5_readNewFile_X5_isReserved : GoodIn wsX5_readNewFile wsX5_isReserved := goodIn_r _ [31, 32, 33, 34, 8, 35, 2, 17, 11, 19, 36, 37, 38, 39, 40, 41, 42, 43, 44, 45, 46, 47, 48, 49, 50, 51, 52, 53, 54, 55, 56, 57, 58, 59, 60, 61, 62, 63, 64, 65, 66, 67, 68, 69, 70, 71, 72, 73, 74, 75, 76, 77, 78, 79, 80, 81, 82, 83, 84, 187, 188, 189, 190, 191, 192, 193, 194, 195] (by decide +kernel) (by decide +kernel)
set_option maxRecDepth 20000 in
theorem gX5_readNewFile_X5_isReserved : GoodIn wsX5_readNewFile (wsV RX5 157 RX5 yX5_isReserved wsX5_isReserved) := goodIn_app (goodIn_of _ (by decide +kernel)) ggX5_readNewFile_X5_isReserved
set_option maxRecDepth 20000 in
theorem ggX5_readNewFile_X5_failUnexpected : GoodIn wsX5_readNewFile wsX5_failUnexpected := goodIn_r _ [88, 2, 5, 6, 7, 8, 9, 10, 11, 12, 187, 188, 189, 190, 191, 192, 193, 194, 195] (by decide +kernel) (by decide +kernel)
set_option maxRecDepth 20000 in
theorem gX5_readNewFile_X5_failUnexpected : GoodIn wsX5_readNewFile (wsV RX5 104 RX5 yX5_failUnexpected wsX5_failUnexpected) := goodIn_app (goodIn_of _ (by decide +kernel)) ggX5_readNewFile_X5_failUnexpected
set_option maxRecDepth 20000 in
theorem ggX5_readNewFile_X5_keepName : GoodIn wsX5_readNewFile wsX5_keepName := goodIn_r _ [92, 93, 94, 95, 96, 8, 97, 11, 17, 98, 19, 187, 188, 189, 190, 191, 192, 193, 194, 195] (by decide +kernel) (by decide +kernel)
set_option maxRecDepth 20000 in
theorem gX5_readNewFile_X5_keepName : GoodIn wsX5_readNewFile (wsV RX5 160 RX5 yX5_keepName wsX5_keepName) := goodIn_app (goodIn_of _ (by decide +kernel)) ggX5_readNewFile_X5_keepName
set_option maxRecDepth 20000 in
theorem ggX5_readNewFile_X5_readNumber : GoodIn wsX5_readNewFile wsX5_readNumber := goodIn_r _ [102, 2, 13, 14, 15, 8, 16, 17, 11, 18, 19, 20, 21, 22, 23, 24, 25, 26, 27, 85, 86, 87, 88, 5, 6, 7, 9, 10, 12, 103, 104, 105, 106, 187, 188, 189, 190, 191, 192, 193, 194, 195] (by decide +kernel) (by decide +kernel)
set_option maxRecDepth 20000 in
theorem gX5_readNewFile_X5_readNumber : GoodIn wsX5_readNewFile (wsV RX5 107 RX5 yX5_readNumber wsX5_readNumber) := goodIn_app (goodIn_of _ (by decide +kernel)) ggX5_readNewFile_X5_readNumber
set_option maxRecDepth 20000 in
theorem ggX5_readNewFile_X3_canTake : GoodIn wsX5_readNewFile wsX3_canTake := goodIn_r _ [111, 112, 113, 114, 115, 116, 117, 110, 118, 119, 120, 121, 122, 123, 124, 125, 126, 127, 128, 129, 196, 197, 198, 199, 200, 201, 202, 203, 204] (by decide +kernel) (by decide +kernel)
set_option maxRecDepth 20000 in
theorem gX5_readNewFile_X3_canTake : GoodIn wsX5_readNewFile (wsV RX5 163 RX3 yX3_canTake wsX3_canTake) := goodIn_app (goodIn_of _ (by decide +kernel)) ggX5_readNewFile_X3_canTake
set_option maxRecDepth 20000 in
theorem ggX5_readNewFile_X4_addVersion : GoodIn wsX5_readNewFile wsX4_addVersion := goodIn_r _ [134, 135, 136, 137, 138, 139, 140, 141, 142, 143, 144, 145, 146, 147, 148, 149, 150, 133, 151, 152, 153, 154, 155, 156, 157, 158, 122, 123, 110, 124, 120, 125, 126, 127, 128, 129, 159, 160, 161, 162, 112, 113, 163, 164, 114, 165, 166, 167, 168, 169, 170, 171, 172, 173, 174, 175, 176, 177, 178, 179, 180, 181, 182, 183, 184, 185, 186, 205, 206, 207, 208, 209, 210, 211, 196, 197, 198, 199, 200, 201, 202, 203, 204] (by decide +kernel) (by decide +kernel)
set_option maxRecDepth 20000 in
theorem gX5_readNewFile_X4_addVersion : GoodIn wsX5_readNewFile (wsV RX5 166 RX4 yX4_addVersion wsX4_addVersion) := goodIn_app (goodIn_of _ (by decide +kernel)) ggX5_readNewFile_X4_addVersion
theorem dX5_readNewFile_0 : decode cX5_readNewFile 0 = .ok (.aload_n 1, 1) := by decide +kernel
theorem dX5_readNewFile_1 : decode cX5_readNewFile 1 = .ok (.getfield 154, 3) := by decide +kernel
theorem dX5_readNewFile_4 : decode cX5_readNewFile 4 = .ok (.bipush 20, 2) := by decide +kernel
theorem dX5_readNewFile_6 : decode cX5_readNewFile 6 = .ok (.if_icmp .lt 9, 3) := by decide +kernel
theorem dX5_readNewFile_9 : decode cX5_readNewFile 9 = .ok (.aload_n 0, 1) := by decide +kernel
theorem dX5_readNewFile_10 : decode cX5_readNewFile 10 = .ok (.iconst 5, 1) := by decide +kernel
theorem dX5_readNewFile_11 : decode cX5_readNewFile 11 = .ok (.invokevirtual 70, 3) := by decide +kernel
theorem dX5_readNewFile_14 : decode cX5_readNewFile 14 = .ok (.ireturn, 1) := by decide +kernel
theorem dX5_readNewFile_15 : decode cX5_readNewFile 15 = .ok (.aload_n 0, 1) := by decide +kernel
theorem dX5_readNewFile_16 : decode cX5_readNewFile 16 = .ok (.invokevirtual 46, 3) := by decide +kernel
theorem dX5_readNewFile_19 : decode cX5_readNewFile 19 = .ok (.aload_n 0, 1) := by decide +kernel
theorem dX5_readNewFile_20 : decode cX5_readNewFile 20 = .ok (.getfield 49, 3) := by decide +kernel
theorem dX5_readNewFile_23 : decode cX5_readNewFile 23 = .ok (.iconst 2, 1) := by decide +kernel
theorem dX5_readNewFile_24 : decode cX5_readNewFile 24 = .ok (.if_icmp .ne 10, 3) := by decide +kernel
theorem dX5_readNewFile_27 : decode cX5_readNewFile 27 = .ok (.aload_n 0, 1) := by decide +kernel
theorem dX5_readNewFile_28 : decode cX5_readNewFile 28 = .ok (.invokevirtual 157, 3) := by decide +kernel
theorem dX5_readNewFile_31 : decode cX5_readNewFile 31 = .ok (.ifCond .eq 8, 3) := by decide +kernel
theorem dX5_readNewFile_34 : decode cX5_readNewFile 34 = .ok (.aload_n 0, 1) := by decide +kernel
theorem dX5_readNewFile_35 : decode cX5_readNewFile 35 = .ok (.invokevirtual 104, 3) := by decide +kernel
theorem dX5_readNewFile_38 : decode cX5_readNewFile 38 = .ok (.ireturn, 1) := by decide +kernel
theorem dX5_readNewFile_39 : decode cX5_readNewFile 39 = .ok (.aload_n 0, 1) := by decide +kernel
theorem dX5_readNewFile_40 : decode cX5_readNewFile 40 = .ok (.aload_n 1, 1) := by decide +kernel
theorem dX5_readNewFile_41 : decode cX5_readNewFile 41 = .ok (.getfield 154, 3) := by decide +kernel
theorem dX5_readNewFile_44 : decode cX5_readNewFile 44 = .ok (.invokevirtual 160, 3) := by decide +kernel
theorem dX5_readNewFile_47 : decode cX5_readNewFile 47 = .ok (.ifCond .ne 9, 3) := by decide +kernel
theorem dX5_readNewFile_50 : decode cX5_readNewFile 50 = .ok (.aload_n 0, 1) := by decide +kernel
theorem dX5_readNewFile_51 : decode cX5_readNewFile 51 = .ok (.iconst 4, 1) := by decide +kernel
theorem dX5_readNewFile_52 : decode cX5_readNewFile 52 = .ok (.invokevirtual 70, 3) := by decide +kernel
theorem dX5_readNewFile_55 : decode cX5_readNewFile 55 = .ok (.ireturn, 1) := by decide +kernel
theorem dX5_readNewFile_56 : decode cX5_readNewFile 56 = .ok (.aload_n 0, 1) := by decide +kernel
theorem dX5_readNewFile_57 : decode cX5_readNewFile 57 = .ok (.iconst 1, 1) := by decide +kernel
theorem dX5_readNewFile_58 : decode cX5_readNewFile 58 = .ok (.sipush 300, 3) := by decide +kernel
theorem dX5_readNewFile_61 : decode cX5_readNewFile 61 = .ok (.invokevirtual 107, 3) := by decide +kernel
theorem dX5_readNewFile_64 : decode cX5_readNewFile 64 = .ok (.istore_n 2, 1) := by decide +kernel
theorem dX5_readNewFile_65 : decode cX5_readNewFile 65 = .ok (.iload_n 2, 1) := by decide +kernel
theorem dX5_readNewFile_66 : decode cX5_readNewFile 66 = .ok (.iconst (-1), 1) := by decide +kernel
theorem dX5_readNewFile_67 : decode cX5_readNewFile 67 = .ok (.if_icmp .ne 5, 3) := by decide +kernel
theorem dX5_readNewFile_70 : decode cX5_readNewFile 70 = .ok (.iconst 0, 1) := by decide +kernel
theorem dX5_readNewFile_71 : decode cX5_readNewFile 71 = .ok (.ireturn, 1) := by decide +kernel
theorem dX5_readNewFile_72 : decode cX5_readNewFile 72 = .ok (.aload_n 0, 1) := by decide +kernel
theorem dX5_readNewFile_73 : decode cX5_readNewFile 73 = .ok (.iconst 0, 1) := by decide +kernel
theorem dX5_readNewFile_74 : decode cX5_readNewFile 74 = .ok (.aload_n 1, 1) := by decide +kernel
theorem dX5_readNewFile_75 : decode cX5_readNewFile 75 = .ok (.getfield 124, 3) := by decide +kernel
theorem dX5_readNewFile_78 : decode cX5_readNewFile 78 = .ok (.iconst 1, 1) := by decide +kernel
theorem dX5_readNewFile_79 : decode cX5_readNewFile 79 = .ok (.isub, 1) := by decide +kernel
theorem dX5_readNewFile_80 : decode cX5_readNewFile 80 = .ok (.invokevirtual 107, 3) := by decide +kernel
theorem dX5_readNewFile_83 : decode cX5_readNewFile 83 = .ok (.istore_n 3, 1) := by decide +kernel
theorem dX5_readNewFile_84 : decode cX5_readNewFile 84 = .ok (.iload_n 3, 1) := by decide +kernel
theorem dX5_readNewFile_85 : decode cX5_readNewFile 85 = .ok (.iconst (-1), 1) := by decide +kernel
theorem dX5_readNewFile_86 : decode cX5_readNewFile 86 = .ok (.if_icmp .ne 5, 3) := by decide +kernel
theorem dX5_readNewFile_89 : decode cX5_readNewFile 89 = .ok (.iconst 0, 1) := by decide +kernel
theorem dX5_readNewFile_90 : decode cX5_readNewFile 90 = .ok (.ireturn, 1) := by decide +kernel
theorem dX5_readNewFile_91 : decode cX5_readNewFile 91 = .ok (.aload_n 1, 1) := by decide +kernel
theorem dX5_readNewFile_92 : decode cX5_readNewFile 92 = .ok (.getfield 138, 3) := by decide +kernel
theorem dX5_readNewFile_95 : decode cX5_readNewFile 95 = .ok (.iload_n 3, 1) := by decide +kernel
theorem dX5_readNewFile_96 : decode cX5_readNewFile 96 = .ok (.aaload, 1) := by decide +kernel
theorem dX5_readNewFile_97 : decode cX5_readNewFile 97 = .ok (.iload_n 2, 1) := by decide +kernel
theorem dX5_readNewFile_98 : decode cX5_readNewFile 98 = .ok (.invokevirtual 163, 3) := by decide +kernel
theorem dX5_readNewFile_101 : decode cX5_readNewFile 101 = .ok (.ifCond .ne 10, 3) := by decide +kernel
theorem dX5_readNewFile_104 : decode cX5_readNewFile 104 = .ok (.aload_n 0, 1) := by decide +kernel
theorem dX5_readNewFile_105 : decode cX5_readNewFile 105 = .ok (.bipush 6, 2) := by decide +kernel
theorem dX5_readNewFile_107 : decode cX5_readNewFile 107 = .ok (.invokevirtual 70, 3) := by decide +kernel
theorem dX5_readNewFile_110 : decode cX5_readNewFile 110 = .ok (.ireturn, 1) := by decide +kernel
theorem dX5_readNewFile_111 : decode cX5_readNewFile 111 = .ok (.aload_n 1, 1) := by decide +kernel
theorem dX5_readNewFile_112 : decode cX5_readNewFile 112 = .ok (.dup, 1) := by decide +kernel
theorem dX5_readNewFile_113 : decode cX5_readNewFile 113 = .ok (.getfield 154, 3) := by decide +kernel
theorem dX5_readNewFile_116 : decode cX5_readNewFile 116 = .ok (.iconst 1, 1) := by decide +kernel
theorem dX5_readNewFile_117 : decode cX5_readNewFile 117 = .ok (.iadd, 1) := by decide +kernel
theorem dX5_readNewFile_118 : decode cX5_readNewFile 118 = .ok (.putfield 154, 3) := by decide +kernel
theorem dX5_readNewFile_121 : decode cX5_readNewFile 121 = .ok (.aload_n 1, 1) := by decide +kernel
theorem dX5_readNewFile_122 : decode cX5_readNewFile 122 = .ok (.aload_n 1, 1) := by decide +kernel
theorem dX5_readNewFile_123 : decode cX5_readNewFile 123 = .ok (.getfield 154, 3) := by decide +kernel
theorem dX5_readNewFile_126 : decode cX5_readNewFile 126 = .ok (.iconst 1, 1) := by decide +kernel
theorem dX5_readNewFile_127 : decode cX5_readNewFile 127 = .ok (.isub, 1) := by decide +kernel
theorem dX5_readNewFile_128 : decode cX5_readNewFile 128 = .ok (.iload_n 2, 1) := by decide +kernel
theorem dX5_readNewFile_129 : decode cX5_readNewFile 129 = .ok (.iload_n 3, 1) := by decide +kernel
theorem dX5_readNewFile_130 : decode cX5_readNewFile 130 = .ok (.invokevirtual 166, 3) := by decide +kernel
theorem dX5_readNewFile_133 : decode cX5_readNewFile 133 = .ok (.iconst 1, 1) := by decide +kernel
theorem dX5_readNewFile_134 : decode cX5_readNewFile 134 = .ok (.ireturn, 1) := by decide +kernel
set_option maxRecDepth 20000 in
theorem ggX5_readClose_X5_readNumber : GoodIn wsX5_readClose wsX5_readNumber := goodIn_r _ [8, 9, 10, 11, 12, 7, 13, 14, 15, 16, 17, 18, 19, 20, 21, 22, 23, 24, 25, 26, 27, 28, 29, 30, 31, 32, 33, 34, 35, 36, 37, 38, 39, 89, 90, 91, 92, 93, 94, 95, 96, 97] (by decide +kernel) (by decide +kernel)
set_option maxRecDepth 20000 in
theorem gX5_readClose_X5_readNumber : GoodIn wsX5_readClose (wsV RX5 107 RX5 yX5_readNumber wsX5_readNumber) := goodIn_app (goodIn_of _ (by decide +kernel)) ggX5_readClose_X5_readNumber
set_option maxRecDepth 20000 in
theorem ggX5_readClose_X5_fail : GoodIn wsX5_readClose wsX5_fail := goodIn_r _ [33, 34, 15, 35, 89, 90, 91, 92, 93, 94, 95, 96, 97] (by decide +kernel) (by decide +kernel)
set_option maxRecDepth 20000 in
theorem gX5_readClose_X5_fail : GoodIn wsX5_readClose (wsV RX5 70 RX5 yX5_fail wsX5_fail) := goodIn_app (goodIn_of _ (by decide +kernel)) ggX5_readClose_X5_fail
set_option maxRecDepth 20000 in
theorem ggX5_readClose_X3_addLeadOut : GoodIn wsX5_readClose wsX3_addLeadOut := goodIn_r _ [44, 45, 46, 47, 48, 49, 50, 51, 52, 43, 53, 54, 55, 56, 57, 58, 59, 60, 61, 80, 81, 82, 83, 84, 85, 86, 87, 88] (by decide +kernel) (by decide +kernel)
set_option maxRecDepth 20000 in
theorem gX5_readClose_X3_addLeadOut : GoodIn wsX5_readClose (wsV RX5 173 RX3 yX3_addLeadOut wsX3_addLeadOut) := goodIn_app (goodIn_of _ (by decide +kernel)) ggX5_readClose_X3_addLeadOut
theorem dX5_readClose_0 : decode cX5_readClose 0 = .ok (.aload_n 0, 1) := by decide +kernel
theorem dX5_readClose_1 : decode cX5_readClose 1 = .ok (.iconst 0, 1) := by decide +kernel
theorem dX5_readClose_2 : decode cX5_readClose 2 = .ok (.aload_n 1, 1) := by decide +kernel
theorem dX5_readClose_3 : decode cX5_readClose 3 = .ok (.getfield 124, 3) := by decide +kernel
theorem dX5_readClose_6 : decode cX5_readClose 6 = .ok (.iconst 1, 1) := by decide +kernel
theorem dX5_readClose_7 : decode cX5_readClose 7 = .ok (.isub, 1) := by decide +kernel
theorem dX5_readClose_8 : decode cX5_readClose 8 = .ok (.invokevirtual 107, 3) := by decide +kernel
theorem dX5_readClose_11 : decode cX5_readClose 11 = .ok (.istore_n 2, 1) := by decide +kernel
theorem dX5_readClose_12 : decode cX5_readClose 12 = .ok (.iload_n 2, 1) := by decide +kernel
theorem dX5_readClose_13 : decode cX5_readClose 13 = .ok (.iconst (-1), 1) := by decide +kernel
theorem dX5_readClose_14 : decode cX5_readClose 14 = .ok (.if_icmp .ne 5, 3) := by decide +kernel
theorem dX5_readClose_17 : decode cX5_readClose 17 = .ok (.iconst 0, 1) := by decide +kernel
theorem dX5_readClose_18 : decode cX5_readClose 18 = .ok (.ireturn, 1) := by decide +kernel
theorem dX5_readClose_19 : decode cX5_readClose 19 = .ok (.aload_n 1, 1) := by decide +kernel
theorem dX5_readClose_20 : decode cX5_readClose 20 = .ok (.getfield 138, 3) := by decide +kernel
theorem dX5_readClose_23 : decode cX5_readClose 23 = .ok (.iload_n 2, 1) := by decide +kernel
theorem dX5_readClose_24 : decode cX5_readClose 24 = .ok (.aaload, 1) := by decide +kernel
theorem dX5_readClose_25 : decode cX5_readClose 25 = .ok (.getfield 169, 3) := by decide +kernel
theorem dX5_readClose_28 : decode cX5_readClose 28 = .ok (.ifCond .ne 10, 3) := by decide +kernel
theorem dX5_readClose_31 : decode cX5_readClose 31 = .ok (.aload_n 0, 1) := by decide +kernel
theorem dX5_readClose_32 : decode cX5_readClose 32 = .ok (.bipush 6, 2) := by decide +kernel
theorem dX5_readClose_34 : decode cX5_readClose 34 = .ok (.invokevirtual 70, 3) := by decide +kernel
theorem dX5_readClose_37 : decode cX5_readClose 37 = .ok (.ireturn, 1) := by decide +kernel
theorem dX5_readClose_38 : decode cX5_readClose 38 = .ok (.aload_n 1, 1) := by decide +kernel
theorem dX5_readClose_39 : decode cX5_readClose 39 = .ok (.getfield 138, 3) := by decide +kernel
theorem dX5_readClose_42 : decode cX5_readClose 42 = .ok (.iload_n 2, 1) := by decide +kernel
theorem dX5_readClose_43 : decode cX5_readClose 43 = .ok (.aaload, 1) := by decide +kernel
theorem dX5_readClose_44 : decode cX5_readClose 44 = .ok (.invokevirtual 173, 3) := by decide +kernel
theorem dX5_readClose_47 : decode cX5_readClose 47 = .ok (.pop, 1) := by decide +kernel
theorem dX5_readClose_48 : decode cX5_readClose 48 = .ok (.iconst 1, 1) := by decide +kernel
theorem dX5_readClose_49 : decode cX5_readClose 49 = .ok (.ireturn, 1) := by decide +kernel
set_option maxRecDepth 20000 in
theorem ggX5_readStatement_X5_wordIs : GoodIn wsX5_readStatement wsX5_wordIs := goodIn_r _ [5, 6, 7, 8, 9, 10, 11, 12, 13, 14, 15, 16, 17, 18, 19, 20, 21, 22, 23, 24, 25, 26, 27, 28, 29, 30, 31, 32, 33, 34, 35, 36, 37, 38, 39, 40, 41, 42, 43, 44, 45, 46, 47, 48, 49, 50, 51, 52, 53, 54, 55, 56, 57, 58, 260, 261, 262, 263, 264, 265, 266, 267, 268] (by decide +kernel) (by decide +kernel)
set_option maxRecDepth 20000 in
theorem gX5_readStatement_X5_wordIs : GoodIn wsX5_readStatement (wsV RX5 62 RX5 yX5_wordIs wsX5_wordIs) := goodIn_app (goodIn_of _ (by decide +kernel)) ggX5_readStatement_X5_wordIs
set_option maxRecDepth 20000 in
theorem ggX5_readStatement_X5_readSlots : GoodIn wsX5_readStatement wsX5_readSlots := goodIn_r _ [62, 63, 64, 65, 66, 4, 67, 6, 68, 69, 70, 71, 7, 8, 72, 9, 73, 74, 75, 76, 77, 78, 79, 80, 81, 82, 83, 84, 85, 86, 87, 88, 89, 90, 91, 92, 93, 94, 269, 270, 271, 272, 273, 274, 275, 276, 277, 278, 279, 280, 281, 282, 283, 284, 285, 286, 260, 261, 262, 263, 264, 265, 266, 267, 268] (by decide +kernel) (by decide +kernel)
set_option maxRecDepth 20000 in
theorem gX5_readStatement_X5_readSlots : GoodIn wsX5_readStatement (wsV RX5 66 RX5 yX5_readSlots wsX5_readSlots) := goodIn_app (goodIn_of _ (by decide +kernel)) ggX5_readStatement_X5_readSlots
set_option maxRecDepth 20000 in
theorem ggX5_readStatement_X5_fail : GoodIn wsX5_readStatement wsX5_fail := goodIn_r _ [88, 89, 8, 90, 260, 261, 262, 263, 264, 265, 266, 267, 268] (by decide +kernel) (by decide +kernel)
set_option maxRecDepth 20000 in
theorem gX5_readStatement_X5_fail : GoodIn wsX5_readStatement (wsV RX5 70 RX5 yX5_fail wsX5_fail) := goodIn_app (goodIn_of _ (by decide +kernel)) ggX5_readStatement_X5_fail
set_option maxRecDepth 20000 in
theorem ggX5_readStatement_X5_readDrive : GoodIn wsX5_readStatement wsX5_readDrive := goodIn_r _ [98, 99, 63, 85, 86, 87, 4, 88, 89, 8, 90, 64, 65, 66, 67, 6, 68, 69, 70, 71, 7, 72, 9, 73, 74, 75, 76, 77, 78, 79, 80, 81, 82, 83, 84, 91, 92, 93, 94, 100, 101, 102, 103, 104, 105, 106, 107, 108, 109, 269, 270, 271, 272, 273, 274, 275, 276, 277, 278, 279, 280, 281, 282, 283, 284, 285, 286, 260, 261, 262, 263, 264, 265, 266, 267, 268, 287, 288, 289] (by decide +kernel) (by decide +kernel)
set_option maxRecDepth 20000 in
theorem gX5_readStatement_X5_readDrive : GoodIn wsX5_readStatement (wsV RX5 76 RX5 yX5_readDrive wsX5_readDrive) := goodIn_app (goodIn_of _ (by decide +kernel)) ggX5_readStatement_X5_readDrive
set_option maxRecDepth 20000 in
theorem ggX5_readStatement_X5_readTimes : GoodIn wsX5_readStatement wsX5_readTimes := goodIn_r _ [113, 114, 64, 65, 66, 4, 67, 6, 68, 69, 70, 71, 7, 8, 72, 9, 73, 74, 75, 76, 77, 78, 79, 80, 81, 82, 83, 84, 85, 86, 87, 88, 89, 90, 91, 92, 93, 94, 269, 270, 271, 272, 273, 274, 275, 276, 277, 278, 279, 280, 281, 282, 283, 284, 285, 286, 260, 261, 262, 263, 264, 265, 266, 267, 268] (by decide +kernel) (by decide +kernel)
set_option maxRecDepth 20000 in
theorem gX5_readStatement_X5_readTimes : GoodIn wsX5_readStatement (wsV RX5 81 RX5 yX5_readTimes wsX5_readTimes) := goodIn_app (goodIn_of _ (by decide +kernel)) ggX5_readStatement_X5_readTimes
set_option maxRecDepth 20000 in
theorem ggX5_readStatement_X5_readPlatter : GoodIn wsX5_readStatement wsX5_readPlatter := goodIn_r _ [118, 119, 63, 85, 86, 87, 4, 88, 89, 8, 90, 64, 65, 66, 67, 6, 68, 69, 70, 71, 7, 72, 9, 73, 74, 75, 76, 77, 78, 79, 80, 81, 82, 83, 84, 91, 92, 93, 94, 120, 121, 122, 103, 123, 124, 125, 126, 127, 128, 129, 130, 131, 132, 133, 134, 135, 136, 137, 138, 139, 140, 141, 142, 143, 144, 145, 146, 269, 270, 271, 272, 273, 274, 275, 276, 277, 278, 279, 280, 281, 282, 283, 284, 285, 286, 260, 261, 262, 263, 264, 265, 266, 267, 268, 290, 291, 292, 293, 294, 295, 296, 297, 298] (by decide +kernel) (by decide +kernel)
set_option maxRecDepth 20000 in
theorem gX5_readStatement_X5_readPlatter : GoodIn wsX5_readStatement (wsV RX5 86 RX5 yX5_readPlatter wsX5_readPlatter) := goodIn_app (goodIn_of _ (by decide +kernel)) ggX5_readStatement_X5_readPlatter
set_option maxRecDepth 20000 in
theorem ggX5_readStatement_X5_readBad : GoodIn wsX5_readStatement wsX5_readBad := goodIn_r _ [150, 151, 119, 152, 153, 85, 86, 87, 4, 88, 89, 8, 90, 64, 65, 66, 67, 6, 68, 69, 70, 71, 7, 72, 9, 73, 74, 75, 76, 77, 78, 79, 80, 81, 82, 83, 84, 91, 92, 93, 94, 154, 155, 156, 134, 157, 142, 158, 159, 160, 103, 161, 125, 162, 163, 164, 165, 166, 167, 168, 169, 170, 171, 172, 173, 174, 175, 176, 177, 178, 179, 180, 181, 269, 270, 271, 272, 273, 274, 275, 276, 277, 278, 279, 280, 281, 282, 283, 284, 285, 286, 290, 291, 292, 293, 294, 295, 296, 297, 298, 260, 261, 262, 263, 264, 265, 266, 267, 268, 299, 300, 301, 302, 303, 304, 305] (by decide +kernel) (by decide +kernel)
set_option maxRecDepth 20000 in
theorem gX5_readStatement_X5_readBad : GoodIn wsX5_readStatement (wsV RX5 91 RX5 yX5_readBad wsX5_readBad) := goodIn_app (goodIn_of _ (by decide +kernel)) ggX5_readStatement_X5_readBad
set_option maxRecDepth 20000 in
theorem ggX5_readStatement_X5_readNewFile : GoodIn wsX5_readStatement wsX5_readNewFile := goodIn_r _ [185, 186, 6, 119, 152, 85, 86, 87, 4, 88, 89, 8, 90, 68, 69, 70, 71, 7, 72, 9, 73, 74, 75, 76, 77, 78, 79, 80, 187, 188, 189, 190, 1, 2, 3, 5, 10, 11, 12, 13, 14, 15, 16, 17, 18, 19, 20, 21, 22, 23, 24, 25, 26, 27, 28, 29, 30, 31, 32, 33, 34, 35, 36, 37, 38, 39, 40, 41, 42, 43, 44, 45, 46, 47, 48, 49, 50, 51, 52, 53, 54, 55, 56, 57, 58, 81, 82, 83, 84, 191, 192, 193, 194, 195, 196, 197, 198, 199, 200, 64, 65, 66, 67, 91, 92, 93, 94, 201, 202, 203, 134, 204, 141, 140, 138, 205, 206, 207, 208, 137, 139, 209, 210, 211, 212, 213, 155, 156, 157, 142, 214, 215, 216, 103, 217, 173, 125, 163, 218, 219, 220, 221, 222, 223, 164, 224, 225, 226, 227, 228, 229, 230, 231, 232, 233, 234, 235, 124, 236, 237, 238, 239, 240, 241, 242, 243, 244, 245, 246, 269, 270, 271, 272, 273, 274, 275, 276, 277, 278, 279, 280, 281, 282, 283, 284, 285, 286, 260, 261, 262, 263, 264, 265, 266, 267, 268, 290, 291, 292, 293, 294, 295, 296, 297, 298, 299, 300, 301, 302, 303, 304, 305] (by decide +kernel) (by decide +kernel)
set_option maxRecDepth 20000 in
theorem gX5_readStatement_X5_readNewFile : GoodIn wsX5_readStatement (wsV RX5 96 RX5 yX5_readNewFile wsX5_readNewFile) := goodIn_app (goodIn_of _ (by decide +kernel)) ggX5_readStatement_X5_readNewFile
set_option maxRecDepth 20000 in
theorem ggX5_readStatement_X5_readClose : GoodIn wsX5_readStatement wsX5_readClose := goodIn_r _ [250, 119, 152, 251, 64, 65, 66, 4, 67, 6, 68, 69, 70, 71, 7, 8, 72, 9, 73, 74, 75, 76, 77, 78, 79, 80, 81, 82, 83, 84, 85, 86, 87, 88, 89, 90, 91, 92, 93, 94, 252, 253, 254, 134, 255, 256, 257, 258, 259, 141, 205, 206, 207, 208, 137, 139, 243, 244, 245, 246, 140, 242, 269, 270, 271, 272, 273, 274, 275, 276, 277, 278, 279, 280, 281, 282, 283, 284, 285, 286, 290, 291, 292, 293, 294, 295, 296, 297, 298, 260, 261, 262, 263, 264, 265, 266, 267, 268] (by decide +kernel) (by decide +kernel)
set_option maxRecDepth 20000 in
theorem gX5_readStatement_X5_readClose : GoodIn wsX5_readStatement (wsV RX5 101 RX5 yX5_readClose wsX5_readClose) := goodIn_app (goodIn_of _ (by decide +kernel)) ggX5_readStatement_X5_readClose
set_option maxRecDepth 20000 in
theorem ggX5_readStatement_X5_failUnexpected : GoodIn wsX5_readStatement wsX5_failUnexpected := goodIn_r _ [84, 6, 85, 86, 87, 4, 88, 89, 8, 90, 260, 261, 262, 263, 264, 265, 266, 267, 268] (by decide +kernel) (by decide +kernel)
set_option maxRecDepth 20000 in
theorem gX5_readStatement_X5_failUnexpected : GoodIn wsX5_readStatement (wsV RX5 104 RX5 yX5_failUnexpected wsX5_failUnexpected) := goodIn_app (goodIn_of _ (by decide +kernel)) ggX5_readStatement_X5_failUnexpected
theorem dX5_readStatement_0 : decode cX5_readStatement 0 = .ok (.aload_n 0, 1) := by decide +kernel
theorem dX5_readStatement_1 : decode cX5_readStatement 1 = .ok (.ldc 60, 2) := by decide +kernel
theorem dX5_readStatement_3 : decode cX5_readStatement 3 = .ok (.invokevirtual 62, 3) := by decide +kernel
theorem dX5_readStatement_6 : decode cX5_readStatement 6 = .ok (.ifCond .eq 21, 3) := by decide +kernel
theorem dX5_readStatement_9 : decode cX5_readStatement 9 = .ok (.iload_n 1, 1) := by decide +kernel
theorem dX5_readStatement_10 : decode cX5_readStatement 10 = .ok (.ifCond .eq 11, 3) := by decide +kernel
theorem dX5_readStatement_13 : decode cX5_readStatement 13 = .ok (.aload_n 0, 1) := by decide +kernel
theorem dX5_readStatement_14 : decode cX5_readStatement 14 = .ok (.aload_n 2, 1) := by decide +kernel
theorem dX5_readStatement_15 : decode cX5_readStatement 15 = .ok (.invokevirtual 66, 3) := by decide +kernel
theorem dX5_readStatement_18 : decode cX5_readStatement 18 = .ok (.goto 8, 3) := by decide +kernel
theorem dX5_readStatement_21 : decode cX5_readStatement 21 = .ok (.aload_n 0, 1) := by decide +kernel
theorem dX5_readStatement_22 : decode cX5_readStatement 22 = .ok (.iconst 5, 1) := by decide +kernel
theorem dX5_readStatement_23 : decode cX5_readStatement 23 = .ok (.invokevirtual 70, 3) := by decide +kernel
theorem dX5_readStatement_26 : decode cX5_readStatement 26 = .ok (.ireturn, 1) := by decide +kernel
theorem dX5_readStatement_27 : decode cX5_readStatement 27 = .ok (.aload_n 0, 1) := by decide +kernel
theorem dX5_readStatement_28 : decode cX5_readStatement 28 = .ok (.ldc 74, 2) := by decide +kernel
theorem dX5_readStatement_30 : decode cX5_readStatement 30 = .ok (.invokevirtual 62, 3) := by decide +kernel
theorem dX5_readStatement_33 : decode cX5_readStatement 33 = .ok (.ifCond .eq 9, 3) := by decide +kernel
theorem dX5_readStatement_36 : decode cX5_readStatement 36 = .ok (.aload_n 0, 1) := by decide +kernel
theorem dX5_readStatement_37 : decode cX5_readStatement 37 = .ok (.aload_n 2, 1) := by decide +kernel
theorem dX5_readStatement_38 : decode cX5_readStatement 38 = .ok (.invokevirtual 76, 3) := by decide +kernel
theorem dX5_readStatement_41 : decode cX5_readStatement 41 = .ok (.ireturn, 1) := by decide +kernel
theorem dX5_readStatement_42 : decode cX5_readStatement 42 = .ok (.aload_n 0, 1) := by decide +kernel
theorem dX5_readStatement_43 : decode cX5_readStatement 43 = .ok (.ldc 79, 2) := by decide +kernel
theorem dX5_readStatement_45 : decode cX5_readStatement 45 = .ok (.invokevirtual 62, 3) := by decide +kernel
theorem dX5_readStatement_48 : decode cX5_readStatement 48 = .ok (.ifCond .eq 9, 3) := by decide +kernel
theorem dX5_readStatement_51 : decode cX5_readStatement 51 = .ok (.aload_n 0, 1) := by decide +kernel
theorem dX5_readStatement_52 : decode cX5_readStatement 52 = .ok (.aload_n 2, 1) := by decide +kernel
theorem dX5_readStatement_53 : decode cX5_readStatement 53 = .ok (.invokevirtual 81, 3) := by decide +kernel
theorem dX5_readStatement_56 : decode cX5_readStatement 56 = .ok (.ireturn, 1) := by decide +kernel
theorem dX5_readStatement_57 : decode cX5_readStatement 57 = .ok (.aload_n 0, 1) := by decide +kernel
theorem dX5_readStatement_58 : decode cX5_readStatement 58 = .ok (.ldc 84, 2) := by decide +kernel
theorem dX5_readStatement_60 : decode cX5_readStatement 60 = .ok (.invokevirtual 62, 3) := by decide +kernel
theorem dX5_readStatement_63 : decode cX5_readStatement 63 = .ok (.ifCond .eq 9, 3) := by decide +kernel
theorem dX5_readStatement_66 : decode cX5_readStatement 66 = .ok (.aload_n 0, 1) := by decide +kernel
theorem dX5_readStatement_67 : decode cX5_readStatement 67 = .ok (.aload_n 2, 1) := by decide +kernel
theorem dX5_readStatement_68 : decode cX5_readStatement 68 = .ok (.invokevirtual 86, 3) := by decide +kernel
theorem dX5_readStatement_71 : decode cX5_readStatement 71 = .ok (.ireturn, 1) := by decide +kernel
theorem dX5_readStatement_72 : decode cX5_readStatement 72 = .ok (.aload_n 0, 1) := by decide +kernel
theorem dX5_readStatement_73 : decode cX5_readStatement 73 = .ok (.ldc 89, 2) := by decide +kernel
theorem dX5_readStatement_75 : decode cX5_readStatement 75 = .ok (.invokevirtual 62, 3) := by decide +kernel
theorem dX5_readStatement_78 : decode cX5_readStatement 78 = .ok (.ifCond .eq 9, 3) := by decide +kernel
theorem dX5_readStatement_81 : decode cX5_readStatement 81 = .ok (.aload_n 0, 1) := by decide +kernel
theorem dX5_readStatement_82 : decode cX5_readStatement 82 = .ok (.aload_n 2, 1) := by decide +kernel
theorem dX5_readStatement_83 : decode cX5_readStatement 83 = .ok (.invokevirtual 91, 3) := by decide +kernel
theorem dX5_readStatement_86 : decode cX5_readStatement 86 = .ok (.ireturn, 1) := by decide +kernel
theorem dX5_readStatement_87 : decode cX5_readStatement 87 = .ok (.aload_n 0, 1) := by decide +kernel
theorem dX5_readStatement_88 : decode cX5_readStatement 88 = .ok (.ldc 94, 2) := by decide +kernel
theorem dX5_readStatement_90 : decode cX5_readStatement 90 = .ok (.invokevirtual 62, 3) := by decide +kernel
theorem dX5_readStatement_93 : decode cX5_readStatement 93 = .ok (.ifCond .eq 9, 3) := by decide +kernel
theorem dX5_readStatement_96 : decode cX5_readStatement 96 = .ok (.aload_n 0, 1) := by decide +kernel
theorem dX5_readStatement_97 : decode cX5_readStatement 97 = .ok (.aload_n 2, 1) := by decide +kernel
theorem dX5_readStatement_98 : decode cX5_readStatement 98 = .ok (.invokevirtual 96, 3) := by decide +kernel
theorem dX5_readStatement_101 : decode cX5_readStatement 101 = .ok (.ireturn, 1) := by decide +kernel
theorem dX5_readStatement_102 : decode cX5_readStatement 102 = .ok (.aload_n 0, 1) := by decide +kernel
theorem dX5_readStatement_103 : decode cX5_readStatement 103 = .ok (.ldc 99, 2) := by decide +kernel
theorem dX5_readStatement_105 : decode cX5_readStatement 105 = .ok (.invokevirtual 62, 3) := by decide +kernel
theorem dX5_readStatement_108 : decode cX5_readStatement 108 = .ok (.ifCond .eq 11, 3) := by decide +kernel
theorem dX5_readStatement_111 : decode cX5_readStatement 111 = .ok (.aload_n 0, 1) := by decide +kernel
theorem dX5_readStatement_112 : decode cX5_readStatement 112 = .ok (.aload_n 2, 1) := by decide +kernel
theorem dX5_readStatement_113 : decode cX5_readStatement 113 = .ok (.invokevirtual 101, 3) := by decide +kernel
theorem dX5_readStatement_116 : decode cX5_readStatement 116 = .ok (.goto 7, 3) := by decide +kernel
theorem dX5_readStatement_119 : decode cX5_readStatement 119 = .ok (.aload_n 0, 1) := by decide +kernel
theorem dX5_readStatement_120 : decode cX5_readStatement 120 = .ok (.invokevirtual 104, 3) := by decide +kernel
theorem dX5_readStatement_123 : decode cX5_readStatement 123 = .ok (.ireturn, 1) := by decide +kernel
set_option maxRecDepth 20000 in
theorem ggX5_readSemicolon_X5_nextToken : GoodIn wsX5_readSemicolon wsX5_nextToken := goodIn_r _ [6, 7, 8, 9, 10, 1, 11, 12, 13, 5, 14, 15, 16, 17, 18, 29, 30, 31, 32, 33, 34, 35, 36, 37] (by decide +kernel) (by decide +kernel)
set_option maxRecDepth 20000 in
theorem gX5_readSemicolon_X5_nextToken : GoodIn wsX5_readSemicolon (wsV RX5 46 RX5 yX5_nextToken wsX5_nextToken) := goodIn_app (goodIn_of _ (by decide +kernel)) ggX5_readSemicolon_X5_nextToken
set_option maxRecDepth 20000 in
theorem ggX5_readSemicolon_X5_failUnexpected : GoodIn wsX5_readSemicolon wsX5_failUnexpected := goodIn_r _ [22, 1, 23, 24, 25, 5, 26, 27, 8, 28, 29, 30, 31, 32, 33, 34, 35, 36, 37] (by decide +kernel) (by decide +kernel)
set_option maxRecDepth 20000 in
theorem gX5_readSemicolon_X5_failUnexpected : GoodIn wsX5_readSemicolon (wsV RX5 104 RX5 yX5_failUnexpected wsX5_failUnexpected) := goodIn_app (goodIn_of _ (by decide +kernel)) ggX5_readSemicolon_X5_failUnexpected
theorem dX5_readSemicolon_0 : decode cX5_readSemicolon 0 = .ok (.aload_n 0, 1) := by decide +kernel
theorem dX5_readSemicolon_1 : decode cX5_readSemicolon 1 = .ok (.invokevirtual 46, 3) := by decide +kernel
theorem dX5_readSemicolon_4 : decode cX5_readSemicolon 4 = .ok (.aload_n 0, 1) := by decide +kernel
theorem dX5_readSemicolon_5 : decode cX5_readSemicolon 5 = .ok (.getfield 49, 3) := by decide +kernel
theorem dX5_readSemicolon_8 : decode cX5_readSemicolon 8 = .ok (.iconst 4, 1) := by decide +kernel
theorem dX5_readSemicolon_9 : decode cX5_readSemicolon 9 = .ok (.if_icmp .ne 5, 3) := by decide +kernel
theorem dX5_readSemicolon_12 : decode cX5_readSemicolon 12 = .ok (.iconst 1, 1) := by decide +kernel
theorem dX5_readSemicolon_13 : decode cX5_readSemicolon 13 = .ok (.ireturn, 1) := by decide +kernel
theorem dX5_readSemicolon_14 : decode cX5_readSemicolon 14 = .ok (.aload_n 0, 1) := by decide +kernel
theorem dX5_readSemicolon_15 : decode cX5_readSemicolon 15 = .ok (.invokevirtual 104, 3) := by decide +kernel
theorem dX5_readSemicolon_18 : decode cX5_readSemicolon 18 = .ok (.ireturn, 1) := by decide +kernel
set_option maxRecDepth 20000 in
theorem ggX5_readText_X4_beginEmpty : GoodIn wsX5_readText wsX4_beginEmpty := goodIn_r _ [15, 16, 17, 18, 19, 20, 21, 22, 23, 24, 25, 26, 27, 28, 29, 30, 14, 31, 32, 295, 296, 297, 298, 299, 300, 301, 302, 303, 304, 305, 306, 307, 308, 309, 310, 311, 312] (by decide +kernel) (by decide +kernel)
set_option maxRecDepth 20000 in
theorem gX5_readText_X4_beginEmpty : GoodIn wsX5_readText (wsV RX5 41 RX4 yX4_beginEmpty wsX4_beginEmpty) := goodIn_app (goodIn_of _ (by decide +kernel)) ggX5_readText_X4_beginEmpty
set_option maxRecDepth 20000 in
theorem ggX5_readText_X5_nextToken : GoodIn wsX5_readText wsX5_nextToken := goodIn_r _ [37, 7, 38, 6, 39, 10, 40, 41, 42, 36, 43, 44, 45, 46, 47, 286, 287, 288, 289, 290, 291, 292, 293, 294] (by decide +kernel) (by decide +kernel)
set_option maxRecDepth 20000 in
theorem gX5_readText_X5_nextToken : GoodIn wsX5_readText (wsV RX5 46 RX5 yX5_nextToken wsX5_nextToken) := goodIn_app (goodIn_of _ (by decide +kernel)) ggX5_readText_X5_nextToken
set_option maxRecDepth 20000 in
theorem ggX5_readText_X5_readStatement : GoodIn wsX5_readText wsX5_readStatement := goodIn_r _ [51, 52, 53, 54, 36, 55, 10, 7, 38, 39, 56, 57, 58, 59, 60, 61, 62, 63, 64, 65, 66, 67, 68, 69, 70, 71, 72, 73, 74, 75, 76, 77, 78, 79, 80, 81, 82, 83, 84, 85, 86, 87, 88, 89, 90, 91, 92, 93, 94, 95, 96, 97, 98, 99, 100, 101, 102, 103, 104, 105, 106, 107, 108, 109, 110, 111, 112, 113, 33, 34, 35, 37, 6, 40, 41, 42, 43, 44, 45, 46, 47, 114, 115, 116, 117, 118, 119, 120, 121, 8, 9, 122, 123, 124, 125, 126, 127, 128, 129, 130, 131, 132, 133, 14, 134, 17, 135, 136, 137, 138, 139, 140, 141, 142, 143, 144, 145, 146, 147, 148, 149, 150, 151, 152, 19, 153, 154, 155, 156, 157, 158, 159, 160, 161, 162, 163, 164, 165, 166, 167, 168, 169, 170, 171, 172, 173, 174, 175, 176, 177, 178, 179, 180, 181, 182, 183, 184, 185, 186, 187, 188, 189, 20, 190, 191, 192, 193, 194, 195, 196, 197, 198, 199, 21, 200, 201, 202, 203, 204, 205, 206, 207, 208, 209, 210, 211, 212, 213, 214, 215, 216, 217, 218, 219, 220, 221, 222, 223, 224, 225, 226, 227, 228, 229, 230, 231, 232, 233, 234, 235, 236, 237, 238, 239, 240, 241, 242, 243, 244, 245, 246, 247, 248, 249, 250, 251, 252, 253, 254, 255, 256, 22, 257, 258, 259, 260, 261, 262, 263, 264, 265, 266, 267, 268, 269, 270, 271, 272, 273, 274, 275, 276, 277, 278, 279, 280, 281, 3, 4, 5, 286, 287, 288, 289, 290, 291, 292, 293, 294, 295, 296, 297, 298, 299, 300, 301, 302, 303, 304, 305, 306, 307, 308, 309, 310, 311, 312, 313, 314, 315, 316, 317, 318, 319, 320, 321, 322, 323, 324, 325, 326, 327, 328, 329, 330, 331] (by decide +kernel) (by decide +kernel)
set_option maxRecDepth 20000 in
theorem gX5_readText_X5_readStatement : GoodIn wsX5_readText (wsV RX5 52 RX5 yX5_readStatement wsX5_readStatement) := goodIn_app (goodIn_of _ (by decide +kernel)) ggX5_readText_X5_readStatement
set_option maxRecDepth 20000 in
theorem ggX5_readText_X5_readSemicolon : GoodIn wsX5_readText wsX5_readSemicolon := goodIn_r _ [285, 10, 33, 34, 35, 36, 37, 7, 38, 6, 39, 40, 41, 42, 43, 44, 45, 46, 47, 114, 115, 116, 117, 118, 119, 120, 121, 8, 9, 286, 287, 288, 289, 290, 291, 292, 293, 294] (by decide +kernel) (by decide +kernel)
set_option maxRecDepth 20000 in
theorem gX5_readText_X5_readSemicolon : GoodIn wsX5_readText (wsV RX5 56 RX5 yX5_readSemicolon wsX5_readSemicolon) := goodIn_app (goodIn_of _ (by decide +kernel)) ggX5_readText_X5_readSemicolon
theorem dX5_readText_0 : decode cX5_readText 0 = .ok (.aload_n 0, 1) := by decide +kernel
theorem dX5_readText_1 : decode cX5_readText 1 = .ok (.iload_n 1, 1) := by decide +kernel
theorem dX5_readText_2 : decode cX5_readText 2 = .ok (.aload_n 0, 1) := by decide +kernel
theorem dX5_readText_3 : decode cX5_readText 3 = .ok (.getfield 19, 3) := by decide +kernel
theorem dX5_readText_6 : decode cX5_readText 6 = .ok (.invokestatic 23, 3) := by decide +kernel
theorem dX5_readText_9 : decode cX5_readText 9 = .ok (.putfield 29, 3) := by decide +kernel
theorem dX5_readText_12 : decode cX5_readText 12 = .ok (.aload_n 0, 1) := by decide +kernel
theorem dX5_readText_13 : decode cX5_readText 13 = .ok (.iconst 0, 1) := by decide +kernel
theorem dX5_readText_14 : decode cX5_readText 14 = .ok (.putfield 32, 3) := by decide +kernel
theorem dX5_readText_17 : decode cX5_readText 17 = .ok (.aload_n 0, 1) := by decide +kernel
theorem dX5_readText_18 : decode cX5_readText 18 = .ok (.iconst 0, 1) := by decide +kernel
theorem dX5_readText_19 : decode cX5_readText 19 = .ok (.putfield 35, 3) := by decide +kernel
theorem dX5_readText_22 : decode cX5_readText 22 = .ok (.aload_n 0, 1) := by decide +kernel
theorem dX5_readText_23 : decode cX5_readText 23 = .ok (.iconst 0, 1) := by decide +kernel
theorem dX5_readText_24 : decode cX5_readText 24 = .ok (.putfield 38, 3) := by decide +kernel
theorem dX5_readText_27 : decode cX5_readText 27 = .ok (.aload_n 2, 1) := by decide +kernel
theorem dX5_readText_28 : decode cX5_readText 28 = .ok (.invokevirtual 41, 3) := by decide +kernel
theorem dX5_readText_31 : decode cX5_readText 31 = .ok (.iconst 0, 1) := by decide +kernel
theorem dX5_readText_32 : decode cX5_readText 32 = .ok (.istore_n 3, 1) := by decide +kernel
theorem dX5_readText_33 : decode cX5_readText 33 = .ok (.iload_n 3, 1) := by decide +kernel
theorem dX5_readText_34 : decode cX5_readText 34 = .ok (.aload_n 0, 1) := by decide +kernel
theorem dX5_readText_35 : decode cX5_readText 35 = .ok (.getfield 29, 3) := by decide +kernel
theorem dX5_readText_38 : decode cX5_readText 38 = .ok (.if_icmp .gt 48, 3) := by decide +kernel
theorem dX5_readText_41 : decode cX5_readText 41 = .ok (.aload_n 0, 1) := by decide +kernel
theorem dX5_readText_42 : decode cX5_readText 42 = .ok (.invokevirtual 46, 3) := by decide +kernel
theorem dX5_readText_45 : decode cX5_readText 45 = .ok (.aload_n 0, 1) := by decide +kernel
theorem dX5_readText_46 : decode cX5_readText 46 = .ok (.getfield 49, 3) := by decide +kernel
theorem dX5_readText_49 : decode cX5_readText 49 = .ok (.ifCond .ne 5, 3) := by decide +kernel
theorem dX5_readText_52 : decode cX5_readText 52 = .ok (.iconst 1, 1) := by decide +kernel
theorem dX5_readText_53 : decode cX5_readText 53 = .ok (.ireturn, 1) := by decide +kernel
theorem dX5_readText_54 : decode cX5_readText 54 = .ok (.aload_n 0, 1) := by decide +kernel
theorem dX5_readText_55 : decode cX5_readText 55 = .ok (.iload_n 3, 1) := by decide +kernel
theorem dX5_readText_56 : decode cX5_readText 56 = .ok (.ifCond .ne 7, 3) := by decide +kernel
theorem dX5_readText_59 : decode cX5_readText 59 = .ok (.iconst 1, 1) := by decide +kernel
theorem dX5_readText_60 : decode cX5_readText 60 = .ok (.goto 4, 3) := by decide +kernel
theorem dX5_readText_63 : decode cX5_readText 63 = .ok (.iconst 0, 1) := by decide +kernel
theorem dX5_readText_64 : decode cX5_readText 64 = .ok (.aload_n 2, 1) := by decide +kernel
theorem dX5_readText_65 : decode cX5_readText 65 = .ok (.invokevirtual 52, 3) := by decide +kernel
theorem dX5_readText_68 : decode cX5_readText 68 = .ok (.ifCond .eq 10, 3) := by decide +kernel
theorem dX5_readText_71 : decode cX5_readText 71 = .ok (.aload_n 0, 1) := by decide +kernel
theorem dX5_readText_72 : decode cX5_readText 72 = .ok (.invokevirtual 56, 3) := by decide +kernel
theorem dX5_readText_75 : decode cX5_readText 75 = .ok (.ifCond .ne 5, 3) := by decide +kernel
theorem dX5_readText_78 : decode cX5_readText 78 = .ok (.iconst 0, 1) := by decide +kernel
theorem dX5_readText_79 : decode cX5_readText 79 = .ok (.ireturn, 1) := by decide +kernel
theorem dX5_readText_80 : decode cX5_readText 80 = .ok (.iinc 3 1, 3) := by decide +kernel
theorem dX5_readText_83 : decode cX5_readText 83 = .ok (.goto (-50), 3) := by decide +kernel
theorem dX5_readText_86 : decode cX5_readText 86 = .ok (.iconst 0, 1) := by decide +kernel
theorem dX5_readText_87 : decode cX5_readText 87 = .ok (.ireturn, 1) := by decide +kernel
abbrev rm_X5_appendFourBytes : Room := { frames := 0, cells := 0, slots := 0, locals := 0 }
set_option maxRecDepth 100000 in
set_option maxHeartbeats 4000000 in
theorem ct_X5_appendFourBytes (l : Launch) (g : GT) (hfl : 1 ≤ gf g) (w : WT) (rd : SD) (rn : Nat → Int64) (a1 : Int32) {q : SD} (hf : f_X5_appendFourBytes rd a1 = some q) : Met l yX5_appendFourBytes wsX5_appendFourBytes rm_X5_appendFourBytes (cPre g (wR w rd rn) [.ref (adr (g.1 + 1) 5 0), .int a1]) (cQv g (wR w q rn)) 0 0 (gA g) := by
  have i_5 : ∀ w ∈ u_ws RX5 TX5 9, w ∈ wsX5_appendFourBytes := by decide +kernel
  refine x_met (by decide) rfl (Nat.le_of_ble_eq_true rfl) ?_
  intro p e s m below meth c hx hb hr hml hts hown hlocks hK hW hS ls hl
  have hown : s.vm.findClass RX5 = some m.cls := hown
  have hl : lv_has ls 3 [(0, .ref (adr (g.1 + 1) 5 0)), (1, .int a1)] := hl
  rw [f_X5_appendFourBytes] at hf
  refine lv_bipush (v := 24) hx hb dX5_appendFourBytes_0 (by decide) ?_
  refine lv_istore_n (lv' := [(2, .int (24 : Int32)), (0, .ref (adr (g.1 + 1) 5 0)), (1, .int a1)]) hx hb dX5_appendFourBytes_2 rfl hl (by decide) rfl (fun ls hl => ?_)
  have L3 : ∀ (n : Nat) (v2_3 : Int32) (rd_3 : SD) (ls : Array Slot) (H : Heap) (locs : List Loc), lv_has ls 3 [(0, .ref (adr (g.1 + 1) 5 0)), (1, .int a1), (2, .int v2_3)] → World g (wR w rd_3 rn) H → va_S (gA g) s.heap H locs → f_X5_appendFourBytes_L3 a1 n v2_3 rd_3 = some q → W p l e rm_X5_appendFourBytes s m [.ref (adr (g.1 + 1) 5 0), .int a1].toArray below meth c H locs 0 0 (MQ below (cQv g (wR w q rn)) [.ref (adr (g.1 + 1) 5 0), .int a1].toArray s 0 0 (gA g)) (F0 m 3 ls []) := by
    clear hW hS hl
    intro n
    induction n with
    | zero => intro v2_3 rd_3 ls H locs hl hW hS hf; cases hf
    | succ n_3 ih =>
      intro v2_3 rd_3 ls H locs hl hW hS hf
      rw [f_X5_appendFourBytes_L3] at hf
      refine lv_iload_n hx hb dX5_appendFourBytes_3 rfl (lv_at hl 2 rfl) ?_
      refine lv_if_lt (tgt := 46) hx hb dX5_appendFourBytes_4 (by decide) (fun hc => ?_) (fun hc => ?_)
      · have hf := x_iteT hf hc
        cases hf
        exact x_vret hx hb hr hlocks hK hW hS dX5_appendFourBytes_46
      · have hf := x_iteF hf hc
        refine lv_aload_n hx hb dX5_appendFourBytes_7 rfl (lv_at hl 0 rfl) ?_
        refine x_get (i := (g.1 + 1)) (k := 5) (j := 0) (t := 1) hx hb hts i_5 hown hK hW ⟨⟨hfl, rfl⟩, by decide⟩ rfl ⟨by decide, by decide, rfl⟩ (hts (.fieldLink RX5 19 "OpticalJukebox$TextReader" "fed" "I") (by decide +kernel)) (rfl) dX5_appendFourBytes_8 ?_
        refine lv_sipush (v := 900) hx hb dX5_appendFourBytes_11 (by decide) ?_
        refine lv_icmp_ge (tgt := 46) hx hb dX5_appendFourBytes_14 (by decide) (fun hc => ?_) (fun hc => ?_)
        · have hf := x_iteT hf hc
          cases hf
          exact x_vret hx hb hr hlocks hK hW hS dX5_appendFourBytes_46
        · have hf := x_iteF hf hc
          refine lv_aload_n hx hb dX5_appendFourBytes_17 rfl (lv_at hl 0 rfl) ?_
          refine x_get (i := (g.1 + 1)) (k := 5) (j := 0) (t := 0) hx hb hts i_5 hown hK hW ⟨⟨hfl, rfl⟩, by decide⟩ rfl ⟨by decide, by decide, rfl⟩ (hts (.fieldLink RX5 9 "OpticalJukebox$TextReader" "text" "[B") (by decide +kernel)) (v := .ref (adr (g.1 + 1) 20 0)) rfl dX5_appendFourBytes_18 ?_
          refine lv_aload_n hx hb dX5_appendFourBytes_21 rfl (lv_at hl 0 rfl) ?_
          refine x_get (i := (g.1 + 1)) (k := 5) (j := 0) (t := 1) hx hb hts i_5 hown hK hW ⟨⟨hfl, rfl⟩, by decide⟩ rfl ⟨by decide, by decide, rfl⟩ (hts (.fieldLink RX5 19 "OpticalJukebox$TextReader" "fed" "I") (by decide +kernel)) (rfl) dX5_appendFourBytes_22 ?_
          refine lv_iload_n hx hb dX5_appendFourBytes_25 rfl (lv_at hl 1 rfl) ?_
          refine lv_iload_n hx hb dX5_appendFourBytes_26 rfl (lv_at hl 2 rfl) ?_
          refine lv_ishr hx hb dX5_appendFourBytes_27 ?_
          refine lv_i2b hx hb dX5_appendFourBytes_28 rfl ?_
          obtain ⟨hg1, hf⟩ := x_guardE hf
          obtain ⟨rd2, e_rd2, hf⟩ := x_letE hf
          refine x_bast (i := (g.1 + 1)) (k := 20) (j := 0) (w' := wR w rd2 rn) hx hb hK hW ⟨⟨hfl, rfl⟩, by decide⟩ hS (by decide) rfl rfl rfl hg1 dX5_appendFourBytes_29 (fp_R e_rd2 rfl) (fun H locs hW hS => ?_)
          refine lv_aload_n hx hb dX5_appendFourBytes_30 rfl (lv_at hl 0 rfl) ?_
          refine lv_dup hx hb dX5_appendFourBytes_31 rfl ?_
          refine x_get (i := (g.1 + 1)) (k := 5) (j := 0) (t := 1) hx hb hts i_5 hown hK hW ⟨⟨hfl, rfl⟩, by decide⟩ rfl ⟨by decide, by decide, rfl⟩ (hts (.fieldLink RX5 19 "OpticalJukebox$TextReader" "fed" "I") (by decide +kernel)) (rfl) dX5_appendFourBytes_32 ?_
          refine lv_iconst (v := 1) hx hb dX5_appendFourBytes_35 (by decide) ?_
          refine lv_iadd hx hb dX5_appendFourBytes_36 ?_
          obtain ⟨rd3, e_rd3, hf⟩ := x_letE hf
          refine x_put (i := (g.1 + 1)) (k := 5) (j := 0) (t := 1) (w' := wR w rd3 rn) hx hb hts i_5 tyX5 tyX5_ok nmX5 hown hK hW ⟨⟨hfl, rfl⟩, by decide⟩ hS rfl ⟨by decide, by decide, rfl⟩ (hts (.fieldLink RX5 19 "OpticalJukebox$TextReader" "fed" "I") (by decide +kernel)) rfl (ty := .int) (by decide +kernel) rfl rfl ⟨rfl, rfl⟩ dX5_appendFourBytes_37 (fp_R e_rd3 rfl) (fun H locs hW hS => ?_)
          obtain ⟨x4, e_x4, hf⟩ := x_letE hf
          refine lv_iinc (v := x4) (lv' := [(2, .int x4), (0, .ref (adr (g.1 + 1) 5 0)), (1, .int a1)]) hx hb dX5_appendFourBytes_40 hl (k := 2) rfl (by rw [e_x4]; rfl) (by decide) rfl (fun ls hl => ?_)
          refine lv_goto (tgt := 3) hx hb dX5_appendFourBytes_43 (by decide) ?_
          exact ih (x4) (rd3) ls _ _ (lv_sub hl [1, 2, 0] rfl) hW hS hf
  exact L3 fuel ((24 : Int32)) (rd) ls _ _ (lv_sub hl [1, 2, 0] rfl) hW hS hf
abbrev rm_X5_isBetween : Room := { frames := 0, cells := 0, slots := 0, locals := 0 }
set_option maxRecDepth 100000 in
set_option maxHeartbeats 4000000 in
theorem ct_X5_isBetween (l : Launch) (g : GT) (hfl : 1 ≤ gf g) (w : WT) (rd : SD) (rn : Nat → Int64) (a1 : Int32) (a2 : Int32) (a3 : Int32) {q : Int32} (hf : f_X5_isBetween rd a1 a2 a3 = some q) : Met l yX5_isBetween wsX5_isBetween rm_X5_isBetween (cPre g (wR w rd rn) [.ref (adr (g.1 + 1) 5 0), .int a1, .int a2, .int a3]) (cQi g q (wR w rd rn)) 0 0 (gA g) := by
  have i_5 : ∀ w ∈ u_ws RX5 TX5 9, w ∈ wsX5_isBetween := by decide +kernel
  refine x_met (by decide) rfl (Nat.le_of_ble_eq_true rfl) ?_
  intro p e s m below meth c hx hb hr hml hts hown hlocks hK hW hS ls hl
  have hown : s.vm.findClass RX5 = some m.cls := hown
  have hl : lv_has ls 4 [(0, .ref (adr (g.1 + 1) 5 0)), (1, .int a1), (2, .int a2), (3, .int a3)] := hl
  rw [f_X5_isBetween] at hf
  refine lv_aload_n hx hb dX5_isBetween_0 rfl (lv_at hl 0 rfl) ?_
  refine x_get (i := (g.1 + 1)) (k := 5) (j := 0) (t := 0) hx hb hts i_5 hown hK hW ⟨⟨hfl, rfl⟩, by decide⟩ rfl ⟨by decide, by decide, rfl⟩ (hts (.fieldLink RX5 9 "OpticalJukebox$TextReader" "text" "[B") (by decide +kernel)) (v := .ref (adr (g.1 + 1) 20 0)) rfl dX5_isBetween_1 ?_
  refine lv_iload_n hx hb dX5_isBetween_4 rfl (lv_at hl 1 rfl) ?_
  obtain ⟨hg1, hf⟩ := x_guardE hf
  refine x_bald (i := (g.1 + 1)) (k := 20) (j := 0) (f := rd 20 0) hx hb hK hW ⟨⟨hfl, rfl⟩, by decide⟩ (by decide) (rfl) rfl hg1 dX5_isBetween_5 ?_
  refine lv_iload_n hx hb dX5_isBetween_6 rfl (lv_at hl 2 rfl) ?_
  refine lv_icmp_lt (tgt := 24) hx hb dX5_isBetween_7 (by decide) (fun hc => ?_) (fun hc => ?_)
  · have hf := x_iteT hf hc
    refine lv_iconst (v := 0) hx hb dX5_isBetween_24 (by decide) ?_
    cases hf
    exact x_zret hx hb hr hlocks hK hW hS (Or.inl rfl) rfl dX5_isBetween_25
  · have hf := x_iteF hf hc
    refine lv_aload_n hx hb dX5_isBetween_10 rfl (lv_at hl 0 rfl) ?_
    refine x_get (i := (g.1 + 1)) (k := 5) (j := 0) (t := 0) hx hb hts i_5 hown hK hW ⟨⟨hfl, rfl⟩, by decide⟩ rfl ⟨by decide, by decide, rfl⟩ (hts (.fieldLink RX5 9 "OpticalJukebox$TextReader" "text" "[B") (by decide +kernel)) (v := .ref (adr (g.1 + 1) 20 0)) rfl dX5_isBetween_11 ?_
    refine lv_iload_n hx hb dX5_isBetween_14 rfl (lv_at hl 1 rfl) ?_
    obtain ⟨hg2, hf⟩ := x_guardE hf
    refine x_bald (i := (g.1 + 1)) (k := 20) (j := 0) (f := rd 20 0) hx hb hK hW ⟨⟨hfl, rfl⟩, by decide⟩ (by decide) (rfl) rfl hg2 dX5_isBetween_15 ?_
    refine lv_iload_n hx hb dX5_isBetween_16 rfl (lv_at hl 3 rfl) ?_
    refine lv_icmp_gt (tgt := 24) hx hb dX5_isBetween_17 (by decide) (fun hc => ?_) (fun hc => ?_)
    · have hf := x_iteT hf hc
      refine lv_iconst (v := 0) hx hb dX5_isBetween_24 (by decide) ?_
      cases hf
      exact x_zret hx hb hr hlocks hK hW hS (Or.inl rfl) rfl dX5_isBetween_25
    · have hf := x_iteF hf hc
      refine lv_iconst (v := 1) hx hb dX5_isBetween_20 (by decide) ?_
      refine lv_goto (tgt := 25) hx hb dX5_isBetween_21 (by decide) ?_
      cases hf
      exact x_zret hx hb hr hlocks hK hW hS (Or.inr rfl) rfl dX5_isBetween_25
abbrev rm_X5_endOfRun : Room := { frames := 1, cells := 0, slots := 0, locals := 23 }
set_option maxRecDepth 100000 in
set_option maxHeartbeats 4000000 in
theorem ct_X5_endOfRun (l : Launch) (g : GT) (hfl : 1 ≤ gf g) (w : WT) (rd : SD) (rn : Nat → Int64) (a1 : Int32) (a2 : Int32) {q : (Int32 × SD)} (hf : f_X5_endOfRun rd a1 a2 = some q) : Met l yX5_endOfRun wsX5_endOfRun rm_X5_endOfRun (cPre g (wR w rd rn) [.ref (adr (g.1 + 1) 5 0), .int a1, .int a2]) (cQi g q.1 (wR w q.2 rn)) 0 0 (gA g) := by
  have i_5 : ∀ w ∈ u_ws RX5 TX5 9, w ∈ wsX5_endOfRun := by decide +kernel
  refine x_met (by decide) rfl (Nat.le_of_ble_eq_true rfl) ?_
  intro p e s m below meth c hx hb hr hml hts hown hlocks hK hW hS ls hl
  have hown : s.vm.findClass RX5 = some m.cls := hown
  have hl : lv_has ls 3 [(0, .ref (adr (g.1 + 1) 5 0)), (1, .int a1), (2, .int a2)] := hl
  rw [f_X5_endOfRun] at hf
  have L0 : ∀ (n : Nat) (rd_0 : SD) (ls : Array Slot) (H : Heap) (locs : List Loc), lv_has ls 3 [(0, .ref (adr (g.1 + 1) 5 0)), (1, .int a1), (2, .int a2)] → World g (wR w rd_0 rn) H → va_S (gA g) s.heap H locs → f_X5_endOfRun_L0 a1 a2 n rd_0 = some q → W p l e rm_X5_endOfRun s m [.ref (adr (g.1 + 1) 5 0), .int a1, .int a2].toArray below meth c H locs 0 0 (MQ below (cQi g q.1 (wR w q.2 rn)) [.ref (adr (g.1 + 1) 5 0), .int a1, .int a2].toArray s 0 0 (gA g)) (F0 m 0 ls []) := by
    clear hW hS hl
    intro n
    induction n with
    | zero => intro rd_0 ls H locs hl hW hS hf; cases hf
    | succ n_0 ih =>
      intro rd_0 ls H locs hl hW hS hf
      rw [f_X5_endOfRun_L0] at hf
      refine lv_aload_n hx hb dX5_endOfRun_0 rfl (lv_at hl 0 rfl) ?_
      refine x_get (i := (g.1 + 1)) (k := 5) (j := 0) (t := 4) hx hb hts i_5 hown hK hW ⟨⟨hfl, rfl⟩, by decide⟩ rfl ⟨by decide, by decide, rfl⟩ (hts (.fieldLink RX5 32 "OpticalJukebox$TextReader" "tokenEnd" "I") (by decide +kernel)) (rfl) dX5_endOfRun_1 ?_
      refine lv_aload_n hx hb dX5_endOfRun_4 rfl (lv_at hl 0 rfl) ?_
      refine x_get (i := (g.1 + 1)) (k := 5) (j := 0) (t := 2) hx hb hts i_5 hown hK hW ⟨⟨hfl, rfl⟩, by decide⟩ rfl ⟨by decide, by decide, rfl⟩ (hts (.fieldLink RX5 29 "OpticalJukebox$TextReader" "length" "I") (by decide +kernel)) (rfl) dX5_endOfRun_5 ?_
      obtain ⟨K1, eK1, hf⟩ := x_letE hf
      have KK1 : ∀ (_u : Unit) (ls : Array Slot) (H : Heap) (locs : List Loc), lv_has ls 3 [(0, .ref (adr (g.1 + 1) 5 0)), (1, .int a1), (2, .int a2)] → World g (wR w rd_0 rn) H → va_S (gA g) s.heap H locs → K1 _u = some q → W p l e rm_X5_endOfRun s m [.ref (adr (g.1 + 1) 5 0), .int a1, .int a2].toArray below meth c H locs 0 0 (MQ below (cQi g q.1 (wR w q.2 rn)) [.ref (adr (g.1 + 1) 5 0), .int a1, .int a2].toArray s 0 0 (gA g)) (F0 m 37 ls []) := by
        intro _u ls H locs hl hW hS hf
        subst eK1
        refine lv_aload_n hx hb dX5_endOfRun_37 rfl (lv_at hl 0 rfl) ?_
        refine x_get (i := (g.1 + 1)) (k := 5) (j := 0) (t := 4) hx hb hts i_5 hown hK hW ⟨⟨hfl, rfl⟩, by decide⟩ rfl ⟨by decide, by decide, rfl⟩ (hts (.fieldLink RX5 32 "OpticalJukebox$TextReader" "tokenEnd" "I") (by decide +kernel)) (rfl) dX5_endOfRun_38 ?_
        refine lv_aload_n hx hb dX5_endOfRun_41 rfl (lv_at hl 0 rfl) ?_
        refine x_get (i := (g.1 + 1)) (k := 5) (j := 0) (t := 3) hx hb hts i_5 hown hK hW ⟨⟨hfl, rfl⟩, by decide⟩ rfl ⟨by decide, by decide, rfl⟩ (hts (.fieldLink RX5 184 "OpticalJukebox$TextReader" "tokenStart" "I") (by decide +kernel)) (rfl) dX5_endOfRun_42 ?_
        refine lv_isub hx hb dX5_endOfRun_45 ?_
        cases hf
        exact x_iret hx hb hr hlocks hK hW hS rfl dX5_endOfRun_46
      clear eK1
      refine lv_icmp_ge (tgt := 37) hx hb dX5_endOfRun_8 (by decide) (fun hc => ?_) (fun hc => ?_)
      · have hf := x_iteT hf hc
        exact KK1 (()) ls _ _ hl hW hS hf
      · have hf := x_iteF hf hc
        refine lv_aload_n hx hb dX5_endOfRun_11 rfl (lv_at hl 0 rfl) ?_
        refine lv_aload_n hx hb dX5_endOfRun_12 rfl (lv_at hl 0 rfl) ?_
        refine x_get (i := (g.1 + 1)) (k := 5) (j := 0) (t := 4) hx hb hts i_5 hown hK hW ⟨⟨hfl, rfl⟩, by decide⟩ rfl ⟨by decide, by decide, rfl⟩ (hts (.fieldLink RX5 32 "OpticalJukebox$TextReader" "tokenEnd" "I") (by decide +kernel)) (rfl) dX5_endOfRun_13 ?_
        refine lv_iload_n hx hb dX5_endOfRun_16 rfl (lv_at hl 1 rfl) ?_
        refine lv_iload_n hx hb dX5_endOfRun_17 rfl (lv_at hl 2 rfl) ?_
        obtain ⟨q2, h_q2, hf⟩ := x_bindE hf
        refine x_ci0 (x_rV ⟨hx, hb, hml, hown, hts⟩ (ct_X5_isBetween l g hfl w rd_0 rn ((rd_0 5 0 4)) (a1) (a2) h_q2) (cwV 3 hts gX5_endOfRun_X5_isBetween rfl rfl rfl (by decide +kernel) ⟨Nat.le_of_ble_eq_true rfl, Nat.le_of_ble_eq_true rfl⟩) hK hW hS (x_recv (i := (g.1 + 1)) (k := 5) (j := 0) hK hW ⟨⟨hfl, rfl⟩, by decide⟩ rfl (by decide)) rfl hl.1 (rest := []) rfl (Nat.le_of_ble_eq_true rfl) dX5_endOfRun_18 ⟨Nat.le_of_ble_eq_true rfl, Nat.le_of_ble_eq_true rfl⟩) hS (fun H locs hW hS => ?_)
        have hW : World g (wR w rd_0 rn) H := hW
        refine W.eq (g2 := F0 m 21 ls [.int q2]) rfl ?_
        refine lv_if_eq (tgt := 37) hx hb dX5_endOfRun_21 (by decide) (fun hc => ?_) (fun hc => ?_)
        · have hf := x_iteT hf hc
          exact KK1 (()) ls _ _ hl hW hS hf
        · have hf := x_iteF hf hc
          refine lv_aload_n hx hb dX5_endOfRun_24 rfl (lv_at hl 0 rfl) ?_
          refine lv_dup hx hb dX5_endOfRun_25 rfl ?_
          refine x_get (i := (g.1 + 1)) (k := 5) (j := 0) (t := 4) hx hb hts i_5 hown hK hW ⟨⟨hfl, rfl⟩, by decide⟩ rfl ⟨by decide, by decide, rfl⟩ (hts (.fieldLink RX5 32 "OpticalJukebox$TextReader" "tokenEnd" "I") (by decide +kernel)) (rfl) dX5_endOfRun_26 ?_
          refine lv_iconst (v := 1) hx hb dX5_endOfRun_29 (by decide) ?_
          refine lv_iadd hx hb dX5_endOfRun_30 ?_
          obtain ⟨rd3, e_rd3, hf⟩ := x_letE hf
          refine x_put (i := (g.1 + 1)) (k := 5) (j := 0) (t := 4) (w' := wR w rd3 rn) hx hb hts i_5 tyX5 tyX5_ok nmX5 hown hK hW ⟨⟨hfl, rfl⟩, by decide⟩ hS rfl ⟨by decide, by decide, rfl⟩ (hts (.fieldLink RX5 32 "OpticalJukebox$TextReader" "tokenEnd" "I") (by decide +kernel)) rfl (ty := .int) (by decide +kernel) rfl rfl ⟨rfl, rfl⟩ dX5_endOfRun_31 (fp_R e_rd3 rfl) (fun H locs hW hS => ?_)
          refine lv_goto (tgt := 0) hx hb dX5_endOfRun_34 (by decide) ?_
          exact ih (rd3) ls _ _ hl hW hS hf
  exact L0 fuel (rd) ls _ _ hl hW hS hf
abbrev rm_X5_nextToken : Room := { frames := 2, cells := 0, slots := 0, locals := 45 }
set_option maxRecDepth 100000 in
set_option maxHeartbeats 4000000 in
theorem ct_X5_nextToken (l : Launch) (g : GT) (hfl : 1 ≤ gf g) (w : WT) (rd : SD) (rn : Nat → Int64) {q : SD} (hf : f_X5_nextToken rd  = some q) : Met l yX5_nextToken wsX5_nextToken rm_X5_nextToken (cPre g (wR w rd rn) [.ref (adr (g.1 + 1) 5 0)]) (cQv g (wR w q rn)) 0 0 (gA g) := by
  have i_5 : ∀ w ∈ u_ws RX5 TX5 9, w ∈ wsX5_nextToken := by decide +kernel
  refine x_met (by decide) rfl (Nat.le_of_ble_eq_true rfl) ?_
  intro p e s m below meth c hx hb hr hml hts hown hlocks hK hW hS ls hl
  have hown : s.vm.findClass RX5 = some m.cls := hown
  have hl : lv_has ls 1 [(0, .ref (adr (g.1 + 1) 5 0))] := hl
  rw [f_X5_nextToken] at hf
  refine lv_aload_n hx hb dX5_nextToken_0 rfl (lv_at hl 0 rfl) ?_
  refine lv_aload_n hx hb dX5_nextToken_1 rfl (lv_at hl 0 rfl) ?_
  refine x_get (i := (g.1 + 1)) (k := 5) (j := 0) (t := 4) hx hb hts i_5 hown hK hW ⟨⟨hfl, rfl⟩, by decide⟩ rfl ⟨by decide, by decide, rfl⟩ (hts (.fieldLink RX5 32 "OpticalJukebox$TextReader" "tokenEnd" "I") (by decide +kernel)) (rfl) dX5_nextToken_2 ?_
  obtain ⟨rd1, e_rd1, hf⟩ := x_letE hf
  refine x_put (i := (g.1 + 1)) (k := 5) (j := 0) (t := 3) (w' := wR w rd1 rn) hx hb hts i_5 tyX5 tyX5_ok nmX5 hown hK hW ⟨⟨hfl, rfl⟩, by decide⟩ hS rfl ⟨by decide, by decide, rfl⟩ (hts (.fieldLink RX5 184 "OpticalJukebox$TextReader" "tokenStart" "I") (by decide +kernel)) rfl (ty := .int) (by decide +kernel) rfl rfl ⟨rfl, rfl⟩ dX5_nextToken_5 (fp_R e_rd1 rfl) (fun H locs hW hS => ?_)
  have L8 : ∀ (n : Nat) (rd_8 : SD) (ls : Array Slot) (H : Heap) (locs : List Loc), lv_has ls 1 [(0, .ref (adr (g.1 + 1) 5 0))] → World g (wR w rd_8 rn) H → va_S (gA g) s.heap H locs → f_X5_nextToken_L8  n rd_8 = some q → W p l e rm_X5_nextToken s m [.ref (adr (g.1 + 1) 5 0)].toArray below meth c H locs 0 0 (MQ below (cQv g (wR w q rn)) [.ref (adr (g.1 + 1) 5 0)].toArray s 0 0 (gA g)) (F0 m 8 ls []) := by
    clear hW hS hl
    intro n
    induction n with
    | zero => intro rd_8 ls H locs hl hW hS hf; cases hf
    | succ n_8 ih =>
      intro rd_8 ls H locs hl hW hS hf
      rw [f_X5_nextToken_L8] at hf
      refine lv_aload_n hx hb dX5_nextToken_8 rfl (lv_at hl 0 rfl) ?_
      refine x_get (i := (g.1 + 1)) (k := 5) (j := 0) (t := 3) hx hb hts i_5 hown hK hW ⟨⟨hfl, rfl⟩, by decide⟩ rfl ⟨by decide, by decide, rfl⟩ (hts (.fieldLink RX5 184 "OpticalJukebox$TextReader" "tokenStart" "I") (by decide +kernel)) (rfl) dX5_nextToken_9 ?_
      refine lv_aload_n hx hb dX5_nextToken_12 rfl (lv_at hl 0 rfl) ?_
      refine x_get (i := (g.1 + 1)) (k := 5) (j := 0) (t := 2) hx hb hts i_5 hown hK hW ⟨⟨hfl, rfl⟩, by decide⟩ rfl ⟨by decide, by decide, rfl⟩ (hts (.fieldLink RX5 29 "OpticalJukebox$TextReader" "length" "I") (by decide +kernel)) (rfl) dX5_nextToken_13 ?_
      obtain ⟨K2, eK2, hf⟩ := x_letE hf
      have KK2 : ∀ (_u : Unit) (ls : Array Slot) (H : Heap) (locs : List Loc), lv_has ls 1 [(0, .ref (adr (g.1 + 1) 5 0))] → World g (wR w rd_8 rn) H → va_S (gA g) s.heap H locs → K2 _u = some q → W p l e rm_X5_nextToken s m [.ref (adr (g.1 + 1) 5 0)].toArray below meth c H locs 0 0 (MQ below (cQv g (wR w q rn)) [.ref (adr (g.1 + 1) 5 0)].toArray s 0 0 (gA g)) (F0 m 60 ls []) := by
        intro _u ls H locs hl hW hS hf
        subst eK2
        refine lv_aload_n hx hb dX5_nextToken_60 rfl (lv_at hl 0 rfl) ?_
        refine lv_aload_n hx hb dX5_nextToken_61 rfl (lv_at hl 0 rfl) ?_
        refine x_get (i := (g.1 + 1)) (k := 5) (j := 0) (t := 3) hx hb hts i_5 hown hK hW ⟨⟨hfl, rfl⟩, by decide⟩ rfl ⟨by decide, by decide, rfl⟩ (hts (.fieldLink RX5 184 "OpticalJukebox$TextReader" "tokenStart" "I") (by decide +kernel)) (rfl) dX5_nextToken_62 ?_
        obtain ⟨rd3, e_rd3, hf⟩ := x_letE hf
        refine x_put (i := (g.1 + 1)) (k := 5) (j := 0) (t := 4) (w' := wR w rd3 rn) hx hb hts i_5 tyX5 tyX5_ok nmX5 hown hK hW ⟨⟨hfl, rfl⟩, by decide⟩ hS rfl ⟨by decide, by decide, rfl⟩ (hts (.fieldLink RX5 32 "OpticalJukebox$TextReader" "tokenEnd" "I") (by decide +kernel)) rfl (ty := .int) (by decide +kernel) rfl rfl ⟨rfl, rfl⟩ dX5_nextToken_65 (fp_R e_rd3 rfl) (fun H locs hW hS => ?_)
        refine lv_aload_n hx hb dX5_nextToken_68 rfl (lv_at hl 0 rfl) ?_
        refine x_get (i := (g.1 + 1)) (k := 5) (j := 0) (t := 3) hx hb hts i_5 hown hK hW ⟨⟨hfl, rfl⟩, by decide⟩ rfl ⟨by decide, by decide, rfl⟩ (hts (.fieldLink RX5 184 "OpticalJukebox$TextReader" "tokenStart" "I") (by decide +kernel)) (rfl) dX5_nextToken_69 ?_
        refine lv_aload_n hx hb dX5_nextToken_72 rfl (lv_at hl 0 rfl) ?_
        refine x_get (i := (g.1 + 1)) (k := 5) (j := 0) (t := 2) hx hb hts i_5 hown hK hW ⟨⟨hfl, rfl⟩, by decide⟩ rfl ⟨by decide, by decide, rfl⟩ (hts (.fieldLink RX5 29 "OpticalJukebox$TextReader" "length" "I") (by decide +kernel)) (rfl) dX5_nextToken_73 ?_
        refine lv_icmp_lt (tgt := 87) hx hb dX5_nextToken_76 (by decide) (fun hc => ?_) (fun hc => ?_)
        · have hf := x_iteT hf hc
          refine lv_aload_n hx hb dX5_nextToken_87 rfl (lv_at hl 0 rfl) ?_
          refine lv_aload_n hx hb dX5_nextToken_88 rfl (lv_at hl 0 rfl) ?_
          refine x_get (i := (g.1 + 1)) (k := 5) (j := 0) (t := 3) hx hb hts i_5 hown hK hW ⟨⟨hfl, rfl⟩, by decide⟩ rfl ⟨by decide, by decide, rfl⟩ (hts (.fieldLink RX5 184 "OpticalJukebox$TextReader" "tokenStart" "I") (by decide +kernel)) (rfl) dX5_nextToken_89 ?_
          refine lv_bipush (v := 97) hx hb dX5_nextToken_92 (by decide) ?_
          refine lv_bipush (v := 122) hx hb dX5_nextToken_94 (by decide) ?_
          obtain ⟨q4, h_q4, hf⟩ := x_bindE hf
          refine x_ci0 (x_rV ⟨hx, hb, hml, hown, hts⟩ (ct_X5_isBetween l g hfl w rd3 rn ((rd3 5 0 3)) ((97 : Int32)) ((122 : Int32)) h_q4) (cwV 3 hts gX5_nextToken_X5_isBetween rfl rfl rfl (by decide +kernel) ⟨Nat.le_of_ble_eq_true rfl, Nat.le_of_ble_eq_true rfl⟩) hK hW hS (x_recv (i := (g.1 + 1)) (k := 5) (j := 0) hK hW ⟨⟨hfl, rfl⟩, by decide⟩ rfl (by decide)) rfl hl.1 (rest := []) rfl (Nat.le_of_ble_eq_true rfl) dX5_nextToken_96 ⟨Nat.le_of_ble_eq_true rfl, Nat.le_of_ble_eq_true rfl⟩) hS (fun H locs hW hS => ?_)
          have hW : World g (wR w rd3 rn) H := hW
          refine W.eq (g2 := F0 m 99 ls [.int q4]) rfl ?_
          refine lv_if_eq (tgt := 127) hx hb dX5_nextToken_99 (by decide) (fun hc => ?_) (fun hc => ?_)
          · have hf := x_iteT hf hc
            refine lv_aload_n hx hb dX5_nextToken_127 rfl (lv_at hl 0 rfl) ?_
            refine lv_aload_n hx hb dX5_nextToken_128 rfl (lv_at hl 0 rfl) ?_
            refine x_get (i := (g.1 + 1)) (k := 5) (j := 0) (t := 3) hx hb hts i_5 hown hK hW ⟨⟨hfl, rfl⟩, by decide⟩ rfl ⟨by decide, by decide, rfl⟩ (hts (.fieldLink RX5 184 "OpticalJukebox$TextReader" "tokenStart" "I") (by decide +kernel)) (rfl) dX5_nextToken_129 ?_
            refine lv_bipush (v := 48) hx hb dX5_nextToken_132 (by decide) ?_
            refine lv_bipush (v := 57) hx hb dX5_nextToken_134 (by decide) ?_
            obtain ⟨q5, h_q5, hf⟩ := x_bindE hf
            refine x_ci0 (x_rV ⟨hx, hb, hml, hown, hts⟩ (ct_X5_isBetween l g hfl w rd3 rn ((rd3 5 0 3)) ((48 : Int32)) ((57 : Int32)) h_q5) (cwV 3 hts gX5_nextToken_X5_isBetween rfl rfl rfl (by decide +kernel) ⟨Nat.le_of_ble_eq_true rfl, Nat.le_of_ble_eq_true rfl⟩) hK hW hS (x_recv (i := (g.1 + 1)) (k := 5) (j := 0) hK hW ⟨⟨hfl, rfl⟩, by decide⟩ rfl (by decide)) rfl hl.1 (rest := []) rfl (Nat.le_of_ble_eq_true rfl) dX5_nextToken_136 ⟨Nat.le_of_ble_eq_true rfl, Nat.le_of_ble_eq_true rfl⟩) hS (fun H locs hW hS => ?_)
            have hW : World g (wR w rd3 rn) H := hW
            refine W.eq (g2 := F0 m 139 ls [.int q5]) rfl ?_
            refine lv_if_eq (tgt := 166) hx hb dX5_nextToken_139 (by decide) (fun hc => ?_) (fun hc => ?_)
            · have hf := x_iteT hf hc
              refine lv_aload_n hx hb dX5_nextToken_166 rfl (lv_at hl 0 rfl) ?_
              refine lv_aload_n hx hb dX5_nextToken_167 rfl (lv_at hl 0 rfl) ?_
              refine x_get (i := (g.1 + 1)) (k := 5) (j := 0) (t := 0) hx hb hts i_5 hown hK hW ⟨⟨hfl, rfl⟩, by decide⟩ rfl ⟨by decide, by decide, rfl⟩ (hts (.fieldLink RX5 9 "OpticalJukebox$TextReader" "text" "[B") (by decide +kernel)) (v := .ref (adr (g.1 + 1) 20 0)) rfl dX5_nextToken_168 ?_
              refine lv_aload_n hx hb dX5_nextToken_171 rfl (lv_at hl 0 rfl) ?_
              refine x_get (i := (g.1 + 1)) (k := 5) (j := 0) (t := 3) hx hb hts i_5 hown hK hW ⟨⟨hfl, rfl⟩, by decide⟩ rfl ⟨by decide, by decide, rfl⟩ (hts (.fieldLink RX5 184 "OpticalJukebox$TextReader" "tokenStart" "I") (by decide +kernel)) (rfl) dX5_nextToken_172 ?_
              obtain ⟨hg6, hf⟩ := x_guardE hf
              refine x_bald (i := (g.1 + 1)) (k := 20) (j := 0) (f := rd3 20 0) hx hb hK hW ⟨⟨hfl, rfl⟩, by decide⟩ (by decide) (rfl) rfl hg6 dX5_nextToken_175 ?_
              refine lv_bipush (v := 59) hx hb dX5_nextToken_176 (by decide) ?_
              obtain ⟨K7, eK7, hf⟩ := x_letE hf
              have KK7 : ∀ (y8 : Int32) (ls : Array Slot) (H : Heap) (locs : List Loc), lv_has ls 1 [(0, .ref (adr (g.1 + 1) 5 0))] → World g (wR w rd3 rn) H → va_S (gA g) s.heap H locs → K7 y8 = some q → W p l e rm_X5_nextToken s m [.ref (adr (g.1 + 1) 5 0)].toArray below meth c H locs 0 0 (MQ below (cQv g (wR w q rn)) [.ref (adr (g.1 + 1) 5 0)].toArray s 0 0 (gA g)) (F0 m 186 ls [.int y8, .ref (adr (g.1 + 1) 5 0)]) := by
                intro y8 ls H locs hl hW hS hf
                subst eK7
                obtain ⟨rd9, e_rd9, hf⟩ := x_letE hf
                refine x_put (i := (g.1 + 1)) (k := 5) (j := 0) (t := 5) (w' := wR w rd9 rn) hx hb hts i_5 tyX5 tyX5_ok nmX5 hown hK hW ⟨⟨hfl, rfl⟩, by decide⟩ hS rfl ⟨by decide, by decide, rfl⟩ (hts (.fieldLink RX5 49 "OpticalJukebox$TextReader" "token" "I") (by decide +kernel)) rfl (ty := .int) (by decide +kernel) rfl rfl ⟨rfl, rfl⟩ dX5_nextToken_186 (fp_R e_rd9 rfl) (fun H locs hW hS => ?_)
                refine lv_aload_n hx hb dX5_nextToken_189 rfl (lv_at hl 0 rfl) ?_
                refine lv_dup hx hb dX5_nextToken_190 rfl ?_
                refine x_get (i := (g.1 + 1)) (k := 5) (j := 0) (t := 4) hx hb hts i_5 hown hK hW ⟨⟨hfl, rfl⟩, by decide⟩ rfl ⟨by decide, by decide, rfl⟩ (hts (.fieldLink RX5 32 "OpticalJukebox$TextReader" "tokenEnd" "I") (by decide +kernel)) (rfl) dX5_nextToken_191 ?_
                refine lv_iconst (v := 1) hx hb dX5_nextToken_194 (by decide) ?_
                refine lv_iadd hx hb dX5_nextToken_195 ?_
                obtain ⟨rd10, e_rd10, hf⟩ := x_letE hf
                refine x_put (i := (g.1 + 1)) (k := 5) (j := 0) (t := 4) (w' := wR w rd10 rn) hx hb hts i_5 tyX5 tyX5_ok nmX5 hown hK hW ⟨⟨hfl, rfl⟩, by decide⟩ hS rfl ⟨by decide, by decide, rfl⟩ (hts (.fieldLink RX5 32 "OpticalJukebox$TextReader" "tokenEnd" "I") (by decide +kernel)) rfl (ty := .int) (by decide +kernel) rfl rfl ⟨rfl, rfl⟩ dX5_nextToken_196 (fp_R e_rd10 rfl) (fun H locs hW hS => ?_)
                cases hf
                exact x_vret hx hb hr hlocks hK hW hS dX5_nextToken_199
              clear eK7
              refine lv_icmp_ne (tgt := 185) hx hb dX5_nextToken_178 (by decide) (fun hc => ?_) (fun hc => ?_)
              · have hf := x_iteF hf hc
                refine lv_iconst (v := 1) hx hb dX5_nextToken_185 (by decide) ?_
                exact KK7 ((1 : Int32)) ls _ _ hl hW hS hf
              · have hf := x_iteT hf hc
                refine lv_iconst (v := 4) hx hb dX5_nextToken_181 (by decide) ?_
                refine lv_goto (tgt := 186) hx hb dX5_nextToken_182 (by decide) ?_
                exact KK7 ((4 : Int32)) ls _ _ hl hW hS hf
            · have hf := x_iteF hf hc
              refine lv_aload_n hx hb dX5_nextToken_142 rfl (lv_at hl 0 rfl) ?_
              refine lv_aload_n hx hb dX5_nextToken_143 rfl (lv_at hl 0 rfl) ?_
              refine lv_bipush (v := 48) hx hb dX5_nextToken_144 (by decide) ?_
              refine lv_bipush (v := 57) hx hb dX5_nextToken_146 (by decide) ?_
              obtain ⟨q11, h_q11, hf⟩ := x_bindE hf
              refine x_ci0 (x_rV ⟨hx, hb, hml, hown, hts⟩ (ct_X5_endOfRun l g hfl w rd3 rn ((48 : Int32)) ((57 : Int32)) h_q11) (cwV 2 hts gX5_nextToken_X5_endOfRun rfl rfl rfl (by decide +kernel) ⟨Nat.le_of_ble_eq_true rfl, Nat.le_of_ble_eq_true rfl⟩) hK hW hS (x_recv (i := (g.1 + 1)) (k := 5) (j := 0) hK hW ⟨⟨hfl, rfl⟩, by decide⟩ rfl (by decide)) rfl hl.1 (rest := [.ref (adr (g.1 + 1) 5 0)]) rfl (Nat.le_of_ble_eq_true rfl) dX5_nextToken_148 ⟨Nat.le_of_ble_eq_true rfl, Nat.le_of_ble_eq_true rfl⟩) hS (fun H locs hW hS => ?_)
              have hW : World g (wR w q11.2 rn) H := hW
              refine W.eq (g2 := F0 m 151 ls [.int q11.1, .ref (adr (g.1 + 1) 5 0)]) rfl ?_
              refine lv_iconst (v := 5) hx hb dX5_nextToken_151 (by decide) ?_
              obtain ⟨K12, eK12, hf⟩ := x_letE hf
              have KK12 : ∀ (y13 : Int32) (ls : Array Slot) (H : Heap) (locs : List Loc), lv_has ls 1 [(0, .ref (adr (g.1 + 1) 5 0))] → World g (wR w q11.2 rn) H → va_S (gA g) s.heap H locs → K12 y13 = some q → W p l e rm_X5_nextToken s m [.ref (adr (g.1 + 1) 5 0)].toArray below meth c H locs 0 0 (MQ below (cQv g (wR w q rn)) [.ref (adr (g.1 + 1) 5 0)].toArray s 0 0 (gA g)) (F0 m 160 ls [.int y13, .ref (adr (g.1 + 1) 5 0)]) := by
                intro y13 ls H locs hl hW hS hf
                subst eK12
                obtain ⟨rd14, e_rd14, hf⟩ := x_letE hf
                refine x_put (i := (g.1 + 1)) (k := 5) (j := 0) (t := 5) (w' := wR w rd14 rn) hx hb hts i_5 tyX5 tyX5_ok nmX5 hown hK hW ⟨⟨hfl, rfl⟩, by decide⟩ hS rfl ⟨by decide, by decide, rfl⟩ (hts (.fieldLink RX5 49 "OpticalJukebox$TextReader" "token" "I") (by decide +kernel)) rfl (ty := .int) (by decide +kernel) rfl rfl ⟨rfl, rfl⟩ dX5_nextToken_160 (fp_R e_rd14 rfl) (fun H locs hW hS => ?_)
                refine lv_goto (tgt := 199) hx hb dX5_nextToken_163 (by decide) ?_
                cases hf
                exact x_vret hx hb hr hlocks hK hW hS dX5_nextToken_199
              clear eK12
              refine lv_icmp_gt (tgt := 159) hx hb dX5_nextToken_152 (by decide) (fun hc => ?_) (fun hc => ?_)
              · have hf := x_iteT hf hc
                refine lv_iconst (v := 1) hx hb dX5_nextToken_159 (by decide) ?_
                exact KK12 ((1 : Int32)) ls _ _ hl hW hS hf
              · have hf := x_iteF hf hc
                refine lv_iconst (v := 3) hx hb dX5_nextToken_155 (by decide) ?_
                refine lv_goto (tgt := 160) hx hb dX5_nextToken_156 (by decide) ?_
                exact KK12 ((3 : Int32)) ls _ _ hl hW hS hf
          · have hf := x_iteF hf hc
            refine lv_aload_n hx hb dX5_nextToken_102 rfl (lv_at hl 0 rfl) ?_
            refine lv_aload_n hx hb dX5_nextToken_103 rfl (lv_at hl 0 rfl) ?_
            refine lv_bipush (v := 97) hx hb dX5_nextToken_104 (by decide) ?_
            refine lv_bipush (v := 122) hx hb dX5_nextToken_106 (by decide) ?_
            obtain ⟨q15, h_q15, hf⟩ := x_bindE hf
            refine x_ci0 (x_rV ⟨hx, hb, hml, hown, hts⟩ (ct_X5_endOfRun l g hfl w rd3 rn ((97 : Int32)) ((122 : Int32)) h_q15) (cwV 2 hts gX5_nextToken_X5_endOfRun rfl rfl rfl (by decide +kernel) ⟨Nat.le_of_ble_eq_true rfl, Nat.le_of_ble_eq_true rfl⟩) hK hW hS (x_recv (i := (g.1 + 1)) (k := 5) (j := 0) hK hW ⟨⟨hfl, rfl⟩, by decide⟩ rfl (by decide)) rfl hl.1 (rest := [.ref (adr (g.1 + 1) 5 0)]) rfl (Nat.le_of_ble_eq_true rfl) dX5_nextToken_108 ⟨Nat.le_of_ble_eq_true rfl, Nat.le_of_ble_eq_true rfl⟩) hS (fun H locs hW hS => ?_)
            have hW : World g (wR w q15.2 rn) H := hW
            refine W.eq (g2 := F0 m 111 ls [.int q15.1, .ref (adr (g.1 + 1) 5 0)]) rfl ?_
            refine lv_bipush (v := 8) hx hb dX5_nextToken_111 (by decide) ?_
            obtain ⟨K16, eK16, hf⟩ := x_letE hf
            have KK16 : ∀ (y17 : Int32) (ls : Array Slot) (H : Heap) (locs : List Loc), lv_has ls 1 [(0, .ref (adr (g.1 + 1) 5 0))] → World g (wR w q15.2 rn) H → va_S (gA g) s.heap H locs → K16 y17 = some q → W p l e rm_X5_nextToken s m [.ref (adr (g.1 + 1) 5 0)].toArray below meth c H locs 0 0 (MQ below (cQv g (wR w q rn)) [.ref (adr (g.1 + 1) 5 0)].toArray s 0 0 (gA g)) (F0 m 121 ls [.int y17, .ref (adr (g.1 + 1) 5 0)]) := by
              intro y17 ls H locs hl hW hS hf
              subst eK16
              obtain ⟨rd18, e_rd18, hf⟩ := x_letE hf
              refine x_put (i := (g.1 + 1)) (k := 5) (j := 0) (t := 5) (w' := wR w rd18 rn) hx hb hts i_5 tyX5 tyX5_ok nmX5 hown hK hW ⟨⟨hfl, rfl⟩, by decide⟩ hS rfl ⟨by decide, by decide, rfl⟩ (hts (.fieldLink RX5 49 "OpticalJukebox$TextReader" "token" "I") (by decide +kernel)) rfl (ty := .int) (by decide +kernel) rfl rfl ⟨rfl, rfl⟩ dX5_nextToken_121 (fp_R e_rd18 rfl) (fun H locs hW hS => ?_)
              refine lv_goto (tgt := 199) hx hb dX5_nextToken_124 (by decide) ?_
              cases hf
              exact x_vret hx hb hr hlocks hK hW hS dX5_nextToken_199
            clear eK16
            refine lv_icmp_gt (tgt := 120) hx hb dX5_nextToken_113 (by decide) (fun hc => ?_) (fun hc => ?_)
            · have hf := x_iteT hf hc
              refine lv_iconst (v := 1) hx hb dX5_nextToken_120 (by decide) ?_
              exact KK16 ((1 : Int32)) ls _ _ hl hW hS hf
            · have hf := x_iteF hf hc
              refine lv_iconst (v := 2) hx hb dX5_nextToken_116 (by decide) ?_
              refine lv_goto (tgt := 121) hx hb dX5_nextToken_117 (by decide) ?_
              exact KK16 ((2 : Int32)) ls _ _ hl hW hS hf
        · have hf := x_iteF hf hc
          refine lv_aload_n hx hb dX5_nextToken_79 rfl (lv_at hl 0 rfl) ?_
          refine lv_iconst (v := 0) hx hb dX5_nextToken_80 (by decide) ?_
          obtain ⟨rd19, e_rd19, hf⟩ := x_letE hf
          refine x_put (i := (g.1 + 1)) (k := 5) (j := 0) (t := 5) (w' := wR w rd19 rn) hx hb hts i_5 tyX5 tyX5_ok nmX5 hown hK hW ⟨⟨hfl, rfl⟩, by decide⟩ hS rfl ⟨by decide, by decide, rfl⟩ (hts (.fieldLink RX5 49 "OpticalJukebox$TextReader" "token" "I") (by decide +kernel)) rfl (ty := .int) (by decide +kernel) rfl rfl ⟨rfl, rfl⟩ dX5_nextToken_81 (fp_R e_rd19 rfl) (fun H locs hW hS => ?_)
          refine lv_goto (tgt := 199) hx hb dX5_nextToken_84 (by decide) ?_
          cases hf
          exact x_vret hx hb hr hlocks hK hW hS dX5_nextToken_199
      clear eK2
      refine lv_icmp_ge (tgt := 60) hx hb dX5_nextToken_16 (by decide) (fun hc => ?_) (fun hc => ?_)
      · have hf := x_iteT hf hc
        exact KK2 (()) ls _ _ hl hW hS hf
      · have hf := x_iteF hf hc
        refine lv_aload_n hx hb dX5_nextToken_19 rfl (lv_at hl 0 rfl) ?_
        refine x_get (i := (g.1 + 1)) (k := 5) (j := 0) (t := 0) hx hb hts i_5 hown hK hW ⟨⟨hfl, rfl⟩, by decide⟩ rfl ⟨by decide, by decide, rfl⟩ (hts (.fieldLink RX5 9 "OpticalJukebox$TextReader" "text" "[B") (by decide +kernel)) (v := .ref (adr (g.1 + 1) 20 0)) rfl dX5_nextToken_20 ?_
        refine lv_aload_n hx hb dX5_nextToken_23 rfl (lv_at hl 0 rfl) ?_
        refine x_get (i := (g.1 + 1)) (k := 5) (j := 0) (t := 3) hx hb hts i_5 hown hK hW ⟨⟨hfl, rfl⟩, by decide⟩ rfl ⟨by decide, by decide, rfl⟩ (hts (.fieldLink RX5 184 "OpticalJukebox$TextReader" "tokenStart" "I") (by decide +kernel)) (rfl) dX5_nextToken_24 ?_
        obtain ⟨hg20, hf⟩ := x_guardE hf
        refine x_bald (i := (g.1 + 1)) (k := 20) (j := 0) (f := rd_8 20 0) hx hb hK hW ⟨⟨hfl, rfl⟩, by decide⟩ (by decide) (rfl) rfl hg20 dX5_nextToken_27 ?_
        refine lv_bipush (v := 32) hx hb dX5_nextToken_28 (by decide) ?_
        obtain ⟨K21, eK21, hf⟩ := x_letE hf
        have KK21 : ∀ (_u : Unit) (ls : Array Slot) (H : Heap) (locs : List Loc), lv_has ls 1 [(0, .ref (adr (g.1 + 1) 5 0))] → World g (wR w rd_8 rn) H → va_S (gA g) s.heap H locs → K21 _u = some q → W p l e rm_X5_nextToken s m [.ref (adr (g.1 + 1) 5 0)].toArray below meth c H locs 0 0 (MQ below (cQv g (wR w q rn)) [.ref (adr (g.1 + 1) 5 0)].toArray s 0 0 (gA g)) (F0 m 47 ls []) := by
          intro _u ls H locs hl hW hS hf
          subst eK21
          refine lv_aload_n hx hb dX5_nextToken_47 rfl (lv_at hl 0 rfl) ?_
          refine lv_dup hx hb dX5_nextToken_48 rfl ?_
          refine x_get (i := (g.1 + 1)) (k := 5) (j := 0) (t := 3) hx hb hts i_5 hown hK hW ⟨⟨hfl, rfl⟩, by decide⟩ rfl ⟨by decide, by decide, rfl⟩ (hts (.fieldLink RX5 184 "OpticalJukebox$TextReader" "tokenStart" "I") (by decide +kernel)) (rfl) dX5_nextToken_49 ?_
          refine lv_iconst (v := 1) hx hb dX5_nextToken_52 (by decide) ?_
          refine lv_iadd hx hb dX5_nextToken_53 ?_
          obtain ⟨rd22, e_rd22, hf⟩ := x_letE hf
          refine x_put (i := (g.1 + 1)) (k := 5) (j := 0) (t := 3) (w' := wR w rd22 rn) hx hb hts i_5 tyX5 tyX5_ok nmX5 hown hK hW ⟨⟨hfl, rfl⟩, by decide⟩ hS rfl ⟨by decide, by decide, rfl⟩ (hts (.fieldLink RX5 184 "OpticalJukebox$TextReader" "tokenStart" "I") (by decide +kernel)) rfl (ty := .int) (by decide +kernel) rfl rfl ⟨rfl, rfl⟩ dX5_nextToken_54 (fp_R e_rd22 rfl) (fun H locs hW hS => ?_)
          refine lv_goto (tgt := 8) hx hb dX5_nextToken_57 (by decide) ?_
          exact ih (rd22) ls _ _ hl hW hS hf
        clear eK21
        refine lv_icmp_eq (tgt := 47) hx hb dX5_nextToken_30 (by decide) (fun hc => ?_) (fun hc => ?_)
        · have hf := x_iteT hf hc
          exact KK21 (()) ls _ _ hl hW hS hf
        · have hf := x_iteF hf hc
          refine lv_aload_n hx hb dX5_nextToken_33 rfl (lv_at hl 0 rfl) ?_
          refine x_get (i := (g.1 + 1)) (k := 5) (j := 0) (t := 0) hx hb hts i_5 hown hK hW ⟨⟨hfl, rfl⟩, by decide⟩ rfl ⟨by decide, by decide, rfl⟩ (hts (.fieldLink RX5 9 "OpticalJukebox$TextReader" "text" "[B") (by decide +kernel)) (v := .ref (adr (g.1 + 1) 20 0)) rfl dX5_nextToken_34 ?_
          refine lv_aload_n hx hb dX5_nextToken_37 rfl (lv_at hl 0 rfl) ?_
          refine x_get (i := (g.1 + 1)) (k := 5) (j := 0) (t := 3) hx hb hts i_5 hown hK hW ⟨⟨hfl, rfl⟩, by decide⟩ rfl ⟨by decide, by decide, rfl⟩ (hts (.fieldLink RX5 184 "OpticalJukebox$TextReader" "tokenStart" "I") (by decide +kernel)) (rfl) dX5_nextToken_38 ?_
          obtain ⟨hg23, hf⟩ := x_guardE hf
          refine x_bald (i := (g.1 + 1)) (k := 20) (j := 0) (f := rd_8 20 0) hx hb hK hW ⟨⟨hfl, rfl⟩, by decide⟩ (by decide) (rfl) rfl hg23 dX5_nextToken_41 ?_
          refine lv_bipush (v := 10) hx hb dX5_nextToken_42 (by decide) ?_
          refine lv_icmp_ne (tgt := 60) hx hb dX5_nextToken_44 (by decide) (fun hc => ?_) (fun hc => ?_)
          · have hf := x_iteF hf hc
            exact KK2 (()) ls _ _ hl hW hS hf
          · have hf := x_iteT hf hc
            exact KK21 (()) ls _ _ hl hW hS hf
  exact L8 fuel (rd1) ls _ _ hl hW hS hf
abbrev rm_X5_fail : Room := { frames := 0, cells := 0, slots := 0, locals := 0 }
set_option maxRecDepth 100000 in
set_option maxHeartbeats 4000000 in
theorem ct_X5_fail (l : Launch) (g : GT) (hfl : 1 ≤ gf g) (w : WT) (rd : SD) (rn : Nat → Int64) (a1 : Int32) {q : (Int32 × SD)} (hf : f_X5_fail rd a1 = some q) : Met l yX5_fail wsX5_fail rm_X5_fail (cPre g (wR w rd rn) [.ref (adr (g.1 + 1) 5 0), .int a1]) (cQi g q.1 (wR w q.2 rn)) 0 0 (gA g) := by
  have i_5 : ∀ w ∈ u_ws RX5 TX5 9, w ∈ wsX5_fail := by decide +kernel
  refine x_met (by decide) rfl (Nat.le_of_ble_eq_true rfl) ?_
  intro p e s m below meth c hx hb hr hml hts hown hlocks hK hW hS ls hl
  have hown : s.vm.findClass RX5 = some m.cls := hown
  have hl : lv_has ls 2 [(0, .ref (adr (g.1 + 1) 5 0)), (1, .int a1)] := hl
  rw [f_X5_fail] at hf
  refine lv_aload_n hx hb dX5_fail_0 rfl (lv_at hl 0 rfl) ?_
  refine lv_iload_n hx hb dX5_fail_1 rfl (lv_at hl 1 rfl) ?_
  obtain ⟨rd1, e_rd1, hf⟩ := x_letE hf
  refine x_put (i := (g.1 + 1)) (k := 5) (j := 0) (t := 7) (w' := wR w rd1 rn) hx hb hts i_5 tyX5 tyX5_ok nmX5 hown hK hW ⟨⟨hfl, rfl⟩, by decide⟩ hS rfl ⟨by decide, by decide, rfl⟩ (hts (.fieldLink RX5 35 "OpticalJukebox$TextReader" "kindOfError" "I") (by decide +kernel)) rfl (ty := .int) (by decide +kernel) rfl rfl ⟨rfl, rfl⟩ dX5_fail_2 (fp_R e_rd1 rfl) (fun H locs hW hS => ?_)
  refine lv_aload_n hx hb dX5_fail_5 rfl (lv_at hl 0 rfl) ?_
  refine lv_aload_n hx hb dX5_fail_6 rfl (lv_at hl 0 rfl) ?_
  refine x_get (i := (g.1 + 1)) (k := 5) (j := 0) (t := 3) hx hb hts i_5 hown hK hW ⟨⟨hfl, rfl⟩, by decide⟩ rfl ⟨by decide, by decide, rfl⟩ (hts (.fieldLink RX5 184 "OpticalJukebox$TextReader" "tokenStart" "I") (by decide +kernel)) (rfl) dX5_fail_7 ?_
  obtain ⟨rd2, e_rd2, hf⟩ := x_letE hf
  refine x_put (i := (g.1 + 1)) (k := 5) (j := 0) (t := 8) (w' := wR w rd2 rn) hx hb hts i_5 tyX5 tyX5_ok nmX5 hown hK hW ⟨⟨hfl, rfl⟩, by decide⟩ hS rfl ⟨by decide, by decide, rfl⟩ (hts (.fieldLink RX5 38 "OpticalJukebox$TextReader" "placeOfError" "I") (by decide +kernel)) rfl (ty := .int) (by decide +kernel) rfl rfl ⟨rfl, rfl⟩ dX5_fail_10 (fp_R e_rd2 rfl) (fun H locs hW hS => ?_)
  refine lv_iconst (v := 0) hx hb dX5_fail_13 (by decide) ?_
  cases hf
  exact x_zret hx hb hr hlocks hK hW hS (Or.inl rfl) rfl dX5_fail_14
abbrev rm_X5_failUnexpected : Room := { frames := 1, cells := 0, slots := 0, locals := 21 }
set_option maxRecDepth 100000 in
set_option maxHeartbeats 4000000 in
theorem ct_X5_failUnexpected (l : Launch) (g : GT) (hfl : 1 ≤ gf g) (w : WT) (rd : SD) (rn : Nat → Int64) {q : (Int32 × SD)} (hf : f_X5_failUnexpected rd  = some q) : Met l yX5_failUnexpected wsX5_failUnexpected rm_X5_failUnexpected (cPre g (wR w rd rn) [.ref (adr (g.1 + 1) 5 0)]) (cQi g q.1 (wR w q.2 rn)) 0 0 (gA g) := by
  have i_5 : ∀ w ∈ u_ws RX5 TX5 9, w ∈ wsX5_failUnexpected := by decide +kernel
  refine x_met (by decide) rfl (Nat.le_of_ble_eq_true rfl) ?_
  intro p e s m below meth c hx hb hr hml hts hown hlocks hK hW hS ls hl
  have hown : s.vm.findClass RX5 = some m.cls := hown
  have hl : lv_has ls 1 [(0, .ref (adr (g.1 + 1) 5 0))] := hl
  rw [f_X5_failUnexpected] at hf
  refine lv_aload_n hx hb dX5_failUnexpected_0 rfl (lv_at hl 0 rfl) ?_
  refine lv_aload_n hx hb dX5_failUnexpected_1 rfl (lv_at hl 0 rfl) ?_
  refine x_get (i := (g.1 + 1)) (k := 5) (j := 0) (t := 5) hx hb hts i_5 hown hK hW ⟨⟨hfl, rfl⟩, by decide⟩ rfl ⟨by decide, by decide, rfl⟩ (hts (.fieldLink RX5 49 "OpticalJukebox$TextReader" "token" "I") (by decide +kernel)) (rfl) dX5_failUnexpected_2 ?_
  refine lv_iconst (v := 1) hx hb dX5_failUnexpected_5 (by decide) ?_
  obtain ⟨K1, eK1, hf⟩ := x_letE hf
  have KK1 : ∀ (y2 : Int32) (ls : Array Slot) (H : Heap) (locs : List Loc), lv_has ls 1 [(0, .ref (adr (g.1 + 1) 5 0))] → World g (wR w rd rn) H → va_S (gA g) s.heap H locs → K1 y2 = some q → W p l e rm_X5_failUnexpected s m [.ref (adr (g.1 + 1) 5 0)].toArray below meth c H locs 0 0 (MQ below (cQi g q.1 (wR w q.2 rn)) [.ref (adr (g.1 + 1) 5 0)].toArray s 0 0 (gA g)) (F0 m 14 ls [.int y2, .ref (adr (g.1 + 1) 5 0)]) := by
    intro y2 ls H locs hl hW hS hf
    subst eK1
    obtain ⟨q3, h_q3, hf⟩ := x_bindE hf
    refine x_ci0 (x_rV ⟨hx, hb, hml, hown, hts⟩ (ct_X5_fail l g hfl w rd rn (y2) h_q3) (cwV 1 hts gX5_failUnexpected_X5_fail rfl rfl rfl (by decide +kernel) ⟨Nat.le_of_ble_eq_true rfl, Nat.le_of_ble_eq_true rfl⟩) hK hW hS (x_recv (i := (g.1 + 1)) (k := 5) (j := 0) hK hW ⟨⟨hfl, rfl⟩, by decide⟩ rfl (by decide)) rfl hl.1 (rest := []) rfl (Nat.le_of_ble_eq_true rfl) dX5_failUnexpected_14 ⟨Nat.le_of_ble_eq_true rfl, Nat.le_of_ble_eq_true rfl⟩) hS (fun H locs hW hS => ?_)
    have hW : World g (wR w q3.2 rn) H := hW
    refine W.eq (g2 := F0 m 17 ls [.int q3.1]) rfl ?_
    obtain ⟨hg4, hf⟩ := x_guardE hf
    cases hf
    exact x_zret hx hb hr hlocks hK hW hS hg4 rfl dX5_failUnexpected_17
  clear eK1
  refine lv_icmp_ne (tgt := 13) hx hb dX5_failUnexpected_6 (by decide) (fun hc => ?_) (fun hc => ?_)
  · have hf := x_iteF hf hc
    refine lv_iconst (v := 2) hx hb dX5_failUnexpected_13 (by decide) ?_
    exact KK1 ((2 : Int32)) ls _ _ hl hW hS hf
  · have hf := x_iteT hf hc
    refine lv_iconst (v := 1) hx hb dX5_failUnexpected_9 (by decide) ?_
    refine lv_goto (tgt := 14) hx hb dX5_failUnexpected_10 (by decide) ?_
    exact KK1 ((1 : Int32)) ls _ _ hl hW hS hf
abbrev rm_X5_tokenValue : Room := { frames := 0, cells := 0, slots := 0, locals := 0 }
set_option maxRecDepth 100000 in
set_option maxHeartbeats 4000000 in
theorem ct_X5_tokenValue (l : Launch) (g : GT) (hfl : 1 ≤ gf g) (w : WT) (rd : SD) (rn : Nat → Int64) {q : Int32} (hf : f_X5_tokenValue rd  = some q) : Met l yX5_tokenValue wsX5_tokenValue rm_X5_tokenValue (cPre g (wR w rd rn) [.ref (adr (g.1 + 1) 5 0)]) (cQi g q (wR w rd rn)) 0 0 (gA g) := by
  have i_5 : ∀ w ∈ u_ws RX5 TX5 9, w ∈ wsX5_tokenValue := by decide +kernel
  refine x_met (by decide) rfl (Nat.le_of_ble_eq_true rfl) ?_
  intro p e s m below meth c hx hb hr hml hts hown hlocks hK hW hS ls hl
  have hown : s.vm.findClass RX5 = some m.cls := hown
  have hl : lv_has ls 3 [(0, .ref (adr (g.1 + 1) 5 0))] := hl
  rw [f_X5_tokenValue] at hf
  refine lv_iconst (v := 0) hx hb dX5_tokenValue_0 (by decide) ?_
  refine lv_istore_n (lv' := [(1, .int (0 : Int32)), (0, .ref (adr (g.1 + 1) 5 0))]) hx hb dX5_tokenValue_1 rfl hl (by decide) rfl (fun ls hl => ?_)
  refine lv_aload_n hx hb dX5_tokenValue_2 rfl (lv_at hl 1 rfl) ?_
  refine x_get (i := (g.1 + 1)) (k := 5) (j := 0) (t := 3) hx hb hts i_5 hown hK hW ⟨⟨hfl, rfl⟩, by decide⟩ rfl ⟨by decide, by decide, rfl⟩ (hts (.fieldLink RX5 184 "OpticalJukebox$TextReader" "tokenStart" "I") (by decide +kernel)) (rfl) dX5_tokenValue_3 ?_
  obtain ⟨x1, e_x1, hf⟩ := x_letE hf
  refine x_topi e_x1 ?_
  refine lv_istore_n (lv' := [(2, .int x1), (1, .int (0 : Int32)), (0, .ref (adr (g.1 + 1) 5 0))]) hx hb dX5_tokenValue_6 rfl hl (by decide) rfl (fun ls hl => ?_)
  have L7 : ∀ (n : Nat) (v1_7 : Int32) (v2_7 : Int32) (ls : Array Slot) (H : Heap) (locs : List Loc), lv_has ls 3 [(0, .ref (adr (g.1 + 1) 5 0)), (1, .int v1_7), (2, .int v2_7)] → World g (wR w rd rn) H → va_S (gA g) s.heap H locs → f_X5_tokenValue_L7 rd n v1_7 v2_7 = some q → W p l e rm_X5_tokenValue s m [.ref (adr (g.1 + 1) 5 0)].toArray below meth c H locs 0 0 (MQ below (cQi g q (wR w rd rn)) [.ref (adr (g.1 + 1) 5 0)].toArray s 0 0 (gA g)) (F0 m 7 ls []) := by
    clear hW hS hl
    intro n
    induction n with
    | zero => intro v1_7 v2_7 ls H locs hl hW hS hf; cases hf
    | succ n_7 ih =>
      intro v1_7 v2_7 ls H locs hl hW hS hf
      rw [f_X5_tokenValue_L7] at hf
      refine lv_iload_n hx hb dX5_tokenValue_7 rfl (lv_at hl 2 rfl) ?_
      refine lv_aload_n hx hb dX5_tokenValue_8 rfl (lv_at hl 0 rfl) ?_
      refine x_get (i := (g.1 + 1)) (k := 5) (j := 0) (t := 4) hx hb hts i_5 hown hK hW ⟨⟨hfl, rfl⟩, by decide⟩ rfl ⟨by decide, by decide, rfl⟩ (hts (.fieldLink RX5 32 "OpticalJukebox$TextReader" "tokenEnd" "I") (by decide +kernel)) (rfl) dX5_tokenValue_9 ?_
      refine lv_icmp_ge (tgt := 36) hx hb dX5_tokenValue_12 (by decide) (fun hc => ?_) (fun hc => ?_)
      · have hf := x_iteT hf hc
        refine lv_iload_n hx hb dX5_tokenValue_36 rfl (lv_at hl 1 rfl) ?_
        cases hf
        exact x_iret hx hb hr hlocks hK hW hS rfl dX5_tokenValue_37
      · have hf := x_iteF hf hc
        refine lv_iload_n hx hb dX5_tokenValue_15 rfl (lv_at hl 1 rfl) ?_
        refine lv_bipush (v := 10) hx hb dX5_tokenValue_16 (by decide) ?_
        refine lv_imul hx hb dX5_tokenValue_18 ?_
        refine lv_aload_n hx hb dX5_tokenValue_19 rfl (lv_at hl 0 rfl) ?_
        refine x_get (i := (g.1 + 1)) (k := 5) (j := 0) (t := 0) hx hb hts i_5 hown hK hW ⟨⟨hfl, rfl⟩, by decide⟩ rfl ⟨by decide, by decide, rfl⟩ (hts (.fieldLink RX5 9 "OpticalJukebox$TextReader" "text" "[B") (by decide +kernel)) (v := .ref (adr (g.1 + 1) 20 0)) rfl dX5_tokenValue_20 ?_
        refine lv_iload_n hx hb dX5_tokenValue_23 rfl (lv_at hl 2 rfl) ?_
        obtain ⟨hg2, hf⟩ := x_guardE hf
        refine x_bald (i := (g.1 + 1)) (k := 20) (j := 0) (f := rd 20 0) hx hb hK hW ⟨⟨hfl, rfl⟩, by decide⟩ (by decide) (rfl) rfl hg2 dX5_tokenValue_24 ?_
        refine lv_bipush (v := 48) hx hb dX5_tokenValue_25 (by decide) ?_
        refine lv_isub hx hb dX5_tokenValue_27 ?_
        refine lv_iadd hx hb dX5_tokenValue_28 ?_
        obtain ⟨x3, e_x3, hf⟩ := x_letE hf
        refine x_topi e_x3 ?_
        refine lv_istore_n (lv' := [(1, .int x3), (0, .ref (adr (g.1 + 1) 5 0)), (2, .int v2_7)]) hx hb dX5_tokenValue_29 rfl hl (by decide) rfl (fun ls hl => ?_)
        obtain ⟨x4, e_x4, hf⟩ := x_letE hf
        refine lv_iinc (v := x4) (lv' := [(2, .int x4), (1, .int x3), (0, .ref (adr (g.1 + 1) 5 0))]) hx hb dX5_tokenValue_30 hl (k := 2) rfl (by rw [e_x4]; rfl) (by decide) rfl (fun ls hl => ?_)
        refine lv_goto (tgt := 7) hx hb dX5_tokenValue_33 (by decide) ?_
        exact ih (x3) (x4) ls _ _ (lv_sub hl [2, 1, 0] rfl) hW hS hf
  exact L7 fuel ((0 : Int32)) (x1) ls _ _ (lv_sub hl [2, 1, 0] rfl) hW hS hf
abbrev rm_X5_readNumber : Room := { frames := 3, cells := 0, slots := 0, locals := 65 }
set_option maxRecDepth 100000 in
set_option maxHeartbeats 4000000 in
theorem ct_X5_readNumber (l : Launch) (g : GT) (hfl : 1 ≤ gf g) (w : WT) (rd : SD) (rn : Nat → Int64) (a1 : Int32) (a2 : Int32) {q : (Int32 × SD)} (hf : f_X5_readNumber rd a1 a2 = some q) : Met l yX5_readNumber wsX5_readNumber rm_X5_readNumber (cPre g (wR w rd rn) [.ref (adr (g.1 + 1) 5 0), .int a1, .int a2]) (cQi g q.1 (wR w q.2 rn)) 0 0 (gA g) := by
  have i_5 : ∀ w ∈ u_ws RX5 TX5 9, w ∈ wsX5_readNumber := by decide +kernel
  refine x_met (by decide) rfl (Nat.le_of_ble_eq_true rfl) ?_
  intro p e s m below meth c hx hb hr hml hts hown hlocks hK hW hS ls hl
  have hown : s.vm.findClass RX5 = some m.cls := hown
  have hl : lv_has ls 4 [(0, .ref (adr (g.1 + 1) 5 0)), (1, .int a1), (2, .int a2)] := hl
  rw [f_X5_readNumber] at hf
  refine lv_aload_n hx hb dX5_readNumber_0 rfl (lv_at hl 0 rfl) ?_
  obtain ⟨q1, h_q1, hf⟩ := x_bindE hf
  refine x_cv0 (x_rV ⟨hx, hb, hml, hown, hts⟩ (ct_X5_nextToken l g hfl w rd rn  h_q1) (cwV 0 hts gX5_readNumber_X5_nextToken rfl rfl rfl (by decide +kernel) ⟨Nat.le_of_ble_eq_true rfl, Nat.le_of_ble_eq_true rfl⟩) hK hW hS (x_recv (i := (g.1 + 1)) (k := 5) (j := 0) hK hW ⟨⟨hfl, rfl⟩, by decide⟩ rfl (by decide)) rfl hl.1 (rest := []) rfl (Nat.le_of_ble_eq_true rfl) dX5_readNumber_1 ⟨Nat.le_of_ble_eq_true rfl, Nat.le_of_ble_eq_true rfl⟩) hS (fun H locs hW hS => ?_)
  have hW : World g (wR w q1 rn) H := hW
  refine lv_aload_n hx hb dX5_readNumber_4 rfl (lv_at hl 0 rfl) ?_
  refine x_get (i := (g.1 + 1)) (k := 5) (j := 0) (t := 5) hx hb hts i_5 hown hK hW ⟨⟨hfl, rfl⟩, by decide⟩ rfl ⟨by decide, by decide, rfl⟩ (hts (.fieldLink RX5 49 "OpticalJukebox$TextReader" "token" "I") (by decide +kernel)) (rfl) dX5_readNumber_5 ?_
  refine lv_iconst (v := 3) hx hb dX5_readNumber_8 (by decide) ?_
  refine lv_icmp_eq (tgt := 19) hx hb dX5_readNumber_9 (by decide) (fun hc => ?_) (fun hc => ?_)
  · have hf := x_iteT hf hc
    refine lv_aload_n hx hb dX5_readNumber_19 rfl (lv_at hl 0 rfl) ?_
    obtain ⟨q2, h_q2, hf⟩ := x_bindE hf
    refine x_ci0 (x_rV ⟨hx, hb, hml, hown, hts⟩ (ct_X5_tokenValue l g hfl w q1 rn  h_q2) (cwV 0 hts gX5_readNumber_X5_tokenValue rfl rfl rfl (by decide +kernel) ⟨Nat.le_of_ble_eq_true rfl, Nat.le_of_ble_eq_true rfl⟩) hK hW hS (x_recv (i := (g.1 + 1)) (k := 5) (j := 0) hK hW ⟨⟨hfl, rfl⟩, by decide⟩ rfl (by decide)) rfl hl.1 (rest := []) rfl (Nat.le_of_ble_eq_true rfl) dX5_readNumber_20 ⟨Nat.le_of_ble_eq_true rfl, Nat.le_of_ble_eq_true rfl⟩) hS (fun H locs hW hS => ?_)
    have hW : World g (wR w q1 rn) H := hW
    refine W.eq (g2 := F0 m 23 ls [.int q2]) rfl ?_
    refine lv_istore_n (lv' := [(3, .int q2), (0, .ref (adr (g.1 + 1) 5 0)), (1, .int a1), (2, .int a2)]) hx hb dX5_readNumber_23 rfl hl (by decide) rfl (fun ls hl => ?_)
    refine lv_iload_n hx hb dX5_readNumber_24 rfl (lv_at hl 0 rfl) ?_
    refine lv_iload_n hx hb dX5_readNumber_25 rfl (lv_at hl 2 rfl) ?_
    obtain ⟨K3, eK3, hf⟩ := x_letE hf
    have KK3 : ∀ (_u : Unit) (ls : Array Slot) (H : Heap) (locs : List Loc), lv_has ls 4 [(0, .ref (adr (g.1 + 1) 5 0)), (1, .int a1), (2, .int a2), (3, .int q2)] → World g (wR w q1 rn) H → va_S (gA g) s.heap H locs → K3 _u = some q → W p l e rm_X5_readNumber s m [.ref (adr (g.1 + 1) 5 0), .int a1, .int a2].toArray below meth c H locs 0 0 (MQ below (cQi g q.1 (wR w q.2 rn)) [.ref (adr (g.1 + 1) 5 0), .int a1, .int a2].toArray s 0 0 (gA g)) (F0 m 34 ls []) := by
      intro _u ls H locs hl hW hS hf
      subst eK3
      refine lv_aload_n hx hb dX5_readNumber_34 rfl (lv_at hl 0 rfl) ?_
      refine lv_iconst (v := 3) hx hb dX5_readNumber_35 (by decide) ?_
      obtain ⟨q4, h_q4, hf⟩ := x_bindE hf
      refine x_ci0 (x_rV ⟨hx, hb, hml, hown, hts⟩ (ct_X5_fail l g hfl w q1 rn ((3 : Int32)) h_q4) (cwV 1 hts gX5_readNumber_X5_fail rfl rfl rfl (by decide +kernel) ⟨Nat.le_of_ble_eq_true rfl, Nat.le_of_ble_eq_true rfl⟩) hK hW hS (x_recv (i := (g.1 + 1)) (k := 5) (j := 0) hK hW ⟨⟨hfl, rfl⟩, by decide⟩ rfl (by decide)) rfl hl.1 (rest := []) rfl (Nat.le_of_ble_eq_true rfl) dX5_readNumber_36 ⟨Nat.le_of_ble_eq_true rfl, Nat.le_of_ble_eq_true rfl⟩) hS (fun H locs hW hS => ?_)
      have hW : World g (wR w q4.2 rn) H := hW
      refine W.eq (g2 := F0 m 39 ls [.int q4.1]) rfl ?_
      refine lv_pop hx hb dX5_readNumber_39 rfl ?_
      refine lv_iconst (v := -1) hx hb dX5_readNumber_40 (by decide) ?_
      cases hf
      exact x_iret hx hb hr hlocks hK hW hS rfl dX5_readNumber_41
    clear eK3
    refine lv_icmp_lt (tgt := 34) hx hb dX5_readNumber_26 (by decide) (fun hc => ?_) (fun hc => ?_)
    · have hf := x_iteT hf hc
      exact KK3 (()) ls _ _ (lv_sub hl [1, 2, 3, 0] rfl) hW hS hf
    · have hf := x_iteF hf hc
      refine lv_iload_n hx hb dX5_readNumber_29 rfl (lv_at hl 0 rfl) ?_
      refine lv_iload_n hx hb dX5_readNumber_30 rfl (lv_at hl 3 rfl) ?_
      refine lv_icmp_le (tgt := 42) hx hb dX5_readNumber_31 (by decide) (fun hc => ?_) (fun hc => ?_)
      · have hf := x_iteT hf hc
        refine lv_iload_n hx hb dX5_readNumber_42 rfl (lv_at hl 0 rfl) ?_
        cases hf
        exact x_iret hx hb hr hlocks hK hW hS rfl dX5_readNumber_43
      · have hf := x_iteF hf hc
        exact KK3 (()) ls _ _ (lv_sub hl [1, 2, 3, 0] rfl) hW hS hf
  · have hf := x_iteF hf hc
    refine lv_aload_n hx hb dX5_readNumber_12 rfl (lv_at hl 0 rfl) ?_
    obtain ⟨q5, h_q5, hf⟩ := x_bindE hf
    refine x_ci0 (x_rV ⟨hx, hb, hml, hown, hts⟩ (ct_X5_failUnexpected l g hfl w q1 rn  h_q5) (cwV 0 hts gX5_readNumber_X5_failUnexpected rfl rfl rfl (by decide +kernel) ⟨Nat.le_of_ble_eq_true rfl, Nat.le_of_ble_eq_true rfl⟩) hK hW hS (x_recv (i := (g.1 + 1)) (k := 5) (j := 0) hK hW ⟨⟨hfl, rfl⟩, by decide⟩ rfl (by decide)) rfl hl.1 (rest := []) rfl (Nat.le_of_ble_eq_true rfl) dX5_readNumber_13 ⟨Nat.le_of_ble_eq_true rfl, Nat.le_of_ble_eq_true rfl⟩) hS (fun H locs hW hS => ?_)
    have hW : World g (wR w q5.2 rn) H := hW
    refine W.eq (g2 := F0 m 16 ls [.int q5.1]) rfl ?_
    refine lv_pop hx hb dX5_readNumber_16 rfl ?_
    refine lv_iconst (v := -1) hx hb dX5_readNumber_17 (by decide) ?_
    cases hf
    exact x_iret hx hb hr hlocks hK hW hS rfl dX5_readNumber_18
abbrev rm_X5_readSlots : Room := { frames := 4, cells := 0, slots := 0, locals := 88 }
set_option maxRecDepth 100000 in
set_option maxHeartbeats 4000000 in
theorem ct_X5_readSlots (l : Launch) (g : GT) (hfl : 1 ≤ gf g) (w : WT) (rd : SD) (rn : Nat → Int64) (i : Nat) (hi : i ∈ k_S w.1) (sd : SD) {q : (Int32 × SD × SD)} (hf : f_X5_readSlots sd rd  = some q) : Met l yX5_readSlots wsX5_readSlots rm_X5_readSlots (cPre g (wS (wR w rd rn) i sd) [.ref (adr (g.1 + 1) 5 0), .ref (adr i 4 0)]) (cQi g q.1 (wS (wR w q.2.2 rn) i q.2.1)) 0 0 (gA g) := by
  have i_4 : ∀ w ∈ u_ws RX4 TX4 18, w ∈ wsX5_readSlots := by decide +kernel
  refine x_met (by decide) rfl (Nat.le_of_ble_eq_true rfl) ?_
  intro p e s m below meth c hx hb hr hml hts hown hlocks hK hW hS ls hl
  have hown : s.vm.findClass RX5 = some m.cls := hown
  have hl : lv_has ls 3 [(0, .ref (adr (g.1 + 1) 5 0)), (1, .ref (adr i 4 0))] := hl
  rw [f_X5_readSlots] at hf
  refine lv_aload_n hx hb dX5_readSlots_0 rfl (lv_at hl 0 rfl) ?_
  refine lv_iconst (v := 4) hx hb dX5_readSlots_1 (by decide) ?_
  refine lv_bipush (v := 24) hx hb dX5_readSlots_2 (by decide) ?_
  obtain ⟨q1, h_q1, hf⟩ := x_bindE hf
  refine x_ci0 (x_rV ⟨hx, hb, hml, hown, hts⟩ (ct_X5_readNumber l g hfl (wS w i sd) rd rn ((4 : Int32)) ((24 : Int32)) h_q1) (cwV 2 hts gX5_readSlots_X5_readNumber rfl rfl rfl (by decide +kernel) ⟨Nat.le_of_ble_eq_true rfl, Nat.le_of_ble_eq_true rfl⟩) hK hW hS (x_recv (i := (g.1 + 1)) (k := 5) (j := 0) hK hW ⟨⟨hfl, rfl⟩, by decide⟩ rfl (by decide)) rfl hl.1 (rest := []) rfl (Nat.le_of_ble_eq_true rfl) dX5_readSlots_4 ⟨Nat.le_of_ble_eq_true rfl, Nat.le_of_ble_eq_true rfl⟩) hS (fun H locs hW hS => ?_)
  have hW : World g (wS (wR w q1.2 rn) i sd) H := hW
  refine W.eq (g2 := F0 m 7 ls [.int q1.1]) rfl ?_
  obtain ⟨x2, e_x2, hf⟩ := x_letE hf
  refine x_topi e_x2 ?_
  refine lv_istore_n (lv' := [(2, .int x2), (0, .ref (adr (g.1 + 1) 5 0)), (1, .ref (adr i 4 0))]) hx hb dX5_readSlots_7 rfl hl (by decide) rfl (fun ls hl => ?_)
  refine lv_iload_n hx hb dX5_readSlots_8 rfl (lv_at hl 0 rfl) ?_
  refine lv_iconst (v := -1) hx hb dX5_readSlots_9 (by decide) ?_
  refine lv_icmp_ne (tgt := 15) hx hb dX5_readSlots_10 (by decide) (fun hc => ?_) (fun hc => ?_)
  · have hf := x_iteF hf hc
    refine lv_aload_n hx hb dX5_readSlots_15 rfl (lv_at hl 2 rfl) ?_
    refine lv_iload_n hx hb dX5_readSlots_16 rfl (lv_at hl 0 rfl) ?_
    obtain ⟨sd3, e_sd3, hf⟩ := x_letE hf
    refine x_put (i := i) (k := 4) (j := 0) (t := 0) (w' := wS (wR w q1.2 rn) i sd3) hx hb hts i_4 tyX4 tyX4_ok nmX4 hown hK hW ⟨hi, by decide⟩ hS rfl ⟨by decide, by decide, rfl⟩ (hts (.fieldLink RX5 110 "OpticalJukebox$State" "slotCount" "I") (by decide +kernel)) rfl (ty := .int) (by decide +kernel) rfl rfl ⟨rfl, rfl⟩ dX5_readSlots_17 (fp_S e_sd3 rfl) (fun H locs hW hS => ?_)
    refine lv_iconst (v := 1) hx hb dX5_readSlots_20 (by decide) ?_
    cases hf
    exact x_zret hx hb hr hlocks hK hW hS (Or.inr rfl) rfl dX5_readSlots_21
  · have hf := x_iteT hf hc
    refine lv_iconst (v := 0) hx hb dX5_readSlots_13 (by decide) ?_
    cases hf
    exact x_zret hx hb hr hlocks hK hW hS (Or.inl rfl) rfl dX5_readSlots_14
abbrev rm_X5_readDrive : Room := { frames := 4, cells := 0, slots := 0, locals := 88 }
set_option maxRecDepth 100000 in
set_option maxHeartbeats 4000000 in
theorem ct_X5_readDrive (l : Launch) (g : GT) (hfl : 1 ≤ gf g) (w : WT) (rd : SD) (rn : Nat → Int64) (i : Nat) (hi : i ∈ k_S w.1) (sd : SD) {q : (Int32 × SD × SD)} (hf : f_X5_readDrive sd rd  = some q) : Met l yX5_readDrive wsX5_readDrive rm_X5_readDrive (cPre g (wS (wR w rd rn) i sd) [.ref (adr (g.1 + 1) 5 0), .ref (adr i 4 0)]) (cQi g q.1 (wS (wR w q.2.2 rn) i q.2.1)) 0 0 (gA g) := by
  have i_4 : ∀ w ∈ u_ws RX4 TX4 18, w ∈ wsX5_readDrive := by decide +kernel
  refine x_met (by decide) rfl (Nat.le_of_ble_eq_true rfl) ?_
  intro p e s m below meth c hx hb hr hml hts hown hlocks hK hW hS ls hl
  have hown : s.vm.findClass RX5 = some m.cls := hown
  have hl : lv_has ls 3 [(0, .ref (adr (g.1 + 1) 5 0)), (1, .ref (adr i 4 0))] := hl
  rw [f_X5_readDrive] at hf
  refine lv_aload_n hx hb dX5_readDrive_0 rfl (lv_at hl 1 rfl) ?_
  refine x_get (i := i) (k := 4) (j := 0) (t := 3) hx hb hts i_4 hown hK hW ⟨hi, by decide⟩ rfl ⟨by decide, by decide, rfl⟩ (hts (.fieldLink RX5 113 "OpticalJukebox$State" "driveCount" "I") (by decide +kernel)) (sv_S rfl (fun _ => rfl) rfl) dX5_readDrive_1 ?_
  refine lv_iconst (v := 4) hx hb dX5_readDrive_4 (by decide) ?_
  refine lv_icmp_lt (tgt := 14) hx hb dX5_readDrive_5 (by decide) (fun hc => ?_) (fun hc => ?_)
  · have hf := x_iteT hf hc
    refine lv_aload_n hx hb dX5_readDrive_14 rfl (lv_at hl 0 rfl) ?_
    refine lv_iconst (v := 0) hx hb dX5_readDrive_15 (by decide) ?_
    refine lv_aload_n hx hb dX5_readDrive_16 rfl (lv_at hl 1 rfl) ?_
    refine x_get (i := i) (k := 4) (j := 0) (t := 0) hx hb hts i_4 hown hK hW ⟨hi, by decide⟩ rfl ⟨by decide, by decide, rfl⟩ (hts (.fieldLink RX5 110 "OpticalJukebox$State" "slotCount" "I") (by decide +kernel)) (sv_S rfl (fun _ => rfl) rfl) dX5_readDrive_17 ?_
    refine lv_iconst (v := 1) hx hb dX5_readDrive_20 (by decide) ?_
    refine lv_isub hx hb dX5_readDrive_21 ?_
    obtain ⟨q1, h_q1, hf⟩ := x_bindE hf
    refine x_ci0 (x_rV ⟨hx, hb, hml, hown, hts⟩ (ct_X5_readNumber l g hfl (wS w i sd) rd rn ((0 : Int32)) (((sd 4 0 0) - (1 : Int32))) h_q1) (cwV 2 hts gX5_readDrive_X5_readNumber rfl rfl rfl (by decide +kernel) ⟨Nat.le_of_ble_eq_true rfl, Nat.le_of_ble_eq_true rfl⟩) hK hW hS (x_recv (i := (g.1 + 1)) (k := 5) (j := 0) hK hW ⟨⟨hfl, rfl⟩, by decide⟩ rfl (by decide)) rfl hl.1 (rest := []) rfl (Nat.le_of_ble_eq_true rfl) dX5_readDrive_22 ⟨Nat.le_of_ble_eq_true rfl, Nat.le_of_ble_eq_true rfl⟩) hS (fun H locs hW hS => ?_)
    have hW : World g (wS (wR w q1.2 rn) i sd) H := hW
    refine W.eq (g2 := F0 m 25 ls [.int q1.1]) rfl ?_
    obtain ⟨x2, e_x2, hf⟩ := x_letE hf
    refine x_topi e_x2 ?_
    refine lv_istore_n (lv' := [(2, .int x2), (0, .ref (adr (g.1 + 1) 5 0)), (1, .ref (adr i 4 0))]) hx hb dX5_readDrive_25 rfl hl (by decide) rfl (fun ls hl => ?_)
    refine lv_iload_n hx hb dX5_readDrive_26 rfl (lv_at hl 0 rfl) ?_
    refine lv_iconst (v := -1) hx hb dX5_readDrive_27 (by decide) ?_
    refine lv_icmp_ne (tgt := 33) hx hb dX5_readDrive_28 (by decide) (fun hc => ?_) (fun hc => ?_)
    · have hf := x_iteF hf hc
      refine lv_aload_n hx hb dX5_readDrive_33 rfl (lv_at hl 2 rfl) ?_
      refine lv_iload_n hx hb dX5_readDrive_34 rfl (lv_at hl 0 rfl) ?_
      obtain ⟨q3, h_q3, hf⟩ := x_bindE hf
      refine x_cv0 (x_rV ⟨hx, hb, hml, hown, hts⟩ (ct_X4_addDrive l g (wR w q1.2 rn) i hi sd (x2) h_q3) (cwV 1 hts gX5_readDrive_X4_addDrive rfl rfl rfl (by decide +kernel) ⟨Nat.le_of_ble_eq_true rfl, Nat.le_of_ble_eq_true rfl⟩) hK hW hS (x_recv (i := i) (k := 4) (j := 0) hK hW ⟨hi, by decide⟩ rfl (by decide)) rfl hl.1 (rest := []) rfl (Nat.le_of_ble_eq_true rfl) dX5_readDrive_35 ⟨Nat.le_of_ble_eq_true rfl, Nat.le_of_ble_eq_true rfl⟩) hS (fun H locs hW hS => ?_)
      have hW : World g (wS (wR w q1.2 rn) i q3) H := hW
      refine lv_iconst (v := 1) hx hb dX5_readDrive_38 (by decide) ?_
      cases hf
      exact x_zret hx hb hr hlocks hK hW hS (Or.inr rfl) rfl dX5_readDrive_39
    · have hf := x_iteT hf hc
      refine lv_iconst (v := 0) hx hb dX5_readDrive_31 (by decide) ?_
      cases hf
      exact x_zret hx hb hr hlocks hK hW hS (Or.inl rfl) rfl dX5_readDrive_32
  · have hf := x_iteF hf hc
    refine lv_aload_n hx hb dX5_readDrive_8 rfl (lv_at hl 0 rfl) ?_
    refine lv_iconst (v := 5) hx hb dX5_readDrive_9 (by decide) ?_
    obtain ⟨q4, h_q4, hf⟩ := x_bindE hf
    refine x_ci0 (x_rV ⟨hx, hb, hml, hown, hts⟩ (ct_X5_fail l g hfl (wS w i sd) rd rn ((5 : Int32)) h_q4) (cwV 1 hts gX5_readDrive_X5_fail rfl rfl rfl (by decide +kernel) ⟨Nat.le_of_ble_eq_true rfl, Nat.le_of_ble_eq_true rfl⟩) hK hW hS (x_recv (i := (g.1 + 1)) (k := 5) (j := 0) hK hW ⟨⟨hfl, rfl⟩, by decide⟩ rfl (by decide)) rfl hl.1 (rest := []) rfl (Nat.le_of_ble_eq_true rfl) dX5_readDrive_10 ⟨Nat.le_of_ble_eq_true rfl, Nat.le_of_ble_eq_true rfl⟩) hS (fun H locs hW hS => ?_)
    have hW : World g (wS (wR w q4.2 rn) i sd) H := hW
    refine W.eq (g2 := F0 m 13 ls [.int q4.1]) rfl ?_
    obtain ⟨hg5, hf⟩ := x_guardE hf
    cases hf
    exact x_zret hx hb hr hlocks hK hW hS hg5 rfl dX5_readDrive_13
abbrev rm_X5_readTimes : Room := { frames := 4, cells := 0, slots := 0, locals := 88 }
set_option maxRecDepth 100000 in
set_option maxHeartbeats 4000000 in
theorem ct_X5_readTimes (l : Launch) (g : GT) (hfl : 1 ≤ gf g) (w : WT) (rd : SD) (rn : Nat → Int64) (i : Nat) (hi : i ∈ k_S w.1) (sd : SD) {q : (Int32 × SD × SD)} (hf : f_X5_readTimes sd rd  = some q) : Met l yX5_readTimes wsX5_readTimes rm_X5_readTimes (cPre g (wS (wR w rd rn) i sd) [.ref (adr (g.1 + 1) 5 0), .ref (adr i 4 0)]) (cQi g q.1 (wS (wR w q.2.2 rn) i q.2.1)) 0 0 (gA g) := by
  have i_4 : ∀ w ∈ u_ws RX4 TX4 18, w ∈ wsX5_readTimes := by decide +kernel
  refine x_met (by decide) rfl (Nat.le_of_ble_eq_true rfl) ?_
  intro p e s m below meth c hx hb hr hml hts hown hlocks hK hW hS ls hl
  have hown : s.vm.findClass RX5 = some m.cls := hown
  have hl : lv_has ls 4 [(0, .ref (adr (g.1 + 1) 5 0)), (1, .ref (adr i 4 0))] := hl
  rw [f_X5_readTimes] at hf
  refine lv_iconst (v := 0) hx hb dX5_readTimes_0 (by decide) ?_
  refine lv_istore_n (lv' := [(2, .int (0 : Int32)), (0, .ref (adr (g.1 + 1) 5 0)), (1, .ref (adr i 4 0))]) hx hb dX5_readTimes_1 rfl hl (by decide) rfl (fun ls hl => ?_)
  have L2 : ∀ (n : Nat) (v2_2 : Int32) (sd_2 : SD) (rd_2 : SD) (ls : Array Slot) (H : Heap) (locs : List Loc), lv_has ls 4 [(0, .ref (adr (g.1 + 1) 5 0)), (1, .ref (adr i 4 0)), (2, .int v2_2)] → World g (wS (wR w rd_2 rn) i sd_2) H → va_S (gA g) s.heap H locs → f_X5_readTimes_L2  n v2_2 sd_2 rd_2 = some q → W p l e rm_X5_readTimes s m [.ref (adr (g.1 + 1) 5 0), .ref (adr i 4 0)].toArray below meth c H locs 0 0 (MQ below (cQi g q.1 (wS (wR w q.2.2 rn) i q.2.1)) [.ref (adr (g.1 + 1) 5 0), .ref (adr i 4 0)].toArray s 0 0 (gA g)) (F0 m 2 ls []) := by
    clear hW hS hl
    intro n
    induction n with
    | zero => intro v2_2 sd_2 rd_2 ls H locs hl hW hS hf; cases hf
    | succ n_2 ih =>
      intro v2_2 sd_2 rd_2 ls H locs hl hW hS hf
      rw [f_X5_readTimes_L2] at hf
      refine lv_iload_n hx hb dX5_readTimes_2 rfl (lv_at hl 2 rfl) ?_
      refine lv_iconst (v := 5) hx hb dX5_readTimes_3 (by decide) ?_
      refine lv_icmp_ge (tgt := 35) hx hb dX5_readTimes_4 (by decide) (fun hc => ?_) (fun hc => ?_)
      · have hf := x_iteT hf hc
        refine lv_iconst (v := 1) hx hb dX5_readTimes_35 (by decide) ?_
        cases hf
        exact x_zret hx hb hr hlocks hK hW hS (Or.inr rfl) rfl dX5_readTimes_36
      · have hf := x_iteF hf hc
        refine lv_aload_n hx hb dX5_readTimes_7 rfl (lv_at hl 0 rfl) ?_
        refine lv_iconst (v := 0) hx hb dX5_readTimes_8 (by decide) ?_
        refine lv_bipush (v := 99) hx hb dX5_readTimes_9 (by decide) ?_
        obtain ⟨q1, h_q1, hf⟩ := x_bindE hf
        refine x_ci0 (x_rV ⟨hx, hb, hml, hown, hts⟩ (ct_X5_readNumber l g hfl (wS w i sd_2) rd_2 rn ((0 : Int32)) ((99 : Int32)) h_q1) (cwV 2 hts gX5_readTimes_X5_readNumber rfl rfl rfl (by decide +kernel) ⟨Nat.le_of_ble_eq_true rfl, Nat.le_of_ble_eq_true rfl⟩) hK hW hS (x_recv (i := (g.1 + 1)) (k := 5) (j := 0) hK hW ⟨⟨hfl, rfl⟩, by decide⟩ rfl (by decide)) rfl hl.1 (rest := []) rfl (Nat.le_of_ble_eq_true rfl) dX5_readTimes_11 ⟨Nat.le_of_ble_eq_true rfl, Nat.le_of_ble_eq_true rfl⟩) hS (fun H locs hW hS => ?_)
        have hW : World g (wS (wR w q1.2 rn) i sd_2) H := hW
        refine W.eq (g2 := F0 m 14 ls [.int q1.1]) rfl ?_
        obtain ⟨x2, e_x2, hf⟩ := x_letE hf
        refine x_topi e_x2 ?_
        refine lv_istore_n (lv' := [(3, .int x2), (0, .ref (adr (g.1 + 1) 5 0)), (1, .ref (adr i 4 0)), (2, .int v2_2)]) hx hb dX5_readTimes_14 rfl hl (by decide) rfl (fun ls hl => ?_)
        refine lv_iload_n hx hb dX5_readTimes_15 rfl (lv_at hl 0 rfl) ?_
        refine lv_iconst (v := -1) hx hb dX5_readTimes_16 (by decide) ?_
        refine lv_icmp_ne (tgt := 22) hx hb dX5_readTimes_17 (by decide) (fun hc => ?_) (fun hc => ?_)
        · have hf := x_iteF hf hc
          refine lv_aload_n hx hb dX5_readTimes_22 rfl (lv_at hl 2 rfl) ?_
          refine x_get (i := i) (k := 4) (j := 0) (t := 1) hx hb hts i_4 hown hK hW ⟨hi, by decide⟩ rfl ⟨by decide, by decide, rfl⟩ (hts (.fieldLink RX5 120 "OpticalJukebox$State" "times" "[I") (by decide +kernel)) (v := .ref (adr i 10 0)) rfl dX5_readTimes_23 ?_
          refine lv_iload_n hx hb dX5_readTimes_26 rfl (lv_at hl 3 rfl) ?_
          refine lv_iload_n hx hb dX5_readTimes_27 rfl (lv_at hl 0 rfl) ?_
          obtain ⟨hg3, hf⟩ := x_guardE hf
          obtain ⟨sd4, e_sd4, hf⟩ := x_letE hf
          refine x_iast (i := i) (k := 10) (j := 0) (w' := wS (wR w q1.2 rn) i sd4) hx hb hK hW ⟨hi, by decide⟩ hS (by decide) rfl rfl rfl hg3 dX5_readTimes_28 (fp_S e_sd4 rfl) (fun H locs hW hS => ?_)
          obtain ⟨x5, e_x5, hf⟩ := x_letE hf
          refine lv_iinc (v := x5) (lv' := [(2, .int x5), (3, .int x2), (0, .ref (adr (g.1 + 1) 5 0)), (1, .ref (adr i 4 0))]) hx hb dX5_readTimes_29 hl (k := 3) rfl (by rw [e_x5]; rfl) (by decide) rfl (fun ls hl => ?_)
          refine lv_goto (tgt := 2) hx hb dX5_readTimes_32 (by decide) ?_
          exact ih (x5) (sd4) (q1.2) ls _ _ (lv_sub hl [2, 3, 0] rfl) hW hS hf
        · have hf := x_iteT hf hc
          refine lv_iconst (v := 0) hx hb dX5_readTimes_20 (by decide) ?_
          cases hf
          exact x_zret hx hb hr hlocks hK hW hS (Or.inl rfl) rfl dX5_readTimes_21
  exact L2 fuel ((0 : Int32)) (sd) (rd) ls _ _ (lv_sub hl [1, 2, 0] rfl) hW hS hf
abbrev rm_X5_readPlatter : Room := { frames := 4, cells := 0, slots := 0, locals := 88 }
set_option maxRecDepth 100000 in
set_option maxHeartbeats 4000000 in
theorem ct_X5_readPlatter (l : Launch) (g : GT) (hfl : 1 ≤ gf g) (w : WT) (rd : SD) (rn : Nat → Int64) (i : Nat) (hi : i ∈ k_S w.1) (sd : SD) {q : (Int32 × SD × SD)} (hf : f_X5_readPlatter sd rd  = some q) : Met l yX5_readPlatter wsX5_readPlatter rm_X5_readPlatter (cPre g (wS (wR w rd rn) i sd) [.ref (adr (g.1 + 1) 5 0), .ref (adr i 4 0)]) (cQi g q.1 (wS (wR w q.2.2 rn) i q.2.1)) 0 0 (gA g) := by
  have i_4 : ∀ w ∈ u_ws RX4 TX4 18, w ∈ wsX5_readPlatter := by decide +kernel
  refine x_met (by decide) rfl (Nat.le_of_ble_eq_true rfl) ?_
  intro p e s m below meth c hx hb hr hml hts hown hlocks hK hW hS ls hl
  have hown : s.vm.findClass RX5 = some m.cls := hown
  have hl : lv_has ls 5 [(0, .ref (adr (g.1 + 1) 5 0)), (1, .ref (adr i 4 0))] := hl
  rw [f_X5_readPlatter] at hf
  refine lv_aload_n hx hb dX5_readPlatter_0 rfl (lv_at hl 1 rfl) ?_
  refine x_get (i := i) (k := 4) (j := 0) (t := 6) hx hb hts i_4 hown hK hW ⟨hi, by decide⟩ rfl ⟨by decide, by decide, rfl⟩ (hts (.fieldLink RX5 124 "OpticalJukebox$State" "platterCount" "I") (by decide +kernel)) (sv_S rfl (fun _ => rfl) rfl) dX5_readPlatter_1 ?_
  refine lv_bipush (v := 10) hx hb dX5_readPlatter_4 (by decide) ?_
  refine lv_icmp_lt (tgt := 15) hx hb dX5_readPlatter_6 (by decide) (fun hc => ?_) (fun hc => ?_)
  · have hf := x_iteT hf hc
    refine lv_aload_n hx hb dX5_readPlatter_15 rfl (lv_at hl 0 rfl) ?_
    refine lv_iconst (v := 0) hx hb dX5_readPlatter_16 (by decide) ?_
    refine lv_aload_n hx hb dX5_readPlatter_17 rfl (lv_at hl 1 rfl) ?_
    refine x_get (i := i) (k := 4) (j := 0) (t := 0) hx hb hts i_4 hown hK hW ⟨hi, by decide⟩ rfl ⟨by decide, by decide, rfl⟩ (hts (.fieldLink RX5 110 "OpticalJukebox$State" "slotCount" "I") (by decide +kernel)) (sv_S rfl (fun _ => rfl) rfl) dX5_readPlatter_18 ?_
    refine lv_iconst (v := 1) hx hb dX5_readPlatter_21 (by decide) ?_
    refine lv_isub hx hb dX5_readPlatter_22 ?_
    obtain ⟨q1, h_q1, hf⟩ := x_bindE hf
    refine x_ci0 (x_rV ⟨hx, hb, hml, hown, hts⟩ (ct_X5_readNumber l g hfl (wS w i sd) rd rn ((0 : Int32)) (((sd 4 0 0) - (1 : Int32))) h_q1) (cwV 2 hts gX5_readPlatter_X5_readNumber rfl rfl rfl (by decide +kernel) ⟨Nat.le_of_ble_eq_true rfl, Nat.le_of_ble_eq_true rfl⟩) hK hW hS (x_recv (i := (g.1 + 1)) (k := 5) (j := 0) hK hW ⟨⟨hfl, rfl⟩, by decide⟩ rfl (by decide)) rfl hl.1 (rest := []) rfl (Nat.le_of_ble_eq_true rfl) dX5_readPlatter_23 ⟨Nat.le_of_ble_eq_true rfl, Nat.le_of_ble_eq_true rfl⟩) hS (fun H locs hW hS => ?_)
    have hW : World g (wS (wR w q1.2 rn) i sd) H := hW
    refine W.eq (g2 := F0 m 26 ls [.int q1.1]) rfl ?_
    obtain ⟨x2, e_x2, hf⟩ := x_letE hf
    refine x_topi e_x2 ?_
    refine lv_istore_n (lv' := [(2, .int x2), (0, .ref (adr (g.1 + 1) 5 0)), (1, .ref (adr i 4 0))]) hx hb dX5_readPlatter_26 rfl hl (by decide) rfl (fun ls hl => ?_)
    refine lv_iload_n hx hb dX5_readPlatter_27 rfl (lv_at hl 0 rfl) ?_
    refine lv_iconst (v := -1) hx hb dX5_readPlatter_28 (by decide) ?_
    refine lv_icmp_ne (tgt := 34) hx hb dX5_readPlatter_29 (by decide) (fun hc => ?_) (fun hc => ?_)
    · have hf := x_iteF hf hc
      refine lv_aload_n hx hb dX5_readPlatter_34 rfl (lv_at hl 2 rfl) ?_
      refine lv_iload_n hx hb dX5_readPlatter_35 rfl (lv_at hl 0 rfl) ?_
      obtain ⟨q3, h_q3, hf⟩ := x_bindE hf
      refine x_ci0 (x_rV ⟨hx, hb, hml, hown, hts⟩ (ct_X4_platterWithHome l g (wR w q1.2 rn) i hi sd (x2) h_q3) (cwV 1 hts gX5_readPlatter_X4_platterWithHome rfl rfl rfl (by decide +kernel) ⟨Nat.le_of_ble_eq_true rfl, Nat.le_of_ble_eq_true rfl⟩) hK hW hS (x_recv (i := i) (k := 4) (j := 0) hK hW ⟨hi, by decide⟩ rfl (by decide)) rfl hl.1 (rest := []) rfl (Nat.le_of_ble_eq_true rfl) dX5_readPlatter_36 ⟨Nat.le_of_ble_eq_true rfl, Nat.le_of_ble_eq_true rfl⟩) hS (fun H locs hW hS => ?_)
      have hW : World g (wS (wR w q1.2 rn) i sd) H := hW
      refine W.eq (g2 := F0 m 39 ls [.int q3]) rfl ?_
      refine lv_iconst (v := -1) hx hb dX5_readPlatter_39 (by decide) ?_
      refine lv_icmp_eq (tgt := 49) hx hb dX5_readPlatter_40 (by decide) (fun hc => ?_) (fun hc => ?_)
      · have hf := x_iteT hf hc
        refine lv_aload_n hx hb dX5_readPlatter_49 rfl (lv_at hl 1 rfl) ?_
        refine lv_bipush (v := 10) hx hb dX5_readPlatter_50 (by decide) ?_
        refine lv_sipush (v := 300) hx hb dX5_readPlatter_52 (by decide) ?_
        obtain ⟨q4, h_q4, hf⟩ := x_bindE hf
        refine x_ci0 (x_rV ⟨hx, hb, hml, hown, hts⟩ (ct_X5_readNumber l g hfl (wS w i sd) q1.2 rn ((10 : Int32)) ((300 : Int32)) h_q4) (cwV 2 hts gX5_readPlatter_X5_readNumber rfl rfl rfl (by decide +kernel) ⟨Nat.le_of_ble_eq_true rfl, Nat.le_of_ble_eq_true rfl⟩) hK hW hS (x_recv (i := (g.1 + 1)) (k := 5) (j := 0) hK hW ⟨⟨hfl, rfl⟩, by decide⟩ rfl (by decide)) rfl hl.1 (rest := []) rfl (Nat.le_of_ble_eq_true rfl) dX5_readPlatter_55 ⟨Nat.le_of_ble_eq_true rfl, Nat.le_of_ble_eq_true rfl⟩) hS (fun H locs hW hS => ?_)
        have hW : World g (wS (wR w q4.2 rn) i sd) H := hW
        refine W.eq (g2 := F0 m 58 ls [.int q4.1]) rfl ?_
        obtain ⟨x5, e_x5, hf⟩ := x_letE hf
        refine x_topi e_x5 ?_
        refine lv_istore_n (lv' := [(3, .int x5), (2, .int x2), (0, .ref (adr (g.1 + 1) 5 0)), (1, .ref (adr i 4 0))]) hx hb dX5_readPlatter_58 rfl hl (by decide) rfl (fun ls hl => ?_)
        refine lv_iload_n hx hb dX5_readPlatter_59 rfl (lv_at hl 0 rfl) ?_
        refine lv_iconst (v := -1) hx hb dX5_readPlatter_60 (by decide) ?_
        refine lv_icmp_ne (tgt := 66) hx hb dX5_readPlatter_61 (by decide) (fun hc => ?_) (fun hc => ?_)
        · have hf := x_iteF hf hc
          refine lv_aload_n hx hb dX5_readPlatter_66 rfl (lv_at hl 2 rfl) ?_
          refine lv_iconst (v := 0) hx hb dX5_readPlatter_67 (by decide) ?_
          refine lv_bipush (v := 9) hx hb dX5_readPlatter_68 (by decide) ?_
          obtain ⟨q6, h_q6, hf⟩ := x_bindE hf
          refine x_ci0 (x_rV ⟨hx, hb, hml, hown, hts⟩ (ct_X5_readNumber l g hfl (wS w i sd) q4.2 rn ((0 : Int32)) ((9 : Int32)) h_q6) (cwV 2 hts gX5_readPlatter_X5_readNumber rfl rfl rfl (by decide +kernel) ⟨Nat.le_of_ble_eq_true rfl, Nat.le_of_ble_eq_true rfl⟩) hK hW hS (x_recv (i := (g.1 + 1)) (k := 5) (j := 0) hK hW ⟨⟨hfl, rfl⟩, by decide⟩ rfl (by decide)) rfl hl.1 (rest := []) rfl (Nat.le_of_ble_eq_true rfl) dX5_readPlatter_70 ⟨Nat.le_of_ble_eq_true rfl, Nat.le_of_ble_eq_true rfl⟩) hS (fun H locs hW hS => ?_)
          have hW : World g (wS (wR w q6.2 rn) i sd) H := hW
          refine W.eq (g2 := F0 m 73 ls [.int q6.1]) rfl ?_
          obtain ⟨x7, e_x7, hf⟩ := x_letE hf
          refine x_topi e_x7 ?_
          refine lv_istore (lv' := [(4, .int x7), (3, .int x5), (2, .int x2), (0, .ref (adr (g.1 + 1) 5 0)), (1, .ref (adr i 4 0))]) hx hb dX5_readPlatter_73 hl (by decide) rfl (fun ls hl => ?_)
          refine lv_iload hx hb dX5_readPlatter_75 (lv_at hl 0 rfl) ?_
          refine lv_iconst (v := -1) hx hb dX5_readPlatter_77 (by decide) ?_
          refine lv_icmp_ne (tgt := 83) hx hb dX5_readPlatter_78 (by decide) (fun hc => ?_) (fun hc => ?_)
          · have hf := x_iteF hf hc
            refine lv_aload_n hx hb dX5_readPlatter_83 rfl (lv_at hl 4 rfl) ?_
            refine lv_iload_n hx hb dX5_readPlatter_84 rfl (lv_at hl 2 rfl) ?_
            refine lv_iload_n hx hb dX5_readPlatter_85 rfl (lv_at hl 1 rfl) ?_
            refine lv_iload hx hb dX5_readPlatter_86 (lv_at hl 0 rfl) ?_
            obtain ⟨q8, h_q8, hf⟩ := x_bindE hf
            refine x_cv0 (x_rV ⟨hx, hb, hml, hown, hts⟩ (ct_X4_addPlatter l g (wR w q6.2 rn) i hi sd (x2) (x5) (x7) h_q8) (cwV 3 hts gX5_readPlatter_X4_addPlatter rfl rfl rfl (by decide +kernel) ⟨Nat.le_of_ble_eq_true rfl, Nat.le_of_ble_eq_true rfl⟩) hK hW hS (x_recv (i := i) (k := 4) (j := 0) hK hW ⟨hi, by decide⟩ rfl (by decide)) rfl hl.1 (rest := []) rfl (Nat.le_of_ble_eq_true rfl) dX5_readPlatter_88 ⟨Nat.le_of_ble_eq_true rfl, Nat.le_of_ble_eq_true rfl⟩) hS (fun H locs hW hS => ?_)
            have hW : World g (wS (wR w q6.2 rn) i q8) H := hW
            refine lv_iconst (v := 1) hx hb dX5_readPlatter_91 (by decide) ?_
            cases hf
            exact x_zret hx hb hr hlocks hK hW hS (Or.inr rfl) rfl dX5_readPlatter_92
          · have hf := x_iteT hf hc
            refine lv_iconst (v := 0) hx hb dX5_readPlatter_81 (by decide) ?_
            cases hf
            exact x_zret hx hb hr hlocks hK hW hS (Or.inl rfl) rfl dX5_readPlatter_82
        · have hf := x_iteT hf hc
          refine lv_iconst (v := 0) hx hb dX5_readPlatter_64 (by decide) ?_
          cases hf
          exact x_zret hx hb hr hlocks hK hW hS (Or.inl rfl) rfl dX5_readPlatter_65
      · have hf := x_iteF hf hc
        refine lv_aload_n hx hb dX5_readPlatter_43 rfl (lv_at hl 1 rfl) ?_
        refine lv_iconst (v := 4) hx hb dX5_readPlatter_44 (by decide) ?_
        obtain ⟨q9, h_q9, hf⟩ := x_bindE hf
        refine x_ci0 (x_rV ⟨hx, hb, hml, hown, hts⟩ (ct_X5_fail l g hfl (wS w i sd) q1.2 rn ((4 : Int32)) h_q9) (cwV 1 hts gX5_readPlatter_X5_fail rfl rfl rfl (by decide +kernel) ⟨Nat.le_of_ble_eq_true rfl, Nat.le_of_ble_eq_true rfl⟩) hK hW hS (x_recv (i := (g.1 + 1)) (k := 5) (j := 0) hK hW ⟨⟨hfl, rfl⟩, by decide⟩ rfl (by decide)) rfl hl.1 (rest := []) rfl (Nat.le_of_ble_eq_true rfl) dX5_readPlatter_45 ⟨Nat.le_of_ble_eq_true rfl, Nat.le_of_ble_eq_true rfl⟩) hS (fun H locs hW hS => ?_)
        have hW : World g (wS (wR w q9.2 rn) i sd) H := hW
        refine W.eq (g2 := F0 m 48 ls [.int q9.1]) rfl ?_
        obtain ⟨hg10, hf⟩ := x_guardE hf
        cases hf
        exact x_zret hx hb hr hlocks hK hW hS hg10 rfl dX5_readPlatter_48
    · have hf := x_iteT hf hc
      refine lv_iconst (v := 0) hx hb dX5_readPlatter_32 (by decide) ?_
      cases hf
      exact x_zret hx hb hr hlocks hK hW hS (Or.inl rfl) rfl dX5_readPlatter_33
  · have hf := x_iteF hf hc
    refine lv_aload_n hx hb dX5_readPlatter_9 rfl (lv_at hl 0 rfl) ?_
    refine lv_iconst (v := 5) hx hb dX5_readPlatter_10 (by decide) ?_
    obtain ⟨q11, h_q11, hf⟩ := x_bindE hf
    refine x_ci0 (x_rV ⟨hx, hb, hml, hown, hts⟩ (ct_X5_fail l g hfl (wS w i sd) rd rn ((5 : Int32)) h_q11) (cwV 1 hts gX5_readPlatter_X5_fail rfl rfl rfl (by decide +kernel) ⟨Nat.le_of_ble_eq_true rfl, Nat.le_of_ble_eq_true rfl⟩) hK hW hS (x_recv (i := (g.1 + 1)) (k := 5) (j := 0) hK hW ⟨⟨hfl, rfl⟩, by decide⟩ rfl (by decide)) rfl hl.1 (rest := []) rfl (Nat.le_of_ble_eq_true rfl) dX5_readPlatter_11 ⟨Nat.le_of_ble_eq_true rfl, Nat.le_of_ble_eq_true rfl⟩) hS (fun H locs hW hS => ?_)
    have hW : World g (wS (wR w q11.2 rn) i sd) H := hW
    refine W.eq (g2 := F0 m 14 ls [.int q11.1]) rfl ?_
    obtain ⟨hg12, hf⟩ := x_guardE hf
    cases hf
    exact x_zret hx hb hr hlocks hK hW hS hg12 rfl dX5_readPlatter_14
abbrev rm_X5_readBad : Room := { frames := 4, cells := 0, slots := 0, locals := 88 }
set_option maxRecDepth 100000 in
set_option maxHeartbeats 4000000 in
theorem ct_X5_readBad (l : Launch) (g : GT) (hfl : 1 ≤ gf g) (w : WT) (rd : SD) (rn : Nat → Int64) (i : Nat) (hi : i ∈ k_S w.1) (sd : SD) {q : (Int32 × SD × SD)} (hf : f_X5_readBad sd rd  = some q) : Met l yX5_readBad wsX5_readBad rm_X5_readBad (cPre g (wS (wR w rd rn) i sd) [.ref (adr (g.1 + 1) 5 0), .ref (adr i 4 0)]) (cQi g q.1 (wS (wR w q.2.2 rn) i q.2.1)) 0 0 (gA g) := by
  have i_3 : ∀ w ∈ u_ws RX3 TX3 9, w ∈ wsX5_readBad := by decide +kernel
  have i_4 : ∀ w ∈ u_ws RX4 TX4 18, w ∈ wsX5_readBad := by decide +kernel
  refine x_met (by decide) rfl (Nat.le_of_ble_eq_true rfl) ?_
  intro p e s m below meth c hx hb hr hml hts hown hlocks hK hW hS ls hl
  have hown : s.vm.findClass RX5 = some m.cls := hown
  have hl : lv_has ls 4 [(0, .ref (adr (g.1 + 1) 5 0)), (1, .ref (adr i 4 0))] := hl
  rw [f_X5_readBad] at hf
  refine lv_aload_n hx hb dX5_readBad_0 rfl (lv_at hl 1 rfl) ?_
  refine x_get (i := i) (k := 4) (j := 0) (t := 7) hx hb hts i_4 hown hK hW ⟨hi, by decide⟩ rfl ⟨by decide, by decide, rfl⟩ (hts (.fieldLink RX5 135 "OpticalJukebox$State" "badCount" "I") (by decide +kernel)) (sv_S rfl (fun _ => rfl) rfl) dX5_readBad_1 ?_
  refine lv_bipush (v := 20) hx hb dX5_readBad_4 (by decide) ?_
  refine lv_icmp_lt (tgt := 15) hx hb dX5_readBad_6 (by decide) (fun hc => ?_) (fun hc => ?_)
  · have hf := x_iteT hf hc
    refine lv_aload_n hx hb dX5_readBad_15 rfl (lv_at hl 0 rfl) ?_
    refine lv_iconst (v := 0) hx hb dX5_readBad_16 (by decide) ?_
    refine lv_aload_n hx hb dX5_readBad_17 rfl (lv_at hl 1 rfl) ?_
    refine x_get (i := i) (k := 4) (j := 0) (t := 6) hx hb hts i_4 hown hK hW ⟨hi, by decide⟩ rfl ⟨by decide, by decide, rfl⟩ (hts (.fieldLink RX5 124 "OpticalJukebox$State" "platterCount" "I") (by decide +kernel)) (sv_S rfl (fun _ => rfl) rfl) dX5_readBad_18 ?_
    refine lv_iconst (v := 1) hx hb dX5_readBad_21 (by decide) ?_
    refine lv_isub hx hb dX5_readBad_22 ?_
    obtain ⟨q1, h_q1, hf⟩ := x_bindE hf
    refine x_ci0 (x_rV ⟨hx, hb, hml, hown, hts⟩ (ct_X5_readNumber l g hfl (wS w i sd) rd rn ((0 : Int32)) (((sd 4 0 6) - (1 : Int32))) h_q1) (cwV 2 hts gX5_readBad_X5_readNumber rfl rfl rfl (by decide +kernel) ⟨Nat.le_of_ble_eq_true rfl, Nat.le_of_ble_eq_true rfl⟩) hK hW hS (x_recv (i := (g.1 + 1)) (k := 5) (j := 0) hK hW ⟨⟨hfl, rfl⟩, by decide⟩ rfl (by decide)) rfl hl.1 (rest := []) rfl (Nat.le_of_ble_eq_true rfl) dX5_readBad_23 ⟨Nat.le_of_ble_eq_true rfl, Nat.le_of_ble_eq_true rfl⟩) hS (fun H locs hW hS => ?_)
    have hW : World g (wS (wR w q1.2 rn) i sd) H := hW
    refine W.eq (g2 := F0 m 26 ls [.int q1.1]) rfl ?_
    obtain ⟨x2, e_x2, hf⟩ := x_letE hf
    refine x_topi e_x2 ?_
    refine lv_istore_n (lv' := [(2, .int x2), (0, .ref (adr (g.1 + 1) 5 0)), (1, .ref (adr i 4 0))]) hx hb dX5_readBad_26 rfl hl (by decide) rfl (fun ls hl => ?_)
    refine lv_iload_n hx hb dX5_readBad_27 rfl (lv_at hl 0 rfl) ?_
    refine lv_iconst (v := -1) hx hb dX5_readBad_28 (by decide) ?_
    refine lv_icmp_ne (tgt := 34) hx hb dX5_readBad_29 (by decide) (fun hc => ?_) (fun hc => ?_)
    · have hf := x_iteF hf hc
      refine lv_aload_n hx hb dX5_readBad_34 rfl (lv_at hl 1 rfl) ?_
      refine lv_iconst (v := 0) hx hb dX5_readBad_35 (by decide) ?_
      refine lv_aload_n hx hb dX5_readBad_36 rfl (lv_at hl 2 rfl) ?_
      refine x_get (i := i) (k := 4) (j := 0) (t := 5) hx hb hts i_4 hown hK hW ⟨hi, by decide⟩ rfl ⟨by decide, by decide, rfl⟩ (hts (.fieldLink RX5 138 "OpticalJukebox$State" "platters" "[LOpticalJukebox$Platter;") (by decide +kernel)) (v := .ref (adr i 12 0)) rfl dX5_readBad_37 ?_
      refine lv_iload_n hx hb dX5_readBad_40 rfl (lv_at hl 0 rfl) ?_
      obtain ⟨hg3, hf⟩ := x_guardE hf
      refine x_aald (i := i) (k := 12) (j := 0) hx hb hK hW ⟨hi, by decide⟩ (by decide) rfl rfl hg3 dX5_readBad_41 ?_
      refine W.eq (g2 := F0 m 42 ls [.ref (adr i 3 (x2).toNatClampNeg), .int (0 : Int32), .ref (adr (g.1 + 1) 5 0)]) rfl ?_
      refine x_get (i := i) (k := 3) (j := (x2).toNatClampNeg) (t := 1) hx hb hts i_3 hown hK hW ⟨hi, (x_lt hg3)⟩ rfl ⟨by decide, by decide, rfl⟩ (hts (.fieldLink RX5 142 "OpticalJukebox$Platter" "capacity" "I") (by decide +kernel)) (sv_S rfl (fun _ => rfl) rfl) dX5_readBad_42 ?_
      refine lv_iconst (v := 1) hx hb dX5_readBad_45 (by decide) ?_
      refine lv_isub hx hb dX5_readBad_46 ?_
      obtain ⟨q4, h_q4, hf⟩ := x_bindE hf
      refine x_ci0 (x_rV ⟨hx, hb, hml, hown, hts⟩ (ct_X5_readNumber l g hfl (wS w i sd) q1.2 rn ((0 : Int32)) (((sd 3 (x2).toNatClampNeg 1) - (1 : Int32))) h_q4) (cwV 2 hts gX5_readBad_X5_readNumber rfl rfl rfl (by decide +kernel) ⟨Nat.le_of_ble_eq_true rfl, Nat.le_of_ble_eq_true rfl⟩) hK hW hS (x_recv (i := (g.1 + 1)) (k := 5) (j := 0) hK hW ⟨⟨hfl, rfl⟩, by decide⟩ rfl (by decide)) rfl hl.1 (rest := []) rfl (Nat.le_of_ble_eq_true rfl) dX5_readBad_47 ⟨Nat.le_of_ble_eq_true rfl, Nat.le_of_ble_eq_true rfl⟩) hS (fun H locs hW hS => ?_)
      have hW : World g (wS (wR w q4.2 rn) i sd) H := hW
      refine W.eq (g2 := F0 m 50 ls [.int q4.1]) rfl ?_
      obtain ⟨x5, e_x5, hf⟩ := x_letE hf
      refine x_topi e_x5 ?_
      refine lv_istore_n (lv' := [(3, .int x5), (2, .int x2), (0, .ref (adr (g.1 + 1) 5 0)), (1, .ref (adr i 4 0))]) hx hb dX5_readBad_50 rfl hl (by decide) rfl (fun ls hl => ?_)
      refine lv_iload_n hx hb dX5_readBad_51 rfl (lv_at hl 0 rfl) ?_
      refine lv_iconst (v := -1) hx hb dX5_readBad_52 (by decide) ?_
      refine lv_icmp_ne (tgt := 58) hx hb dX5_readBad_53 (by decide) (fun hc => ?_) (fun hc => ?_)
      · have hf := x_iteF hf hc
        refine lv_aload_n hx hb dX5_readBad_58 rfl (lv_at hl 3 rfl) ?_
        refine x_get (i := i) (k := 4) (j := 0) (t := 5) hx hb hts i_4 hown hK hW ⟨hi, by decide⟩ rfl ⟨by decide, by decide, rfl⟩ (hts (.fieldLink RX5 138 "OpticalJukebox$State" "platters" "[LOpticalJukebox$Platter;") (by decide +kernel)) (v := .ref (adr i 12 0)) rfl dX5_readBad_59 ?_
        refine lv_iload_n hx hb dX5_readBad_62 rfl (lv_at hl 1 rfl) ?_
        obtain ⟨hg6, hf⟩ := x_guardE hf
        refine x_aald (i := i) (k := 12) (j := 0) hx hb hK hW ⟨hi, by decide⟩ (by decide) rfl rfl hg6 dX5_readBad_63 ?_
        refine W.eq (g2 := F0 m 64 ls [.ref (adr i 3 (x2).toNatClampNeg)]) rfl ?_
        refine lv_iload_n hx hb dX5_readBad_64 rfl (lv_at hl 0 rfl) ?_
        obtain ⟨q7, h_q7, hf⟩ := x_bindE hf
        refine x_ci0 (x_rV ⟨hx, hb, hml, hown, hts⟩ (ct_X3_isBad l g (wR w q4.2 rn) i hi sd ((x2).toNatClampNeg) ((x_lt hg6)) (x5) h_q7) (cwV 1 hts gX5_readBad_X3_isBad rfl rfl rfl (by decide +kernel) ⟨Nat.le_of_ble_eq_true rfl, Nat.le_of_ble_eq_true rfl⟩) hK hW hS (x_recv (i := i) (k := 3) (j := (x2).toNatClampNeg) hK hW ⟨hi, (x_lt hg6)⟩ rfl (by decide)) rfl hl.1 (rest := []) rfl (Nat.le_of_ble_eq_true rfl) dX5_readBad_65 ⟨Nat.le_of_ble_eq_true rfl, Nat.le_of_ble_eq_true rfl⟩) hS (fun H locs hW hS => ?_)
        have hW : World g (wS (wR w q4.2 rn) i sd) H := hW
        refine W.eq (g2 := F0 m 68 ls [.int q7]) rfl ?_
        refine lv_if_eq (tgt := 77) hx hb dX5_readBad_68 (by decide) (fun hc => ?_) (fun hc => ?_)
        · have hf := x_iteT hf hc
          refine lv_aload_n hx hb dX5_readBad_77 rfl (lv_at hl 3 rfl) ?_
          refine lv_iload_n hx hb dX5_readBad_78 rfl (lv_at hl 1 rfl) ?_
          refine lv_iload_n hx hb dX5_readBad_79 rfl (lv_at hl 0 rfl) ?_
          obtain ⟨q8, h_q8, hf⟩ := x_bindE hf
          refine x_cv0 (x_rV ⟨hx, hb, hml, hown, hts⟩ (ct_X4_spoil l g (wR w q4.2 rn) i hi sd (x2) (x5) h_q8) (cwV 2 hts gX5_readBad_X4_spoil rfl rfl rfl (by decide +kernel) ⟨Nat.le_of_ble_eq_true rfl, Nat.le_of_ble_eq_true rfl⟩) hK hW hS (x_recv (i := i) (k := 4) (j := 0) hK hW ⟨hi, by decide⟩ rfl (by decide)) rfl hl.1 (rest := []) rfl (Nat.le_of_ble_eq_true rfl) dX5_readBad_80 ⟨Nat.le_of_ble_eq_true rfl, Nat.le_of_ble_eq_true rfl⟩) hS (fun H locs hW hS => ?_)
          have hW : World g (wS (wR w q4.2 rn) i q8) H := hW
          refine lv_iconst (v := 1) hx hb dX5_readBad_83 (by decide) ?_
          cases hf
          exact x_zret hx hb hr hlocks hK hW hS (Or.inr rfl) rfl dX5_readBad_84
        · have hf := x_iteF hf hc
          refine lv_aload_n hx hb dX5_readBad_71 rfl (lv_at hl 2 rfl) ?_
          refine lv_iconst (v := 4) hx hb dX5_readBad_72 (by decide) ?_
          obtain ⟨q9, h_q9, hf⟩ := x_bindE hf
          refine x_ci0 (x_rV ⟨hx, hb, hml, hown, hts⟩ (ct_X5_fail l g hfl (wS w i sd) q4.2 rn ((4 : Int32)) h_q9) (cwV 1 hts gX5_readBad_X5_fail rfl rfl rfl (by decide +kernel) ⟨Nat.le_of_ble_eq_true rfl, Nat.le_of_ble_eq_true rfl⟩) hK hW hS (x_recv (i := (g.1 + 1)) (k := 5) (j := 0) hK hW ⟨⟨hfl, rfl⟩, by decide⟩ rfl (by decide)) rfl hl.1 (rest := []) rfl (Nat.le_of_ble_eq_true rfl) dX5_readBad_73 ⟨Nat.le_of_ble_eq_true rfl, Nat.le_of_ble_eq_true rfl⟩) hS (fun H locs hW hS => ?_)
          have hW : World g (wS (wR w q9.2 rn) i sd) H := hW
          refine W.eq (g2 := F0 m 76 ls [.int q9.1]) rfl ?_
          obtain ⟨hg10, hf⟩ := x_guardE hf
          cases hf
          exact x_zret hx hb hr hlocks hK hW hS hg10 rfl dX5_readBad_76
      · have hf := x_iteT hf hc
        refine lv_iconst (v := 0) hx hb dX5_readBad_56 (by decide) ?_
        cases hf
        exact x_zret hx hb hr hlocks hK hW hS (Or.inl rfl) rfl dX5_readBad_57
    · have hf := x_iteT hf hc
      refine lv_iconst (v := 0) hx hb dX5_readBad_32 (by decide) ?_
      cases hf
      exact x_zret hx hb hr hlocks hK hW hS (Or.inl rfl) rfl dX5_readBad_33
  · have hf := x_iteF hf hc
    refine lv_aload_n hx hb dX5_readBad_9 rfl (lv_at hl 0 rfl) ?_
    refine lv_iconst (v := 5) hx hb dX5_readBad_10 (by decide) ?_
    obtain ⟨q11, h_q11, hf⟩ := x_bindE hf
    refine x_ci0 (x_rV ⟨hx, hb, hml, hown, hts⟩ (ct_X5_fail l g hfl (wS w i sd) rd rn ((5 : Int32)) h_q11) (cwV 1 hts gX5_readBad_X5_fail rfl rfl rfl (by decide +kernel) ⟨Nat.le_of_ble_eq_true rfl, Nat.le_of_ble_eq_true rfl⟩) hK hW hS (x_recv (i := (g.1 + 1)) (k := 5) (j := 0) hK hW ⟨⟨hfl, rfl⟩, by decide⟩ rfl (by decide)) rfl hl.1 (rest := []) rfl (Nat.le_of_ble_eq_true rfl) dX5_readBad_11 ⟨Nat.le_of_ble_eq_true rfl, Nat.le_of_ble_eq_true rfl⟩) hS (fun H locs hW hS => ?_)
    have hW : World g (wS (wR w q11.2 rn) i sd) H := hW
    refine W.eq (g2 := F0 m 14 ls [.int q11.1]) rfl ?_
    obtain ⟨hg12, hf⟩ := x_guardE hf
    cases hf
    exact x_zret hx hb hr hlocks hK hW hS hg12 rfl dX5_readBad_14
abbrev rm_X5_isReserved : Room := { frames := 5, cells := 0, slots := 0, locals := 107 }
set_option maxRecDepth 100000 in
set_option maxHeartbeats 4000000 in
theorem ct_X5_isReserved (l : Launch) (g : GT) (hfl : 1 ≤ gf g) (w : WT) (rd : SD) (rn : Nat → Int64) {q : Int32} (hf : f_X5_isReserved rd  = some q) : Met l yX5_isReserved wsX5_isReserved rm_X5_isReserved (cPre g (wR w rd rn) [.ref (adr (g.1 + 1) 5 0)]) (cQi g q (wR w rd rn)) 0 0 (gA g) := by
  refine x_met (by decide) rfl (Nat.le_of_ble_eq_true rfl) ?_
  intro p e s m below meth c hx hb hr hml hts hown hlocks hK hW hS ls hl
  have hown : s.vm.findClass RX5 = some m.cls := hown
  have hl : lv_has ls 1 [(0, .ref (adr (g.1 + 1) 5 0))] := hl
  rw [f_X5_isReserved] at hf
  refine lv_aload_n hx hb dX5_isReserved_0 rfl (lv_at hl 0 rfl) ?_
  refine va_ldcS hx hb hown (hK.2.2.1 0 (by decide)) dX5_isReserved_1 ?_
  obtain ⟨q1, h_q1, hf⟩ := x_bindE hf
  refine x_ci0 (x_rV ⟨hx, hb, hml, hown, hts⟩ (ct_X5_wordIs l g hfl w rd rn 0 (by decide) h_q1) (cwV 1 hts gX5_isReserved_X5_wordIs rfl rfl rfl (by decide +kernel) ⟨Nat.le_of_ble_eq_true rfl, Nat.le_of_ble_eq_true rfl⟩) hK hW hS (x_recv (i := (g.1 + 1)) (k := 5) (j := 0) hK hW ⟨⟨hfl, rfl⟩, by decide⟩ rfl (by decide)) rfl hl.1 (rest := []) rfl (Nat.le_of_ble_eq_true rfl) dX5_isReserved_3 ⟨Nat.le_of_ble_eq_true rfl, Nat.le_of_ble_eq_true rfl⟩) hS (fun H locs hW hS => ?_)
  have hW : World g (wR w rd rn) H := hW
  refine W.eq (g2 := F0 m 6 ls [.int q1]) rfl ?_
  refine lv_if_ne (tgt := 63) hx hb dX5_isReserved_6 (by decide) (fun hc => ?_) (fun hc => ?_)
  · have hf := x_iteF hf hc
    refine lv_iconst (v := 1) hx hb dX5_isReserved_63 (by decide) ?_
    refine lv_goto (tgt := 68) hx hb dX5_isReserved_64 (by decide) ?_
    cases hf
    exact x_zret hx hb hr hlocks hK hW hS (Or.inr rfl) rfl dX5_isReserved_68
  · have hf := x_iteT hf hc
    refine lv_aload_n hx hb dX5_isReserved_9 rfl (lv_at hl 0 rfl) ?_
    refine va_ldcS hx hb hown (hK.2.2.1 1 (by decide)) dX5_isReserved_10 ?_
    obtain ⟨q2, h_q2, hf⟩ := x_bindE hf
    refine x_ci0 (x_rV ⟨hx, hb, hml, hown, hts⟩ (ct_X5_wordIs l g hfl w rd rn 1 (by decide) h_q2) (cwV 1 hts gX5_isReserved_X5_wordIs rfl rfl rfl (by decide +kernel) ⟨Nat.le_of_ble_eq_true rfl, Nat.le_of_ble_eq_true rfl⟩) hK hW hS (x_recv (i := (g.1 + 1)) (k := 5) (j := 0) hK hW ⟨⟨hfl, rfl⟩, by decide⟩ rfl (by decide)) rfl hl.1 (rest := []) rfl (Nat.le_of_ble_eq_true rfl) dX5_isReserved_12 ⟨Nat.le_of_ble_eq_true rfl, Nat.le_of_ble_eq_true rfl⟩) hS (fun H locs hW hS => ?_)
    have hW : World g (wR w rd rn) H := hW
    refine W.eq (g2 := F0 m 15 ls [.int q2]) rfl ?_
    refine lv_if_ne (tgt := 63) hx hb dX5_isReserved_15 (by decide) (fun hc => ?_) (fun hc => ?_)
    · have hf := x_iteF hf hc
      refine lv_iconst (v := 1) hx hb dX5_isReserved_63 (by decide) ?_
      refine lv_goto (tgt := 68) hx hb dX5_isReserved_64 (by decide) ?_
      cases hf
      exact x_zret hx hb hr hlocks hK hW hS (Or.inr rfl) rfl dX5_isReserved_68
    · have hf := x_iteT hf hc
      refine lv_aload_n hx hb dX5_isReserved_18 rfl (lv_at hl 0 rfl) ?_
      refine va_ldcS hx hb hown (hK.2.2.1 2 (by decide)) dX5_isReserved_19 ?_
      obtain ⟨q3, h_q3, hf⟩ := x_bindE hf
      refine x_ci0 (x_rV ⟨hx, hb, hml, hown, hts⟩ (ct_X5_wordIs l g hfl w rd rn 2 (by decide) h_q3) (cwV 1 hts gX5_isReserved_X5_wordIs rfl rfl rfl (by decide +kernel) ⟨Nat.le_of_ble_eq_true rfl, Nat.le_of_ble_eq_true rfl⟩) hK hW hS (x_recv (i := (g.1 + 1)) (k := 5) (j := 0) hK hW ⟨⟨hfl, rfl⟩, by decide⟩ rfl (by decide)) rfl hl.1 (rest := []) rfl (Nat.le_of_ble_eq_true rfl) dX5_isReserved_21 ⟨Nat.le_of_ble_eq_true rfl, Nat.le_of_ble_eq_true rfl⟩) hS (fun H locs hW hS => ?_)
      have hW : World g (wR w rd rn) H := hW
      refine W.eq (g2 := F0 m 24 ls [.int q3]) rfl ?_
      refine lv_if_ne (tgt := 63) hx hb dX5_isReserved_24 (by decide) (fun hc => ?_) (fun hc => ?_)
      · have hf := x_iteF hf hc
        refine lv_iconst (v := 1) hx hb dX5_isReserved_63 (by decide) ?_
        refine lv_goto (tgt := 68) hx hb dX5_isReserved_64 (by decide) ?_
        cases hf
        exact x_zret hx hb hr hlocks hK hW hS (Or.inr rfl) rfl dX5_isReserved_68
      · have hf := x_iteT hf hc
        refine lv_aload_n hx hb dX5_isReserved_27 rfl (lv_at hl 0 rfl) ?_
        refine va_ldcS hx hb hown (hK.2.2.1 3 (by decide)) dX5_isReserved_28 ?_
        obtain ⟨q4, h_q4, hf⟩ := x_bindE hf
        refine x_ci0 (x_rV ⟨hx, hb, hml, hown, hts⟩ (ct_X5_wordIs l g hfl w rd rn 3 (by decide) h_q4) (cwV 1 hts gX5_isReserved_X5_wordIs rfl rfl rfl (by decide +kernel) ⟨Nat.le_of_ble_eq_true rfl, Nat.le_of_ble_eq_true rfl⟩) hK hW hS (x_recv (i := (g.1 + 1)) (k := 5) (j := 0) hK hW ⟨⟨hfl, rfl⟩, by decide⟩ rfl (by decide)) rfl hl.1 (rest := []) rfl (Nat.le_of_ble_eq_true rfl) dX5_isReserved_30 ⟨Nat.le_of_ble_eq_true rfl, Nat.le_of_ble_eq_true rfl⟩) hS (fun H locs hW hS => ?_)
        have hW : World g (wR w rd rn) H := hW
        refine W.eq (g2 := F0 m 33 ls [.int q4]) rfl ?_
        refine lv_if_ne (tgt := 63) hx hb dX5_isReserved_33 (by decide) (fun hc => ?_) (fun hc => ?_)
        · have hf := x_iteF hf hc
          refine lv_iconst (v := 1) hx hb dX5_isReserved_63 (by decide) ?_
          refine lv_goto (tgt := 68) hx hb dX5_isReserved_64 (by decide) ?_
          cases hf
          exact x_zret hx hb hr hlocks hK hW hS (Or.inr rfl) rfl dX5_isReserved_68
        · have hf := x_iteT hf hc
          refine lv_aload_n hx hb dX5_isReserved_36 rfl (lv_at hl 0 rfl) ?_
          refine va_ldcS hx hb hown (hK.2.2.1 4 (by decide)) dX5_isReserved_37 ?_
          obtain ⟨q5, h_q5, hf⟩ := x_bindE hf
          refine x_ci0 (x_rV ⟨hx, hb, hml, hown, hts⟩ (ct_X5_wordIs l g hfl w rd rn 4 (by decide) h_q5) (cwV 1 hts gX5_isReserved_X5_wordIs rfl rfl rfl (by decide +kernel) ⟨Nat.le_of_ble_eq_true rfl, Nat.le_of_ble_eq_true rfl⟩) hK hW hS (x_recv (i := (g.1 + 1)) (k := 5) (j := 0) hK hW ⟨⟨hfl, rfl⟩, by decide⟩ rfl (by decide)) rfl hl.1 (rest := []) rfl (Nat.le_of_ble_eq_true rfl) dX5_isReserved_39 ⟨Nat.le_of_ble_eq_true rfl, Nat.le_of_ble_eq_true rfl⟩) hS (fun H locs hW hS => ?_)
          have hW : World g (wR w rd rn) H := hW
          refine W.eq (g2 := F0 m 42 ls [.int q5]) rfl ?_
          refine lv_if_ne (tgt := 63) hx hb dX5_isReserved_42 (by decide) (fun hc => ?_) (fun hc => ?_)
          · have hf := x_iteF hf hc
            refine lv_iconst (v := 1) hx hb dX5_isReserved_63 (by decide) ?_
            refine lv_goto (tgt := 68) hx hb dX5_isReserved_64 (by decide) ?_
            cases hf
            exact x_zret hx hb hr hlocks hK hW hS (Or.inr rfl) rfl dX5_isReserved_68
          · have hf := x_iteT hf hc
            refine lv_aload_n hx hb dX5_isReserved_45 rfl (lv_at hl 0 rfl) ?_
            refine va_ldcS hx hb hown (hK.2.2.1 5 (by decide)) dX5_isReserved_46 ?_
            obtain ⟨q6, h_q6, hf⟩ := x_bindE hf
            refine x_ci0 (x_rV ⟨hx, hb, hml, hown, hts⟩ (ct_X5_wordIs l g hfl w rd rn 5 (by decide) h_q6) (cwV 1 hts gX5_isReserved_X5_wordIs rfl rfl rfl (by decide +kernel) ⟨Nat.le_of_ble_eq_true rfl, Nat.le_of_ble_eq_true rfl⟩) hK hW hS (x_recv (i := (g.1 + 1)) (k := 5) (j := 0) hK hW ⟨⟨hfl, rfl⟩, by decide⟩ rfl (by decide)) rfl hl.1 (rest := []) rfl (Nat.le_of_ble_eq_true rfl) dX5_isReserved_48 ⟨Nat.le_of_ble_eq_true rfl, Nat.le_of_ble_eq_true rfl⟩) hS (fun H locs hW hS => ?_)
            have hW : World g (wR w rd rn) H := hW
            refine W.eq (g2 := F0 m 51 ls [.int q6]) rfl ?_
            refine lv_if_ne (tgt := 63) hx hb dX5_isReserved_51 (by decide) (fun hc => ?_) (fun hc => ?_)
            · have hf := x_iteF hf hc
              refine lv_iconst (v := 1) hx hb dX5_isReserved_63 (by decide) ?_
              refine lv_goto (tgt := 68) hx hb dX5_isReserved_64 (by decide) ?_
              cases hf
              exact x_zret hx hb hr hlocks hK hW hS (Or.inr rfl) rfl dX5_isReserved_68
            · have hf := x_iteT hf hc
              refine lv_aload_n hx hb dX5_isReserved_54 rfl (lv_at hl 0 rfl) ?_
              refine va_ldcS hx hb hown (hK.2.2.1 6 (by decide)) dX5_isReserved_55 ?_
              obtain ⟨q7, h_q7, hf⟩ := x_bindE hf
              refine x_ci0 (x_rV ⟨hx, hb, hml, hown, hts⟩ (ct_X5_wordIs l g hfl w rd rn 6 (by decide) h_q7) (cwV 1 hts gX5_isReserved_X5_wordIs rfl rfl rfl (by decide +kernel) ⟨Nat.le_of_ble_eq_true rfl, Nat.le_of_ble_eq_true rfl⟩) hK hW hS (x_recv (i := (g.1 + 1)) (k := 5) (j := 0) hK hW ⟨⟨hfl, rfl⟩, by decide⟩ rfl (by decide)) rfl hl.1 (rest := []) rfl (Nat.le_of_ble_eq_true rfl) dX5_isReserved_57 ⟨Nat.le_of_ble_eq_true rfl, Nat.le_of_ble_eq_true rfl⟩) hS (fun H locs hW hS => ?_)
              have hW : World g (wR w rd rn) H := hW
              refine W.eq (g2 := F0 m 60 ls [.int q7]) rfl ?_
              refine lv_if_eq (tgt := 67) hx hb dX5_isReserved_60 (by decide) (fun hc => ?_) (fun hc => ?_)
              · have hf := x_iteT hf hc
                refine lv_iconst (v := 0) hx hb dX5_isReserved_67 (by decide) ?_
                cases hf
                exact x_zret hx hb hr hlocks hK hW hS (Or.inl rfl) rfl dX5_isReserved_68
              · have hf := x_iteF hf hc
                refine lv_iconst (v := 1) hx hb dX5_isReserved_63 (by decide) ?_
                refine lv_goto (tgt := 68) hx hb dX5_isReserved_64 (by decide) ?_
                cases hf
                exact x_zret hx hb hr hlocks hK hW hS (Or.inr rfl) rfl dX5_isReserved_68
abbrev rm_X5_wordNumber : Room := { frames := 0, cells := 0, slots := 0, locals := 0 }
set_option maxRecDepth 100000 in
set_option maxHeartbeats 4000000 in
theorem ct_X5_wordNumber (l : Launch) (g : GT) (hfl : 1 ≤ gf g) (w : WT) (rd : SD) (rn : Nat → Int64) {q : Int64} (hf : f_X5_wordNumber rd  = some q) : Met l yX5_wordNumber wsX5_wordNumber rm_X5_wordNumber (cPre g (wR w rd rn) [.ref (adr (g.1 + 1) 5 0)]) (cQl g q (wR w rd rn)) 0 0 (gA g) := by
  have i_5 : ∀ w ∈ u_ws RX5 TX5 9, w ∈ wsX5_wordNumber := by decide +kernel
  refine x_met (by decide) rfl (Nat.le_of_ble_eq_true rfl) ?_
  intro p e s m below meth c hx hb hr hml hts hown hlocks hK hW hS ls hl
  have hown : s.vm.findClass RX5 = some m.cls := hown
  have hl : lv_has ls 4 [(0, .ref (adr (g.1 + 1) 5 0))] := hl
  rw [f_X5_wordNumber] at hf
  refine lv_lconst (v := 0) hx hb dX5_wordNumber_0 (by decide) ?_
  refine lv_lstore_n (lv' := [(1, .long (0 : Int64)), (0, .ref (adr (g.1 + 1) 5 0))]) hx hb dX5_wordNumber_1 rfl hl (by decide) rfl (fun ls hl => ?_)
  refine lv_aload_n hx hb dX5_wordNumber_2 rfl (lv_at hl 1 rfl) ?_
  refine x_get (i := (g.1 + 1)) (k := 5) (j := 0) (t := 3) hx hb hts i_5 hown hK hW ⟨⟨hfl, rfl⟩, by decide⟩ rfl ⟨by decide, by decide, rfl⟩ (hts (.fieldLink RX5 184 "OpticalJukebox$TextReader" "tokenStart" "I") (by decide +kernel)) (rfl) dX5_wordNumber_3 ?_
  obtain ⟨x1, e_x1, hf⟩ := x_letE hf
  refine x_topi e_x1 ?_
  refine lv_istore_n (lv' := [(3, .int x1), (1, .long (0 : Int64)), (0, .ref (adr (g.1 + 1) 5 0))]) hx hb dX5_wordNumber_6 rfl hl (by decide) rfl (fun ls hl => ?_)
  have L7 : ∀ (n : Nat) (v1_7 : Int64) (v3_7 : Int32) (ls : Array Slot) (H : Heap) (locs : List Loc), lv_has ls 4 [(0, .ref (adr (g.1 + 1) 5 0)), (1, .long v1_7), (3, .int v3_7)] → World g (wR w rd rn) H → va_S (gA g) s.heap H locs → f_X5_wordNumber_L7 rd n v1_7 v3_7 = some q → W p l e rm_X5_wordNumber s m [.ref (adr (g.1 + 1) 5 0)].toArray below meth c H locs 0 0 (MQ below (cQl g q (wR w rd rn)) [.ref (adr (g.1 + 1) 5 0)].toArray s 0 0 (gA g)) (F0 m 7 ls []) := by
    clear hW hS hl
    intro n
    induction n with
    | zero => intro v1_7 v3_7 ls H locs hl hW hS hf; cases hf
    | succ n_7 ih =>
      intro v1_7 v3_7 ls H locs hl hW hS hf
      rw [f_X5_wordNumber_L7] at hf
      refine lv_iload_n hx hb dX5_wordNumber_7 rfl (lv_at hl 2 rfl) ?_
      refine lv_aload_n hx hb dX5_wordNumber_8 rfl (lv_at hl 0 rfl) ?_
      refine x_get (i := (g.1 + 1)) (k := 5) (j := 0) (t := 4) hx hb hts i_5 hown hK hW ⟨⟨hfl, rfl⟩, by decide⟩ rfl ⟨by decide, by decide, rfl⟩ (hts (.fieldLink RX5 32 "OpticalJukebox$TextReader" "tokenEnd" "I") (by decide +kernel)) (rfl) dX5_wordNumber_9 ?_
      refine lv_icmp_ge (tgt := 40) hx hb dX5_wordNumber_12 (by decide) (fun hc => ?_) (fun hc => ?_)
      · have hf := x_iteT hf hc
        refine lv_lload_n hx hb dX5_wordNumber_40 rfl (lv_at hl 1 rfl) ?_
        cases hf
        exact x_lret hx hb hr hlocks hK hW hS rfl dX5_wordNumber_41
      · have hf := x_iteF hf hc
        refine lv_lload_n hx hb dX5_wordNumber_15 rfl (lv_at hl 1 rfl) ?_
        refine lv_ldc2 (v := 32) hx hb hown (hts (.constantLong RX5 202 (32)) (by decide +kernel)) dX5_wordNumber_16 ?_
        refine lv_lmul hx hb dX5_wordNumber_19 ?_
        refine lv_aload_n hx hb dX5_wordNumber_20 rfl (lv_at hl 0 rfl) ?_
        refine x_get (i := (g.1 + 1)) (k := 5) (j := 0) (t := 0) hx hb hts i_5 hown hK hW ⟨⟨hfl, rfl⟩, by decide⟩ rfl ⟨by decide, by decide, rfl⟩ (hts (.fieldLink RX5 9 "OpticalJukebox$TextReader" "text" "[B") (by decide +kernel)) (v := .ref (adr (g.1 + 1) 20 0)) rfl dX5_wordNumber_21 ?_
        refine lv_iload_n hx hb dX5_wordNumber_24 rfl (lv_at hl 2 rfl) ?_
        obtain ⟨hg2, hf⟩ := x_guardE hf
        refine x_bald (i := (g.1 + 1)) (k := 20) (j := 0) (f := rd 20 0) hx hb hK hW ⟨⟨hfl, rfl⟩, by decide⟩ (by decide) (rfl) rfl hg2 dX5_wordNumber_25 ?_
        refine lv_bipush (v := 97) hx hb dX5_wordNumber_26 (by decide) ?_
        refine lv_isub hx hb dX5_wordNumber_28 ?_
        refine lv_iconst (v := 1) hx hb dX5_wordNumber_29 (by decide) ?_
        refine lv_iadd hx hb dX5_wordNumber_30 ?_
        refine lv_i2l hx hb dX5_wordNumber_31 rfl ?_
        refine lv_ladd hx hb dX5_wordNumber_32 ?_
        obtain ⟨x3, e_x3, hf⟩ := x_letE hf
        refine x_topl e_x3 ?_
        refine lv_lstore_n (lv' := [(1, .long x3), (0, .ref (adr (g.1 + 1) 5 0)), (3, .int v3_7)]) hx hb dX5_wordNumber_33 rfl hl (by decide) rfl (fun ls hl => ?_)
        obtain ⟨x4, e_x4, hf⟩ := x_letE hf
        refine lv_iinc (v := x4) (lv' := [(3, .int x4), (1, .long x3), (0, .ref (adr (g.1 + 1) 5 0))]) hx hb dX5_wordNumber_34 hl (k := 2) rfl (by rw [e_x4]; rfl) (by decide) rfl (fun ls hl => ?_)
        refine lv_goto (tgt := 7) hx hb dX5_wordNumber_37 (by decide) ?_
        exact ih (x3) (x4) ls _ _ (lv_sub hl [2, 1, 0] rfl) hW hS hf
  exact L7 fuel ((0 : Int64)) (x1) ls _ _ (lv_sub hl [2, 1, 0] rfl) hW hS hf
abbrev rm_X5_keepName : Room := { frames := 1, cells := 0, slots := 0, locals := 23 }
set_option maxRecDepth 100000 in
set_option maxHeartbeats 4000000 in
theorem ct_X5_keepName (l : Launch) (g : GT) (hfl : 1 ≤ gf g) (w : WT) (rd : SD) (rn : Nat → Int64) (a1 : Int32) {q : (Int32 × (Nat → Int64))} (hf : f_X5_keepName rd rn a1 = some q) : Met l yX5_keepName wsX5_keepName rm_X5_keepName (cPre g (wR w rd rn) [.ref (adr (g.1 + 1) 5 0), .int a1]) (cQi g q.1 (wR w rd q.2)) 0 0 (gA g) := by
  have i_5 : ∀ w ∈ u_ws RX5 TX5 9, w ∈ wsX5_keepName := by decide +kernel
  refine x_met (by decide) rfl (Nat.le_of_ble_eq_true rfl) ?_
  intro p e s m below meth c hx hb hr hml hts hown hlocks hK hW hS ls hl
  have hown : s.vm.findClass RX5 = some m.cls := hown
  have hl : lv_has ls 5 [(0, .ref (adr (g.1 + 1) 5 0)), (1, .int a1)] := hl
  rw [f_X5_keepName] at hf
  refine lv_aload_n hx hb dX5_keepName_0 rfl (lv_at hl 0 rfl) ?_
  obtain ⟨q1, h_q1, hf⟩ := x_bindE hf
  refine x_cl0 (x_rV ⟨hx, hb, hml, hown, hts⟩ (ct_X5_wordNumber l g hfl w rd rn  h_q1) (cwV 0 hts gX5_keepName_X5_wordNumber rfl rfl rfl (by decide +kernel) ⟨Nat.le_of_ble_eq_true rfl, Nat.le_of_ble_eq_true rfl⟩) hK hW hS (x_recv (i := (g.1 + 1)) (k := 5) (j := 0) hK hW ⟨⟨hfl, rfl⟩, by decide⟩ rfl (by decide)) rfl hl.1 (rest := []) rfl (Nat.le_of_ble_eq_true rfl) dX5_keepName_1 ⟨Nat.le_of_ble_eq_true rfl, Nat.le_of_ble_eq_true rfl⟩) hS (fun H locs hW hS => ?_)
  have hW : World g (wR w rd rn) H := hW
  refine W.eq (g2 := F0 m 4 ls [.long q1]) rfl ?_
  refine lv_lstore_n (lv' := [(2, .long q1), (0, .ref (adr (g.1 + 1) 5 0)), (1, .int a1)]) hx hb dX5_keepName_4 rfl hl (by decide) rfl (fun ls hl => ?_)
  refine lv_iconst (v := 0) hx hb dX5_keepName_5 (by decide) ?_
  refine lv_istore (lv' := [(4, .int (0 : Int32)), (2, .long q1), (0, .ref (adr (g.1 + 1) 5 0)), (1, .int a1)]) hx hb dX5_keepName_6 hl (by decide) rfl (fun ls hl => ?_)
  have L8 : ∀ (n : Nat) (v4_8 : Int32) (ls : Array Slot) (H : Heap) (locs : List Loc), lv_has ls 5 [(0, .ref (adr (g.1 + 1) 5 0)), (1, .int a1), (2, .long q1), (4, .int v4_8)] → World g (wR w rd rn) H → va_S (gA g) s.heap H locs → f_X5_keepName_L8 a1 rn q1 n v4_8 = some q → W p l e rm_X5_keepName s m [.ref (adr (g.1 + 1) 5 0), .int a1].toArray below meth c H locs 0 0 (MQ below (cQi g q.1 (wR w rd q.2)) [.ref (adr (g.1 + 1) 5 0), .int a1].toArray s 0 0 (gA g)) (F0 m 8 ls []) := by
    clear hW hS hl
    intro n
    induction n with
    | zero => intro v4_8 ls H locs hl hW hS hf; cases hf
    | succ n_8 ih =>
      intro v4_8 ls H locs hl hW hS hf
      rw [f_X5_keepName_L8] at hf
      refine lv_iload hx hb dX5_keepName_8 (lv_at hl 3 rfl) ?_
      refine lv_iload_n hx hb dX5_keepName_10 rfl (lv_at hl 1 rfl) ?_
      refine lv_icmp_ge (tgt := 34) hx hb dX5_keepName_11 (by decide) (fun hc => ?_) (fun hc => ?_)
      · have hf := x_iteT hf hc
        refine lv_aload_n hx hb dX5_keepName_34 rfl (lv_at hl 0 rfl) ?_
        refine x_get (i := (g.1 + 1)) (k := 5) (j := 0) (t := 6) hx hb hts i_5 hown hK hW ⟨⟨hfl, rfl⟩, by decide⟩ rfl ⟨by decide, by decide, rfl⟩ (hts (.fieldLink RX5 15 "OpticalJukebox$TextReader" "names" "[J") (by decide +kernel)) (v := .ref (adr (g.1 + 1) 21 0)) rfl dX5_keepName_35 ?_
        refine lv_iload_n hx hb dX5_keepName_38 rfl (lv_at hl 1 rfl) ?_
        refine lv_lload_n hx hb dX5_keepName_39 rfl (lv_at hl 2 rfl) ?_
        obtain ⟨hg2, hf⟩ := x_guardE hf
        obtain ⟨rn3, e_rn3, hf⟩ := x_letE hf
        refine x_last (i := (g.1 + 1)) (k := 21) (j := 0) (f := rn) (w' := wR w rd rn3) hx hb hK hW ⟨⟨hfl, rfl⟩, by decide⟩ hS (by decide) rfl rfl hg2 dX5_keepName_40 (wf_rn e_rn3 hW) (fun H locs hW hS => ?_)
        refine lv_iconst (v := 1) hx hb dX5_keepName_41 (by decide) ?_
        cases hf
        exact x_zret hx hb hr hlocks hK hW hS (Or.inr rfl) rfl dX5_keepName_42
      · have hf := x_iteF hf hc
        refine lv_aload_n hx hb dX5_keepName_14 rfl (lv_at hl 0 rfl) ?_
        refine x_get (i := (g.1 + 1)) (k := 5) (j := 0) (t := 6) hx hb hts i_5 hown hK hW ⟨⟨hfl, rfl⟩, by decide⟩ rfl ⟨by decide, by decide, rfl⟩ (hts (.fieldLink RX5 15 "OpticalJukebox$TextReader" "names" "[J") (by decide +kernel)) (v := .ref (adr (g.1 + 1) 21 0)) rfl dX5_keepName_15 ?_
        refine lv_iload hx hb dX5_keepName_18 (lv_at hl 3 rfl) ?_
        obtain ⟨hg4, hf⟩ := x_guardE hf
        refine x_lald (i := (g.1 + 1)) (k := 21) (j := 0) (f := rn) hx hb hK hW ⟨⟨hfl, rfl⟩, by decide⟩ (by decide) rfl rfl hg4 dX5_keepName_20 ?_
        refine lv_lload_n hx hb dX5_keepName_21 rfl (lv_at hl 2 rfl) ?_
        refine W.lcmp hx hb dX5_keepName_22 ?_
        refine lv_if_ne (tgt := 28) hx hb dX5_keepName_23 (by decide) (fun hc => ?_) (fun hc => ?_)
        · have hf := x_iteF hf hc
          obtain ⟨x5, e_x5, hf⟩ := x_letE hf
          refine lv_iinc (v := x5) (lv' := [(4, .int x5), (0, .ref (adr (g.1 + 1) 5 0)), (1, .int a1), (2, .long q1)]) hx hb dX5_keepName_28 hl (k := 3) rfl (by rw [e_x5]; rfl) (by decide) rfl (fun ls hl => ?_)
          refine lv_goto (tgt := 8) hx hb dX5_keepName_31 (by decide) ?_
          exact ih (x5) ls _ _ (lv_sub hl [1, 2, 3, 0] rfl) hW hS hf
        · have hf := x_iteT hf hc
          refine lv_iconst (v := 0) hx hb dX5_keepName_26 (by decide) ?_
          cases hf
          exact x_zret hx hb hr hlocks hK hW hS (Or.inl rfl) rfl dX5_keepName_27
  exact L8 fuel ((0 : Int32)) ls _ _ (lv_sub hl [2, 3, 1, 0] rfl) hW hS hf
abbrev rm_X5_readNewFile : Room := { frames := 6, cells := 0, slots := 0, locals := 127 }
set_option maxRecDepth 100000 in
set_option maxHeartbeats 4000000 in
theorem ct_X5_readNewFile (l : Launch) (g : GT) (hfl : 1 ≤ gf g) (w : WT) (rd : SD) (rn : Nat → Int64) (i : Nat) (hi : i ∈ k_S w.1) (sd : SD) {q : (Int32 × SD × SD × (Nat → Int64))} (hf : f_X5_readNewFile sd rd rn  = some q) : Met l yX5_readNewFile wsX5_readNewFile rm_X5_readNewFile (cPre g (wS (wR w rd rn) i sd) [.ref (adr (g.1 + 1) 5 0), .ref (adr i 4 0)]) (cQi g q.1 (wS (wR w q.2.2.1 q.2.2.2) i q.2.1)) 0 0 (gA g) := by
  have i_4 : ∀ w ∈ u_ws RX4 TX4 18, w ∈ wsX5_readNewFile := by decide +kernel
  have i_5 : ∀ w ∈ u_ws RX5 TX5 9, w ∈ wsX5_readNewFile := by decide +kernel
  refine x_met (by decide) rfl (Nat.le_of_ble_eq_true rfl) ?_
  intro p e s m below meth c hx hb hr hml hts hown hlocks hK hW hS ls hl
  have hown : s.vm.findClass RX5 = some m.cls := hown
  have hl : lv_has ls 4 [(0, .ref (adr (g.1 + 1) 5 0)), (1, .ref (adr i 4 0))] := hl
  rw [f_X5_readNewFile] at hf
  refine lv_aload_n hx hb dX5_readNewFile_0 rfl (lv_at hl 1 rfl) ?_
  refine x_get (i := i) (k := 4) (j := 0) (t := 11) hx hb hts i_4 hown hK hW ⟨hi, by decide⟩ rfl ⟨by decide, by decide, rfl⟩ (hts (.fieldLink RX5 154 "OpticalJukebox$State" "fileCount" "I") (by decide +kernel)) (sv_S rfl (fun _ => rfl) rfl) dX5_readNewFile_1 ?_
  refine lv_bipush (v := 20) hx hb dX5_readNewFile_4 (by decide) ?_
  refine lv_icmp_lt (tgt := 15) hx hb dX5_readNewFile_6 (by decide) (fun hc => ?_) (fun hc => ?_)
  · have hf := x_iteT hf hc
    refine lv_aload_n hx hb dX5_readNewFile_15 rfl (lv_at hl 0 rfl) ?_
    obtain ⟨q1, h_q1, hf⟩ := x_bindE hf
    refine x_cv0 (x_rV ⟨hx, hb, hml, hown, hts⟩ (ct_X5_nextToken l g hfl (wS w i sd) rd rn  h_q1) (cwV 0 hts gX5_readNewFile_X5_nextToken rfl rfl rfl (by decide +kernel) ⟨Nat.le_of_ble_eq_true rfl, Nat.le_of_ble_eq_true rfl⟩) hK hW hS (x_recv (i := (g.1 + 1)) (k := 5) (j := 0) hK hW ⟨⟨hfl, rfl⟩, by decide⟩ rfl (by decide)) rfl hl.1 (rest := []) rfl (Nat.le_of_ble_eq_true rfl) dX5_readNewFile_16 ⟨Nat.le_of_ble_eq_true rfl, Nat.le_of_ble_eq_true rfl⟩) hS (fun H locs hW hS => ?_)
    have hW : World g (wS (wR w q1 rn) i sd) H := hW
    refine lv_aload_n hx hb dX5_readNewFile_19 rfl (lv_at hl 0 rfl) ?_
    refine x_get (i := (g.1 + 1)) (k := 5) (j := 0) (t := 5) hx hb hts i_5 hown hK hW ⟨⟨hfl, rfl⟩, by decide⟩ rfl ⟨by decide, by decide, rfl⟩ (hts (.fieldLink RX5 49 "OpticalJukebox$TextReader" "token" "I") (by decide +kernel)) (rfl) dX5_readNewFile_20 ?_
    refine lv_iconst (v := 2) hx hb dX5_readNewFile_23 (by decide) ?_
    obtain ⟨K2, eK2, hf⟩ := x_letE hf
    have KK2 : ∀ (_u : Unit) (ls : Array Slot) (H : Heap) (locs : List Loc), lv_has ls 4 [(0, .ref (adr (g.1 + 1) 5 0)), (1, .ref (adr i 4 0))] → World g (wS (wR w q1 rn) i sd) H → va_S (gA g) s.heap H locs → K2 _u = some q → W p l e rm_X5_readNewFile s m [.ref (adr (g.1 + 1) 5 0), .ref (adr i 4 0)].toArray below meth c H locs 0 0 (MQ below (cQi g q.1 (wS (wR w q.2.2.1 q.2.2.2) i q.2.1)) [.ref (adr (g.1 + 1) 5 0), .ref (adr i 4 0)].toArray s 0 0 (gA g)) (F0 m 34 ls []) := by
      intro _u ls H locs hl hW hS hf
      subst eK2
      refine lv_aload_n hx hb dX5_readNewFile_34 rfl (lv_at hl 0 rfl) ?_
      obtain ⟨q3, h_q3, hf⟩ := x_bindE hf
      refine x_ci0 (x_rV ⟨hx, hb, hml, hown, hts⟩ (ct_X5_failUnexpected l g hfl (wS w i sd) q1 rn  h_q3) (cwV 0 hts gX5_readNewFile_X5_failUnexpected rfl rfl rfl (by decide +kernel) ⟨Nat.le_of_ble_eq_true rfl, Nat.le_of_ble_eq_true rfl⟩) hK hW hS (x_recv (i := (g.1 + 1)) (k := 5) (j := 0) hK hW ⟨⟨hfl, rfl⟩, by decide⟩ rfl (by decide)) rfl hl.1 (rest := []) rfl (Nat.le_of_ble_eq_true rfl) dX5_readNewFile_35 ⟨Nat.le_of_ble_eq_true rfl, Nat.le_of_ble_eq_true rfl⟩) hS (fun H locs hW hS => ?_)
      have hW : World g (wS (wR w q3.2 rn) i sd) H := hW
      refine W.eq (g2 := F0 m 38 ls [.int q3.1]) rfl ?_
      obtain ⟨hg4, hf⟩ := x_guardE hf
      cases hf
      exact x_zret hx hb hr hlocks hK hW hS hg4 rfl dX5_readNewFile_38
    clear eK2
    refine lv_icmp_ne (tgt := 34) hx hb dX5_readNewFile_24 (by decide) (fun hc => ?_) (fun hc => ?_)
    · have hf := x_iteF hf hc
      exact KK2 (()) ls _ _ hl hW hS hf
    · have hf := x_iteT hf hc
      refine lv_aload_n hx hb dX5_readNewFile_27 rfl (lv_at hl 0 rfl) ?_
      obtain ⟨q5, h_q5, hf⟩ := x_bindE hf
      refine x_ci0 (x_rV ⟨hx, hb, hml, hown, hts⟩ (ct_X5_isReserved l g hfl (wS w i sd) q1 rn  h_q5) (cwV 0 hts gX5_readNewFile_X5_isReserved rfl rfl rfl (by decide +kernel) ⟨Nat.le_of_ble_eq_true rfl, Nat.le_of_ble_eq_true rfl⟩) hK hW hS (x_recv (i := (g.1 + 1)) (k := 5) (j := 0) hK hW ⟨⟨hfl, rfl⟩, by decide⟩ rfl (by decide)) rfl hl.1 (rest := []) rfl (Nat.le_of_ble_eq_true rfl) dX5_readNewFile_28 ⟨Nat.le_of_ble_eq_true rfl, Nat.le_of_ble_eq_true rfl⟩) hS (fun H locs hW hS => ?_)
      have hW : World g (wS (wR w q1 rn) i sd) H := hW
      refine W.eq (g2 := F0 m 31 ls [.int q5]) rfl ?_
      refine lv_if_eq (tgt := 39) hx hb dX5_readNewFile_31 (by decide) (fun hc => ?_) (fun hc => ?_)
      · have hf := x_iteT hf hc
        refine lv_aload_n hx hb dX5_readNewFile_39 rfl (lv_at hl 0 rfl) ?_
        refine lv_aload_n hx hb dX5_readNewFile_40 rfl (lv_at hl 1 rfl) ?_
        refine x_get (i := i) (k := 4) (j := 0) (t := 11) hx hb hts i_4 hown hK hW ⟨hi, by decide⟩ rfl ⟨by decide, by decide, rfl⟩ (hts (.fieldLink RX5 154 "OpticalJukebox$State" "fileCount" "I") (by decide +kernel)) (sv_S rfl (fun _ => rfl) rfl) dX5_readNewFile_41 ?_
        obtain ⟨q6, h_q6, hf⟩ := x_bindE hf
        refine x_ci0 (x_rV ⟨hx, hb, hml, hown, hts⟩ (ct_X5_keepName l g hfl (wS w i sd) q1 rn ((sd 4 0 11)) h_q6) (cwV 1 hts gX5_readNewFile_X5_keepName rfl rfl rfl (by decide +kernel) ⟨Nat.le_of_ble_eq_true rfl, Nat.le_of_ble_eq_true rfl⟩) hK hW hS (x_recv (i := (g.1 + 1)) (k := 5) (j := 0) hK hW ⟨⟨hfl, rfl⟩, by decide⟩ rfl (by decide)) rfl hl.1 (rest := []) rfl (Nat.le_of_ble_eq_true rfl) dX5_readNewFile_44 ⟨Nat.le_of_ble_eq_true rfl, Nat.le_of_ble_eq_true rfl⟩) hS (fun H locs hW hS => ?_)
        have hW : World g (wS (wR w q1 q6.2) i sd) H := hW
        refine W.eq (g2 := F0 m 47 ls [.int q6.1]) rfl ?_
        refine lv_if_ne (tgt := 56) hx hb dX5_readNewFile_47 (by decide) (fun hc => ?_) (fun hc => ?_)
        · have hf := x_iteF hf hc
          refine lv_aload_n hx hb dX5_readNewFile_56 rfl (lv_at hl 0 rfl) ?_
          refine lv_iconst (v := 1) hx hb dX5_readNewFile_57 (by decide) ?_
          refine lv_sipush (v := 300) hx hb dX5_readNewFile_58 (by decide) ?_
          obtain ⟨q7, h_q7, hf⟩ := x_bindE hf
          refine x_ci0 (x_rV ⟨hx, hb, hml, hown, hts⟩ (ct_X5_readNumber l g hfl (wS w i sd) q1 q6.2 ((1 : Int32)) ((300 : Int32)) h_q7) (cwV 2 hts gX5_readNewFile_X5_readNumber rfl rfl rfl (by decide +kernel) ⟨Nat.le_of_ble_eq_true rfl, Nat.le_of_ble_eq_true rfl⟩) hK hW hS (x_recv (i := (g.1 + 1)) (k := 5) (j := 0) hK hW ⟨⟨hfl, rfl⟩, by decide⟩ rfl (by decide)) rfl hl.1 (rest := []) rfl (Nat.le_of_ble_eq_true rfl) dX5_readNewFile_61 ⟨Nat.le_of_ble_eq_true rfl, Nat.le_of_ble_eq_true rfl⟩) hS (fun H locs hW hS => ?_)
          have hW : World g (wS (wR w q7.2 q6.2) i sd) H := hW
          refine W.eq (g2 := F0 m 64 ls [.int q7.1]) rfl ?_
          obtain ⟨x8, e_x8, hf⟩ := x_letE hf
          refine x_topi e_x8 ?_
          refine lv_istore_n (lv' := [(2, .int x8), (0, .ref (adr (g.1 + 1) 5 0)), (1, .ref (adr i 4 0))]) hx hb dX5_readNewFile_64 rfl hl (by decide) rfl (fun ls hl => ?_)
          refine lv_iload_n hx hb dX5_readNewFile_65 rfl (lv_at hl 0 rfl) ?_
          refine lv_iconst (v := -1) hx hb dX5_readNewFile_66 (by decide) ?_
          refine lv_icmp_ne (tgt := 72) hx hb dX5_readNewFile_67 (by decide) (fun hc => ?_) (fun hc => ?_)
          · have hf := x_iteF hf hc
            refine lv_aload_n hx hb dX5_readNewFile_72 rfl (lv_at hl 1 rfl) ?_
            refine lv_iconst (v := 0) hx hb dX5_readNewFile_73 (by decide) ?_
            refine lv_aload_n hx hb dX5_readNewFile_74 rfl (lv_at hl 2 rfl) ?_
            refine x_get (i := i) (k := 4) (j := 0) (t := 6) hx hb hts i_4 hown hK hW ⟨hi, by decide⟩ rfl ⟨by decide, by decide, rfl⟩ (hts (.fieldLink RX5 124 "OpticalJukebox$State" "platterCount" "I") (by decide +kernel)) (sv_S rfl (fun _ => rfl) rfl) dX5_readNewFile_75 ?_
            refine lv_iconst (v := 1) hx hb dX5_readNewFile_78 (by decide) ?_
            refine lv_isub hx hb dX5_readNewFile_79 ?_
            obtain ⟨q9, h_q9, hf⟩ := x_bindE hf
            refine x_ci0 (x_rV ⟨hx, hb, hml, hown, hts⟩ (ct_X5_readNumber l g hfl (wS w i sd) q7.2 q6.2 ((0 : Int32)) (((sd 4 0 6) - (1 : Int32))) h_q9) (cwV 2 hts gX5_readNewFile_X5_readNumber rfl rfl rfl (by decide +kernel) ⟨Nat.le_of_ble_eq_true rfl, Nat.le_of_ble_eq_true rfl⟩) hK hW hS (x_recv (i := (g.1 + 1)) (k := 5) (j := 0) hK hW ⟨⟨hfl, rfl⟩, by decide⟩ rfl (by decide)) rfl hl.1 (rest := []) rfl (Nat.le_of_ble_eq_true rfl) dX5_readNewFile_80 ⟨Nat.le_of_ble_eq_true rfl, Nat.le_of_ble_eq_true rfl⟩) hS (fun H locs hW hS => ?_)
            have hW : World g (wS (wR w q9.2 q6.2) i sd) H := hW
            refine W.eq (g2 := F0 m 83 ls [.int q9.1]) rfl ?_
            obtain ⟨x10, e_x10, hf⟩ := x_letE hf
            refine x_topi e_x10 ?_
            refine lv_istore_n (lv' := [(3, .int x10), (2, .int x8), (0, .ref (adr (g.1 + 1) 5 0)), (1, .ref (adr i 4 0))]) hx hb dX5_readNewFile_83 rfl hl (by decide) rfl (fun ls hl => ?_)
            refine lv_iload_n hx hb dX5_readNewFile_84 rfl (lv_at hl 0 rfl) ?_
            refine lv_iconst (v := -1) hx hb dX5_readNewFile_85 (by decide) ?_
            refine lv_icmp_ne (tgt := 91) hx hb dX5_readNewFile_86 (by decide) (fun hc => ?_) (fun hc => ?_)
            · have hf := x_iteF hf hc
              refine lv_aload_n hx hb dX5_readNewFile_91 rfl (lv_at hl 3 rfl) ?_
              refine x_get (i := i) (k := 4) (j := 0) (t := 5) hx hb hts i_4 hown hK hW ⟨hi, by decide⟩ rfl ⟨by decide, by decide, rfl⟩ (hts (.fieldLink RX5 138 "OpticalJukebox$State" "platters" "[LOpticalJukebox$Platter;") (by decide +kernel)) (v := .ref (adr i 12 0)) rfl dX5_readNewFile_92 ?_
              refine lv_iload_n hx hb dX5_readNewFile_95 rfl (lv_at hl 0 rfl) ?_
              obtain ⟨hg11, hf⟩ := x_guardE hf
              refine x_aald (i := i) (k := 12) (j := 0) hx hb hK hW ⟨hi, by decide⟩ (by decide) rfl rfl hg11 dX5_readNewFile_96 ?_
              refine W.eq (g2 := F0 m 97 ls [.ref (adr i 3 (x10).toNatClampNeg)]) rfl ?_
              refine lv_iload_n hx hb dX5_readNewFile_97 rfl (lv_at hl 1 rfl) ?_
              obtain ⟨q12, h_q12, hf⟩ := x_bindE hf
              refine x_ci0 (x_rV ⟨hx, hb, hml, hown, hts⟩ (ct_X3_canTake l g (wR w q9.2 q6.2) i hi sd ((x10).toNatClampNeg) ((x_lt hg11)) (x8) h_q12) (cwV 1 hts gX5_readNewFile_X3_canTake rfl rfl rfl (by decide +kernel) ⟨Nat.le_of_ble_eq_true rfl, Nat.le_of_ble_eq_true rfl⟩) hK hW hS (x_recv (i := i) (k := 3) (j := (x10).toNatClampNeg) hK hW ⟨hi, (x_lt hg11)⟩ rfl (by decide)) rfl hl.1 (rest := []) rfl (Nat.le_of_ble_eq_true rfl) dX5_readNewFile_98 ⟨Nat.le_of_ble_eq_true rfl, Nat.le_of_ble_eq_true rfl⟩) hS (fun H locs hW hS => ?_)
              have hW : World g (wS (wR w q9.2 q6.2) i sd) H := hW
              refine W.eq (g2 := F0 m 101 ls [.int q12]) rfl ?_
              refine lv_if_ne (tgt := 111) hx hb dX5_readNewFile_101 (by decide) (fun hc => ?_) (fun hc => ?_)
              · have hf := x_iteF hf hc
                refine lv_aload_n hx hb dX5_readNewFile_111 rfl (lv_at hl 3 rfl) ?_
                refine lv_dup hx hb dX5_readNewFile_112 rfl ?_
                refine x_get (i := i) (k := 4) (j := 0) (t := 11) hx hb hts i_4 hown hK hW ⟨hi, by decide⟩ rfl ⟨by decide, by decide, rfl⟩ (hts (.fieldLink RX5 154 "OpticalJukebox$State" "fileCount" "I") (by decide +kernel)) (sv_S rfl (fun _ => rfl) rfl) dX5_readNewFile_113 ?_
                refine lv_iconst (v := 1) hx hb dX5_readNewFile_116 (by decide) ?_
                refine lv_iadd hx hb dX5_readNewFile_117 ?_
                obtain ⟨sd13, e_sd13, hf⟩ := x_letE hf
                refine x_put (i := i) (k := 4) (j := 0) (t := 11) (w' := wS (wR w q9.2 q6.2) i sd13) hx hb hts i_4 tyX4 tyX4_ok nmX4 hown hK hW ⟨hi, by decide⟩ hS rfl ⟨by decide, by decide, rfl⟩ (hts (.fieldLink RX5 154 "OpticalJukebox$State" "fileCount" "I") (by decide +kernel)) rfl (ty := .int) (by decide +kernel) rfl rfl ⟨rfl, rfl⟩ dX5_readNewFile_118 (fp_S e_sd13 rfl) (fun H locs hW hS => ?_)
                refine lv_aload_n hx hb dX5_readNewFile_121 rfl (lv_at hl 3 rfl) ?_
                refine lv_aload_n hx hb dX5_readNewFile_122 rfl (lv_at hl 3 rfl) ?_
                refine x_get (i := i) (k := 4) (j := 0) (t := 11) hx hb hts i_4 hown hK hW ⟨hi, by decide⟩ rfl ⟨by decide, by decide, rfl⟩ (hts (.fieldLink RX5 154 "OpticalJukebox$State" "fileCount" "I") (by decide +kernel)) (sv_S rfl (fun _ => rfl) rfl) dX5_readNewFile_123 ?_
                refine lv_iconst (v := 1) hx hb dX5_readNewFile_126 (by decide) ?_
                refine lv_isub hx hb dX5_readNewFile_127 ?_
                refine lv_iload_n hx hb dX5_readNewFile_128 rfl (lv_at hl 1 rfl) ?_
                refine lv_iload_n hx hb dX5_readNewFile_129 rfl (lv_at hl 0 rfl) ?_
                obtain ⟨q14, h_q14, hf⟩ := x_bindE hf
                refine x_cv0 (x_rV ⟨hx, hb, hml, hown, hts⟩ (ct_X4_addVersion l g (wR w q9.2 q6.2) i hi sd13 (((sd13 4 0 11) - (1 : Int32))) (x8) (x10) h_q14) (cwV 3 hts gX5_readNewFile_X4_addVersion rfl rfl rfl (by decide +kernel) ⟨Nat.le_of_ble_eq_true rfl, Nat.le_of_ble_eq_true rfl⟩) hK hW hS (x_recv (i := i) (k := 4) (j := 0) hK hW ⟨hi, by decide⟩ rfl (by decide)) rfl hl.1 (rest := []) rfl (Nat.le_of_ble_eq_true rfl) dX5_readNewFile_130 ⟨Nat.le_of_ble_eq_true rfl, Nat.le_of_ble_eq_true rfl⟩) hS (fun H locs hW hS => ?_)
                have hW : World g (wS (wR w q9.2 q6.2) i q14) H := hW
                refine lv_iconst (v := 1) hx hb dX5_readNewFile_133 (by decide) ?_
                cases hf
                exact x_zret hx hb hr hlocks hK hW hS (Or.inr rfl) rfl dX5_readNewFile_134
              · have hf := x_iteT hf hc
                refine lv_aload_n hx hb dX5_readNewFile_104 rfl (lv_at hl 2 rfl) ?_
                refine lv_bipush (v := 6) hx hb dX5_readNewFile_105 (by decide) ?_
                obtain ⟨q15, h_q15, hf⟩ := x_bindE hf
                refine x_ci0 (x_rV ⟨hx, hb, hml, hown, hts⟩ (ct_X5_fail l g hfl (wS w i sd) q9.2 q6.2 ((6 : Int32)) h_q15) (cwV 1 hts gX5_readNewFile_X5_fail rfl rfl rfl (by decide +kernel) ⟨Nat.le_of_ble_eq_true rfl, Nat.le_of_ble_eq_true rfl⟩) hK hW hS (x_recv (i := (g.1 + 1)) (k := 5) (j := 0) hK hW ⟨⟨hfl, rfl⟩, by decide⟩ rfl (by decide)) rfl hl.1 (rest := []) rfl (Nat.le_of_ble_eq_true rfl) dX5_readNewFile_107 ⟨Nat.le_of_ble_eq_true rfl, Nat.le_of_ble_eq_true rfl⟩) hS (fun H locs hW hS => ?_)
                have hW : World g (wS (wR w q15.2 q6.2) i sd) H := hW
                refine W.eq (g2 := F0 m 110 ls [.int q15.1]) rfl ?_
                obtain ⟨hg16, hf⟩ := x_guardE hf
                cases hf
                exact x_zret hx hb hr hlocks hK hW hS hg16 rfl dX5_readNewFile_110
            · have hf := x_iteT hf hc
              refine lv_iconst (v := 0) hx hb dX5_readNewFile_89 (by decide) ?_
              cases hf
              exact x_zret hx hb hr hlocks hK hW hS (Or.inl rfl) rfl dX5_readNewFile_90
          · have hf := x_iteT hf hc
            refine lv_iconst (v := 0) hx hb dX5_readNewFile_70 (by decide) ?_
            cases hf
            exact x_zret hx hb hr hlocks hK hW hS (Or.inl rfl) rfl dX5_readNewFile_71
        · have hf := x_iteT hf hc
          refine lv_aload_n hx hb dX5_readNewFile_50 rfl (lv_at hl 0 rfl) ?_
          refine lv_iconst (v := 4) hx hb dX5_readNewFile_51 (by decide) ?_
          obtain ⟨q17, h_q17, hf⟩ := x_bindE hf
          refine x_ci0 (x_rV ⟨hx, hb, hml, hown, hts⟩ (ct_X5_fail l g hfl (wS w i sd) q1 q6.2 ((4 : Int32)) h_q17) (cwV 1 hts gX5_readNewFile_X5_fail rfl rfl rfl (by decide +kernel) ⟨Nat.le_of_ble_eq_true rfl, Nat.le_of_ble_eq_true rfl⟩) hK hW hS (x_recv (i := (g.1 + 1)) (k := 5) (j := 0) hK hW ⟨⟨hfl, rfl⟩, by decide⟩ rfl (by decide)) rfl hl.1 (rest := []) rfl (Nat.le_of_ble_eq_true rfl) dX5_readNewFile_52 ⟨Nat.le_of_ble_eq_true rfl, Nat.le_of_ble_eq_true rfl⟩) hS (fun H locs hW hS => ?_)
          have hW : World g (wS (wR w q17.2 q6.2) i sd) H := hW
          refine W.eq (g2 := F0 m 55 ls [.int q17.1]) rfl ?_
          obtain ⟨hg18, hf⟩ := x_guardE hf
          cases hf
          exact x_zret hx hb hr hlocks hK hW hS hg18 rfl dX5_readNewFile_55
      · have hf := x_iteF hf hc
        exact KK2 (()) ls _ _ hl hW hS hf
  · have hf := x_iteF hf hc
    refine lv_aload_n hx hb dX5_readNewFile_9 rfl (lv_at hl 0 rfl) ?_
    refine lv_iconst (v := 5) hx hb dX5_readNewFile_10 (by decide) ?_
    obtain ⟨q19, h_q19, hf⟩ := x_bindE hf
    refine x_ci0 (x_rV ⟨hx, hb, hml, hown, hts⟩ (ct_X5_fail l g hfl (wS w i sd) rd rn ((5 : Int32)) h_q19) (cwV 1 hts gX5_readNewFile_X5_fail rfl rfl rfl (by decide +kernel) ⟨Nat.le_of_ble_eq_true rfl, Nat.le_of_ble_eq_true rfl⟩) hK hW hS (x_recv (i := (g.1 + 1)) (k := 5) (j := 0) hK hW ⟨⟨hfl, rfl⟩, by decide⟩ rfl (by decide)) rfl hl.1 (rest := []) rfl (Nat.le_of_ble_eq_true rfl) dX5_readNewFile_11 ⟨Nat.le_of_ble_eq_true rfl, Nat.le_of_ble_eq_true rfl⟩) hS (fun H locs hW hS => ?_)
    have hW : World g (wS (wR w q19.2 rn) i sd) H := hW
    refine W.eq (g2 := F0 m 14 ls [.int q19.1]) rfl ?_
    obtain ⟨hg20, hf⟩ := x_guardE hf
    cases hf
    exact x_zret hx hb hr hlocks hK hW hS hg20 rfl dX5_readNewFile_14
abbrev rm_X5_readClose : Room := { frames := 4, cells := 0, slots := 0, locals := 88 }
set_option maxRecDepth 100000 in
set_option maxHeartbeats 4000000 in
theorem ct_X5_readClose (l : Launch) (g : GT) (hfl : 1 ≤ gf g) (w : WT) (rd : SD) (rn : Nat → Int64) (i : Nat) (hi : i ∈ k_S w.1) (sd : SD) {q : (Int32 × SD × SD)} (hf : f_X5_readClose sd rd  = some q) : Met l yX5_readClose wsX5_readClose rm_X5_readClose (cPre g (wS (wR w rd rn) i sd) [.ref (adr (g.1 + 1) 5 0), .ref (adr i 4 0)]) (cQi g q.1 (wS (wR w q.2.2 rn) i q.2.1)) 0 0 (gA g) := by
  have i_3 : ∀ w ∈ u_ws RX3 TX3 9, w ∈ wsX5_readClose := by decide +kernel
  have i_4 : ∀ w ∈ u_ws RX4 TX4 18, w ∈ wsX5_readClose := by decide +kernel
  refine x_met (by decide) rfl (Nat.le_of_ble_eq_true rfl) ?_
  intro p e s m below meth c hx hb hr hml hts hown hlocks hK hW hS ls hl
  have hown : s.vm.findClass RX5 = some m.cls := hown
  have hl : lv_has ls 3 [(0, .ref (adr (g.1 + 1) 5 0)), (1, .ref (adr i 4 0))] := hl
  rw [f_X5_readClose] at hf
  refine lv_aload_n hx hb dX5_readClose_0 rfl (lv_at hl 0 rfl) ?_
  refine lv_iconst (v := 0) hx hb dX5_readClose_1 (by decide) ?_
  refine lv_aload_n hx hb dX5_readClose_2 rfl (lv_at hl 1 rfl) ?_
  refine x_get (i := i) (k := 4) (j := 0) (t := 6) hx hb hts i_4 hown hK hW ⟨hi, by decide⟩ rfl ⟨by decide, by decide, rfl⟩ (hts (.fieldLink RX5 124 "OpticalJukebox$State" "platterCount" "I") (by decide +kernel)) (sv_S rfl (fun _ => rfl) rfl) dX5_readClose_3 ?_
  refine lv_iconst (v := 1) hx hb dX5_readClose_6 (by decide) ?_
  refine lv_isub hx hb dX5_readClose_7 ?_
  obtain ⟨q1, h_q1, hf⟩ := x_bindE hf
  refine x_ci0 (x_rV ⟨hx, hb, hml, hown, hts⟩ (ct_X5_readNumber l g hfl (wS w i sd) rd rn ((0 : Int32)) (((sd 4 0 6) - (1 : Int32))) h_q1) (cwV 2 hts gX5_readClose_X5_readNumber rfl rfl rfl (by decide +kernel) ⟨Nat.le_of_ble_eq_true rfl, Nat.le_of_ble_eq_true rfl⟩) hK hW hS (x_recv (i := (g.1 + 1)) (k := 5) (j := 0) hK hW ⟨⟨hfl, rfl⟩, by decide⟩ rfl (by decide)) rfl hl.1 (rest := []) rfl (Nat.le_of_ble_eq_true rfl) dX5_readClose_8 ⟨Nat.le_of_ble_eq_true rfl, Nat.le_of_ble_eq_true rfl⟩) hS (fun H locs hW hS => ?_)
  have hW : World g (wS (wR w q1.2 rn) i sd) H := hW
  refine W.eq (g2 := F0 m 11 ls [.int q1.1]) rfl ?_
  obtain ⟨x2, e_x2, hf⟩ := x_letE hf
  refine x_topi e_x2 ?_
  refine lv_istore_n (lv' := [(2, .int x2), (0, .ref (adr (g.1 + 1) 5 0)), (1, .ref (adr i 4 0))]) hx hb dX5_readClose_11 rfl hl (by decide) rfl (fun ls hl => ?_)
  refine lv_iload_n hx hb dX5_readClose_12 rfl (lv_at hl 0 rfl) ?_
  refine lv_iconst (v := -1) hx hb dX5_readClose_13 (by decide) ?_
  refine lv_icmp_ne (tgt := 19) hx hb dX5_readClose_14 (by decide) (fun hc => ?_) (fun hc => ?_)
  · have hf := x_iteF hf hc
    refine lv_aload_n hx hb dX5_readClose_19 rfl (lv_at hl 2 rfl) ?_
    refine x_get (i := i) (k := 4) (j := 0) (t := 5) hx hb hts i_4 hown hK hW ⟨hi, by decide⟩ rfl ⟨by decide, by decide, rfl⟩ (hts (.fieldLink RX5 138 "OpticalJukebox$State" "platters" "[LOpticalJukebox$Platter;") (by decide +kernel)) (v := .ref (adr i 12 0)) rfl dX5_readClose_20 ?_
    refine lv_iload_n hx hb dX5_readClose_23 rfl (lv_at hl 0 rfl) ?_
    obtain ⟨hg3, hf⟩ := x_guardE hf
    refine x_aald (i := i) (k := 12) (j := 0) hx hb hK hW ⟨hi, by decide⟩ (by decide) rfl rfl hg3 dX5_readClose_24 ?_
    refine W.eq (g2 := F0 m 25 ls [.ref (adr i 3 (x2).toNatClampNeg)]) rfl ?_
    refine x_get (i := i) (k := 3) (j := (x2).toNatClampNeg) (t := 5) hx hb hts i_3 hown hK hW ⟨hi, (x_lt hg3)⟩ rfl ⟨by decide, by decide, rfl⟩ (hts (.fieldLink RX5 169 "OpticalJukebox$Platter" "open" "Z") (by decide +kernel)) (sv_S rfl (fun _ => rfl) rfl) dX5_readClose_25 ?_
    refine lv_if_ne (tgt := 38) hx hb dX5_readClose_28 (by decide) (fun hc => ?_) (fun hc => ?_)
    · have hf := x_iteF hf hc
      refine lv_aload_n hx hb dX5_readClose_38 rfl (lv_at hl 2 rfl) ?_
      refine x_get (i := i) (k := 4) (j := 0) (t := 5) hx hb hts i_4 hown hK hW ⟨hi, by decide⟩ rfl ⟨by decide, by decide, rfl⟩ (hts (.fieldLink RX5 138 "OpticalJukebox$State" "platters" "[LOpticalJukebox$Platter;") (by decide +kernel)) (v := .ref (adr i 12 0)) rfl dX5_readClose_39 ?_
      refine lv_iload_n hx hb dX5_readClose_42 rfl (lv_at hl 0 rfl) ?_
      obtain ⟨hg4, hf⟩ := x_guardE hf
      refine x_aald (i := i) (k := 12) (j := 0) hx hb hK hW ⟨hi, by decide⟩ (by decide) rfl rfl hg4 dX5_readClose_43 ?_
      refine W.eq (g2 := F0 m 44 ls [.ref (adr i 3 (x2).toNatClampNeg)]) rfl ?_
      obtain ⟨q5, h_q5, hf⟩ := x_bindE hf
      refine x_ci0 (x_rV ⟨hx, hb, hml, hown, hts⟩ (ct_X3_addLeadOut l g (wR w q1.2 rn) i hi sd ((x2).toNatClampNeg) ((x_lt hg4)) h_q5) (cwV 0 hts gX5_readClose_X3_addLeadOut rfl rfl rfl (by decide +kernel) ⟨Nat.le_of_ble_eq_true rfl, Nat.le_of_ble_eq_true rfl⟩) hK hW hS (x_recv (i := i) (k := 3) (j := (x2).toNatClampNeg) hK hW ⟨hi, (x_lt hg4)⟩ rfl (by decide)) rfl hl.1 (rest := []) rfl (Nat.le_of_ble_eq_true rfl) dX5_readClose_44 ⟨Nat.le_of_ble_eq_true rfl, Nat.le_of_ble_eq_true rfl⟩) hS (fun H locs hW hS => ?_)
      have hW : World g (wS (wR w q1.2 rn) i q5.2) H := hW
      refine W.eq (g2 := F0 m 47 ls [.int q5.1]) rfl ?_
      refine lv_pop hx hb dX5_readClose_47 rfl ?_
      refine lv_iconst (v := 1) hx hb dX5_readClose_48 (by decide) ?_
      cases hf
      exact x_zret hx hb hr hlocks hK hW hS (Or.inr rfl) rfl dX5_readClose_49
    · have hf := x_iteT hf hc
      refine lv_aload_n hx hb dX5_readClose_31 rfl (lv_at hl 1 rfl) ?_
      refine lv_bipush (v := 6) hx hb dX5_readClose_32 (by decide) ?_
      obtain ⟨q6, h_q6, hf⟩ := x_bindE hf
      refine x_ci0 (x_rV ⟨hx, hb, hml, hown, hts⟩ (ct_X5_fail l g hfl (wS w i sd) q1.2 rn ((6 : Int32)) h_q6) (cwV 1 hts gX5_readClose_X5_fail rfl rfl rfl (by decide +kernel) ⟨Nat.le_of_ble_eq_true rfl, Nat.le_of_ble_eq_true rfl⟩) hK hW hS (x_recv (i := (g.1 + 1)) (k := 5) (j := 0) hK hW ⟨⟨hfl, rfl⟩, by decide⟩ rfl (by decide)) rfl hl.1 (rest := []) rfl (Nat.le_of_ble_eq_true rfl) dX5_readClose_34 ⟨Nat.le_of_ble_eq_true rfl, Nat.le_of_ble_eq_true rfl⟩) hS (fun H locs hW hS => ?_)
      have hW : World g (wS (wR w q6.2 rn) i sd) H := hW
      refine W.eq (g2 := F0 m 37 ls [.int q6.1]) rfl ?_
      obtain ⟨hg7, hf⟩ := x_guardE hf
      cases hf
      exact x_zret hx hb hr hlocks hK hW hS hg7 rfl dX5_readClose_37
  · have hf := x_iteT hf hc
    refine lv_iconst (v := 0) hx hb dX5_readClose_17 (by decide) ?_
    cases hf
    exact x_zret hx hb hr hlocks hK hW hS (Or.inl rfl) rfl dX5_readClose_18
abbrev rm_X5_readStatement : Room := { frames := 7, cells := 0, slots := 0, locals := 150 }
set_option maxRecDepth 100000 in
set_option maxHeartbeats 4000000 in
theorem ct_X5_readStatement (l : Launch) (g : GT) (hfl : 1 ≤ gf g) (w : WT) (rd : SD) (rn : Nat → Int64) (i : Nat) (hi : i ∈ k_S w.1) (sd : SD) (a1 : Int32) {q : (Int32 × SD × SD × (Nat → Int64))} (hf : f_X5_readStatement sd rd rn a1 = some q) : Met l yX5_readStatement wsX5_readStatement rm_X5_readStatement (cPre g (wS (wR w rd rn) i sd) [.ref (adr (g.1 + 1) 5 0), .int a1, .ref (adr i 4 0)]) (cQi g q.1 (wS (wR w q.2.2.1 q.2.2.2) i q.2.1)) 0 0 (gA g) := by
  refine x_met (by decide) rfl (Nat.le_of_ble_eq_true rfl) ?_
  intro p e s m below meth c hx hb hr hml hts hown hlocks hK hW hS ls hl
  have hown : s.vm.findClass RX5 = some m.cls := hown
  have hl : lv_has ls 3 [(0, .ref (adr (g.1 + 1) 5 0)), (1, .int a1), (2, .ref (adr i 4 0))] := hl
  rw [f_X5_readStatement] at hf
  refine lv_aload_n hx hb dX5_readStatement_0 rfl (lv_at hl 0 rfl) ?_
  refine va_ldcS hx hb hown (hK.2.2.1 0 (by decide)) dX5_readStatement_1 ?_
  obtain ⟨q1, h_q1, hf⟩ := x_bindE hf
  refine x_ci0 (x_rV ⟨hx, hb, hml, hown, hts⟩ (ct_X5_wordIs l g hfl (wS w i sd) rd rn 0 (by decide) h_q1) (cwV 1 hts gX5_readStatement_X5_wordIs rfl rfl rfl (by decide +kernel) ⟨Nat.le_of_ble_eq_true rfl, Nat.le_of_ble_eq_true rfl⟩) hK hW hS (x_recv (i := (g.1 + 1)) (k := 5) (j := 0) hK hW ⟨⟨hfl, rfl⟩, by decide⟩ rfl (by decide)) rfl hl.1 (rest := []) rfl (Nat.le_of_ble_eq_true rfl) dX5_readStatement_3 ⟨Nat.le_of_ble_eq_true rfl, Nat.le_of_ble_eq_true rfl⟩) hS (fun H locs hW hS => ?_)
  have hW : World g (wS (wR w rd rn) i sd) H := hW
  refine W.eq (g2 := F0 m 6 ls [.int q1]) rfl ?_
  refine lv_if_eq (tgt := 27) hx hb dX5_readStatement_6 (by decide) (fun hc => ?_) (fun hc => ?_)
  · have hf := x_iteT hf hc
    refine lv_aload_n hx hb dX5_readStatement_27 rfl (lv_at hl 0 rfl) ?_
    refine va_ldcS hx hb hown (hK.2.2.1 1 (by decide)) dX5_readStatement_28 ?_
    obtain ⟨q2, h_q2, hf⟩ := x_bindE hf
    refine x_ci0 (x_rV ⟨hx, hb, hml, hown, hts⟩ (ct_X5_wordIs l g hfl (wS w i sd) rd rn 1 (by decide) h_q2) (cwV 1 hts gX5_readStatement_X5_wordIs rfl rfl rfl (by decide +kernel) ⟨Nat.le_of_ble_eq_true rfl, Nat.le_of_ble_eq_true rfl⟩) hK hW hS (x_recv (i := (g.1 + 1)) (k := 5) (j := 0) hK hW ⟨⟨hfl, rfl⟩, by decide⟩ rfl (by decide)) rfl hl.1 (rest := []) rfl (Nat.le_of_ble_eq_true rfl) dX5_readStatement_30 ⟨Nat.le_of_ble_eq_true rfl, Nat.le_of_ble_eq_true rfl⟩) hS (fun H locs hW hS => ?_)
    have hW : World g (wS (wR w rd rn) i sd) H := hW
    refine W.eq (g2 := F0 m 33 ls [.int q2]) rfl ?_
    refine lv_if_eq (tgt := 42) hx hb dX5_readStatement_33 (by decide) (fun hc => ?_) (fun hc => ?_)
    · have hf := x_iteT hf hc
      refine lv_aload_n hx hb dX5_readStatement_42 rfl (lv_at hl 0 rfl) ?_
      refine va_ldcS hx hb hown (hK.2.2.1 2 (by decide)) dX5_readStatement_43 ?_
      obtain ⟨q3, h_q3, hf⟩ := x_bindE hf
      refine x_ci0 (x_rV ⟨hx, hb, hml, hown, hts⟩ (ct_X5_wordIs l g hfl (wS w i sd) rd rn 2 (by decide) h_q3) (cwV 1 hts gX5_readStatement_X5_wordIs rfl rfl rfl (by decide +kernel) ⟨Nat.le_of_ble_eq_true rfl, Nat.le_of_ble_eq_true rfl⟩) hK hW hS (x_recv (i := (g.1 + 1)) (k := 5) (j := 0) hK hW ⟨⟨hfl, rfl⟩, by decide⟩ rfl (by decide)) rfl hl.1 (rest := []) rfl (Nat.le_of_ble_eq_true rfl) dX5_readStatement_45 ⟨Nat.le_of_ble_eq_true rfl, Nat.le_of_ble_eq_true rfl⟩) hS (fun H locs hW hS => ?_)
      have hW : World g (wS (wR w rd rn) i sd) H := hW
      refine W.eq (g2 := F0 m 48 ls [.int q3]) rfl ?_
      refine lv_if_eq (tgt := 57) hx hb dX5_readStatement_48 (by decide) (fun hc => ?_) (fun hc => ?_)
      · have hf := x_iteT hf hc
        refine lv_aload_n hx hb dX5_readStatement_57 rfl (lv_at hl 0 rfl) ?_
        refine va_ldcS hx hb hown (hK.2.2.1 3 (by decide)) dX5_readStatement_58 ?_
        obtain ⟨q4, h_q4, hf⟩ := x_bindE hf
        refine x_ci0 (x_rV ⟨hx, hb, hml, hown, hts⟩ (ct_X5_wordIs l g hfl (wS w i sd) rd rn 3 (by decide) h_q4) (cwV 1 hts gX5_readStatement_X5_wordIs rfl rfl rfl (by decide +kernel) ⟨Nat.le_of_ble_eq_true rfl, Nat.le_of_ble_eq_true rfl⟩) hK hW hS (x_recv (i := (g.1 + 1)) (k := 5) (j := 0) hK hW ⟨⟨hfl, rfl⟩, by decide⟩ rfl (by decide)) rfl hl.1 (rest := []) rfl (Nat.le_of_ble_eq_true rfl) dX5_readStatement_60 ⟨Nat.le_of_ble_eq_true rfl, Nat.le_of_ble_eq_true rfl⟩) hS (fun H locs hW hS => ?_)
        have hW : World g (wS (wR w rd rn) i sd) H := hW
        refine W.eq (g2 := F0 m 63 ls [.int q4]) rfl ?_
        refine lv_if_eq (tgt := 72) hx hb dX5_readStatement_63 (by decide) (fun hc => ?_) (fun hc => ?_)
        · have hf := x_iteT hf hc
          refine lv_aload_n hx hb dX5_readStatement_72 rfl (lv_at hl 0 rfl) ?_
          refine va_ldcS hx hb hown (hK.2.2.1 4 (by decide)) dX5_readStatement_73 ?_
          obtain ⟨q5, h_q5, hf⟩ := x_bindE hf
          refine x_ci0 (x_rV ⟨hx, hb, hml, hown, hts⟩ (ct_X5_wordIs l g hfl (wS w i sd) rd rn 4 (by decide) h_q5) (cwV 1 hts gX5_readStatement_X5_wordIs rfl rfl rfl (by decide +kernel) ⟨Nat.le_of_ble_eq_true rfl, Nat.le_of_ble_eq_true rfl⟩) hK hW hS (x_recv (i := (g.1 + 1)) (k := 5) (j := 0) hK hW ⟨⟨hfl, rfl⟩, by decide⟩ rfl (by decide)) rfl hl.1 (rest := []) rfl (Nat.le_of_ble_eq_true rfl) dX5_readStatement_75 ⟨Nat.le_of_ble_eq_true rfl, Nat.le_of_ble_eq_true rfl⟩) hS (fun H locs hW hS => ?_)
          have hW : World g (wS (wR w rd rn) i sd) H := hW
          refine W.eq (g2 := F0 m 78 ls [.int q5]) rfl ?_
          refine lv_if_eq (tgt := 87) hx hb dX5_readStatement_78 (by decide) (fun hc => ?_) (fun hc => ?_)
          · have hf := x_iteT hf hc
            refine lv_aload_n hx hb dX5_readStatement_87 rfl (lv_at hl 0 rfl) ?_
            refine va_ldcS hx hb hown (hK.2.2.1 5 (by decide)) dX5_readStatement_88 ?_
            obtain ⟨q6, h_q6, hf⟩ := x_bindE hf
            refine x_ci0 (x_rV ⟨hx, hb, hml, hown, hts⟩ (ct_X5_wordIs l g hfl (wS w i sd) rd rn 5 (by decide) h_q6) (cwV 1 hts gX5_readStatement_X5_wordIs rfl rfl rfl (by decide +kernel) ⟨Nat.le_of_ble_eq_true rfl, Nat.le_of_ble_eq_true rfl⟩) hK hW hS (x_recv (i := (g.1 + 1)) (k := 5) (j := 0) hK hW ⟨⟨hfl, rfl⟩, by decide⟩ rfl (by decide)) rfl hl.1 (rest := []) rfl (Nat.le_of_ble_eq_true rfl) dX5_readStatement_90 ⟨Nat.le_of_ble_eq_true rfl, Nat.le_of_ble_eq_true rfl⟩) hS (fun H locs hW hS => ?_)
            have hW : World g (wS (wR w rd rn) i sd) H := hW
            refine W.eq (g2 := F0 m 93 ls [.int q6]) rfl ?_
            refine lv_if_eq (tgt := 102) hx hb dX5_readStatement_93 (by decide) (fun hc => ?_) (fun hc => ?_)
            · have hf := x_iteT hf hc
              refine lv_aload_n hx hb dX5_readStatement_102 rfl (lv_at hl 0 rfl) ?_
              refine va_ldcS hx hb hown (hK.2.2.1 6 (by decide)) dX5_readStatement_103 ?_
              obtain ⟨q7, h_q7, hf⟩ := x_bindE hf
              refine x_ci0 (x_rV ⟨hx, hb, hml, hown, hts⟩ (ct_X5_wordIs l g hfl (wS w i sd) rd rn 6 (by decide) h_q7) (cwV 1 hts gX5_readStatement_X5_wordIs rfl rfl rfl (by decide +kernel) ⟨Nat.le_of_ble_eq_true rfl, Nat.le_of_ble_eq_true rfl⟩) hK hW hS (x_recv (i := (g.1 + 1)) (k := 5) (j := 0) hK hW ⟨⟨hfl, rfl⟩, by decide⟩ rfl (by decide)) rfl hl.1 (rest := []) rfl (Nat.le_of_ble_eq_true rfl) dX5_readStatement_105 ⟨Nat.le_of_ble_eq_true rfl, Nat.le_of_ble_eq_true rfl⟩) hS (fun H locs hW hS => ?_)
              have hW : World g (wS (wR w rd rn) i sd) H := hW
              refine W.eq (g2 := F0 m 108 ls [.int q7]) rfl ?_
              refine lv_if_eq (tgt := 119) hx hb dX5_readStatement_108 (by decide) (fun hc => ?_) (fun hc => ?_)
              · have hf := x_iteT hf hc
                refine lv_aload_n hx hb dX5_readStatement_119 rfl (lv_at hl 0 rfl) ?_
                obtain ⟨q8, h_q8, hf⟩ := x_bindE hf
                refine x_ci0 (x_rV ⟨hx, hb, hml, hown, hts⟩ (ct_X5_failUnexpected l g hfl (wS w i sd) rd rn  h_q8) (cwV 0 hts gX5_readStatement_X5_failUnexpected rfl rfl rfl (by decide +kernel) ⟨Nat.le_of_ble_eq_true rfl, Nat.le_of_ble_eq_true rfl⟩) hK hW hS (x_recv (i := (g.1 + 1)) (k := 5) (j := 0) hK hW ⟨⟨hfl, rfl⟩, by decide⟩ rfl (by decide)) rfl hl.1 (rest := []) rfl (Nat.le_of_ble_eq_true rfl) dX5_readStatement_120 ⟨Nat.le_of_ble_eq_true rfl, Nat.le_of_ble_eq_true rfl⟩) hS (fun H locs hW hS => ?_)
                have hW : World g (wS (wR w q8.2 rn) i sd) H := hW
                refine W.eq (g2 := F0 m 123 ls [.int q8.1]) rfl ?_
                obtain ⟨hg9, hf⟩ := x_guardE hf
                cases hf
                exact x_zret hx hb hr hlocks hK hW hS hg9 rfl dX5_readStatement_123
              · have hf := x_iteF hf hc
                refine lv_aload_n hx hb dX5_readStatement_111 rfl (lv_at hl 0 rfl) ?_
                refine lv_aload_n hx hb dX5_readStatement_112 rfl (lv_at hl 2 rfl) ?_
                obtain ⟨q10, h_q10, hf⟩ := x_bindE hf
                refine x_ci0 (x_rV ⟨hx, hb, hml, hown, hts⟩ (ct_X5_readClose l g hfl w rd rn i hi sd  h_q10) (cwV 1 hts gX5_readStatement_X5_readClose rfl rfl rfl (by decide +kernel) ⟨Nat.le_of_ble_eq_true rfl, Nat.le_of_ble_eq_true rfl⟩) hK hW hS (x_recv (i := (g.1 + 1)) (k := 5) (j := 0) hK hW ⟨⟨hfl, rfl⟩, by decide⟩ rfl (by decide)) rfl hl.1 (rest := []) rfl (Nat.le_of_ble_eq_true rfl) dX5_readStatement_113 ⟨Nat.le_of_ble_eq_true rfl, Nat.le_of_ble_eq_true rfl⟩) hS (fun H locs hW hS => ?_)
                have hW : World g (wS (wR w q10.2.2 rn) i q10.2.1) H := hW
                refine W.eq (g2 := F0 m 116 ls [.int q10.1]) rfl ?_
                refine lv_goto (tgt := 123) hx hb dX5_readStatement_116 (by decide) ?_
                obtain ⟨hg11, hf⟩ := x_guardE hf
                cases hf
                exact x_zret hx hb hr hlocks hK hW hS hg11 rfl dX5_readStatement_123
            · have hf := x_iteF hf hc
              refine lv_aload_n hx hb dX5_readStatement_96 rfl (lv_at hl 0 rfl) ?_
              refine lv_aload_n hx hb dX5_readStatement_97 rfl (lv_at hl 2 rfl) ?_
              obtain ⟨q12, h_q12, hf⟩ := x_bindE hf
              refine x_ci0 (x_rV ⟨hx, hb, hml, hown, hts⟩ (ct_X5_readNewFile l g hfl w rd rn i hi sd  h_q12) (cwV 1 hts gX5_readStatement_X5_readNewFile rfl rfl rfl (by decide +kernel) ⟨Nat.le_of_ble_eq_true rfl, Nat.le_of_ble_eq_true rfl⟩) hK hW hS (x_recv (i := (g.1 + 1)) (k := 5) (j := 0) hK hW ⟨⟨hfl, rfl⟩, by decide⟩ rfl (by decide)) rfl hl.1 (rest := []) rfl (Nat.le_of_ble_eq_true rfl) dX5_readStatement_98 ⟨Nat.le_of_ble_eq_true rfl, Nat.le_of_ble_eq_true rfl⟩) hS (fun H locs hW hS => ?_)
              have hW : World g (wS (wR w q12.2.2.1 q12.2.2.2) i q12.2.1) H := hW
              refine W.eq (g2 := F0 m 101 ls [.int q12.1]) rfl ?_
              obtain ⟨hg13, hf⟩ := x_guardE hf
              cases hf
              exact x_zret hx hb hr hlocks hK hW hS hg13 rfl dX5_readStatement_101
          · have hf := x_iteF hf hc
            refine lv_aload_n hx hb dX5_readStatement_81 rfl (lv_at hl 0 rfl) ?_
            refine lv_aload_n hx hb dX5_readStatement_82 rfl (lv_at hl 2 rfl) ?_
            obtain ⟨q14, h_q14, hf⟩ := x_bindE hf
            refine x_ci0 (x_rV ⟨hx, hb, hml, hown, hts⟩ (ct_X5_readBad l g hfl w rd rn i hi sd  h_q14) (cwV 1 hts gX5_readStatement_X5_readBad rfl rfl rfl (by decide +kernel) ⟨Nat.le_of_ble_eq_true rfl, Nat.le_of_ble_eq_true rfl⟩) hK hW hS (x_recv (i := (g.1 + 1)) (k := 5) (j := 0) hK hW ⟨⟨hfl, rfl⟩, by decide⟩ rfl (by decide)) rfl hl.1 (rest := []) rfl (Nat.le_of_ble_eq_true rfl) dX5_readStatement_83 ⟨Nat.le_of_ble_eq_true rfl, Nat.le_of_ble_eq_true rfl⟩) hS (fun H locs hW hS => ?_)
            have hW : World g (wS (wR w q14.2.2 rn) i q14.2.1) H := hW
            refine W.eq (g2 := F0 m 86 ls [.int q14.1]) rfl ?_
            obtain ⟨hg15, hf⟩ := x_guardE hf
            cases hf
            exact x_zret hx hb hr hlocks hK hW hS hg15 rfl dX5_readStatement_86
        · have hf := x_iteF hf hc
          refine lv_aload_n hx hb dX5_readStatement_66 rfl (lv_at hl 0 rfl) ?_
          refine lv_aload_n hx hb dX5_readStatement_67 rfl (lv_at hl 2 rfl) ?_
          obtain ⟨q16, h_q16, hf⟩ := x_bindE hf
          refine x_ci0 (x_rV ⟨hx, hb, hml, hown, hts⟩ (ct_X5_readPlatter l g hfl w rd rn i hi sd  h_q16) (cwV 1 hts gX5_readStatement_X5_readPlatter rfl rfl rfl (by decide +kernel) ⟨Nat.le_of_ble_eq_true rfl, Nat.le_of_ble_eq_true rfl⟩) hK hW hS (x_recv (i := (g.1 + 1)) (k := 5) (j := 0) hK hW ⟨⟨hfl, rfl⟩, by decide⟩ rfl (by decide)) rfl hl.1 (rest := []) rfl (Nat.le_of_ble_eq_true rfl) dX5_readStatement_68 ⟨Nat.le_of_ble_eq_true rfl, Nat.le_of_ble_eq_true rfl⟩) hS (fun H locs hW hS => ?_)
          have hW : World g (wS (wR w q16.2.2 rn) i q16.2.1) H := hW
          refine W.eq (g2 := F0 m 71 ls [.int q16.1]) rfl ?_
          obtain ⟨hg17, hf⟩ := x_guardE hf
          cases hf
          exact x_zret hx hb hr hlocks hK hW hS hg17 rfl dX5_readStatement_71
      · have hf := x_iteF hf hc
        refine lv_aload_n hx hb dX5_readStatement_51 rfl (lv_at hl 0 rfl) ?_
        refine lv_aload_n hx hb dX5_readStatement_52 rfl (lv_at hl 2 rfl) ?_
        obtain ⟨q18, h_q18, hf⟩ := x_bindE hf
        refine x_ci0 (x_rV ⟨hx, hb, hml, hown, hts⟩ (ct_X5_readTimes l g hfl w rd rn i hi sd  h_q18) (cwV 1 hts gX5_readStatement_X5_readTimes rfl rfl rfl (by decide +kernel) ⟨Nat.le_of_ble_eq_true rfl, Nat.le_of_ble_eq_true rfl⟩) hK hW hS (x_recv (i := (g.1 + 1)) (k := 5) (j := 0) hK hW ⟨⟨hfl, rfl⟩, by decide⟩ rfl (by decide)) rfl hl.1 (rest := []) rfl (Nat.le_of_ble_eq_true rfl) dX5_readStatement_53 ⟨Nat.le_of_ble_eq_true rfl, Nat.le_of_ble_eq_true rfl⟩) hS (fun H locs hW hS => ?_)
        have hW : World g (wS (wR w q18.2.2 rn) i q18.2.1) H := hW
        refine W.eq (g2 := F0 m 56 ls [.int q18.1]) rfl ?_
        obtain ⟨hg19, hf⟩ := x_guardE hf
        cases hf
        exact x_zret hx hb hr hlocks hK hW hS hg19 rfl dX5_readStatement_56
    · have hf := x_iteF hf hc
      refine lv_aload_n hx hb dX5_readStatement_36 rfl (lv_at hl 0 rfl) ?_
      refine lv_aload_n hx hb dX5_readStatement_37 rfl (lv_at hl 2 rfl) ?_
      obtain ⟨q20, h_q20, hf⟩ := x_bindE hf
      refine x_ci0 (x_rV ⟨hx, hb, hml, hown, hts⟩ (ct_X5_readDrive l g hfl w rd rn i hi sd  h_q20) (cwV 1 hts gX5_readStatement_X5_readDrive rfl rfl rfl (by decide +kernel) ⟨Nat.le_of_ble_eq_true rfl, Nat.le_of_ble_eq_true rfl⟩) hK hW hS (x_recv (i := (g.1 + 1)) (k := 5) (j := 0) hK hW ⟨⟨hfl, rfl⟩, by decide⟩ rfl (by decide)) rfl hl.1 (rest := []) rfl (Nat.le_of_ble_eq_true rfl) dX5_readStatement_38 ⟨Nat.le_of_ble_eq_true rfl, Nat.le_of_ble_eq_true rfl⟩) hS (fun H locs hW hS => ?_)
      have hW : World g (wS (wR w q20.2.2 rn) i q20.2.1) H := hW
      refine W.eq (g2 := F0 m 41 ls [.int q20.1]) rfl ?_
      obtain ⟨hg21, hf⟩ := x_guardE hf
      cases hf
      exact x_zret hx hb hr hlocks hK hW hS hg21 rfl dX5_readStatement_41
  · have hf := x_iteF hf hc
    refine lv_iload_n hx hb dX5_readStatement_9 rfl (lv_at hl 1 rfl) ?_
    refine lv_if_eq (tgt := 21) hx hb dX5_readStatement_10 (by decide) (fun hc => ?_) (fun hc => ?_)
    · have hf := x_iteT hf hc
      refine lv_aload_n hx hb dX5_readStatement_21 rfl (lv_at hl 0 rfl) ?_
      refine lv_iconst (v := 5) hx hb dX5_readStatement_22 (by decide) ?_
      obtain ⟨q22, h_q22, hf⟩ := x_bindE hf
      refine x_ci0 (x_rV ⟨hx, hb, hml, hown, hts⟩ (ct_X5_fail l g hfl (wS w i sd) rd rn ((5 : Int32)) h_q22) (cwV 1 hts gX5_readStatement_X5_fail rfl rfl rfl (by decide +kernel) ⟨Nat.le_of_ble_eq_true rfl, Nat.le_of_ble_eq_true rfl⟩) hK hW hS (x_recv (i := (g.1 + 1)) (k := 5) (j := 0) hK hW ⟨⟨hfl, rfl⟩, by decide⟩ rfl (by decide)) rfl hl.1 (rest := []) rfl (Nat.le_of_ble_eq_true rfl) dX5_readStatement_23 ⟨Nat.le_of_ble_eq_true rfl, Nat.le_of_ble_eq_true rfl⟩) hS (fun H locs hW hS => ?_)
      have hW : World g (wS (wR w q22.2 rn) i sd) H := hW
      refine W.eq (g2 := F0 m 26 ls [.int q22.1]) rfl ?_
      obtain ⟨hg23, hf⟩ := x_guardE hf
      cases hf
      exact x_zret hx hb hr hlocks hK hW hS hg23 rfl dX5_readStatement_26
    · have hf := x_iteF hf hc
      refine lv_aload_n hx hb dX5_readStatement_13 rfl (lv_at hl 0 rfl) ?_
      refine lv_aload_n hx hb dX5_readStatement_14 rfl (lv_at hl 2 rfl) ?_
      obtain ⟨q24, h_q24, hf⟩ := x_bindE hf
      refine x_ci0 (x_rV ⟨hx, hb, hml, hown, hts⟩ (ct_X5_readSlots l g hfl w rd rn i hi sd  h_q24) (cwV 1 hts gX5_readStatement_X5_readSlots rfl rfl rfl (by decide +kernel) ⟨Nat.le_of_ble_eq_true rfl, Nat.le_of_ble_eq_true rfl⟩) hK hW hS (x_recv (i := (g.1 + 1)) (k := 5) (j := 0) hK hW ⟨⟨hfl, rfl⟩, by decide⟩ rfl (by decide)) rfl hl.1 (rest := []) rfl (Nat.le_of_ble_eq_true rfl) dX5_readStatement_15 ⟨Nat.le_of_ble_eq_true rfl, Nat.le_of_ble_eq_true rfl⟩) hS (fun H locs hW hS => ?_)
      have hW : World g (wS (wR w q24.2.2 rn) i q24.2.1) H := hW
      refine W.eq (g2 := F0 m 18 ls [.int q24.1]) rfl ?_
      refine lv_goto (tgt := 26) hx hb dX5_readStatement_18 (by decide) ?_
      obtain ⟨hg25, hf⟩ := x_guardE hf
      cases hf
      exact x_zret hx hb hr hlocks hK hW hS hg25 rfl dX5_readStatement_26
abbrev rm_X5_readSemicolon : Room := { frames := 3, cells := 0, slots := 0, locals := 65 }
set_option maxRecDepth 100000 in
set_option maxHeartbeats 4000000 in
theorem ct_X5_readSemicolon (l : Launch) (g : GT) (hfl : 1 ≤ gf g) (w : WT) (rd : SD) (rn : Nat → Int64) {q : (Int32 × SD)} (hf : f_X5_readSemicolon rd  = some q) : Met l yX5_readSemicolon wsX5_readSemicolon rm_X5_readSemicolon (cPre g (wR w rd rn) [.ref (adr (g.1 + 1) 5 0)]) (cQi g q.1 (wR w q.2 rn)) 0 0 (gA g) := by
  have i_5 : ∀ w ∈ u_ws RX5 TX5 9, w ∈ wsX5_readSemicolon := by decide +kernel
  refine x_met (by decide) rfl (Nat.le_of_ble_eq_true rfl) ?_
  intro p e s m below meth c hx hb hr hml hts hown hlocks hK hW hS ls hl
  have hown : s.vm.findClass RX5 = some m.cls := hown
  have hl : lv_has ls 1 [(0, .ref (adr (g.1 + 1) 5 0))] := hl
  rw [f_X5_readSemicolon] at hf
  refine lv_aload_n hx hb dX5_readSemicolon_0 rfl (lv_at hl 0 rfl) ?_
  obtain ⟨q1, h_q1, hf⟩ := x_bindE hf
  refine x_cv0 (x_rV ⟨hx, hb, hml, hown, hts⟩ (ct_X5_nextToken l g hfl w rd rn  h_q1) (cwV 0 hts gX5_readSemicolon_X5_nextToken rfl rfl rfl (by decide +kernel) ⟨Nat.le_of_ble_eq_true rfl, Nat.le_of_ble_eq_true rfl⟩) hK hW hS (x_recv (i := (g.1 + 1)) (k := 5) (j := 0) hK hW ⟨⟨hfl, rfl⟩, by decide⟩ rfl (by decide)) rfl hl.1 (rest := []) rfl (Nat.le_of_ble_eq_true rfl) dX5_readSemicolon_1 ⟨Nat.le_of_ble_eq_true rfl, Nat.le_of_ble_eq_true rfl⟩) hS (fun H locs hW hS => ?_)
  have hW : World g (wR w q1 rn) H := hW
  refine lv_aload_n hx hb dX5_readSemicolon_4 rfl (lv_at hl 0 rfl) ?_
  refine x_get (i := (g.1 + 1)) (k := 5) (j := 0) (t := 5) hx hb hts i_5 hown hK hW ⟨⟨hfl, rfl⟩, by decide⟩ rfl ⟨by decide, by decide, rfl⟩ (hts (.fieldLink RX5 49 "OpticalJukebox$TextReader" "token" "I") (by decide +kernel)) (rfl) dX5_readSemicolon_5 ?_
  refine lv_iconst (v := 4) hx hb dX5_readSemicolon_8 (by decide) ?_
  refine lv_icmp_ne (tgt := 14) hx hb dX5_readSemicolon_9 (by decide) (fun hc => ?_) (fun hc => ?_)
  · have hf := x_iteF hf hc
    refine lv_aload_n hx hb dX5_readSemicolon_14 rfl (lv_at hl 0 rfl) ?_
    obtain ⟨q2, h_q2, hf⟩ := x_bindE hf
    refine x_ci0 (x_rV ⟨hx, hb, hml, hown, hts⟩ (ct_X5_failUnexpected l g hfl w q1 rn  h_q2) (cwV 0 hts gX5_readSemicolon_X5_failUnexpected rfl rfl rfl (by decide +kernel) ⟨Nat.le_of_ble_eq_true rfl, Nat.le_of_ble_eq_true rfl⟩) hK hW hS (x_recv (i := (g.1 + 1)) (k := 5) (j := 0) hK hW ⟨⟨hfl, rfl⟩, by decide⟩ rfl (by decide)) rfl hl.1 (rest := []) rfl (Nat.le_of_ble_eq_true rfl) dX5_readSemicolon_15 ⟨Nat.le_of_ble_eq_true rfl, Nat.le_of_ble_eq_true rfl⟩) hS (fun H locs hW hS => ?_)
    have hW : World g (wR w q2.2 rn) H := hW
    refine W.eq (g2 := F0 m 18 ls [.int q2.1]) rfl ?_
    obtain ⟨hg3, hf⟩ := x_guardE hf
    cases hf
    exact x_zret hx hb hr hlocks hK hW hS hg3 rfl dX5_readSemicolon_18
  · have hf := x_iteT hf hc
    refine lv_iconst (v := 1) hx hb dX5_readSemicolon_12 (by decide) ?_
    cases hf
    exact x_zret hx hb hr hlocks hK hW hS (Or.inr rfl) rfl dX5_readSemicolon_13
abbrev rm_X5_readText : Room := { frames := 8, cells := 0, slots := 0, locals := 172 }
set_option maxRecDepth 100000 in
set_option maxHeartbeats 4000000 in
theorem ct_X5_readText (l : Launch) (g : GT) (hfl : 1 ≤ gf g) (w : WT) (rd : SD) (rn : Nat → Int64) (i : Nat) (hi : i ∈ k_S w.1) (sd : SD) (a1 : Int32) {q : (Int32 × SD × SD × (Nat → Int64))} (hf : f_X5_readText sd rd rn a1 = some q) : Met l yX5_readText wsX5_readText rm_X5_readText (cPre g (wS (wR w rd rn) i sd) [.ref (adr (g.1 + 1) 5 0), .int a1, .ref (adr i 4 0)]) (cQi g q.1 (wS (wR w q.2.2.1 q.2.2.2) i q.2.1)) 0 0 (gA g) := by
  have i_5 : ∀ w ∈ u_ws RX5 TX5 9, w ∈ wsX5_readText := by decide +kernel
  refine x_met (by decide) rfl (Nat.le_of_ble_eq_true rfl) ?_
  intro p e s m below meth c hx hb hr hml hts hown hlocks hK hW hS ls hl
  have hown : s.vm.findClass RX5 = some m.cls := hown
  have hl : lv_has ls 4 [(0, .ref (adr (g.1 + 1) 5 0)), (1, .int a1), (2, .ref (adr i 4 0))] := hl
  rw [f_X5_readText] at hf
  refine lv_aload_n hx hb dX5_readText_0 rfl (lv_at hl 0 rfl) ?_
  refine lv_iload_n hx hb dX5_readText_1 rfl (lv_at hl 1 rfl) ?_
  refine lv_aload_n hx hb dX5_readText_2 rfl (lv_at hl 0 rfl) ?_
  refine x_get (i := (g.1 + 1)) (k := 5) (j := 0) (t := 1) hx hb hts i_5 hown hK hW ⟨⟨hfl, rfl⟩, by decide⟩ rfl ⟨by decide, by decide, rfl⟩ (hts (.fieldLink RX5 19 "OpticalJukebox$TextReader" "fed" "I") (by decide +kernel)) (rfl) dX5_readText_3 ?_
  refine va_mmin hx hb (hml.trans hl.1.symm) hown (hts (.methodLink RX5 23 Lib.Math.min.name) (by decide +kernel)) (hts (.static Lib.Math.min.name) (by decide +kernel)) (hts (.initialized "java/lang/Math") (by decide +kernel)) (hts (.code Lib.Math.min.name Lib.Math.min.code 2 (some .int)) (by decide +kernel)) (Nat.le_of_ble_eq_true rfl) (Nat.le_of_ble_eq_true rfl) (Nat.le_of_ble_eq_true rfl) (Nat.le_of_ble_eq_true rfl) dX5_readText_6 ?_
  obtain ⟨rd1, e_rd1, hf⟩ := x_letE hf
  refine x_put (i := (g.1 + 1)) (k := 5) (j := 0) (t := 2) (w' := wS (wR w rd1 rn) i sd) hx hb hts i_5 tyX5 tyX5_ok nmX5 hown hK hW ⟨⟨hfl, rfl⟩, by decide⟩ hS rfl ⟨by decide, by decide, rfl⟩ (hts (.fieldLink RX5 29 "OpticalJukebox$TextReader" "length" "I") (by decide +kernel)) rfl (ty := .int) (by decide +kernel) rfl rfl ⟨rfl, rfl⟩ dX5_readText_9 (fp_R (w := wS w i sd) e_rd1 rfl) (fun H locs hW hS => ?_)
  refine lv_aload_n hx hb dX5_readText_12 rfl (lv_at hl 0 rfl) ?_
  refine lv_iconst (v := 0) hx hb dX5_readText_13 (by decide) ?_
  obtain ⟨rd2, e_rd2, hf⟩ := x_letE hf
  refine x_put (i := (g.1 + 1)) (k := 5) (j := 0) (t := 4) (w' := wS (wR w rd2 rn) i sd) hx hb hts i_5 tyX5 tyX5_ok nmX5 hown hK hW ⟨⟨hfl, rfl⟩, by decide⟩ hS rfl ⟨by decide, by decide, rfl⟩ (hts (.fieldLink RX5 32 "OpticalJukebox$TextReader" "tokenEnd" "I") (by decide +kernel)) rfl (ty := .int) (by decide +kernel) rfl rfl ⟨rfl, rfl⟩ dX5_readText_14 (fp_R (w := wS w i sd) e_rd2 rfl) (fun H locs hW hS => ?_)
  refine lv_aload_n hx hb dX5_readText_17 rfl (lv_at hl 0 rfl) ?_
  refine lv_iconst (v := 0) hx hb dX5_readText_18 (by decide) ?_
  obtain ⟨rd3, e_rd3, hf⟩ := x_letE hf
  refine x_put (i := (g.1 + 1)) (k := 5) (j := 0) (t := 7) (w' := wS (wR w rd3 rn) i sd) hx hb hts i_5 tyX5 tyX5_ok nmX5 hown hK hW ⟨⟨hfl, rfl⟩, by decide⟩ hS rfl ⟨by decide, by decide, rfl⟩ (hts (.fieldLink RX5 35 "OpticalJukebox$TextReader" "kindOfError" "I") (by decide +kernel)) rfl (ty := .int) (by decide +kernel) rfl rfl ⟨rfl, rfl⟩ dX5_readText_19 (fp_R (w := wS w i sd) e_rd3 rfl) (fun H locs hW hS => ?_)
  refine lv_aload_n hx hb dX5_readText_22 rfl (lv_at hl 0 rfl) ?_
  refine lv_iconst (v := 0) hx hb dX5_readText_23 (by decide) ?_
  obtain ⟨rd4, e_rd4, hf⟩ := x_letE hf
  refine x_put (i := (g.1 + 1)) (k := 5) (j := 0) (t := 8) (w' := wS (wR w rd4 rn) i sd) hx hb hts i_5 tyX5 tyX5_ok nmX5 hown hK hW ⟨⟨hfl, rfl⟩, by decide⟩ hS rfl ⟨by decide, by decide, rfl⟩ (hts (.fieldLink RX5 38 "OpticalJukebox$TextReader" "placeOfError" "I") (by decide +kernel)) rfl (ty := .int) (by decide +kernel) rfl rfl ⟨rfl, rfl⟩ dX5_readText_24 (fp_R (w := wS w i sd) e_rd4 rfl) (fun H locs hW hS => ?_)
  refine lv_aload_n hx hb dX5_readText_27 rfl (lv_at hl 2 rfl) ?_
  obtain ⟨q5, h_q5, hf⟩ := x_bindE hf
  refine x_cv0 (x_rV ⟨hx, hb, hml, hown, hts⟩ (ct_X4_beginEmpty l g (wR w rd4 rn) i hi sd  h_q5) (cwV 0 hts gX5_readText_X4_beginEmpty rfl rfl rfl (by decide +kernel) ⟨Nat.le_of_ble_eq_true rfl, Nat.le_of_ble_eq_true rfl⟩) hK hW hS (x_recv (i := i) (k := 4) (j := 0) hK hW ⟨hi, by decide⟩ rfl (by decide)) rfl hl.1 (rest := []) rfl (Nat.le_of_ble_eq_true rfl) dX5_readText_28 ⟨Nat.le_of_ble_eq_true rfl, Nat.le_of_ble_eq_true rfl⟩) hS (fun H locs hW hS => ?_)
  have hW : World g (wS (wR w rd4 rn) i q5) H := hW
  refine lv_iconst (v := 0) hx hb dX5_readText_31 (by decide) ?_
  refine lv_istore_n (lv' := [(3, .int (0 : Int32)), (0, .ref (adr (g.1 + 1) 5 0)), (1, .int a1), (2, .ref (adr i 4 0))]) hx hb dX5_readText_32 rfl hl (by decide) rfl (fun ls hl => ?_)
  have L33 : ∀ (n : Nat) (v3_33 : Int32) (sd_33 : SD) (rd_33 : SD) (rn_33 : Nat → Int64) (ls : Array Slot) (H : Heap) (locs : List Loc), lv_has ls 4 [(0, .ref (adr (g.1 + 1) 5 0)), (1, .int a1), (2, .ref (adr i 4 0)), (3, .int v3_33)] → World g (wS (wR w rd_33 rn_33) i sd_33) H → va_S (gA g) s.heap H locs → f_X5_readText_L33  n v3_33 sd_33 rd_33 rn_33 = some q → W p l e rm_X5_readText s m [.ref (adr (g.1 + 1) 5 0), .int a1, .ref (adr i 4 0)].toArray below meth c H locs 0 0 (MQ below (cQi g q.1 (wS (wR w q.2.2.1 q.2.2.2) i q.2.1)) [.ref (adr (g.1 + 1) 5 0), .int a1, .ref (adr i 4 0)].toArray s 0 0 (gA g)) (F0 m 33 ls []) := by
    clear hW hS hl
    intro n
    induction n with
    | zero => intro v3_33 sd_33 rd_33 rn_33 ls H locs hl hW hS hf; cases hf
    | succ n_33 ih =>
      intro v3_33 sd_33 rd_33 rn_33 ls H locs hl hW hS hf
      rw [f_X5_readText_L33] at hf
      refine lv_iload_n hx hb dX5_readText_33 rfl (lv_at hl 3 rfl) ?_
      refine lv_aload_n hx hb dX5_readText_34 rfl (lv_at hl 0 rfl) ?_
      refine x_get (i := (g.1 + 1)) (k := 5) (j := 0) (t := 2) hx hb hts i_5 hown hK hW ⟨⟨hfl, rfl⟩, by decide⟩ rfl ⟨by decide, by decide, rfl⟩ (hts (.fieldLink RX5 29 "OpticalJukebox$TextReader" "length" "I") (by decide +kernel)) (rfl) dX5_readText_35 ?_
      refine lv_icmp_gt (tgt := 86) hx hb dX5_readText_38 (by decide) (fun hc => ?_) (fun hc => ?_)
      · have hf := x_iteT hf hc
        refine lv_iconst (v := 0) hx hb dX5_readText_86 (by decide) ?_
        cases hf
        exact x_zret hx hb hr hlocks hK hW hS (Or.inl rfl) rfl dX5_readText_87
      · have hf := x_iteF hf hc
        refine lv_aload_n hx hb dX5_readText_41 rfl (lv_at hl 0 rfl) ?_
        obtain ⟨q6, h_q6, hf⟩ := x_bindE hf
        refine x_cv0 (x_rV ⟨hx, hb, hml, hown, hts⟩ (ct_X5_nextToken l g hfl (wS w i sd_33) rd_33 rn_33  h_q6) (cwV 0 hts gX5_readText_X5_nextToken rfl rfl rfl (by decide +kernel) ⟨Nat.le_of_ble_eq_true rfl, Nat.le_of_ble_eq_true rfl⟩) hK hW hS (x_recv (i := (g.1 + 1)) (k := 5) (j := 0) hK hW ⟨⟨hfl, rfl⟩, by decide⟩ rfl (by decide)) rfl hl.1 (rest := []) rfl (Nat.le_of_ble_eq_true rfl) dX5_readText_42 ⟨Nat.le_of_ble_eq_true rfl, Nat.le_of_ble_eq_true rfl⟩) hS (fun H locs hW hS => ?_)
        have hW : World g (wS (wR w q6 rn_33) i sd_33) H := hW
        refine lv_aload_n hx hb dX5_readText_45 rfl (lv_at hl 0 rfl) ?_
        refine x_get (i := (g.1 + 1)) (k := 5) (j := 0) (t := 5) hx hb hts i_5 hown hK hW ⟨⟨hfl, rfl⟩, by decide⟩ rfl ⟨by decide, by decide, rfl⟩ (hts (.fieldLink RX5 49 "OpticalJukebox$TextReader" "token" "I") (by decide +kernel)) (rfl) dX5_readText_46 ?_
        refine lv_if_ne (tgt := 54) hx hb dX5_readText_49 (by decide) (fun hc => ?_) (fun hc => ?_)
        · have hf := x_iteF hf hc
          refine lv_aload_n hx hb dX5_readText_54 rfl (lv_at hl 0 rfl) ?_
          refine lv_iload_n hx hb dX5_readText_55 rfl (lv_at hl 3 rfl) ?_
          obtain ⟨K7, eK7, hf⟩ := x_letE hf
          have KK7 : ∀ (y8 : Int32) (ls : Array Slot) (H : Heap) (locs : List Loc), lv_has ls 4 [(0, .ref (adr (g.1 + 1) 5 0)), (1, .int a1), (2, .ref (adr i 4 0)), (3, .int v3_33)] → World g (wS (wR w q6 rn_33) i sd_33) H → va_S (gA g) s.heap H locs → K7 y8 = some q → W p l e rm_X5_readText s m [.ref (adr (g.1 + 1) 5 0), .int a1, .ref (adr i 4 0)].toArray below meth c H locs 0 0 (MQ below (cQi g q.1 (wS (wR w q.2.2.1 q.2.2.2) i q.2.1)) [.ref (adr (g.1 + 1) 5 0), .int a1, .ref (adr i 4 0)].toArray s 0 0 (gA g)) (F0 m 64 ls [.int y8, .ref (adr (g.1 + 1) 5 0)]) := by
            intro y8 ls H locs hl hW hS hf
            subst eK7
            refine lv_aload_n hx hb dX5_readText_64 rfl (lv_at hl 2 rfl) ?_
            obtain ⟨q9, h_q9, hf⟩ := x_bindE hf
            refine x_ci0 (x_rV ⟨hx, hb, hml, hown, hts⟩ (ct_X5_readStatement l g hfl w q6 rn_33 i hi sd_33 (y8) h_q9) (cwV 2 hts gX5_readText_X5_readStatement rfl rfl rfl (by decide +kernel) ⟨Nat.le_of_ble_eq_true rfl, Nat.le_of_ble_eq_true rfl⟩) hK hW hS (x_recv (i := (g.1 + 1)) (k := 5) (j := 0) hK hW ⟨⟨hfl, rfl⟩, by decide⟩ rfl (by decide)) rfl hl.1 (rest := []) rfl (Nat.le_of_ble_eq_true rfl) dX5_readText_65 ⟨Nat.le_of_ble_eq_true rfl, Nat.le_of_ble_eq_true rfl⟩) hS (fun H locs hW hS => ?_)
            have hW : World g (wS (wR w q9.2.2.1 q9.2.2.2) i q9.2.1) H := hW
            refine W.eq (g2 := F0 m 68 ls [.int q9.1]) rfl ?_
            refine lv_if_eq (tgt := 78) hx hb dX5_readText_68 (by decide) (fun hc => ?_) (fun hc => ?_)
            · have hf := x_iteT hf hc
              refine lv_iconst (v := 0) hx hb dX5_readText_78 (by decide) ?_
              cases hf
              exact x_zret hx hb hr hlocks hK hW hS (Or.inl rfl) rfl dX5_readText_79
            · have hf := x_iteF hf hc
              refine lv_aload_n hx hb dX5_readText_71 rfl (lv_at hl 0 rfl) ?_
              obtain ⟨q10, h_q10, hf⟩ := x_bindE hf
              refine x_ci0 (x_rV ⟨hx, hb, hml, hown, hts⟩ (ct_X5_readSemicolon l g hfl (wS w i q9.2.1) q9.2.2.1 q9.2.2.2  h_q10) (cwV 0 hts gX5_readText_X5_readSemicolon rfl rfl rfl (by decide +kernel) ⟨Nat.le_of_ble_eq_true rfl, Nat.le_of_ble_eq_true rfl⟩) hK hW hS (x_recv (i := (g.1 + 1)) (k := 5) (j := 0) hK hW ⟨⟨hfl, rfl⟩, by decide⟩ rfl (by decide)) rfl hl.1 (rest := []) rfl (Nat.le_of_ble_eq_true rfl) dX5_readText_72 ⟨Nat.le_of_ble_eq_true rfl, Nat.le_of_ble_eq_true rfl⟩) hS (fun H locs hW hS => ?_)
              have hW : World g (wS (wR w q10.2 q9.2.2.2) i q9.2.1) H := hW
              refine W.eq (g2 := F0 m 75 ls [.int q10.1]) rfl ?_
              refine lv_if_ne (tgt := 80) hx hb dX5_readText_75 (by decide) (fun hc => ?_) (fun hc => ?_)
              · have hf := x_iteF hf hc
                obtain ⟨x11, e_x11, hf⟩ := x_letE hf
                refine lv_iinc (v := x11) (lv' := [(3, .int x11), (0, .ref (adr (g.1 + 1) 5 0)), (1, .int a1), (2, .ref (adr i 4 0))]) hx hb dX5_readText_80 hl (k := 3) rfl (by rw [e_x11]; rfl) (by decide) rfl (fun ls hl => ?_)
                refine lv_goto (tgt := 33) hx hb dX5_readText_83 (by decide) ?_
                exact ih (x11) (q9.2.1) (q10.2) (q9.2.2.2) ls _ _ (lv_sub hl [1, 2, 3, 0] rfl) hW hS hf
              · have hf := x_iteT hf hc
                refine lv_iconst (v := 0) hx hb dX5_readText_78 (by decide) ?_
                cases hf
                exact x_zret hx hb hr hlocks hK hW hS (Or.inl rfl) rfl dX5_readText_79
          clear eK7
          refine lv_if_ne (tgt := 63) hx hb dX5_readText_56 (by decide) (fun hc => ?_) (fun hc => ?_)
          · have hf := x_iteF hf hc
            refine lv_iconst (v := 0) hx hb dX5_readText_63 (by decide) ?_
            exact KK7 ((0 : Int32)) ls _ _ hl hW hS hf
          · have hf := x_iteT hf hc
            refine lv_iconst (v := 1) hx hb dX5_readText_59 (by decide) ?_
            refine lv_goto (tgt := 64) hx hb dX5_readText_60 (by decide) ?_
            exact KK7 ((1 : Int32)) ls _ _ hl hW hS hf
        · have hf := x_iteT hf hc
          refine lv_iconst (v := 1) hx hb dX5_readText_52 (by decide) ?_
          cases hf
          exact x_zret hx hb hr hlocks hK hW hS (Or.inr rfl) rfl dX5_readText_53
  exact L33 fuel ((0 : Int32)) (q5) (rd4) (rn) ls _ _ (lv_sub hl [1, 2, 3, 0] rfl) hW hS hf
