theorem dX5_init_0 : decode cX5_init 0 = .ok (.aload_n 0, 1) := by decide +kernel
theorem dX5_init_1 : decode cX5_init 1 = .ok (.invokespecial 3, 3) := by decide +kernel
theorem dX5_init_4 : decode cX5_init 4 = .ok (.aload_n 0, 1) := by decide +kernel
theorem dX5_init_5 : decode cX5_init 5 = .ok (.sipush 900, 3) := by decide +kernel
theorem dX5_init_8 : decode cX5_init 8 = .ok (.newarray .byte, 2) := by decide +kernel
theorem dX5_init_10 : decode cX5_init 10 = .ok (.putfield 9, 3) := by decide +kernel
theorem dX5_init_13 : decode cX5_init 13 = .ok (.aload_n 0, 1) := by decide +kernel
theorem dX5_init_14 : decode cX5_init 14 = .ok (.bipush 20, 2) := by decide +kernel
theorem dX5_init_16 : decode cX5_init 16 = .ok (.newarray .long, 2) := by decide +kernel
theorem dX5_init_18 : decode cX5_init 18 = .ok (.putfield 15, 3) := by decide +kernel
theorem dX5_init_21 : decode cX5_init 21 = .ok (.return_, 1) := by decide +kernel
theorem dX5_appendFourBytes_0 : decode cX5_appendFourBytes 0 = .ok (.bipush 24, 2) := by decide +kernel
theorem dX5_appendFourBytes_2 : decode cX5_appendFourBytes 2 = .ok (.istore_n 2, 1) := by decide +kernel
theorem dX5_appendFourBytes_3 : decode cX5_appendFourBytes 3 = .ok (.iload_n 2, 1) := by decide +kernel
theorem dX5_appendFourBytes_4 : decode cX5_appendFourBytes 4 = .ok (.ifCond .lt 42, 3) := by decide +kernel
theorem dX5_appendFourBytes_7 : decode cX5_appendFourBytes 7 = .ok (.aload_n 0, 1) := by decide +kernel
theorem dX5_appendFourBytes_8 : decode cX5_appendFourBytes 8 = .ok (.getfield 19, 3) := by decide +kernel
theorem dX5_appendFourBytes_11 : decode cX5_appendFourBytes 11 = .ok (.sipush 900, 3) := by decide +kernel
theorem dX5_appendFourBytes_14 : decode cX5_appendFourBytes 14 = .ok (.if_icmp .ge 32, 3) := by decide +kernel
theorem dX5_appendFourBytes_17 : decode cX5_appendFourBytes 17 = .ok (.aload_n 0, 1) := by decide +kernel
theorem dX5_appendFourBytes_18 : decode cX5_appendFourBytes 18 = .ok (.getfield 9, 3) := by decide +kernel
theorem dX5_appendFourBytes_21 : decode cX5_appendFourBytes 21 = .ok (.aload_n 0, 1) := by decide +kernel
theorem dX5_appendFourBytes_22 : decode cX5_appendFourBytes 22 = .ok (.getfield 19, 3) := by decide +kernel
theorem dX5_appendFourBytes_25 : decode cX5_appendFourBytes 25 = .ok (.iload_n 1, 1) := by decide +kernel
theorem dX5_appendFourBytes_26 : decode cX5_appendFourBytes 26 = .ok (.iload_n 2, 1) := by decide +kernel
theorem dX5_appendFourBytes_27 : decode cX5_appendFourBytes 27 = .ok (.ishr, 1) := by decide +kernel
theorem dX5_appendFourBytes_28 : decode cX5_appendFourBytes 28 = .ok (.i2b, 1) := by decide +kernel
theorem dX5_appendFourBytes_29 : decode cX5_appendFourBytes 29 = .ok (.bastore, 1) := by decide +kernel
theorem dX5_appendFourBytes_30 : decode cX5_appendFourBytes 30 = .ok (.aload_n 0, 1) := by decide +kernel
theorem dX5_appendFourBytes_31 : decode cX5_appendFourBytes 31 = .ok (.dup, 1) := by decide +kernel
theorem dX5_appendFourBytes_32 : decode cX5_appendFourBytes 32 = .ok (.getfield 19, 3) := by decide +kernel
theorem dX5_appendFourBytes_35 : decode cX5_appendFourBytes 35 = .ok (.iconst 1, 1) := by decide +kernel
theorem dX5_appendFourBytes_36 : decode cX5_appendFourBytes 36 = .ok (.iadd, 1) := by decide +kernel
theorem dX5_appendFourBytes_37 : decode cX5_appendFourBytes 37 = .ok (.putfield 19, 3) := by decide +kernel
theorem dX5_appendFourBytes_40 : decode cX5_appendFourBytes 40 = .ok (.iinc 2 (-8), 3) := by decide +kernel
theorem dX5_appendFourBytes_43 : decode cX5_appendFourBytes 43 = .ok (.goto (-40), 3) := by decide +kernel
theorem dX5_appendFourBytes_46 : decode cX5_appendFourBytes 46 = .ok (.return_, 1) := by decide +kernel
set_option maxRecDepth 20000 in
theorem ggX5_readText_X4_beginEmpty : GoodIn wsX5_readText wsX4_beginEmpty := goodIn_r _ [15, 16, 17, 18, 19, 20, 21, 22, 23, 24, 25, 26, 27, 28, 29, 30, 14, 31, 32, 295, 296, 297, 298, 299, 300, 301, 302, 303, 304, 305, 306, 307, 308, 309, 310, 311, 312] (by decide +kernel) (by decide +kernel)
set_option maxRecDepth 20000 in
theorem gX5_readText_X4_beginEmpty : GoodIn wsX5_readText (wsV RX5 41 RX4 yX4_beginEmpty wsX4_beginEmpty) := goodIn_app (goodIn_of _ (by decide +kernel)) ggX5_readText_X4_beginEmpty
set_option maxRecDepth 20000 in
theorem ggX5_readText_X5_nextToken : GoodIn wsX5_readText wsX5_nextToken := goodIn_r _ [37, 7, 38, 6, 39, 10, 40, 41, 42, 36, 43, 44, 45, 46, 47, 286, 287, 288, 289, 290, 291, 292, 293, 294] (by decide +kernel) (by decide +kernel)
set_option maxRecDepth 20000 in
theorem gX5_readText_X5_nextToken : GoodIn wsX5_readText (wsV RX5 46 RX5 yX5_nextToken wsX5_nextToken) := goodIn_app (goodIn_of _ (by decide +kernel)) ggX5_readText_X5_nextToken
set_option maxRecDepth 20000 in
theorem ggX5_readText_X5_readStatement : GoodIn wsX5_readText wsX5_readStatement := goodIn_r _ [51, 52, 53, 54, 36, 55, 10, 7, 38, 39, 56, 57, 58, 59, 60, 61, 62, 63, 64, 65, 66, 67, 68, 69, 70, 71, 72, 73, 74, 75, 76, 77, 78, 79, 80, 81, 82, 83, 84, 85, 86, 87, 88, 89, 90, 91, 92, 93, 94, 95, 96, 97, 98, 99, 100, 101, 102, 103, 104, 105, 106, 107, 108, 109, 110, 111, 112, 113, 33, 34, 35, 37, 6, 40, 41, 42, 43, 44, 45, 46, 47, 114, 115, 116, 117, 118, 119, 120, 121, 8, 9, 122, 123, 124, 125, 126, 127, 128, 129, 130, 131, 132, 133, 14, 134, 17, 135, 136, 137, 138, 139, 140, 141, 142, 143, 144, 145, 146, 147, 148, 149, 150, 151, 152, 19, 153, 154, 155, 156, 157, 158, 159, 160, 161, 162, 163, 164, 165, 166, 167, 168, 169, 170, 171, 172, 173, 174, 175, 176, 177, 178, 179, 180, 181, 182, 183, 184, 185, 186, 187, 188, 189, 20, 190, 191, 192, 193, 194, 195, 196, 197, 198, 199, 21, 200, 201, 202, 203, 204, 205, 206, 207, 208, 209, 210, 211, 212, 213, 214, 215, 216, 217, 218, 219, 220, 221, 222, 223, 224, 225, 226, 227, 228, 229, 230, 231, 232, 233, 234, 235, 236, 237, 238, 239, 240, 241, 242, 243, 244, 245, 246, 247, 248, 249, 250, 251, 252, 253, 254, 255, 256, 22, 257, 258, 259, 260, 261, 262, 263, 264, 265, 266, 267, 268, 269, 270, 271, 272, 273, 274, 275, 276, 277, 278, 279, 280, 281, 3, 4, 5, 286, 287, 288, 289, 290, 291, 292, 293, 294, 295, 296, 297, 298, 299, 300, 301, 302, 303, 304, 305, 306, 307, 308, 309, 310, 311, 312, 313, 314, 315, 316, 317, 318, 319, 320, 321, 322, 323, 324, 325, 326, 327, 328, 329, 330, 331] (by decide +kernel) (by decide +kernel)
set_option maxRecDepth 20000 in
theorem gX5_readText_X5_readStatement : GoodIn wsX5_readText (wsV RX5 52 RX5 yX5_readStatement wsX5_readStatement) := goodIn_app (goodIn_of _ (by decide +kernel)) ggX5_readText_X5_readStatement
set_option maxRecDepth 20000 in
theorem ggX5_readText_X5_readSemicolon : GoodIn wsX5_readText wsX5_readSemicolon := goodIn_r _ [285, 10, 33, 34, 35, 36, 37, 7, 38, 6, 39, 40, 41, 42, 43, 44, 45, 46, 47, 114, 115, 116, 117, 118, 119, 120, 121, 8, 9, 286, 287, 288, 289, 290, 291, 292, 293, 294] (by decide +kernel) (by decide +kernel)
set_option maxRecDepth 20000 in
theorem gX5_readText_X5_readSemicolon : GoodIn wsX5_readText (wsV RX5 56 RX5 yX5_readSemicolon wsX5_readSemicolon) := goodIn_app (goodIn_of _ (by decide +kernel)) ggX5_readText_X5_readSemicolon
theorem dX5_readText_0 : decode cX5_readText 0 = .ok (.aload_n 0, 1) := by decide +kernel
theorem dX5_readText_1 : decode cX5_readText 1 = .ok (.iload_n 1, 1) := by decide +kernel
theorem dX5_readText_2 : decode cX5_readText 2 = .ok (.aload_n 0, 1) := by decide +kernel
theorem dX5_readText_3 : decode cX5_readText 3 = .ok (.getfield 19, 3) := by decide +kernel
theorem dX5_readText_6 : decode cX5_readText 6 = .ok (.invokestatic 23, 3) := by decide +kernel
theorem dX5_readText_9 : decode cX5_readText 9 = .ok (.putfield 29, 3) := by decide +kernel
theorem dX5_readText_12 : decode cX5_readText 12 = .ok (.aload_n 0, 1) := by decide +kernel
theorem dX5_readText_13 : decode cX5_readText 13 = .ok (.iconst 0, 1) := by decide +kernel
theorem dX5_readText_14 : decode cX5_readText 14 = .ok (.putfield 32, 3) := by decide +kernel
theorem dX5_readText_17 : decode cX5_readText 17 = .ok (.aload_n 0, 1) := by decide +kernel
theorem dX5_readText_18 : decode cX5_readText 18 = .ok (.iconst 0, 1) := by decide +kernel
theorem dX5_readText_19 : decode cX5_readText 19 = .ok (.putfield 35, 3) := by decide +kernel
theorem dX5_readText_22 : decode cX5_readText 22 = .ok (.aload_n 0, 1) := by decide +kernel
theorem dX5_readText_23 : decode cX5_readText 23 = .ok (.iconst 0, 1) := by decide +kernel
theorem dX5_readText_24 : decode cX5_readText 24 = .ok (.putfield 38, 3) := by decide +kernel
theorem dX5_readText_27 : decode cX5_readText 27 = .ok (.aload_n 2, 1) := by decide +kernel
theorem dX5_readText_28 : decode cX5_readText 28 = .ok (.invokevirtual 41, 3) := by decide +kernel
theorem dX5_readText_31 : decode cX5_readText 31 = .ok (.iconst 0, 1) := by decide +kernel
theorem dX5_readText_32 : decode cX5_readText 32 = .ok (.istore_n 3, 1) := by decide +kernel
theorem dX5_readText_33 : decode cX5_readText 33 = .ok (.iload_n 3, 1) := by decide +kernel
theorem dX5_readText_34 : decode cX5_readText 34 = .ok (.aload_n 0, 1) := by decide +kernel
theorem dX5_readText_35 : decode cX5_readText 35 = .ok (.getfield 29, 3) := by decide +kernel
theorem dX5_readText_38 : decode cX5_readText 38 = .ok (.if_icmp .gt 48, 3) := by decide +kernel
theorem dX5_readText_41 : decode cX5_readText 41 = .ok (.aload_n 0, 1) := by decide +kernel
theorem dX5_readText_42 : decode cX5_readText 42 = .ok (.invokevirtual 46, 3) := by decide +kernel
theorem dX5_readText_45 : decode cX5_readText 45 = .ok (.aload_n 0, 1) := by decide +kernel
theorem dX5_readText_46 : decode cX5_readText 46 = .ok (.getfield 49, 3) := by decide +kernel
theorem dX5_readText_49 : decode cX5_readText 49 = .ok (.ifCond .ne 5, 3) := by decide +kernel
theorem dX5_readText_52 : decode cX5_readText 52 = .ok (.iconst 1, 1) := by decide +kernel
theorem dX5_readText_53 : decode cX5_readText 53 = .ok (.ireturn, 1) := by decide +kernel
theorem dX5_readText_54 : decode cX5_readText 54 = .ok (.aload_n 0, 1) := by decide +kernel
theorem dX5_readText_55 : decode cX5_readText 55 = .ok (.iload_n 3, 1) := by decide +kernel
theorem dX5_readText_56 : decode cX5_readText 56 = .ok (.ifCond .ne 7, 3) := by decide +kernel
theorem dX5_readText_59 : decode cX5_readText 59 = .ok (.iconst 1, 1) := by decide +kernel
theorem dX5_readText_60 : decode cX5_readText 60 = .ok (.goto 4, 3) := by decide +kernel
theorem dX5_readText_63 : decode cX5_readText 63 = .ok (.iconst 0, 1) := by decide +kernel
theorem dX5_readText_64 : decode cX5_readText 64 = .ok (.aload_n 2, 1) := by decide +kernel
theorem dX5_readText_65 : decode cX5_readText 65 = .ok (.invokevirtual 52, 3) := by decide +kernel
theorem dX5_readText_68 : decode cX5_readText 68 = .ok (.ifCond .eq 10, 3) := by decide +kernel
theorem dX5_readText_71 : decode cX5_readText 71 = .ok (.aload_n 0, 1) := by decide +kernel
theorem dX5_readText_72 : decode cX5_readText 72 = .ok (.invokevirtual 56, 3) := by decide +kernel
theorem dX5_readText_75 : decode cX5_readText 75 = .ok (.ifCond .ne 5, 3) := by decide +kernel
theorem dX5_readText_78 : decode cX5_readText 78 = .ok (.iconst 0, 1) := by decide +kernel
theorem dX5_readText_79 : decode cX5_readText 79 = .ok (.ireturn, 1) := by decide +kernel
theorem dX5_readText_80 : decode cX5_readText 80 = .ok (.iinc 3 1, 3) := by decide +kernel
theorem dX5_readText_83 : decode cX5_readText 83 = .ok (.goto (-50), 3) := by decide +kernel
theorem dX5_readText_86 : decode cX5_readText 86 = .ok (.iconst 0, 1) := by decide +kernel
theorem dX5_readText_87 : decode cX5_readText 87 = .ok (.ireturn, 1) := by decide +kernel
set_option maxRecDepth 20000 in
theorem ggX5_readStatement_X5_wordIs : GoodIn wsX5_readStatement wsX5_wordIs := goodIn_r _ [5, 6, 7, 8, 9, 10, 11, 12, 13, 14, 15, 16, 17, 18, 19, 20, 21, 22, 23, 24, 25, 26, 27, 28, 29, 30, 31, 32, 33, 34, 35, 36, 37, 38, 39, 40, 41, 42, 43, 44, 45, 46, 47, 48, 49, 50, 51, 52, 53, 54, 55, 56, 57, 58, 260, 261, 262, 263, 264, 265, 266, 267, 268] (by decide +kernel) (by decide +kernel)
set_option maxRecDepth 20000 in
theorem gX5_readStatement_X5_wordIs : GoodIn wsX5_readStatement (wsV RX5 62 RX5 yX5_wordIs wsX5_wordIs) := goodIn_app (goodIn_of _ (by decide +kernel)) ggX5_readStatement_X5_wordIs
set_option maxRecDepth 20000 in
theorem ggX5_readStatement_X5_readSlots : GoodIn wsX5_readStatement wsX5_readSlots := goodIn_r _ [62, 63, 64, 65, 66, 4, 67, 6, 68, 69, 70, 71, 7, 8, 72, 9, 73, 74, 75, 76, 77, 78, 79, 80, 81, 82, 83, 84, 85, 86, 87, 88, 89, 90, 91, 92, 93, 94, 269, 270, 271, 272, 273, 274, 275, 276, 277, 278, 279, 280, 281, 282, 283, 284, 285, 286, 260, 261, 262, 263, 264, 265, 266, 267, 268] (by decide +kernel) (by decide +kernel)
set_option maxRecDepth 20000 in
theorem gX5_readStatement_X5_readSlots : GoodIn wsX5_readStatement (wsV RX5 66 RX5 yX5_readSlots wsX5_readSlots) := goodIn_app (goodIn_of _ (by decide +kernel)) ggX5_readStatement_X5_readSlots
set_option maxRecDepth 20000 in
theorem ggX5_readStatement_X5_fail : GoodIn wsX5_readStatement wsX5_fail := goodIn_r _ [88, 89, 8, 90, 260, 261, 262, 263, 264, 265, 266, 267, 268] (by decide +kernel) (by decide +kernel)
set_option maxRecDepth 20000 in
theorem gX5_readStatement_X5_fail : GoodIn wsX5_readStatement (wsV RX5 70 RX5 yX5_fail wsX5_fail) := goodIn_app (goodIn_of _ (by decide +kernel)) ggX5_readStatement_X5_fail
set_option maxRecDepth 20000 in
theorem ggX5_readStatement_X5_readDrive : GoodIn wsX5_readStatement wsX5_readDrive := goodIn_r _ [98, 99, 63, 85, 86, 87, 4, 88, 89, 8, 90, 64, 65, 66, 67, 6, 68, 69, 70, 71, 7, 72, 9, 73, 74, 75, 76, 77, 78, 79, 80, 81, 82, 83, 84, 91, 92, 93, 94, 100, 101, 102, 103, 104, 105, 106, 107, 108, 109, 269, 270, 271, 272, 273, 274, 275, 276, 277, 278, 279, 280, 281, 282, 283, 284, 285, 286, 260, 261, 262, 263, 264, 265, 266, 267, 268, 287, 288, 289] (by decide +kernel) (by decide +kernel)
set_option maxRecDepth 20000 in
theorem gX5_readStatement_X5_readDrive : GoodIn wsX5_readStatement (wsV RX5 76 RX5 yX5_readDrive wsX5_readDrive) := goodIn_app (goodIn_of _ (by decide +kernel)) ggX5_readStatement_X5_readDrive
set_option maxRecDepth 20000 in
theorem ggX5_readStatement_X5_readTimes : GoodIn wsX5_readStatement wsX5_readTimes := goodIn_r _ [113, 114, 64, 65, 66, 4, 67, 6, 68, 69, 70, 71, 7, 8, 72, 9, 73, 74, 75, 76, 77, 78, 79, 80, 81, 82, 83, 84, 85, 86, 87, 88, 89, 90, 91, 92, 93, 94, 269, 270, 271, 272, 273, 274, 275, 276, 277, 278, 279, 280, 281, 282, 283, 284, 285, 286, 260, 261, 262, 263, 264, 265, 266, 267, 268] (by decide +kernel) (by decide +kernel)
set_option maxRecDepth 20000 in
theorem gX5_readStatement_X5_readTimes : GoodIn wsX5_readStatement (wsV RX5 81 RX5 yX5_readTimes wsX5_readTimes) := goodIn_app (goodIn_of _ (by decide +kernel)) ggX5_readStatement_X5_readTimes
set_option maxRecDepth 20000 in
theorem ggX5_readStatement_X5_readPlatter : GoodIn wsX5_readStatement wsX5_readPlatter := goodIn_r _ [118, 119, 63, 85, 86, 87, 4, 88, 89, 8, 90, 64, 65, 66, 67, 6, 68, 69, 70, 71, 7, 72, 9, 73, 74, 75, 76, 77, 78, 79, 80, 81, 82, 83, 84, 91, 92, 93, 94, 120, 121, 122, 103, 123, 124, 125, 126, 127, 128, 129, 130, 131, 132, 133, 134, 135, 136, 137, 138, 139, 140, 141, 142, 143, 144, 145, 146, 269, 270, 271, 272, 273, 274, 275, 276, 277, 278, 279, 280, 281, 282, 283, 284, 285, 286, 260, 261, 262, 263, 264, 265, 266, 267, 268, 290, 291, 292, 293, 294, 295, 296, 297, 298] (by decide +kernel) (by decide +kernel)
set_option maxRecDepth 20000 in
theorem gX5_readStatement_X5_readPlatter : GoodIn wsX5_readStatement (wsV RX5 86 RX5 yX5_readPlatter wsX5_readPlatter) := goodIn_app (goodIn_of _ (by decide +kernel)) ggX5_readStatement_X5_readPlatter
set_option maxRecDepth 20000 in
theorem ggX5_readStatement_X5_readBad : GoodIn wsX5_readStatement wsX5_readBad := goodIn_r _ [150, 151, 119, 152, 153, 85, 86, 87, 4, 88, 89, 8, 90, 64, 65, 66, 67, 6, 68, 69, 70, 71, 7, 72, 9, 73, 74, 75, 76, 77, 78, 79, 80, 81, 82, 83, 84, 91, 92, 93, 94, 154, 155, 156, 134, 157, 142, 158, 159, 160, 103, 161, 125, 162, 163, 164, 165, 166, 167, 168, 169, 170, 171, 172, 173, 174, 175, 176, 177, 178, 179, 180, 181, 269, 270, 271, 272, 273, 274, 275, 276, 277, 278, 279, 280, 281, 282, 283, 284, 285, 286, 290, 291, 292, 293, 294, 295, 296, 297, 298, 260, 261, 262, 263, 264, 265, 266, 267, 268, 299, 300, 301, 302, 303, 304, 305] (by decide +kernel) (by decide +kernel)
set_option maxRecDepth 20000 in
theorem gX5_readStatement_X5_readBad : GoodIn wsX5_readStatement (wsV RX5 91 RX5 yX5_readBad wsX5_readBad) := goodIn_app (goodIn_of _ (by decide +kernel)) ggX5_readStatement_X5_readBad
set_option maxRecDepth 20000 in
theorem ggX5_readStatement_X5_readNewFile : GoodIn wsX5_readStatement wsX5_readNewFile := goodIn_r _ [185, 186, 6, 119, 152, 85, 86, 87, 4, 88, 89, 8, 90, 68, 69, 70, 71, 7, 72, 9, 73, 74, 75, 76, 77, 78, 79, 80, 187, 188, 189, 190, 1, 2, 3, 5, 10, 11, 12, 13, 14, 15, 16, 17, 18, 19, 20, 21, 22, 23, 24, 25, 26, 27, 28, 29, 30, 31, 32, 33, 34, 35, 36, 37, 38, 39, 40, 41, 42, 43, 44, 45, 46, 47, 48, 49, 50, 51, 52, 53, 54, 55, 56, 57, 58, 81, 82, 83, 84, 191, 192, 193, 194, 195, 196, 197, 198, 199, 200, 64, 65, 66, 67, 91, 92, 93, 94, 201, 202, 203, 134, 204, 141, 140, 138, 205, 206, 207, 208, 137, 139, 209, 210, 211, 212, 213, 155, 156, 157, 142, 214, 215, 216, 103, 217, 173, 125, 163, 218, 219, 220, 221, 222, 223, 164, 224, 225, 226, 227, 228, 229, 230, 231, 232, 233, 234, 235, 124, 236, 237, 238, 239, 240, 241, 242, 243, 244, 245, 246, 269, 270, 271, 272, 273, 274, 275, 276, 277, 278, 279, 280, 281, 282, 283, 284, 285, 286, 260, 261, 262, 263, 264, 265, 266, 267, 268, 290, 291, 292, 293, 294, 295, 296, 297, 298, 299, 300, 301, 302, 303, 304, 305] (by decide +kernel) (by decide +kernel)
set_option maxRecDepth 20000 in
theorem gX5_readStatement_X5_readNewFile : GoodIn wsX5_readStatement (wsV RX5 96 RX5 yX5_readNewFile wsX5_readNewFile) := goodIn_app (goodIn_of _ (by decide +kernel)) ggX5_readStatement_X5_readNewFile
set_option maxRecDepth 20000 in
theorem ggX5_readStatement_X5_readClose : GoodIn wsX5_readStatement wsX5_readClose := goodIn_r _ [250, 119, 152, 251, 64, 65, 66, 4, 67, 6, 68, 69, 70, 71, 7, 8, 72, 9, 73, 74, 75, 76, 77, 78, 79, 80, 81, 82, 83, 84, 85, 86, 87, 88, 89, 90, 91, 92, 93, 94, 252, 253, 254, 134, 255, 256, 257, 258, 259, 141, 205, 206, 207, 208, 137, 139, 243, 244, 245, 246, 140, 242, 269, 270, 271, 272, 273, 274, 275, 276, 277, 278, 279, 280, 281, 282, 283, 284, 285, 286, 290, 291, 292, 293, 294, 295, 296, 297, 298, 260, 261, 262, 263, 264, 265, 266, 267, 268] (by decide +kernel) (by decide +kernel)
set_option maxRecDepth 20000 in
theorem gX5_readStatement_X5_readClose : GoodIn wsX5_readStatement (wsV RX5 101 RX5 yX5_readClose wsX5_readClose) := goodIn_app (goodIn_of _ (by decide +kernel)) ggX5_readStatement_X5_readClose
set_option maxRecDepth 20000 in
theorem ggX5_readStatement_X5_failUnexpected : GoodIn wsX5_readStatement wsX5_failUnexpected := goodIn_r _ [84, 6, 85, 86, 87, 4, 88, 89, 8, 90, 260, 261, 262, 263, 264, 265, 266, 267, 268] (by decide +kernel) (by decide +kernel)
set_option maxRecDepth 20000 in
theorem gX5_readStatement_X5_failUnexpected : GoodIn wsX5_readStatement (wsV RX5 104 RX5 yX5_failUnexpected wsX5_failUnexpected) := goodIn_app (goodIn_of _ (by decide +kernel)) ggX5_readStatement_X5_failUnexpected
theorem dX5_readStatement_0 : decode cX5_readStatement 0 = .ok (.aload_n 0, 1) := by decide +kernel
theorem dX5_readStatement_1 : decode cX5_readStatement 1 = .ok (.ldc 60, 2) := by decide +kernel
theorem dX5_readStatement_3 : decode cX5_readStatement 3 = .ok (.invokevirtual 62, 3) := by decide +kernel
theorem dX5_readStatement_6 : decode cX5_readStatement 6 = .ok (.ifCond .eq 21, 3) := by decide +kernel
theorem dX5_readStatement_9 : decode cX5_readStatement 9 = .ok (.iload_n 1, 1) := by decide +kernel
theorem dX5_readStatement_10 : decode cX5_readStatement 10 = .ok (.ifCond .eq 11, 3) := by decide +kernel
theorem dX5_readStatement_13 : decode cX5_readStatement 13 = .ok (.aload_n 0, 1) := by decide +kernel
theorem dX5_readStatement_14 : decode cX5_readStatement 14 = .ok (.aload_n 2, 1) := by decide +kernel
theorem dX5_readStatement_15 : decode cX5_readStatement 15 = .ok (.invokevirtual 66, 3) := by decide +kernel
theorem dX5_readStatement_18 : decode cX5_readStatement 18 = .ok (.goto 8, 3) := by decide +kernel
theorem dX5_readStatement_21 : decode cX5_readStatement 21 = .ok (.aload_n 0, 1) := by decide +kernel
theorem dX5_readStatement_22 : decode cX5_readStatement 22 = .ok (.iconst 5, 1) := by decide +kernel
theorem dX5_readStatement_23 : decode cX5_readStatement 23 = .ok (.invokevirtual 70, 3) := by decide +kernel
theorem dX5_readStatement_26 : decode cX5_readStatement 26 = .ok (.ireturn, 1) := by decide +kernel
theorem dX5_readStatement_27 : decode cX5_readStatement 27 = .ok (.aload_n 0, 1) := by decide +kernel
theorem dX5_readStatement_28 : decode cX5_readStatement 28 = .ok (.ldc 74, 2) := by decide +kernel
theorem dX5_readStatement_30 : decode cX5_readStatement 30 = .ok (.invokevirtual 62, 3) := by decide +kernel
theorem dX5_readStatement_33 : decode cX5_readStatement 33 = .ok (.ifCond .eq 9, 3) := by decide +kernel
theorem dX5_readStatement_36 : decode cX5_readStatement 36 = .ok (.aload_n 0, 1) := by decide +kernel
theorem dX5_readStatement_37 : decode cX5_readStatement 37 = .ok (.aload_n 2, 1) := by decide +kernel
theorem dX5_readStatement_38 : decode cX5_readStatement 38 = .ok (.invokevirtual 76, 3) := by decide +kernel
theorem dX5_readStatement_41 : decode cX5_readStatement 41 = .ok (.ireturn, 1) := by decide +kernel
theorem dX5_readStatement_42 : decode cX5_readStatement 42 = .ok (.aload_n 0, 1) := by decide +kernel
theorem dX5_readStatement_43 : decode cX5_readStatement 43 = .ok (.ldc 79, 2) := by decide +kernel
theorem dX5_readStatement_45 : decode cX5_readStatement 45 = .ok (.invokevirtual 62, 3) := by decide +kernel
theorem dX5_readStatement_48 : decode cX5_readStatement 48 = .ok (.ifCond .eq 9, 3) := by decide +kernel
theorem dX5_readStatement_51 : decode cX5_readStatement 51 = .ok (.aload_n 0, 1) := by decide +kernel
theorem dX5_readStatement_52 : decode cX5_readStatement 52 = .ok (.aload_n 2, 1) := by decide +kernel
theorem dX5_readStatement_53 : decode cX5_readStatement 53 = .ok (.invokevirtual 81, 3) := by decide +kernel
theorem dX5_readStatement_56 : decode cX5_readStatement 56 = .ok (.ireturn, 1) := by decide +kernel
theorem dX5_readStatement_57 : decode cX5_readStatement 57 = .ok (.aload_n 0, 1) := by decide +kernel
theorem dX5_readStatement_58 : decode cX5_readStatement 58 = .ok (.ldc 84, 2) := by decide +kernel
theorem dX5_readStatement_60 : decode cX5_readStatement 60 = .ok (.invokevirtual 62, 3) := by decide +kernel
theorem dX5_readStatement_63 : decode cX5_readStatement 63 = .ok (.ifCond .eq 9, 3) := by decide +kernel
theorem dX5_readStatement_66 : decode cX5_readStatement 66 = .ok (.aload_n 0, 1) := by decide +kernel
theorem dX5_readStatement_67 : decode cX5_readStatement 67 = .ok (.aload_n 2, 1) := by decide +kernel
theorem dX5_readStatement_68 : decode cX5_readStatement 68 = .ok (.invokevirtual 86, 3) := by decide +kernel
theorem dX5_readStatement_71 : decode cX5_readStatement 71 = .ok (.ireturn, 1) := by decide +kernel
theorem dX5_readStatement_72 : decode cX5_readStatement 72 = .ok (.aload_n 0, 1) := by decide +kernel
theorem dX5_readStatement_73 : decode cX5_readStatement 73 = .ok (.ldc 89, 2) := by decide +kernel
theorem dX5_readStatement_75 : decode cX5_readStatement 75 = .ok (.invokevirtual 62, 3) := by decide +kernel
theorem dX5_readStatement_78 : decode cX5_readStatement 78 = .ok (.ifCond .eq 9, 3) := by decide +kernel
theorem dX5_readStatement_81 : decode cX5_readStatement 81 = .ok (.aload_n 0, 1) := by decide +kernel
theorem dX5_readStatement_82 : decode cX5_readStatement 82 = .ok (.aload_n 2, 1) := by decide +kernel
theorem dX5_readStatement_83 : decode cX5_readStatement 83 = .ok (.invokevirtual 91, 3) := by decide +kernel
theorem dX5_readStatement_86 : decode cX5_readStatement 86 = .ok (.ireturn, 1) := by decide +kernel
theorem dX5_readStatement_87 : decode cX5_readStatement 87 = .ok (.aload_n 0, 1) := by decide +kernel
theorem dX5_readStatement_88 : decode cX5_readStatement 88 = .ok (.ldc 94, 2) := by decide +kernel
theorem dX5_readStatement_90 : decode cX5_readStatement 90 = .ok (.invokevirtual 62, 3) := by decide +kernel
theorem dX5_readStatement_93 : decode cX5_readStatement 93 = .ok (.ifCond .eq 9, 3) := by decide +kernel
theorem dX5_readStatement_96 : decode cX5_readStatement 96 = .ok (.aload_n 0, 1) := by decide +kernel
theorem dX5_readStatement_97 : decode cX5_readStatement 97 = .ok (.aload_n 2, 1) := by decide +kernel
theorem dX5_readStatement_98 : decode cX5_readStatement 98 = .ok (.invokevirtual 96, 3) := by decide +kernel
theorem dX5_readStatement_101 : decode cX5_readStatement 101 = .ok (.ireturn, 1) := by decide +kernel
theorem dX5_readStatement_102 : decode cX5_readStatement 102 = .ok (.aload_n 0, 1) := by decide +kernel
theorem dX5_readStatement_103 : decode cX5_readStatement 103 = .ok (.ldc 99, 2) := by decide +kernel
theorem dX5_readStatement_105 : decode cX5_readStatement 105 = .ok (.invokevirtual 62, 3) := by decide +kernel
theorem dX5_readStatement_108 : decode cX5_readStatement 108 = .ok (.ifCond .eq 11, 3) := by decide +kernel
theorem dX5_readStatement_111 : decode cX5_readStatement 111 = .ok (.aload_n 0, 1) := by decide +kernel
theorem dX5_readStatement_112 : decode cX5_readStatement 112 = .ok (.aload_n 2, 1) := by decide +kernel
theorem dX5_readStatement_113 : decode cX5_readStatement 113 = .ok (.invokevirtual 101, 3) := by decide +kernel
theorem dX5_readStatement_116 : decode cX5_readStatement 116 = .ok (.goto 7, 3) := by decide +kernel
theorem dX5_readStatement_119 : decode cX5_readStatement 119 = .ok (.aload_n 0, 1) := by decide +kernel
theorem dX5_readStatement_120 : decode cX5_readStatement 120 = .ok (.invokevirtual 104, 3) := by decide +kernel
theorem dX5_readStatement_123 : decode cX5_readStatement 123 = .ok (.ireturn, 1) := by decide +kernel
set_option maxRecDepth 20000 in
theorem ggX5_readSlots_X5_readNumber : GoodIn wsX5_readSlots wsX5_readNumber := goodIn_r _ [6, 7, 8, 9, 10, 5, 11, 12, 13, 14, 15, 16, 17, 18, 19, 20, 21, 22, 23, 24, 25, 26, 27, 28, 29, 30, 31, 32, 33, 34, 35, 36, 37, 56, 57, 58, 59, 60, 61, 62, 63, 64] (by decide +kernel) (by decide +kernel)
set_option maxRecDepth 20000 in
theorem gX5_readSlots_X5_readNumber : GoodIn wsX5_readSlots (wsV RX5 107 RX5 yX5_readNumber wsX5_readNumber) := goodIn_app (goodIn_of _ (by decide +kernel)) ggX5_readSlots_X5_readNumber
theorem dX5_readSlots_0 : decode cX5_readSlots 0 = .ok (.aload_n 0, 1) := by decide +kernel
theorem dX5_readSlots_1 : decode cX5_readSlots 1 = .ok (.iconst 4, 1) := by decide +kernel
theorem dX5_readSlots_2 : decode cX5_readSlots 2 = .ok (.bipush 24, 2) := by decide +kernel
theorem dX5_readSlots_4 : decode cX5_readSlots 4 = .ok (.invokevirtual 107, 3) := by decide +kernel
theorem dX5_readSlots_7 : decode cX5_readSlots 7 = .ok (.istore_n 2, 1) := by decide +kernel
theorem dX5_readSlots_8 : decode cX5_readSlots 8 = .ok (.iload_n 2, 1) := by decide +kernel
theorem dX5_readSlots_9 : decode cX5_readSlots 9 = .ok (.iconst (-1), 1) := by decide +kernel
theorem dX5_readSlots_10 : decode cX5_readSlots 10 = .ok (.if_icmp .ne 5, 3) := by decide +kernel
theorem dX5_readSlots_13 : decode cX5_readSlots 13 = .ok (.iconst 0, 1) := by decide +kernel
theorem dX5_readSlots_14 : decode cX5_readSlots 14 = .ok (.ireturn, 1) := by decide +kernel
theorem dX5_readSlots_15 : decode cX5_readSlots 15 = .ok (.aload_n 1, 1) := by decide +kernel
theorem dX5_readSlots_16 : decode cX5_readSlots 16 = .ok (.iload_n 2, 1) := by decide +kernel
theorem dX5_readSlots_17 : decode cX5_readSlots 17 = .ok (.putfield 110, 3) := by decide +kernel
theorem dX5_readSlots_20 : decode cX5_readSlots 20 = .ok (.iconst 1, 1) := by decide +kernel
theorem dX5_readSlots_21 : decode cX5_readSlots 21 = .ok (.ireturn, 1) := by decide +kernel
set_option maxRecDepth 20000 in
theorem ggX5_readDrive_X5_fail : GoodIn wsX5_readDrive wsX5_fail := goodIn_r _ [7, 8, 9, 10, 67, 68, 69, 70, 71, 72, 73, 74, 75] (by decide +kernel) (by decide +kernel)
set_option maxRecDepth 20000 in
theorem gX5_readDrive_X5_fail : GoodIn wsX5_readDrive (wsV RX5 70 RX5 yX5_fail wsX5_fail) := goodIn_app (goodIn_of _ (by decide +kernel)) ggX5_readDrive_X5_fail
set_option maxRecDepth 20000 in
theorem ggX5_readDrive_X5_readNumber : GoodIn wsX5_readDrive wsX5_readNumber := goodIn_r _ [14, 15, 16, 17, 18, 6, 19, 20, 9, 21, 22, 23, 24, 25, 26, 27, 28, 29, 30, 31, 32, 33, 34, 3, 4, 5, 7, 8, 10, 35, 36, 37, 38, 67, 68, 69, 70, 71, 72, 73, 74, 75] (by decide +kernel) (by decide +kernel)
set_option maxRecDepth 20000 in
theorem gX5_readDrive_X5_readNumber : GoodIn wsX5_readDrive (wsV RX5 107 RX5 yX5_readNumber wsX5_readNumber) := goodIn_app (goodIn_of _ (by decide +kernel)) ggX5_readDrive_X5_readNumber
set_option maxRecDepth 20000 in
theorem ggX5_readDrive_X4_addDrive : GoodIn wsX5_readDrive wsX4_addDrive := goodIn_r _ [43, 44, 45, 46, 47, 48, 49, 50, 51, 52, 53, 54, 55, 56, 57, 58, 59, 60, 61, 62, 63, 64, 65, 66, 76, 77, 78] (by decide +kernel) (by decide +kernel)
set_option maxRecDepth 20000 in
theorem gX5_readDrive_X4_addDrive : GoodIn wsX5_readDrive (wsV RX5 116 RX4 yX4_addDrive wsX4_addDrive) := goodIn_app (goodIn_of _ (by decide +kernel)) ggX5_readDrive_X4_addDrive
theorem dX5_readDrive_0 : decode cX5_readDrive 0 = .ok (.aload_n 1, 1) := by decide +kernel
theorem dX5_readDrive_1 : decode cX5_readDrive 1 = .ok (.getfield 113, 3) := by decide +kernel
theorem dX5_readDrive_4 : decode cX5_readDrive 4 = .ok (.iconst 4, 1) := by decide +kernel
theorem dX5_readDrive_5 : decode cX5_readDrive 5 = .ok (.if_icmp .lt 9, 3) := by decide +kernel
theorem dX5_readDrive_8 : decode cX5_readDrive 8 = .ok (.aload_n 0, 1) := by decide +kernel
theorem dX5_readDrive_9 : decode cX5_readDrive 9 = .ok (.iconst 5, 1) := by decide +kernel
theorem dX5_readDrive_10 : decode cX5_readDrive 10 = .ok (.invokevirtual 70, 3) := by decide +kernel
theorem dX5_readDrive_13 : decode cX5_readDrive 13 = .ok (.ireturn, 1) := by decide +kernel
theorem dX5_readDrive_14 : decode cX5_readDrive 14 = .ok (.aload_n 0, 1) := by decide +kernel
theorem dX5_readDrive_15 : decode cX5_readDrive 15 = .ok (.iconst 0, 1) := by decide +kernel
theorem dX5_readDrive_16 : decode cX5_readDrive 16 = .ok (.aload_n 1, 1) := by decide +kernel
theorem dX5_readDrive_17 : decode cX5_readDrive 17 = .ok (.getfield 110, 3) := by decide +kernel
theorem dX5_readDrive_20 : decode cX5_readDrive 20 = .ok (.iconst 1, 1) := by decide +kernel
theorem dX5_readDrive_21 : decode cX5_readDrive 21 = .ok (.isub, 1) := by decide +kernel
theorem dX5_readDrive_22 : decode cX5_readDrive 22 = .ok (.invokevirtual 107, 3) := by decide +kernel
theorem dX5_readDrive_25 : decode cX5_readDrive 25 = .ok (.istore_n 2, 1) := by decide +kernel
theorem dX5_readDrive_26 : decode cX5_readDrive 26 = .ok (.iload_n 2, 1) := by decide +kernel
theorem dX5_readDrive_27 : decode cX5_readDrive 27 = .ok (.iconst (-1), 1) := by decide +kernel
theorem dX5_readDrive_28 : decode cX5_readDrive 28 = .ok (.if_icmp .ne 5, 3) := by decide +kernel
theorem dX5_readDrive_31 : decode cX5_readDrive 31 = .ok (.iconst 0, 1) := by decide +kernel
theorem dX5_readDrive_32 : decode cX5_readDrive 32 = .ok (.ireturn, 1) := by decide +kernel
theorem dX5_readDrive_33 : decode cX5_readDrive 33 = .ok (.aload_n 1, 1) := by decide +kernel
theorem dX5_readDrive_34 : decode cX5_readDrive 34 = .ok (.iload_n 2, 1) := by decide +kernel
theorem dX5_readDrive_35 : decode cX5_readDrive 35 = .ok (.invokevirtual 116, 3) := by decide +kernel
theorem dX5_readDrive_38 : decode cX5_readDrive 38 = .ok (.iconst 1, 1) := by decide +kernel
theorem dX5_readDrive_39 : decode cX5_readDrive 39 = .ok (.ireturn, 1) := by decide +kernel
set_option maxRecDepth 20000 in
theorem ggX5_readTimes_X5_readNumber : GoodIn wsX5_readTimes wsX5_readNumber := goodIn_r _ [6, 7, 8, 9, 10, 5, 11, 12, 13, 14, 15, 16, 17, 18, 19, 20, 21, 22, 23, 24, 25, 26, 27, 28, 29, 30, 31, 32, 33, 34, 35, 36, 37, 56, 57, 58, 59, 60, 61, 62, 63, 64] (by decide +kernel) (by decide +kernel)
set_option maxRecDepth 20000 in
theorem gX5_readTimes_X5_readNumber : GoodIn wsX5_readTimes (wsV RX5 107 RX5 yX5_readNumber wsX5_readNumber) := goodIn_app (goodIn_of _ (by decide +kernel)) ggX5_readTimes_X5_readNumber
theorem dX5_readTimes_0 : decode cX5_readTimes 0 = .ok (.iconst 0, 1) := by decide +kernel
theorem dX5_readTimes_1 : decode cX5_readTimes 1 = .ok (.istore_n 2, 1) := by decide +kernel
theorem dX5_readTimes_2 : decode cX5_readTimes 2 = .ok (.iload_n 2, 1) := by decide +kernel
theorem dX5_readTimes_3 : decode cX5_readTimes 3 = .ok (.iconst 5, 1) := by decide +kernel
theorem dX5_readTimes_4 : decode cX5_readTimes 4 = .ok (.if_icmp .ge 31, 3) := by decide +kernel
theorem dX5_readTimes_7 : decode cX5_readTimes 7 = .ok (.aload_n 0, 1) := by decide +kernel
theorem dX5_readTimes_8 : decode cX5_readTimes 8 = .ok (.iconst 0, 1) := by decide +kernel
theorem dX5_readTimes_9 : decode cX5_readTimes 9 = .ok (.bipush 99, 2) := by decide +kernel
theorem dX5_readTimes_11 : decode cX5_readTimes 11 = .ok (.invokevirtual 107, 3) := by decide +kernel
theorem dX5_readTimes_14 : decode cX5_readTimes 14 = .ok (.istore_n 3, 1) := by decide +kernel
theorem dX5_readTimes_15 : decode cX5_readTimes 15 = .ok (.iload_n 3, 1) := by decide +kernel
theorem dX5_readTimes_16 : decode cX5_readTimes 16 = .ok (.iconst (-1), 1) := by decide +kernel
theorem dX5_readTimes_17 : decode cX5_readTimes 17 = .ok (.if_icmp .ne 5, 3) := by decide +kernel
theorem dX5_readTimes_20 : decode cX5_readTimes 20 = .ok (.iconst 0, 1) := by decide +kernel
theorem dX5_readTimes_21 : decode cX5_readTimes 21 = .ok (.ireturn, 1) := by decide +kernel
theorem dX5_readTimes_22 : decode cX5_readTimes 22 = .ok (.aload_n 1, 1) := by decide +kernel
theorem dX5_readTimes_23 : decode cX5_readTimes 23 = .ok (.getfield 120, 3) := by decide +kernel
theorem dX5_readTimes_26 : decode cX5_readTimes 26 = .ok (.iload_n 2, 1) := by decide +kernel
theorem dX5_readTimes_27 : decode cX5_readTimes 27 = .ok (.iload_n 3, 1) := by decide +kernel
theorem dX5_readTimes_28 : decode cX5_readTimes 28 = .ok (.iastore, 1) := by decide +kernel
theorem dX5_readTimes_29 : decode cX5_readTimes 29 = .ok (.iinc 2 1, 3) := by decide +kernel
theorem dX5_readTimes_32 : decode cX5_readTimes 32 = .ok (.goto (-30), 3) := by decide +kernel
theorem dX5_readTimes_35 : decode cX5_readTimes 35 = .ok (.iconst 1, 1) := by decide +kernel
theorem dX5_readTimes_36 : decode cX5_readTimes 36 = .ok (.ireturn, 1) := by decide +kernel
set_option maxRecDepth 20000 in
theorem ggX5_readPlatter_X5_fail : GoodIn wsX5_readPlatter wsX5_fail := goodIn_r _ [7, 8, 9, 10, 85, 86, 87, 88, 89, 90, 91, 92, 93] (by decide +kernel) (by decide +kernel)
set_option maxRecDepth 20000 in
theorem gX5_readPlatter_X5_fail : GoodIn wsX5_readPlatter (wsV RX5 70 RX5 yX5_fail wsX5_fail) := goodIn_app (goodIn_of _ (by decide +kernel)) ggX5_readPlatter_X5_fail
set_option maxRecDepth 20000 in
theorem ggX5_readPlatter_X5_readNumber : GoodIn wsX5_readPlatter wsX5_readNumber := goodIn_r _ [14, 15, 16, 17, 18, 6, 19, 20, 9, 21, 22, 23, 24, 25, 26, 27, 28, 29, 30, 31, 32, 33, 34, 3, 4, 5, 7, 8, 10, 35, 36, 37, 38, 85, 86, 87, 88, 89, 90, 91, 92, 93] (by decide +kernel) (by decide +kernel)
set_option maxRecDepth 20000 in
theorem gX5_readPlatter_X5_readNumber : GoodIn wsX5_readPlatter (wsV RX5 107 RX5 yX5_readNumber wsX5_readNumber) := goodIn_app (goodIn_of _ (by decide +kernel)) ggX5_readPlatter_X5_readNumber
set_option maxRecDepth 20000 in
theorem ggX5_readPlatter_X4_platterWithHome : GoodIn wsX5_readPlatter wsX4_platterWithHome := goodIn_r _ [43, 44, 45, 46, 67, 68, 69, 70, 71, 72, 73, 74, 75, 76, 77, 78, 79, 80, 81, 82, 83, 84, 94, 95, 96, 97, 98, 99, 100, 101, 102] (by decide +kernel) (by decide +kernel)
set_option maxRecDepth 20000 in
theorem gX5_readPlatter_X4_platterWithHome : GoodIn wsX5_readPlatter (wsV RX5 127 RX4 yX4_platterWithHome wsX4_platterWithHome) := goodIn_app (goodIn_of _ (by decide +kernel)) ggX5_readPlatter_X4_platterWithHome
set_option maxRecDepth 20000 in
theorem ggX5_readPlatter_X4_addPlatter : GoodIn wsX5_readPlatter wsX4_addPlatter := goodIn_r _ [50, 44, 45, 51, 52, 53, 54, 55, 56, 57, 58, 59, 60, 61, 62, 63, 64, 65, 66, 67, 68, 69, 70, 71, 72, 73, 74, 75, 76, 77, 78, 79, 80, 81, 82, 83, 84, 94, 95, 96, 97, 98, 99, 100, 101, 102] (by decide +kernel) (by decide +kernel)
set_option maxRecDepth 20000 in
theorem gX5_readPlatter_X4_addPlatter : GoodIn wsX5_readPlatter (wsV RX5 131 RX4 yX4_addPlatter wsX4_addPlatter) := goodIn_app (goodIn_of _ (by decide +kernel)) ggX5_readPlatter_X4_addPlatter
theorem dX5_readPlatter_0 : decode cX5_readPlatter 0 = .ok (.aload_n 1, 1) := by decide +kernel
theorem dX5_readPlatter_1 : decode cX5_readPlatter 1 = .ok (.getfield 124, 3) := by decide +kernel
theorem dX5_readPlatter_4 : decode cX5_readPlatter 4 = .ok (.bipush 10, 2) := by decide +kernel
theorem dX5_readPlatter_6 : decode cX5_readPlatter 6 = .ok (.if_icmp .lt 9, 3) := by decide +kernel
theorem dX5_readPlatter_9 : decode cX5_readPlatter 9 = .ok (.aload_n 0, 1) := by decide +kernel
theorem dX5_readPlatter_10 : decode cX5_readPlatter 10 = .ok (.iconst 5, 1) := by decide +kernel
theorem dX5_readPlatter_11 : decode cX5_readPlatter 11 = .ok (.invokevirtual 70, 3) := by decide +kernel
theorem dX5_readPlatter_14 : decode cX5_readPlatter 14 = .ok (.ireturn, 1) := by decide +kernel
theorem dX5_readPlatter_15 : decode cX5_readPlatter 15 = .ok (.aload_n 0, 1) := by decide +kernel
theorem dX5_readPlatter_16 : decode cX5_readPlatter 16 = .ok (.iconst 0, 1) := by decide +kernel
theorem dX5_readPlatter_17 : decode cX5_readPlatter 17 = .ok (.aload_n 1, 1) := by decide +kernel
theorem dX5_readPlatter_18 : decode cX5_readPlatter 18 = .ok (.getfield 110, 3) := by decide +kernel
theorem dX5_readPlatter_21 : decode cX5_readPlatter 21 = .ok (.iconst 1, 1) := by decide +kernel
theorem dX5_readPlatter_22 : decode cX5_readPlatter 22 = .ok (.isub, 1) := by decide +kernel
theorem dX5_readPlatter_23 : decode cX5_readPlatter 23 = .ok (.invokevirtual 107, 3) := by decide +kernel
theorem dX5_readPlatter_26 : decode cX5_readPlatter 26 = .ok (.istore_n 2, 1) := by decide +kernel
theorem dX5_readPlatter_27 : decode cX5_readPlatter 27 = .ok (.iload_n 2, 1) := by decide +kernel
theorem dX5_readPlatter_28 : decode cX5_readPlatter 28 = .ok (.iconst (-1), 1) := by decide +kernel
theorem dX5_readPlatter_29 : decode cX5_readPlatter 29 = .ok (.if_icmp .ne 5, 3) := by decide +kernel
theorem dX5_readPlatter_32 : decode cX5_readPlatter 32 = .ok (.iconst 0, 1) := by decide +kernel
theorem dX5_readPlatter_33 : decode cX5_readPlatter 33 = .ok (.ireturn, 1) := by decide +kernel
theorem dX5_readPlatter_34 : decode cX5_readPlatter 34 = .ok (.aload_n 1, 1) := by decide +kernel
theorem dX5_readPlatter_35 : decode cX5_readPlatter 35 = .ok (.iload_n 2, 1) := by decide +kernel
theorem dX5_readPlatter_36 : decode cX5_readPlatter 36 = .ok (.invokevirtual 127, 3) := by decide +kernel
theorem dX5_readPlatter_39 : decode cX5_readPlatter 39 = .ok (.iconst (-1), 1) := by decide +kernel
theorem dX5_readPlatter_40 : decode cX5_readPlatter 40 = .ok (.if_icmp .eq 9, 3) := by decide +kernel
theorem dX5_readPlatter_43 : decode cX5_readPlatter 43 = .ok (.aload_n 0, 1) := by decide +kernel
theorem dX5_readPlatter_44 : decode cX5_readPlatter 44 = .ok (.iconst 4, 1) := by decide +kernel
theorem dX5_readPlatter_45 : decode cX5_readPlatter 45 = .ok (.invokevirtual 70, 3) := by decide +kernel
theorem dX5_readPlatter_48 : decode cX5_readPlatter 48 = .ok (.ireturn, 1) := by decide +kernel
theorem dX5_readPlatter_49 : decode cX5_readPlatter 49 = .ok (.aload_n 0, 1) := by decide +kernel
theorem dX5_readPlatter_50 : decode cX5_readPlatter 50 = .ok (.bipush 10, 2) := by decide +kernel
theorem dX5_readPlatter_52 : decode cX5_readPlatter 52 = .ok (.sipush 300, 3) := by decide +kernel
theorem dX5_readPlatter_55 : decode cX5_readPlatter 55 = .ok (.invokevirtual 107, 3) := by decide +kernel
theorem dX5_readPlatter_58 : decode cX5_readPlatter 58 = .ok (.istore_n 3, 1) := by decide +kernel
theorem dX5_readPlatter_59 : decode cX5_readPlatter 59 = .ok (.iload_n 3, 1) := by decide +kernel
theorem dX5_readPlatter_60 : decode cX5_readPlatter 60 = .ok (.iconst (-1), 1) := by decide +kernel
theorem dX5_readPlatter_61 : decode cX5_readPlatter 61 = .ok (.if_icmp .ne 5, 3) := by decide +kernel
theorem dX5_readPlatter_64 : decode cX5_readPlatter 64 = .ok (.iconst 0, 1) := by decide +kernel
theorem dX5_readPlatter_65 : decode cX5_readPlatter 65 = .ok (.ireturn, 1) := by decide +kernel
theorem dX5_readPlatter_66 : decode cX5_readPlatter 66 = .ok (.aload_n 0, 1) := by decide +kernel
theorem dX5_readPlatter_67 : decode cX5_readPlatter 67 = .ok (.iconst 0, 1) := by decide +kernel
theorem dX5_readPlatter_68 : decode cX5_readPlatter 68 = .ok (.bipush 9, 2) := by decide +kernel
theorem dX5_readPlatter_70 : decode cX5_readPlatter 70 = .ok (.invokevirtual 107, 3) := by decide +kernel
theorem dX5_readPlatter_73 : decode cX5_readPlatter 73 = .ok (.istore 4, 2) := by decide +kernel
theorem dX5_readPlatter_75 : decode cX5_readPlatter 75 = .ok (.iload 4, 2) := by decide +kernel
theorem dX5_readPlatter_77 : decode cX5_readPlatter 77 = .ok (.iconst (-1), 1) := by decide +kernel
theorem dX5_readPlatter_78 : decode cX5_readPlatter 78 = .ok (.if_icmp .ne 5, 3) := by decide +kernel
theorem dX5_readPlatter_81 : decode cX5_readPlatter 81 = .ok (.iconst 0, 1) := by decide +kernel
theorem dX5_readPlatter_82 : decode cX5_readPlatter 82 = .ok (.ireturn, 1) := by decide +kernel
theorem dX5_readPlatter_83 : decode cX5_readPlatter 83 = .ok (.aload_n 1, 1) := by decide +kernel
theorem dX5_readPlatter_84 : decode cX5_readPlatter 84 = .ok (.iload_n 2, 1) := by decide +kernel
theorem dX5_readPlatter_85 : decode cX5_readPlatter 85 = .ok (.iload_n 3, 1) := by decide +kernel
theorem dX5_readPlatter_86 : decode cX5_readPlatter 86 = .ok (.iload 4, 2) := by decide +kernel
theorem dX5_readPlatter_88 : decode cX5_readPlatter 88 = .ok (.invokevirtual 131, 3) := by decide +kernel
theorem dX5_readPlatter_91 : decode cX5_readPlatter 91 = .ok (.iconst 1, 1) := by decide +kernel
theorem dX5_readPlatter_92 : decode cX5_readPlatter 92 = .ok (.ireturn, 1) := by decide +kernel
set_option maxRecDepth 20000 in
theorem ggX5_readBad_X5_fail : GoodIn wsX5_readBad wsX5_fail := goodIn_r _ [9, 10, 11, 12, 100, 101, 102, 103, 104, 105, 106, 107, 108] (by decide +kernel) (by decide +kernel)
set_option maxRecDepth 20000 in
theorem gX5_readBad_X5_fail : GoodIn wsX5_readBad (wsV RX5 70 RX5 yX5_fail wsX5_fail) := goodIn_app (goodIn_of _ (by decide +kernel)) ggX5_readBad_X5_fail
set_option maxRecDepth 20000 in
theorem ggX5_readBad_X5_readNumber : GoodIn wsX5_readBad wsX5_readNumber := goodIn_r _ [16, 17, 18, 19, 20, 8, 21, 22, 11, 23, 24, 25, 26, 27, 28, 29, 30, 31, 32, 33, 34, 35, 36, 5, 6, 7, 9, 10, 12, 37, 38, 39, 40, 100, 101, 102, 103, 104, 105, 106, 107, 108] (by decide +kernel) (by decide +kernel)
set_option maxRecDepth 20000 in
theorem gX5_readBad_X5_readNumber : GoodIn wsX5_readBad (wsV RX5 107 RX5 yX5_readNumber wsX5_readNumber) := goodIn_app (goodIn_of _ (by decide +kernel)) ggX5_readBad_X5_readNumber
set_option maxRecDepth 20000 in
theorem ggX5_readBad_X3_isBad : GoodIn wsX5_readBad wsX3_isBad := goodIn_r _ [45, 46, 91, 92, 93, 94, 95, 96, 97, 98, 99] (by decide +kernel) (by decide +kernel)
set_option maxRecDepth 20000 in
theorem gX5_readBad_X3_isBad : GoodIn wsX5_readBad (wsV RX5 147 RX3 yX3_isBad wsX3_isBad) := goodIn_app (goodIn_of _ (by decide +kernel)) ggX5_readBad_X3_isBad
set_option maxRecDepth 20000 in
theorem ggX5_readBad_X4_spoil : GoodIn wsX5_readBad wsX4_spoil := goodIn_r _ [51, 52, 53, 54, 55, 56, 57, 58, 44, 59, 46, 60, 61, 62, 50, 63, 64, 65, 66, 67, 68, 69, 70, 71, 72, 73, 74, 75, 76, 77, 78, 79, 80, 81, 82, 83, 84, 85, 86, 87, 88, 89, 90, 109, 110, 111, 112, 113, 114, 115, 91, 92, 93, 94, 95, 96, 97, 98, 99] (by decide +kernel) (by decide +kernel)
set_option maxRecDepth 20000 in
theorem gX5_readBad_X4_spoil : GoodIn wsX5_readBad (wsV RX5 150 RX4 yX4_spoil wsX4_spoil) := goodIn_app (goodIn_of _ (by decide +kernel)) ggX5_readBad_X4_spoil
theorem dX5_readBad_0 : decode cX5_readBad 0 = .ok (.aload_n 1, 1) := by decide +kernel
theorem dX5_readBad_1 : decode cX5_readBad 1 = .ok (.getfield 135, 3) := by decide +kernel
theorem dX5_readBad_4 : decode cX5_readBad 4 = .ok (.bipush 20, 2) := by decide +kernel
theorem dX5_readBad_6 : decode cX5_readBad 6 = .ok (.if_icmp .lt 9, 3) := by decide +kernel
theorem dX5_readBad_9 : decode cX5_readBad 9 = .ok (.aload_n 0, 1) := by decide +kernel
theorem dX5_readBad_10 : decode cX5_readBad 10 = .ok (.iconst 5, 1) := by decide +kernel
theorem dX5_readBad_11 : decode cX5_readBad 11 = .ok (.invokevirtual 70, 3) := by decide +kernel
theorem dX5_readBad_14 : decode cX5_readBad 14 = .ok (.ireturn, 1) := by decide +kernel
theorem dX5_readBad_15 : decode cX5_readBad 15 = .ok (.aload_n 0, 1) := by decide +kernel
theorem dX5_readBad_16 : decode cX5_readBad 16 = .ok (.iconst 0, 1) := by decide +kernel
theorem dX5_readBad_17 : decode cX5_readBad 17 = .ok (.aload_n 1, 1) := by decide +kernel
theorem dX5_readBad_18 : decode cX5_readBad 18 = .ok (.getfield 124, 3) := by decide +kernel
theorem dX5_readBad_21 : decode cX5_readBad 21 = .ok (.iconst 1, 1) := by decide +kernel
theorem dX5_readBad_22 : decode cX5_readBad 22 = .ok (.isub, 1) := by decide +kernel
theorem dX5_readBad_23 : decode cX5_readBad 23 = .ok (.invokevirtual 107, 3) := by decide +kernel
theorem dX5_readBad_26 : decode cX5_readBad 26 = .ok (.istore_n 2, 1) := by decide +kernel
theorem dX5_readBad_27 : decode cX5_readBad 27 = .ok (.iload_n 2, 1) := by decide +kernel
theorem dX5_readBad_28 : decode cX5_readBad 28 = .ok (.iconst (-1), 1) := by decide +kernel
theorem dX5_readBad_29 : decode cX5_readBad 29 = .ok (.if_icmp .ne 5, 3) := by decide +kernel
theorem dX5_readBad_32 : decode cX5_readBad 32 = .ok (.iconst 0, 1) := by decide +kernel
theorem dX5_readBad_33 : decode cX5_readBad 33 = .ok (.ireturn, 1) := by decide +kernel
theorem dX5_readBad_34 : decode cX5_readBad 34 = .ok (.aload_n 0, 1) := by decide +kernel
theorem dX5_readBad_35 : decode cX5_readBad 35 = .ok (.iconst 0, 1) := by decide +kernel
theorem dX5_readBad_36 : decode cX5_readBad 36 = .ok (.aload_n 1, 1) := by decide +kernel
theorem dX5_readBad_37 : decode cX5_readBad 37 = .ok (.getfield 138, 3) := by decide +kernel
theorem dX5_readBad_40 : decode cX5_readBad 40 = .ok (.iload_n 2, 1) := by decide +kernel
theorem dX5_readBad_41 : decode cX5_readBad 41 = .ok (.aaload, 1) := by decide +kernel
theorem dX5_readBad_42 : decode cX5_readBad 42 = .ok (.getfield 142, 3) := by decide +kernel
theorem dX5_readBad_45 : decode cX5_readBad 45 = .ok (.iconst 1, 1) := by decide +kernel
theorem dX5_readBad_46 : decode cX5_readBad 46 = .ok (.isub, 1) := by decide +kernel
theorem dX5_readBad_47 : decode cX5_readBad 47 = .ok (.invokevirtual 107, 3) := by decide +kernel
theorem dX5_readBad_50 : decode cX5_readBad 50 = .ok (.istore_n 3, 1) := by decide +kernel
theorem dX5_readBad_51 : decode cX5_readBad 51 = .ok (.iload_n 3, 1) := by decide +kernel
theorem dX5_readBad_52 : decode cX5_readBad 52 = .ok (.iconst (-1), 1) := by decide +kernel
theorem dX5_readBad_53 : decode cX5_readBad 53 = .ok (.if_icmp .ne 5, 3) := by decide +kernel
theorem dX5_readBad_56 : decode cX5_readBad 56 = .ok (.iconst 0, 1) := by decide +kernel
theorem dX5_readBad_57 : decode cX5_readBad 57 = .ok (.ireturn, 1) := by decide +kernel
theorem dX5_readBad_58 : decode cX5_readBad 58 = .ok (.aload_n 1, 1) := by decide +kernel
theorem dX5_readBad_59 : decode cX5_readBad 59 = .ok (.getfield 138, 3) := by decide +kernel
theorem dX5_readBad_62 : decode cX5_readBad 62 = .ok (.iload_n 2, 1) := by decide +kernel
theorem dX5_readBad_63 : decode cX5_readBad 63 = .ok (.aaload, 1) := by decide +kernel
theorem dX5_readBad_64 : decode cX5_readBad 64 = .ok (.iload_n 3, 1) := by decide +kernel
theorem dX5_readBad_65 : decode cX5_readBad 65 = .ok (.invokevirtual 147, 3) := by decide +kernel
theorem dX5_readBad_68 : decode cX5_readBad 68 = .ok (.ifCond .eq 9, 3) := by decide +kernel
theorem dX5_readBad_71 : decode cX5_readBad 71 = .ok (.aload_n 0, 1) := by decide +kernel
theorem dX5_readBad_72 : decode cX5_readBad 72 = .ok (.iconst 4, 1) := by decide +kernel
theorem dX5_readBad_73 : decode cX5_readBad 73 = .ok (.invokevirtual 70, 3) := by decide +kernel
theorem dX5_readBad_76 : decode cX5_readBad 76 = .ok (.ireturn, 1) := by decide +kernel
theorem dX5_readBad_77 : decode cX5_readBad 77 = .ok (.aload_n 1, 1) := by decide +kernel
theorem dX5_readBad_78 : decode cX5_readBad 78 = .ok (.iload_n 2, 1) := by decide +kernel
theorem dX5_readBad_79 : decode cX5_readBad 79 = .ok (.iload_n 3, 1) := by decide +kernel
theorem dX5_readBad_80 : decode cX5_readBad 80 = .ok (.invokevirtual 150, 3) := by decide +kernel
theorem dX5_readBad_83 : decode cX5_readBad 83 = .ok (.iconst 1, 1) := by decide +kernel
theorem dX5_readBad_84 : decode cX5_readBad 84 = .ok (.ireturn, 1) := by decide +kernel
set_option maxRecDepth 20000 in
theorem ggX5_readNewFile_X5_fail : GoodIn wsX5_readNewFile wsX5_fail := goodIn_r _ [9, 10, 11, 12, 187, 188, 189, 190, 191, 192, 193, 194, 195] (by decide +kernel) (by decide +kernel)
set_option maxRecDepth 20000 in
theorem gX5_readNewFile_X5_fail : GoodIn wsX5_readNewFile (wsV RX5 70 RX5 yX5_fail wsX5_fail) := goodIn_app (goodIn_of _ (by decide +kernel)) ggX5_readNewFile_X5_fail
set_option maxRecDepth 20000 in
theorem ggX5_readNewFile_X5_nextToken : GoodIn wsX5_readNewFile wsX5_nextToken := goodIn_r _ [16, 17, 11, 18, 19, 2, 20, 21, 22, 8, 23, 24, 25, 26, 27, 187, 188, 189, 190, 191, 192, 193, 194, 195] (by decide +kernel) (by decide +kernel)
set_option maxRecDepth 20000 in
theorem gX5_readNewFile_X5_nextToken : GoodIn wsX5_readNewFile (wsV RX5 46 RX5 yX5_nextToken wsX5_nextToken) := goodIn_app (goodIn_of _ (by decide +kernel)) ggX5_readNewFile_X5_nextToken
set_option maxRecDepth 20000 in
theorem ggX5_readNewFile_X5_isReserved : GoodIn wsX5_readNewFile wsX5_isReserved := goodIn_r _ [31, 32, 33, 34, 8, 35, 2, 17, 11, 19, 36, 37, 38, 39, 40, 41, 42, 43, 44, 45, 46, 47, 48, 49, 50, 51, 52, 53, 54, 55, 56, 57, 58, 59, 60, 61, 62, 63, 64, 65, 66, 67, 68, 69, 70, 71, 72, 73, 74, 75, 76, 77, 78, 79, 80, 81, 82, 83, 84, 187, 188, 189, 190, 191, 192, 193, 194, 195] (by decide +kernel) (by decide +kernel)
set_option maxRecDepth 20000 in
theorem gX5_readNewFile_X5_isReserved : GoodIn wsX5_readNewFile (wsV RX5 157 RX5 yX5_isReserved wsX5_isReserved) := goodIn_app (goodIn_of _ (by decide +kernel)) ggX5_readNewFile_X5_isReserved
set_option maxRecDepth 20000 in
theorem ggX5_readNewFile_X5_failUnexpected : GoodIn wsX5_readNewFile wsX5_failUnexpected := goodIn_r _ [88, 2, 5, 6, 7, 8, 9, 10, 11, 12, 187, 188, 189, 190, 191, 192, 193, 194, 195] (by decide +kernel) (by decide +kernel)
set_option maxRecDepth 20000 in
theorem gX5_readNewFile_X5_failUnexpected : GoodIn wsX5_readNewFile (wsV RX5 104 RX5 yX5_failUnexpected wsX5_failUnexpected) := goodIn_app (goodIn_of _ (by decide +kernel)) ggX5_readNewFile_X5_failUnexpected
set_option maxRecDepth 20000 in
theorem ggX5_readNewFile_X5_keepName : GoodIn wsX5_readNewFile wsX5_keepName := goodIn_r _ [92, 93, 94, 95, 96, 8, 97, 11, 17, 98, 19, 187, 188, 189, 190, 191, 192, 193, 194, 195] (by decide +kernel) (by decide +kernel)
set_option maxRecDepth 20000 in
theorem gX5_readNewFile_X5_keepName : GoodIn wsX5_readNewFile (wsV RX5 160 RX5 yX5_keepName wsX5_keepName) := goodIn_app (goodIn_of _ (by decide +kernel)) ggX5_readNewFile_X5_keepName
set_option maxRecDepth 20000 in
theorem ggX5_readNewFile_X5_readNumber : GoodIn wsX5_readNewFile wsX5_readNumber := goodIn_r _ [102, 2, 13, 14, 15, 8, 16, 17, 11, 18, 19, 20, 21, 22, 23, 24, 25, 26, 27, 85, 86, 87, 88, 5, 6, 7, 9, 10, 12, 103, 104, 105, 106, 187, 188, 189, 190, 191, 192, 193, 194, 195] (by decide +kernel) (by decide +kernel)
set_option maxRecDepth 20000 in
theorem gX5_readNewFile_X5_readNumber : GoodIn wsX5_readNewFile (wsV RX5 107 RX5 yX5_readNumber wsX5_readNumber) := goodIn_app (goodIn_of _ (by decide +kernel)) ggX5_readNewFile_X5_readNumber
set_option maxRecDepth 20000 in
theorem ggX5_readNewFile_X3_canTake : GoodIn wsX5_readNewFile wsX3_canTake := goodIn_r _ [111, 112, 113, 114, 115, 116, 117, 110, 118, 119, 120, 121, 122, 123, 124, 125, 126, 127, 128, 129, 196, 197, 198, 199, 200, 201, 202, 203, 204] (by decide +kernel) (by decide +kernel)
set_option maxRecDepth 20000 in
theorem gX5_readNewFile_X3_canTake : GoodIn wsX5_readNewFile (wsV RX5 163 RX3 yX3_canTake wsX3_canTake) := goodIn_app (goodIn_of _ (by decide +kernel)) ggX5_readNewFile_X3_canTake
set_option maxRecDepth 20000 in
theorem ggX5_readNewFile_X4_addVersion : GoodIn wsX5_readNewFile wsX4_addVersion := goodIn_r _ [134, 135, 136, 137, 138, 139, 140, 141, 142, 143, 144, 145, 146, 147, 148, 149, 150, 133, 151, 152, 153, 154, 155, 156, 157, 158, 122, 123, 110, 124, 120, 125, 126, 127, 128, 129, 159, 160, 161, 162, 112, 113, 163, 164, 114, 165, 166, 167, 168, 169, 170, 171, 172, 173, 174, 175, 176, 177, 178, 179, 180, 181, 182, 183, 184, 185, 186, 205, 206, 207, 208, 209, 210, 211, 196, 197, 198, 199, 200, 201, 202, 203, 204] (by decide +kernel) (by decide +kernel)
set_option maxRecDepth 20000 in
theorem gX5_readNewFile_X4_addVersion : GoodIn wsX5_readNewFile (wsV RX5 166 RX4 yX4_addVersion wsX4_addVersion) := goodIn_app (goodIn_of _ (by decide +kernel)) ggX5_readNewFile_X4_addVersion
theorem dX5_readNewFile_0 : decode cX5_readNewFile 0 = .ok (.aload_n 1, 1) := by decide +kernel
theorem dX5_readNewFile_1 : decode cX5_readNewFile 1 = .ok (.getfield 154, 3) := by decide +kernel
theorem dX5_readNewFile_4 : decode cX5_readNewFile 4 = .ok (.bipush 20, 2) := by decide +kernel
theorem dX5_readNewFile_6 : decode cX5_readNewFile 6 = .ok (.if_icmp .lt 9, 3) := by decide +kernel
theorem dX5_readNewFile_9 : decode cX5_readNewFile 9 = .ok (.aload_n 0, 1) := by decide +kernel
theorem dX5_readNewFile_10 : decode cX5_readNewFile 10 = .ok (.iconst 5, 1) := by decide +kernel
theorem dX5_readNewFile_11 : decode cX5_readNewFile 11 = .ok (.invokevirtual 70, 3) := by decide +kernel
theorem dX5_readNewFile_14 : decode cX5_readNewFile 14 = .ok (.ireturn, 1) := by decide +kernel
theorem dX5_readNewFile_15 : decode cX5_readNewFile 15 = .ok (.aload_n 0, 1) := by decide +kernel
theorem dX5_readNewFile_16 : decode cX5_readNewFile 16 = .ok (.invokevirtual 46, 3) := by decide +kernel
theorem dX5_readNewFile_19 : decode cX5_readNewFile 19 = .ok (.aload_n 0, 1) := by decide +kernel
theorem dX5_readNewFile_20 : decode cX5_readNewFile 20 = .ok (.getfield 49, 3) := by decide +kernel
theorem dX5_readNewFile_23 : decode cX5_readNewFile 23 = .ok (.iconst 2, 1) := by decide +kernel
theorem dX5_readNewFile_24 : decode cX5_readNewFile 24 = .ok (.if_icmp .ne 10, 3) := by decide +kernel
theorem dX5_readNewFile_27 : decode cX5_readNewFile 27 = .ok (.aload_n 0, 1) := by decide +kernel
theorem dX5_readNewFile_28 : decode cX5_readNewFile 28 = .ok (.invokevirtual 157, 3) := by decide +kernel
theorem dX5_readNewFile_31 : decode cX5_readNewFile 31 = .ok (.ifCond .eq 8, 3) := by decide +kernel
theorem dX5_readNewFile_34 : decode cX5_readNewFile 34 = .ok (.aload_n 0, 1) := by decide +kernel
theorem dX5_readNewFile_35 : decode cX5_readNewFile 35 = .ok (.invokevirtual 104, 3) := by decide +kernel
theorem dX5_readNewFile_38 : decode cX5_readNewFile 38 = .ok (.ireturn, 1) := by decide +kernel
theorem dX5_readNewFile_39 : decode cX5_readNewFile 39 = .ok (.aload_n 0, 1) := by decide +kernel
theorem dX5_readNewFile_40 : decode cX5_readNewFile 40 = .ok (.aload_n 1, 1) := by decide +kernel
theorem dX5_readNewFile_41 : decode cX5_readNewFile 41 = .ok (.getfield 154, 3) := by decide +kernel
theorem dX5_readNewFile_44 : decode cX5_readNewFile 44 = .ok (.invokevirtual 160, 3) := by decide +kernel
theorem dX5_readNewFile_47 : decode cX5_readNewFile 47 = .ok (.ifCond .ne 9, 3) := by decide +kernel
theorem dX5_readNewFile_50 : decode cX5_readNewFile 50 = .ok (.aload_n 0, 1) := by decide +kernel
theorem dX5_readNewFile_51 : decode cX5_readNewFile 51 = .ok (.iconst 4, 1) := by decide +kernel
theorem dX5_readNewFile_52 : decode cX5_readNewFile 52 = .ok (.invokevirtual 70, 3) := by decide +kernel
theorem dX5_readNewFile_55 : decode cX5_readNewFile 55 = .ok (.ireturn, 1) := by decide +kernel
theorem dX5_readNewFile_56 : decode cX5_readNewFile 56 = .ok (.aload_n 0, 1) := by decide +kernel
theorem dX5_readNewFile_57 : decode cX5_readNewFile 57 = .ok (.iconst 1, 1) := by decide +kernel
theorem dX5_readNewFile_58 : decode cX5_readNewFile 58 = .ok (.sipush 300, 3) := by decide +kernel
theorem dX5_readNewFile_61 : decode cX5_readNewFile 61 = .ok (.invokevirtual 107, 3) := by decide +kernel
theorem dX5_readNewFile_64 : decode cX5_readNewFile 64 = .ok (.istore_n 2, 1) := by decide +kernel
theorem dX5_readNewFile_65 : decode cX5_readNewFile 65 = .ok (.iload_n 2, 1) := by decide +kernel
theorem dX5_readNewFile_66 : decode cX5_readNewFile 66 = .ok (.iconst (-1), 1) := by decide +kernel
theorem dX5_readNewFile_67 : decode cX5_readNewFile 67 = .ok (.if_icmp .ne 5, 3) := by decide +kernel
theorem dX5_readNewFile_70 : decode cX5_readNewFile 70 = .ok (.iconst 0, 1) := by decide +kernel
theorem dX5_readNewFile_71 : decode cX5_readNewFile 71 = .ok (.ireturn, 1) := by decide +kernel
theorem dX5_readNewFile_72 : decode cX5_readNewFile 72 = .ok (.aload_n 0, 1) := by decide +kernel
theorem dX5_readNewFile_73 : decode cX5_readNewFile 73 = .ok (.iconst 0, 1) := by decide +kernel
theorem dX5_readNewFile_74 : decode cX5_readNewFile 74 = .ok (.aload_n 1, 1) := by decide +kernel
theorem dX5_readNewFile_75 : decode cX5_readNewFile 75 = .ok (.getfield 124, 3) := by decide +kernel
theorem dX5_readNewFile_78 : decode cX5_readNewFile 78 = .ok (.iconst 1, 1) := by decide +kernel
theorem dX5_readNewFile_79 : decode cX5_readNewFile 79 = .ok (.isub, 1) := by decide +kernel
theorem dX5_readNewFile_80 : decode cX5_readNewFile 80 = .ok (.invokevirtual 107, 3) := by decide +kernel
theorem dX5_readNewFile_83 : decode cX5_readNewFile 83 = .ok (.istore_n 3, 1) := by decide +kernel
theorem dX5_readNewFile_84 : decode cX5_readNewFile 84 = .ok (.iload_n 3, 1) := by decide +kernel
theorem dX5_readNewFile_85 : decode cX5_readNewFile 85 = .ok (.iconst (-1), 1) := by decide +kernel
theorem dX5_readNewFile_86 : decode cX5_readNewFile 86 = .ok (.if_icmp .ne 5, 3) := by decide +kernel
theorem dX5_readNewFile_89 : decode cX5_readNewFile 89 = .ok (.iconst 0, 1) := by decide +kernel
theorem dX5_readNewFile_90 : decode cX5_readNewFile 90 = .ok (.ireturn, 1) := by decide +kernel
theorem dX5_readNewFile_91 : decode cX5_readNewFile 91 = .ok (.aload_n 1, 1) := by decide +kernel
theorem dX5_readNewFile_92 : decode cX5_readNewFile 92 = .ok (.getfield 138, 3) := by decide +kernel
theorem dX5_readNewFile_95 : decode cX5_readNewFile 95 = .ok (.iload_n 3, 1) := by decide +kernel
theorem dX5_readNewFile_96 : decode cX5_readNewFile 96 = .ok (.aaload, 1) := by decide +kernel
theorem dX5_readNewFile_97 : decode cX5_readNewFile 97 = .ok (.iload_n 2, 1) := by decide +kernel
theorem dX5_readNewFile_98 : decode cX5_readNewFile 98 = .ok (.invokevirtual 163, 3) := by decide +kernel
theorem dX5_readNewFile_101 : decode cX5_readNewFile 101 = .ok (.ifCond .ne 10, 3) := by decide +kernel
theorem dX5_readNewFile_104 : decode cX5_readNewFile 104 = .ok (.aload_n 0, 1) := by decide +kernel
theorem dX5_readNewFile_105 : decode cX5_readNewFile 105 = .ok (.bipush 6, 2) := by decide +kernel
theorem dX5_readNewFile_107 : decode cX5_readNewFile 107 = .ok (.invokevirtual 70, 3) := by decide +kernel
theorem dX5_readNewFile_110 : decode cX5_readNewFile 110 = .ok (.ireturn, 1) := by decide +kernel
theorem dX5_readNewFile_111 : decode cX5_readNewFile 111 = .ok (.aload_n 1, 1) := by decide +kernel
theorem dX5_readNewFile_112 : decode cX5_readNewFile 112 = .ok (.dup, 1) := by decide +kernel
theorem dX5_readNewFile_113 : decode cX5_readNewFile 113 = .ok (.getfield 154, 3) := by decide +kernel
theorem dX5_readNewFile_116 : decode cX5_readNewFile 116 = .ok (.iconst 1, 1) := by decide +kernel
theorem dX5_readNewFile_117 : decode cX5_readNewFile 117 = .ok (.iadd, 1) := by decide +kernel
theorem dX5_readNewFile_118 : decode cX5_readNewFile 118 = .ok (.putfield 154, 3) := by decide +kernel
theorem dX5_readNewFile_121 : decode cX5_readNewFile 121 = .ok (.aload_n 1, 1) := by decide +kernel
theorem dX5_readNewFile_122 : decode cX5_readNewFile 122 = .ok (.aload_n 1, 1) := by decide +kernel
theorem dX5_readNewFile_123 : decode cX5_readNewFile 123 = .ok (.getfield 154, 3) := by decide +kernel
theorem dX5_readNewFile_126 : decode cX5_readNewFile 126 = .ok (.iconst 1, 1) := by decide +kernel
theorem dX5_readNewFile_127 : decode cX5_readNewFile 127 = .ok (.isub, 1) := by decide +kernel
theorem dX5_readNewFile_128 : decode cX5_readNewFile 128 = .ok (.iload_n 2, 1) := by decide +kernel
theorem dX5_readNewFile_129 : decode cX5_readNewFile 129 = .ok (.iload_n 3, 1) := by decide +kernel
theorem dX5_readNewFile_130 : decode cX5_readNewFile 130 = .ok (.invokevirtual 166, 3) := by decide +kernel
theorem dX5_readNewFile_133 : decode cX5_readNewFile 133 = .ok (.iconst 1, 1) := by decide +kernel
theorem dX5_readNewFile_134 : decode cX5_readNewFile 134 = .ok (.ireturn, 1) := by decide +kernel
set_option maxRecDepth 20000 in
theorem ggX5_readClose_X5_readNumber : GoodIn wsX5_readClose wsX5_readNumber := goodIn_r _ [8, 9, 10, 11, 12, 7, 13, 14, 15, 16, 17, 18, 19, 20, 21, 22, 23, 24, 25, 26, 27, 28, 29, 30, 31, 32, 33, 34, 35, 36, 37, 38, 39, 89, 90, 91, 92, 93, 94, 95, 96, 97] (by decide +kernel) (by decide +kernel)
set_option maxRecDepth 20000 in
theorem gX5_readClose_X5_readNumber : GoodIn wsX5_readClose (wsV RX5 107 RX5 yX5_readNumber wsX5_readNumber) := goodIn_app (goodIn_of _ (by decide +kernel)) ggX5_readClose_X5_readNumber
set_option maxRecDepth 20000 in
theorem ggX5_readClose_X5_fail : GoodIn wsX5_readClose wsX5_fail := goodIn_r _ [33, 34, 15, 35, 89, 90, 91, 92, 93, 94, 95, 96, 97] (by decide +kernel) (by decide +kernel)
set_option maxRecDepth 20000 in
theorem gX5_readClose_X5_fail : GoodIn wsX5_readClose (wsV RX5 70 RX5 yX5_fail wsX5_fail) := goodIn_app (goodIn_of _ (by decide +kernel)) ggX5_readClose_X5_fail
set_option maxRecDepth 20000 in
theorem ggX5_readClose_X3_addLeadOut : GoodIn wsX5_readClose wsX3_addLeadOut := goodIn_r _ [44, 45, 46, 47, 48, 49, 50, 51, 52, 43, 53, 54, 55, 56, 57, 58, 59, 60, 61, 80, 81, 82, 83, 84, 85, 86, 87, 88] (by decide +kernel) (by decide +kernel)
set_option maxRecDepth 20000 in
theorem gX5_readClose_X3_addLeadOut : GoodIn wsX5_readClose (wsV RX5 173 RX3 yX3_addLeadOut wsX3_addLeadOut) := goodIn_app (goodIn_of _ (by decide +kernel)) ggX5_readClose_X3_addLeadOut
theorem dX5_readClose_0 : decode cX5_readClose 0 = .ok (.aload_n 0, 1) := by decide +kernel
theorem dX5_readClose_1 : decode cX5_readClose 1 = .ok (.iconst 0, 1) := by decide +kernel
theorem dX5_readClose_2 : decode cX5_readClose 2 = .ok (.aload_n 1, 1) := by decide +kernel
theorem dX5_readClose_3 : decode cX5_readClose 3 = .ok (.getfield 124, 3) := by decide +kernel
theorem dX5_readClose_6 : decode cX5_readClose 6 = .ok (.iconst 1, 1) := by decide +kernel
theorem dX5_readClose_7 : decode cX5_readClose 7 = .ok (.isub, 1) := by decide +kernel
theorem dX5_readClose_8 : decode cX5_readClose 8 = .ok (.invokevirtual 107, 3) := by decide +kernel
theorem dX5_readClose_11 : decode cX5_readClose 11 = .ok (.istore_n 2, 1) := by decide +kernel
theorem dX5_readClose_12 : decode cX5_readClose 12 = .ok (.iload_n 2, 1) := by decide +kernel
theorem dX5_readClose_13 : decode cX5_readClose 13 = .ok (.iconst (-1), 1) := by decide +kernel
theorem dX5_readClose_14 : decode cX5_readClose 14 = .ok (.if_icmp .ne 5, 3) := by decide +kernel
theorem dX5_readClose_17 : decode cX5_readClose 17 = .ok (.iconst 0, 1) := by decide +kernel
theorem dX5_readClose_18 : decode cX5_readClose 18 = .ok (.ireturn, 1) := by decide +kernel
theorem dX5_readClose_19 : decode cX5_readClose 19 = .ok (.aload_n 1, 1) := by decide +kernel
theorem dX5_readClose_20 : decode cX5_readClose 20 = .ok (.getfield 138, 3) := by decide +kernel
theorem dX5_readClose_23 : decode cX5_readClose 23 = .ok (.iload_n 2, 1) := by decide +kernel
theorem dX5_readClose_24 : decode cX5_readClose 24 = .ok (.aaload, 1) := by decide +kernel
theorem dX5_readClose_25 : decode cX5_readClose 25 = .ok (.getfield 169, 3) := by decide +kernel
theorem dX5_readClose_28 : decode cX5_readClose 28 = .ok (.ifCond .ne 10, 3) := by decide +kernel
theorem dX5_readClose_31 : decode cX5_readClose 31 = .ok (.aload_n 0, 1) := by decide +kernel
theorem dX5_readClose_32 : decode cX5_readClose 32 = .ok (.bipush 6, 2) := by decide +kernel
theorem dX5_readClose_34 : decode cX5_readClose 34 = .ok (.invokevirtual 70, 3) := by decide +kernel
theorem dX5_readClose_37 : decode cX5_readClose 37 = .ok (.ireturn, 1) := by decide +kernel
theorem dX5_readClose_38 : decode cX5_readClose 38 = .ok (.aload_n 1, 1) := by decide +kernel
theorem dX5_readClose_39 : decode cX5_readClose 39 = .ok (.getfield 138, 3) := by decide +kernel
theorem dX5_readClose_42 : decode cX5_readClose 42 = .ok (.iload_n 2, 1) := by decide +kernel
theorem dX5_readClose_43 : decode cX5_readClose 43 = .ok (.aaload, 1) := by decide +kernel
theorem dX5_readClose_44 : decode cX5_readClose 44 = .ok (.invokevirtual 173, 3) := by decide +kernel
theorem dX5_readClose_47 : decode cX5_readClose 47 = .ok (.pop, 1) := by decide +kernel
theorem dX5_readClose_48 : decode cX5_readClose 48 = .ok (.iconst 1, 1) := by decide +kernel
theorem dX5_readClose_49 : decode cX5_readClose 49 = .ok (.ireturn, 1) := by decide +kernel
set_option maxRecDepth 20000 in
theorem ggX5_keepName_X5_wordNumber : GoodIn wsX5_keepName wsX5_wordNumber := goodIn_r _ [6, 7, 8, 9, 10, 11, 12, 13, 14, 15, 16, 17, 18, 19] (by decide +kernel) (by decide +kernel)
set_option maxRecDepth 20000 in
theorem gX5_keepName_X5_wordNumber : GoodIn wsX5_keepName (wsV RX5 177 RX5 yX5_wordNumber wsX5_wordNumber) := goodIn_app (goodIn_of _ (by decide +kernel)) ggX5_keepName_X5_wordNumber
theorem dX5_keepName_0 : decode cX5_keepName 0 = .ok (.aload_n 0, 1) := by decide +kernel
theorem dX5_keepName_1 : decode cX5_keepName 1 = .ok (.invokevirtual 177, 3) := by decide +kernel
theorem dX5_keepName_4 : decode cX5_keepName 4 = .ok (.lstore_n 2, 1) := by decide +kernel
theorem dX5_keepName_5 : decode cX5_keepName 5 = .ok (.iconst 0, 1) := by decide +kernel
theorem dX5_keepName_6 : decode cX5_keepName 6 = .ok (.istore 4, 2) := by decide +kernel
theorem dX5_keepName_8 : decode cX5_keepName 8 = .ok (.iload 4, 2) := by decide +kernel
theorem dX5_keepName_10 : decode cX5_keepName 10 = .ok (.iload_n 1, 1) := by decide +kernel
theorem dX5_keepName_11 : decode cX5_keepName 11 = .ok (.if_icmp .ge 23, 3) := by decide +kernel
theorem dX5_keepName_14 : decode cX5_keepName 14 = .ok (.aload_n 0, 1) := by decide +kernel
theorem dX5_keepName_15 : decode cX5_keepName 15 = .ok (.getfield 15, 3) := by decide +kernel
theorem dX5_keepName_18 : decode cX5_keepName 18 = .ok (.iload 4, 2) := by decide +kernel
theorem dX5_keepName_20 : decode cX5_keepName 20 = .ok (.laload, 1) := by decide +kernel
theorem dX5_keepName_21 : decode cX5_keepName 21 = .ok (.lload_n 2, 1) := by decide +kernel
theorem dX5_keepName_22 : decode cX5_keepName 22 = .ok (.lcmp, 1) := by decide +kernel
theorem dX5_keepName_23 : decode cX5_keepName 23 = .ok (.ifCond .ne 5, 3) := by decide +kernel
theorem dX5_keepName_26 : decode cX5_keepName 26 = .ok (.iconst 0, 1) := by decide +kernel
theorem dX5_keepName_27 : decode cX5_keepName 27 = .ok (.ireturn, 1) := by decide +kernel
theorem dX5_keepName_28 : decode cX5_keepName 28 = .ok (.iinc 4 1, 3) := by decide +kernel
theorem dX5_keepName_31 : decode cX5_keepName 31 = .ok (.goto (-23), 3) := by decide +kernel
theorem dX5_keepName_34 : decode cX5_keepName 34 = .ok (.aload_n 0, 1) := by decide +kernel
theorem dX5_keepName_35 : decode cX5_keepName 35 = .ok (.getfield 15, 3) := by decide +kernel
theorem dX5_keepName_38 : decode cX5_keepName 38 = .ok (.iload_n 1, 1) := by decide +kernel
theorem dX5_keepName_39 : decode cX5_keepName 39 = .ok (.lload_n 2, 1) := by decide +kernel
theorem dX5_keepName_40 : decode cX5_keepName 40 = .ok (.lastore, 1) := by decide +kernel
theorem dX5_keepName_41 : decode cX5_keepName 41 = .ok (.iconst 1, 1) := by decide +kernel
theorem dX5_keepName_42 : decode cX5_keepName 42 = .ok (.ireturn, 1) := by decide +kernel
set_option maxRecDepth 20000 in
theorem ggX5_isReserved_X5_wordIs : GoodIn wsX5_isReserved wsX5_wordIs := goodIn_r _ [5, 6, 7, 8, 9, 10, 11, 12, 13, 14, 15, 16, 17, 18, 19, 20, 21, 22, 23, 24, 25, 26, 27, 28, 29, 30, 31, 32, 33, 34, 35, 36, 37, 38, 39, 40, 41, 42, 43, 44, 45, 46, 47, 48, 49, 50, 51, 52, 53, 54, 55, 56, 57, 58, 59, 60, 61, 62, 63, 64, 65, 66, 67] (by decide +kernel) (by decide +kernel)
set_option maxRecDepth 20000 in
theorem gX5_isReserved_X5_wordIs : GoodIn wsX5_isReserved (wsV RX5 62 RX5 yX5_wordIs wsX5_wordIs) := goodIn_app (goodIn_of _ (by decide +kernel)) ggX5_isReserved_X5_wordIs
theorem dX5_isReserved_0 : decode cX5_isReserved 0 = .ok (.aload_n 0, 1) := by decide +kernel
theorem dX5_isReserved_1 : decode cX5_isReserved 1 = .ok (.ldc 60, 2) := by decide +kernel
theorem dX5_isReserved_3 : decode cX5_isReserved 3 = .ok (.invokevirtual 62, 3) := by decide +kernel
theorem dX5_isReserved_6 : decode cX5_isReserved 6 = .ok (.ifCond .ne 57, 3) := by decide +kernel
theorem dX5_isReserved_9 : decode cX5_isReserved 9 = .ok (.aload_n 0, 1) := by decide +kernel
theorem dX5_isReserved_10 : decode cX5_isReserved 10 = .ok (.ldc 74, 2) := by decide +kernel
theorem dX5_isReserved_12 : decode cX5_isReserved 12 = .ok (.invokevirtual 62, 3) := by decide +kernel
theorem dX5_isReserved_15 : decode cX5_isReserved 15 = .ok (.ifCond .ne 48, 3) := by decide +kernel
theorem dX5_isReserved_18 : decode cX5_isReserved 18 = .ok (.aload_n 0, 1) := by decide +kernel
theorem dX5_isReserved_19 : decode cX5_isReserved 19 = .ok (.ldc 79, 2) := by decide +kernel
theorem dX5_isReserved_21 : decode cX5_isReserved 21 = .ok (.invokevirtual 62, 3) := by decide +kernel
theorem dX5_isReserved_24 : decode cX5_isReserved 24 = .ok (.ifCond .ne 39, 3) := by decide +kernel
theorem dX5_isReserved_27 : decode cX5_isReserved 27 = .ok (.aload_n 0, 1) := by decide +kernel
theorem dX5_isReserved_28 : decode cX5_isReserved 28 = .ok (.ldc 84, 2) := by decide +kernel
theorem dX5_isReserved_30 : decode cX5_isReserved 30 = .ok (.invokevirtual 62, 3) := by decide +kernel
theorem dX5_isReserved_33 : decode cX5_isReserved 33 = .ok (.ifCond .ne 30, 3) := by decide +kernel
theorem dX5_isReserved_36 : decode cX5_isReserved 36 = .ok (.aload_n 0, 1) := by decide +kernel
theorem dX5_isReserved_37 : decode cX5_isReserved 37 = .ok (.ldc 89, 2) := by decide +kernel
theorem dX5_isReserved_39 : decode cX5_isReserved 39 = .ok (.invokevirtual 62, 3) := by decide +kernel
theorem dX5_isReserved_42 : decode cX5_isReserved 42 = .ok (.ifCond .ne 21, 3) := by decide +kernel
theorem dX5_isReserved_45 : decode cX5_isReserved 45 = .ok (.aload_n 0, 1) := by decide +kernel
theorem dX5_isReserved_46 : decode cX5_isReserved 46 = .ok (.ldc 94, 2) := by decide +kernel
theorem dX5_isReserved_48 : decode cX5_isReserved 48 = .ok (.invokevirtual 62, 3) := by decide +kernel
theorem dX5_isReserved_51 : decode cX5_isReserved 51 = .ok (.ifCond .ne 12, 3) := by decide +kernel
theorem dX5_isReserved_54 : decode cX5_isReserved 54 = .ok (.aload_n 0, 1) := by decide +kernel
theorem dX5_isReserved_55 : decode cX5_isReserved 55 = .ok (.ldc 99, 2) := by decide +kernel
theorem dX5_isReserved_57 : decode cX5_isReserved 57 = .ok (.invokevirtual 62, 3) := by decide +kernel
theorem dX5_isReserved_60 : decode cX5_isReserved 60 = .ok (.ifCond .eq 7, 3) := by decide +kernel
theorem dX5_isReserved_63 : decode cX5_isReserved 63 = .ok (.iconst 1, 1) := by decide +kernel
theorem dX5_isReserved_64 : decode cX5_isReserved 64 = .ok (.goto 4, 3) := by decide +kernel
theorem dX5_isReserved_67 : decode cX5_isReserved 67 = .ok (.iconst 0, 1) := by decide +kernel
theorem dX5_isReserved_68 : decode cX5_isReserved 68 = .ok (.ireturn, 1) := by decide +kernel
set_option maxRecDepth 20000 in
theorem ggX5_readNumber_X5_nextToken : GoodIn wsX5_readNumber wsX5_nextToken := goodIn_r _ [6, 7, 8, 9, 10, 1, 11, 12, 13, 5, 14, 15, 16, 17, 18, 33, 34, 35, 36, 37, 38, 39, 40, 41] (by decide +kernel) (by decide +kernel)
set_option maxRecDepth 20000 in
theorem gX5_readNumber_X5_nextToken : GoodIn wsX5_readNumber (wsV RX5 46 RX5 yX5_nextToken wsX5_nextToken) := goodIn_app (goodIn_of _ (by decide +kernel)) ggX5_readNumber_X5_nextToken
set_option maxRecDepth 20000 in
theorem ggX5_readNumber_X5_failUnexpected : GoodIn wsX5_readNumber wsX5_failUnexpected := goodIn_r _ [22, 1, 23, 24, 25, 5, 26, 27, 8, 28, 33, 34, 35, 36, 37, 38, 39, 40, 41] (by decide +kernel) (by decide +kernel)
set_option maxRecDepth 20000 in
theorem gX5_readNumber_X5_failUnexpected : GoodIn wsX5_readNumber (wsV RX5 104 RX5 yX5_failUnexpected wsX5_failUnexpected) := goodIn_app (goodIn_of _ (by decide +kernel)) ggX5_readNumber_X5_failUnexpected
set_option maxRecDepth 20000 in
theorem ggX5_readNumber_X5_tokenValue : GoodIn wsX5_readNumber wsX5_tokenValue := goodIn_r _ [32, 8, 7, 10, 33, 34, 35, 36, 37, 38, 39, 40, 41] (by decide +kernel) (by decide +kernel)
set_option maxRecDepth 20000 in
theorem gX5_readNumber_X5_tokenValue : GoodIn wsX5_readNumber (wsV RX5 181 RX5 yX5_tokenValue wsX5_tokenValue) := goodIn_app (goodIn_of _ (by decide +kernel)) ggX5_readNumber_X5_tokenValue
set_option maxRecDepth 20000 in
theorem ggX5_readNumber_X5_fail : GoodIn wsX5_readNumber wsX5_fail := goodIn_r _ [26, 27, 8, 28, 33, 34, 35, 36, 37, 38, 39, 40, 41] (by decide +kernel) (by decide +kernel)
set_option maxRecDepth 20000 in
theorem gX5_readNumber_X5_fail : GoodIn wsX5_readNumber (wsV RX5 70 RX5 yX5_fail wsX5_fail) := goodIn_app (goodIn_of _ (by decide +kernel)) ggX5_readNumber_X5_fail
theorem dX5_readNumber_0 : decode cX5_readNumber 0 = .ok (.aload_n 0, 1) := by decide +kernel
theorem dX5_readNumber_1 : decode cX5_readNumber 1 = .ok (.invokevirtual 46, 3) := by decide +kernel
theorem dX5_readNumber_4 : decode cX5_readNumber 4 = .ok (.aload_n 0, 1) := by decide +kernel
theorem dX5_readNumber_5 : decode cX5_readNumber 5 = .ok (.getfield 49, 3) := by decide +kernel
theorem dX5_readNumber_8 : decode cX5_readNumber 8 = .ok (.iconst 3, 1) := by decide +kernel
theorem dX5_readNumber_9 : decode cX5_readNumber 9 = .ok (.if_icmp .eq 10, 3) := by decide +kernel
theorem dX5_readNumber_12 : decode cX5_readNumber 12 = .ok (.aload_n 0, 1) := by decide +kernel
theorem dX5_readNumber_13 : decode cX5_readNumber 13 = .ok (.invokevirtual 104, 3) := by decide +kernel
theorem dX5_readNumber_16 : decode cX5_readNumber 16 = .ok (.pop, 1) := by decide +kernel
theorem dX5_readNumber_17 : decode cX5_readNumber 17 = .ok (.iconst (-1), 1) := by decide +kernel
theorem dX5_readNumber_18 : decode cX5_readNumber 18 = .ok (.ireturn, 1) := by decide +kernel
theorem dX5_readNumber_19 : decode cX5_readNumber 19 = .ok (.aload_n 0, 1) := by decide +kernel
theorem dX5_readNumber_20 : decode cX5_readNumber 20 = .ok (.invokevirtual 181, 3) := by decide +kernel
theorem dX5_readNumber_23 : decode cX5_readNumber 23 = .ok (.istore_n 3, 1) := by decide +kernel
theorem dX5_readNumber_24 : decode cX5_readNumber 24 = .ok (.iload_n 3, 1) := by decide +kernel
theorem dX5_readNumber_25 : decode cX5_readNumber 25 = .ok (.iload_n 1, 1) := by decide +kernel
theorem dX5_readNumber_26 : decode cX5_readNumber 26 = .ok (.if_icmp .lt 8, 3) := by decide +kernel
theorem dX5_readNumber_29 : decode cX5_readNumber 29 = .ok (.iload_n 3, 1) := by decide +kernel
theorem dX5_readNumber_30 : decode cX5_readNumber 30 = .ok (.iload_n 2, 1) := by decide +kernel
theorem dX5_readNumber_31 : decode cX5_readNumber 31 = .ok (.if_icmp .le 11, 3) := by decide +kernel
theorem dX5_readNumber_34 : decode cX5_readNumber 34 = .ok (.aload_n 0, 1) := by decide +kernel
theorem dX5_readNumber_35 : decode cX5_readNumber 35 = .ok (.iconst 3, 1) := by decide +kernel
theorem dX5_readNumber_36 : decode cX5_readNumber 36 = .ok (.invokevirtual 70, 3) := by decide +kernel
theorem dX5_readNumber_39 : decode cX5_readNumber 39 = .ok (.pop, 1) := by decide +kernel
theorem dX5_readNumber_40 : decode cX5_readNumber 40 = .ok (.iconst (-1), 1) := by decide +kernel
theorem dX5_readNumber_41 : decode cX5_readNumber 41 = .ok (.ireturn, 1) := by decide +kernel
theorem dX5_readNumber_42 : decode cX5_readNumber 42 = .ok (.iload_n 3, 1) := by decide +kernel
theorem dX5_readNumber_43 : decode cX5_readNumber 43 = .ok (.ireturn, 1) := by decide +kernel
set_option maxRecDepth 20000 in
theorem ggX5_readSemicolon_X5_nextToken : GoodIn wsX5_readSemicolon wsX5_nextToken := goodIn_r _ [6, 7, 8, 9, 10, 1, 11, 12, 13, 5, 14, 15, 16, 17, 18, 29, 30, 31, 32, 33, 34, 35, 36, 37] (by decide +kernel) (by decide +kernel)
set_option maxRecDepth 20000 in
theorem gX5_readSemicolon_X5_nextToken : GoodIn wsX5_readSemicolon (wsV RX5 46 RX5 yX5_nextToken wsX5_nextToken) := goodIn_app (goodIn_of _ (by decide +kernel)) ggX5_readSemicolon_X5_nextToken
set_option maxRecDepth 20000 in
theorem ggX5_readSemicolon_X5_failUnexpected : GoodIn wsX5_readSemicolon wsX5_failUnexpected := goodIn_r _ [22, 1, 23, 24, 25, 5, 26, 27, 8, 28, 29, 30, 31, 32, 33, 34, 35, 36, 37] (by decide +kernel) (by decide +kernel)
set_option maxRecDepth 20000 in
theorem gX5_readSemicolon_X5_failUnexpected : GoodIn wsX5_readSemicolon (wsV RX5 104 RX5 yX5_failUnexpected wsX5_failUnexpected) := goodIn_app (goodIn_of _ (by decide +kernel)) ggX5_readSemicolon_X5_failUnexpected
theorem dX5_readSemicolon_0 : decode cX5_readSemicolon 0 = .ok (.aload_n 0, 1) := by decide +kernel
theorem dX5_readSemicolon_1 : decode cX5_readSemicolon 1 = .ok (.invokevirtual 46, 3) := by decide +kernel
theorem dX5_readSemicolon_4 : decode cX5_readSemicolon 4 = .ok (.aload_n 0, 1) := by decide +kernel
theorem dX5_readSemicolon_5 : decode cX5_readSemicolon 5 = .ok (.getfield 49, 3) := by decide +kernel
theorem dX5_readSemicolon_8 : decode cX5_readSemicolon 8 = .ok (.iconst 4, 1) := by decide +kernel
theorem dX5_readSemicolon_9 : decode cX5_readSemicolon 9 = .ok (.if_icmp .ne 5, 3) := by decide +kernel
theorem dX5_readSemicolon_12 : decode cX5_readSemicolon 12 = .ok (.iconst 1, 1) := by decide +kernel
theorem dX5_readSemicolon_13 : decode cX5_readSemicolon 13 = .ok (.ireturn, 1) := by decide +kernel
theorem dX5_readSemicolon_14 : decode cX5_readSemicolon 14 = .ok (.aload_n 0, 1) := by decide +kernel
theorem dX5_readSemicolon_15 : decode cX5_readSemicolon 15 = .ok (.invokevirtual 104, 3) := by decide +kernel
theorem dX5_readSemicolon_18 : decode cX5_readSemicolon 18 = .ok (.ireturn, 1) := by decide +kernel
set_option maxRecDepth 20000 in
theorem ggX5_failUnexpected_X5_fail : GoodIn wsX5_failUnexpected wsX5_fail := goodIn_r _ [6, 7, 8, 9, 10, 11, 12, 13, 14, 15, 16, 17, 18] (by decide +kernel) (by decide +kernel)
set_option maxRecDepth 20000 in
theorem gX5_failUnexpected_X5_fail : GoodIn wsX5_failUnexpected (wsV RX5 70 RX5 yX5_fail wsX5_fail) := goodIn_app (goodIn_of _ (by decide +kernel)) ggX5_failUnexpected_X5_fail
theorem dX5_failUnexpected_0 : decode cX5_failUnexpected 0 = .ok (.aload_n 0, 1) := by decide +kernel
theorem dX5_failUnexpected_1 : decode cX5_failUnexpected 1 = .ok (.aload_n 0, 1) := by decide +kernel
theorem dX5_failUnexpected_2 : decode cX5_failUnexpected 2 = .ok (.getfield 49, 3) := by decide +kernel
theorem dX5_failUnexpected_5 : decode cX5_failUnexpected 5 = .ok (.iconst 1, 1) := by decide +kernel
theorem dX5_failUnexpected_6 : decode cX5_failUnexpected 6 = .ok (.if_icmp .ne 7, 3) := by decide +kernel
theorem dX5_failUnexpected_9 : decode cX5_failUnexpected 9 = .ok (.iconst 1, 1) := by decide +kernel
theorem dX5_failUnexpected_10 : decode cX5_failUnexpected 10 = .ok (.goto 4, 3) := by decide +kernel
theorem dX5_failUnexpected_13 : decode cX5_failUnexpected 13 = .ok (.iconst 2, 1) := by decide +kernel
theorem dX5_failUnexpected_14 : decode cX5_failUnexpected 14 = .ok (.invokevirtual 70, 3) := by decide +kernel
theorem dX5_failUnexpected_17 : decode cX5_failUnexpected 17 = .ok (.ireturn, 1) := by decide +kernel
theorem dX5_fail_0 : decode cX5_fail 0 = .ok (.aload_n 0, 1) := by decide +kernel
theorem dX5_fail_1 : decode cX5_fail 1 = .ok (.iload_n 1, 1) := by decide +kernel
theorem dX5_fail_2 : decode cX5_fail 2 = .ok (.putfield 35, 3) := by decide +kernel
theorem dX5_fail_5 : decode cX5_fail 5 = .ok (.aload_n 0, 1) := by decide +kernel
theorem dX5_fail_6 : decode cX5_fail 6 = .ok (.aload_n 0, 1) := by decide +kernel
theorem dX5_fail_7 : decode cX5_fail 7 = .ok (.getfield 184, 3) := by decide +kernel
theorem dX5_fail_10 : decode cX5_fail 10 = .ok (.putfield 38, 3) := by decide +kernel
theorem dX5_fail_13 : decode cX5_fail 13 = .ok (.iconst 0, 1) := by decide +kernel
theorem dX5_fail_14 : decode cX5_fail 14 = .ok (.ireturn, 1) := by decide +kernel
set_option maxRecDepth 20000 in
theorem ggX5_nextToken_X5_isBetween : GoodIn wsX5_nextToken wsX5_isBetween := goodIn_r _ [10, 4, 15, 16, 17, 18, 19, 20, 21, 22, 23] (by decide +kernel) (by decide +kernel)
set_option maxRecDepth 20000 in
theorem gX5_nextToken_X5_isBetween : GoodIn wsX5_nextToken (wsV RX5 187 RX5 yX5_isBetween wsX5_isBetween) := goodIn_app (goodIn_of _ (by decide +kernel)) ggX5_nextToken_X5_isBetween
set_option maxRecDepth 20000 in
theorem ggX5_nextToken_X5_endOfRun : GoodIn wsX5_nextToken wsX5_endOfRun := goodIn_r _ [14, 1, 3, 2, 6, 7, 8, 9, 10, 4, 15, 16, 17, 18, 19, 20, 21, 22, 23] (by decide +kernel) (by decide +kernel)
set_option maxRecDepth 20000 in
theorem gX5_nextToken_X5_endOfRun : GoodIn wsX5_nextToken (wsV RX5 191 RX5 yX5_endOfRun wsX5_endOfRun) := goodIn_app (goodIn_of _ (by decide +kernel)) ggX5_nextToken_X5_endOfRun
theorem dX5_nextToken_0 : decode cX5_nextToken 0 = .ok (.aload_n 0, 1) := by decide +kernel
theorem dX5_nextToken_1 : decode cX5_nextToken 1 = .ok (.aload_n 0, 1) := by decide +kernel
theorem dX5_nextToken_2 : decode cX5_nextToken 2 = .ok (.getfield 32, 3) := by decide +kernel
theorem dX5_nextToken_5 : decode cX5_nextToken 5 = .ok (.putfield 184, 3) := by decide +kernel
theorem dX5_nextToken_8 : decode cX5_nextToken 8 = .ok (.aload_n 0, 1) := by decide +kernel
theorem dX5_nextToken_9 : decode cX5_nextToken 9 = .ok (.getfield 184, 3) := by decide +kernel
theorem dX5_nextToken_12 : decode cX5_nextToken 12 = .ok (.aload_n 0, 1) := by decide +kernel
theorem dX5_nextToken_13 : decode cX5_nextToken 13 = .ok (.getfield 29, 3) := by decide +kernel
theorem dX5_nextToken_16 : decode cX5_nextToken 16 = .ok (.if_icmp .ge 44, 3) := by decide +kernel
theorem dX5_nextToken_19 : decode cX5_nextToken 19 = .ok (.aload_n 0, 1) := by decide +kernel
theorem dX5_nextToken_20 : decode cX5_nextToken 20 = .ok (.getfield 9, 3) := by decide +kernel
theorem dX5_nextToken_23 : decode cX5_nextToken 23 = .ok (.aload_n 0, 1) := by decide +kernel
theorem dX5_nextToken_24 : decode cX5_nextToken 24 = .ok (.getfield 184, 3) := by decide +kernel
theorem dX5_nextToken_27 : decode cX5_nextToken 27 = .ok (.baload, 1) := by decide +kernel
theorem dX5_nextToken_28 : decode cX5_nextToken 28 = .ok (.bipush 32, 2) := by decide +kernel
theorem dX5_nextToken_30 : decode cX5_nextToken 30 = .ok (.if_icmp .eq 17, 3) := by decide +kernel
theorem dX5_nextToken_33 : decode cX5_nextToken 33 = .ok (.aload_n 0, 1) := by decide +kernel
theorem dX5_nextToken_34 : decode cX5_nextToken 34 = .ok (.getfield 9, 3) := by decide +kernel
theorem dX5_nextToken_37 : decode cX5_nextToken 37 = .ok (.aload_n 0, 1) := by decide +kernel
theorem dX5_nextToken_38 : decode cX5_nextToken 38 = .ok (.getfield 184, 3) := by decide +kernel
theorem dX5_nextToken_41 : decode cX5_nextToken 41 = .ok (.baload, 1) := by decide +kernel
theorem dX5_nextToken_42 : decode cX5_nextToken 42 = .ok (.bipush 10, 2) := by decide +kernel
theorem dX5_nextToken_44 : decode cX5_nextToken 44 = .ok (.if_icmp .ne 16, 3) := by decide +kernel
theorem dX5_nextToken_47 : decode cX5_nextToken 47 = .ok (.aload_n 0, 1) := by decide +kernel
theorem dX5_nextToken_48 : decode cX5_nextToken 48 = .ok (.dup, 1) := by decide +kernel
theorem dX5_nextToken_49 : decode cX5_nextToken 49 = .ok (.getfield 184, 3) := by decide +kernel
theorem dX5_nextToken_52 : decode cX5_nextToken 52 = .ok (.iconst 1, 1) := by decide +kernel
theorem dX5_nextToken_53 : decode cX5_nextToken 53 = .ok (.iadd, 1) := by decide +kernel
theorem dX5_nextToken_54 : decode cX5_nextToken 54 = .ok (.putfield 184, 3) := by decide +kernel
theorem dX5_nextToken_57 : decode cX5_nextToken 57 = .ok (.goto (-49), 3) := by decide +kernel
theorem dX5_nextToken_60 : decode cX5_nextToken 60 = .ok (.aload_n 0, 1) := by decide +kernel
theorem dX5_nextToken_61 : decode cX5_nextToken 61 = .ok (.aload_n 0, 1) := by decide +kernel
theorem dX5_nextToken_62 : decode cX5_nextToken 62 = .ok (.getfield 184, 3) := by decide +kernel
theorem dX5_nextToken_65 : decode cX5_nextToken 65 = .ok (.putfield 32, 3) := by decide +kernel
theorem dX5_nextToken_68 : decode cX5_nextToken 68 = .ok (.aload_n 0, 1) := by decide +kernel
theorem dX5_nextToken_69 : decode cX5_nextToken 69 = .ok (.getfield 184, 3) := by decide +kernel
theorem dX5_nextToken_72 : decode cX5_nextToken 72 = .ok (.aload_n 0, 1) := by decide +kernel
theorem dX5_nextToken_73 : decode cX5_nextToken 73 = .ok (.getfield 29, 3) := by decide +kernel
theorem dX5_nextToken_76 : decode cX5_nextToken 76 = .ok (.if_icmp .lt 11, 3) := by decide +kernel
theorem dX5_nextToken_79 : decode cX5_nextToken 79 = .ok (.aload_n 0, 1) := by decide +kernel
theorem dX5_nextToken_80 : decode cX5_nextToken 80 = .ok (.iconst 0, 1) := by decide +kernel
theorem dX5_nextToken_81 : decode cX5_nextToken 81 = .ok (.putfield 49, 3) := by decide +kernel
theorem dX5_nextToken_84 : decode cX5_nextToken 84 = .ok (.goto 115, 3) := by decide +kernel
theorem dX5_nextToken_87 : decode cX5_nextToken 87 = .ok (.aload_n 0, 1) := by decide +kernel
theorem dX5_nextToken_88 : decode cX5_nextToken 88 = .ok (.aload_n 0, 1) := by decide +kernel
theorem dX5_nextToken_89 : decode cX5_nextToken 89 = .ok (.getfield 184, 3) := by decide +kernel
theorem dX5_nextToken_92 : decode cX5_nextToken 92 = .ok (.bipush 97, 2) := by decide +kernel
theorem dX5_nextToken_94 : decode cX5_nextToken 94 = .ok (.bipush 122, 2) := by decide +kernel
theorem dX5_nextToken_96 : decode cX5_nextToken 96 = .ok (.invokevirtual 187, 3) := by decide +kernel
theorem dX5_nextToken_99 : decode cX5_nextToken 99 = .ok (.ifCond .eq 28, 3) := by decide +kernel
theorem dX5_nextToken_102 : decode cX5_nextToken 102 = .ok (.aload_n 0, 1) := by decide +kernel
theorem dX5_nextToken_103 : decode cX5_nextToken 103 = .ok (.aload_n 0, 1) := by decide +kernel
theorem dX5_nextToken_104 : decode cX5_nextToken 104 = .ok (.bipush 97, 2) := by decide +kernel
theorem dX5_nextToken_106 : decode cX5_nextToken 106 = .ok (.bipush 122, 2) := by decide +kernel
theorem dX5_nextToken_108 : decode cX5_nextToken 108 = .ok (.invokevirtual 191, 3) := by decide +kernel
theorem dX5_nextToken_111 : decode cX5_nextToken 111 = .ok (.bipush 8, 2) := by decide +kernel
theorem dX5_nextToken_113 : decode cX5_nextToken 113 = .ok (.if_icmp .gt 7, 3) := by decide +kernel
theorem dX5_nextToken_116 : decode cX5_nextToken 116 = .ok (.iconst 2, 1) := by decide +kernel
theorem dX5_nextToken_117 : decode cX5_nextToken 117 = .ok (.goto 4, 3) := by decide +kernel
theorem dX5_nextToken_120 : decode cX5_nextToken 120 = .ok (.iconst 1, 1) := by decide +kernel
theorem dX5_nextToken_121 : decode cX5_nextToken 121 = .ok (.putfield 49, 3) := by decide +kernel
theorem dX5_nextToken_124 : decode cX5_nextToken 124 = .ok (.goto 75, 3) := by decide +kernel
theorem dX5_nextToken_127 : decode cX5_nextToken 127 = .ok (.aload_n 0, 1) := by decide +kernel
theorem dX5_nextToken_128 : decode cX5_nextToken 128 = .ok (.aload_n 0, 1) := by decide +kernel
theorem dX5_nextToken_129 : decode cX5_nextToken 129 = .ok (.getfield 184, 3) := by decide +kernel
theorem dX5_nextToken_132 : decode cX5_nextToken 132 = .ok (.bipush 48, 2) := by decide +kernel
theorem dX5_nextToken_134 : decode cX5_nextToken 134 = .ok (.bipush 57, 2) := by decide +kernel
theorem dX5_nextToken_136 : decode cX5_nextToken 136 = .ok (.invokevirtual 187, 3) := by decide +kernel
theorem dX5_nextToken_139 : decode cX5_nextToken 139 = .ok (.ifCond .eq 27, 3) := by decide +kernel
theorem dX5_nextToken_142 : decode cX5_nextToken 142 = .ok (.aload_n 0, 1) := by decide +kernel
theorem dX5_nextToken_143 : decode cX5_nextToken 143 = .ok (.aload_n 0, 1) := by decide +kernel
theorem dX5_nextToken_144 : decode cX5_nextToken 144 = .ok (.bipush 48, 2) := by decide +kernel
theorem dX5_nextToken_146 : decode cX5_nextToken 146 = .ok (.bipush 57, 2) := by decide +kernel
theorem dX5_nextToken_148 : decode cX5_nextToken 148 = .ok (.invokevirtual 191, 3) := by decide +kernel
theorem dX5_nextToken_151 : decode cX5_nextToken 151 = .ok (.iconst 5, 1) := by decide +kernel
theorem dX5_nextToken_152 : decode cX5_nextToken 152 = .ok (.if_icmp .gt 7, 3) := by decide +kernel
theorem dX5_nextToken_155 : decode cX5_nextToken 155 = .ok (.iconst 3, 1) := by decide +kernel
theorem dX5_nextToken_156 : decode cX5_nextToken 156 = .ok (.goto 4, 3) := by decide +kernel
theorem dX5_nextToken_159 : decode cX5_nextToken 159 = .ok (.iconst 1, 1) := by decide +kernel
theorem dX5_nextToken_160 : decode cX5_nextToken 160 = .ok (.putfield 49, 3) := by decide +kernel
theorem dX5_nextToken_163 : decode cX5_nextToken 163 = .ok (.goto 36, 3) := by decide +kernel
theorem dX5_nextToken_166 : decode cX5_nextToken 166 = .ok (.aload_n 0, 1) := by decide +kernel
theorem dX5_nextToken_167 : decode cX5_nextToken 167 = .ok (.aload_n 0, 1) := by decide +kernel
theorem dX5_nextToken_168 : decode cX5_nextToken 168 = .ok (.getfield 9, 3) := by decide +kernel
theorem dX5_nextToken_171 : decode cX5_nextToken 171 = .ok (.aload_n 0, 1) := by decide +kernel
theorem dX5_nextToken_172 : decode cX5_nextToken 172 = .ok (.getfield 184, 3) := by decide +kernel
theorem dX5_nextToken_175 : decode cX5_nextToken 175 = .ok (.baload, 1) := by decide +kernel
theorem dX5_nextToken_176 : decode cX5_nextToken 176 = .ok (.bipush 59, 2) := by decide +kernel
theorem dX5_nextToken_178 : decode cX5_nextToken 178 = .ok (.if_icmp .ne 7, 3) := by decide +kernel
theorem dX5_nextToken_181 : decode cX5_nextToken 181 = .ok (.iconst 4, 1) := by decide +kernel
theorem dX5_nextToken_182 : decode cX5_nextToken 182 = .ok (.goto 4, 3) := by decide +kernel
theorem dX5_nextToken_185 : decode cX5_nextToken 185 = .ok (.iconst 1, 1) := by decide +kernel
theorem dX5_nextToken_186 : decode cX5_nextToken 186 = .ok (.putfield 49, 3) := by decide +kernel
theorem dX5_nextToken_189 : decode cX5_nextToken 189 = .ok (.aload_n 0, 1) := by decide +kernel
theorem dX5_nextToken_190 : decode cX5_nextToken 190 = .ok (.dup, 1) := by decide +kernel
theorem dX5_nextToken_191 : decode cX5_nextToken 191 = .ok (.getfield 32, 3) := by decide +kernel
theorem dX5_nextToken_194 : decode cX5_nextToken 194 = .ok (.iconst 1, 1) := by decide +kernel
theorem dX5_nextToken_195 : decode cX5_nextToken 195 = .ok (.iadd, 1) := by decide +kernel
theorem dX5_nextToken_196 : decode cX5_nextToken 196 = .ok (.putfield 32, 3) := by decide +kernel
theorem dX5_nextToken_199 : decode cX5_nextToken 199 = .ok (.return_, 1) := by decide +kernel
theorem dX5_isBetween_0 : decode cX5_isBetween 0 = .ok (.aload_n 0, 1) := by decide +kernel
theorem dX5_isBetween_1 : decode cX5_isBetween 1 = .ok (.getfield 9, 3) := by decide +kernel
theorem dX5_isBetween_4 : decode cX5_isBetween 4 = .ok (.iload_n 1, 1) := by decide +kernel
theorem dX5_isBetween_5 : decode cX5_isBetween 5 = .ok (.baload, 1) := by decide +kernel
theorem dX5_isBetween_6 : decode cX5_isBetween 6 = .ok (.iload_n 2, 1) := by decide +kernel
theorem dX5_isBetween_7 : decode cX5_isBetween 7 = .ok (.if_icmp .lt 17, 3) := by decide +kernel
theorem dX5_isBetween_10 : decode cX5_isBetween 10 = .ok (.aload_n 0, 1) := by decide +kernel
theorem dX5_isBetween_11 : decode cX5_isBetween 11 = .ok (.getfield 9, 3) := by decide +kernel
theorem dX5_isBetween_14 : decode cX5_isBetween 14 = .ok (.iload_n 1, 1) := by decide +kernel
theorem dX5_isBetween_15 : decode cX5_isBetween 15 = .ok (.baload, 1) := by decide +kernel
theorem dX5_isBetween_16 : decode cX5_isBetween 16 = .ok (.iload_n 3, 1) := by decide +kernel
theorem dX5_isBetween_17 : decode cX5_isBetween 17 = .ok (.if_icmp .gt 7, 3) := by decide +kernel
theorem dX5_isBetween_20 : decode cX5_isBetween 20 = .ok (.iconst 1, 1) := by decide +kernel
theorem dX5_isBetween_21 : decode cX5_isBetween 21 = .ok (.goto 4, 3) := by decide +kernel
theorem dX5_isBetween_24 : decode cX5_isBetween 24 = .ok (.iconst 0, 1) := by decide +kernel
theorem dX5_isBetween_25 : decode cX5_isBetween 25 = .ok (.ireturn, 1) := by decide +kernel
set_option maxRecDepth 20000 in
theorem ggX5_endOfRun_X5_isBetween : GoodIn wsX5_endOfRun wsX5_isBetween := goodIn_r _ [8, 9, 10, 11, 12, 13, 14, 15, 16, 17, 18] (by decide +kernel) (by decide +kernel)
set_option maxRecDepth 20000 in
theorem gX5_endOfRun_X5_isBetween : GoodIn wsX5_endOfRun (wsV RX5 187 RX5 yX5_isBetween wsX5_isBetween) := goodIn_app (goodIn_of _ (by decide +kernel)) ggX5_endOfRun_X5_isBetween
theorem dX5_endOfRun_0 : decode cX5_endOfRun 0 = .ok (.aload_n 0, 1) := by decide +kernel
theorem dX5_endOfRun_1 : decode cX5_endOfRun 1 = .ok (.getfield 32, 3) := by decide +kernel
theorem dX5_endOfRun_4 : decode cX5_endOfRun 4 = .ok (.aload_n 0, 1) := by decide +kernel
theorem dX5_endOfRun_5 : decode cX5_endOfRun 5 = .ok (.getfield 29, 3) := by decide +kernel
theorem dX5_endOfRun_8 : decode cX5_endOfRun 8 = .ok (.if_icmp .ge 29, 3) := by decide +kernel
theorem dX5_endOfRun_11 : decode cX5_endOfRun 11 = .ok (.aload_n 0, 1) := by decide +kernel
theorem dX5_endOfRun_12 : decode cX5_endOfRun 12 = .ok (.aload_n 0, 1) := by decide +kernel
theorem dX5_endOfRun_13 : decode cX5_endOfRun 13 = .ok (.getfield 32, 3) := by decide +kernel
theorem dX5_endOfRun_16 : decode cX5_endOfRun 16 = .ok (.iload_n 1, 1) := by decide +kernel
theorem dX5_endOfRun_17 : decode cX5_endOfRun 17 = .ok (.iload_n 2, 1) := by decide +kernel
theorem dX5_endOfRun_18 : decode cX5_endOfRun 18 = .ok (.invokevirtual 187, 3) := by decide +kernel
theorem dX5_endOfRun_21 : decode cX5_endOfRun 21 = .ok (.ifCond .eq 16, 3) := by decide +kernel
theorem dX5_endOfRun_24 : decode cX5_endOfRun 24 = .ok (.aload_n 0, 1) := by decide +kernel
theorem dX5_endOfRun_25 : decode cX5_endOfRun 25 = .ok (.dup, 1) := by decide +kernel
theorem dX5_endOfRun_26 : decode cX5_endOfRun 26 = .ok (.getfield 32, 3) := by decide +kernel
theorem dX5_endOfRun_29 : decode cX5_endOfRun 29 = .ok (.iconst 1, 1) := by decide +kernel
theorem dX5_endOfRun_30 : decode cX5_endOfRun 30 = .ok (.iadd, 1) := by decide +kernel
theorem dX5_endOfRun_31 : decode cX5_endOfRun 31 = .ok (.putfield 32, 3) := by decide +kernel
theorem dX5_endOfRun_34 : decode cX5_endOfRun 34 = .ok (.goto (-34), 3) := by decide +kernel
theorem dX5_endOfRun_37 : decode cX5_endOfRun 37 = .ok (.aload_n 0, 1) := by decide +kernel
theorem dX5_endOfRun_38 : decode cX5_endOfRun 38 = .ok (.getfield 32, 3) := by decide +kernel
theorem dX5_endOfRun_41 : decode cX5_endOfRun 41 = .ok (.aload_n 0, 1) := by decide +kernel
theorem dX5_endOfRun_42 : decode cX5_endOfRun 42 = .ok (.getfield 184, 3) := by decide +kernel
theorem dX5_endOfRun_45 : decode cX5_endOfRun 45 = .ok (.isub, 1) := by decide +kernel
theorem dX5_endOfRun_46 : decode cX5_endOfRun 46 = .ok (.ireturn, 1) := by decide +kernel
set_option maxRecDepth 20000 in
theorem ggX5_wordIs_J0_length_8abf5 : GoodIn wsX5_wordIs wsJ0_length_8abf5 := goodIn_r _ [9, 10, 11, 12, 13, 8, 14, 15, 16] (by decide +kernel) (by decide +kernel)
set_option maxRecDepth 20000 in
theorem gX5_wordIs_J0_length_8abf5 : GoodIn wsX5_wordIs (wsV RX5 194 RJ0 yJ0_length_8abf5 wsJ0_length_8abf5) := goodIn_app (goodIn_of _ (by decide +kernel)) ggX5_wordIs_J0_length_8abf5
set_option maxRecDepth 20000 in
theorem ggX5_wordIs_J0_charAt_5068e : GoodIn wsX5_wordIs wsJ0_charAt_5068e := goodIn_r _ [20, 10, 21, 22, 23, 8, 24, 15, 16, 25, 26, 27, 28, 29, 30, 31, 32, 33, 34, 35, 36, 37, 38, 39, 40, 41, 42, 43, 44, 45, 46, 47, 48, 49, 50, 51, 52, 53] (by decide +kernel) (by decide +kernel)
set_option maxRecDepth 20000 in
theorem gX5_wordIs_J0_charAt_5068e : GoodIn wsX5_wordIs (wsV RX5 198 RJ0 yJ0_charAt_5068e wsJ0_charAt_5068e) := goodIn_app (goodIn_of _ (by decide +kernel)) ggX5_wordIs_J0_charAt_5068e
theorem dX5_wordIs_0 : decode cX5_wordIs 0 = .ok (.aload_n 0, 1) := by decide +kernel
theorem dX5_wordIs_1 : decode cX5_wordIs 1 = .ok (.getfield 49, 3) := by decide +kernel
theorem dX5_wordIs_4 : decode cX5_wordIs 4 = .ok (.iconst 2, 1) := by decide +kernel
theorem dX5_wordIs_5 : decode cX5_wordIs 5 = .ok (.if_icmp .ne 19, 3) := by decide +kernel
theorem dX5_wordIs_8 : decode cX5_wordIs 8 = .ok (.aload_n 0, 1) := by decide +kernel
theorem dX5_wordIs_9 : decode cX5_wordIs 9 = .ok (.getfield 32, 3) := by decide +kernel
theorem dX5_wordIs_12 : decode cX5_wordIs 12 = .ok (.aload_n 0, 1) := by decide +kernel
theorem dX5_wordIs_13 : decode cX5_wordIs 13 = .ok (.getfield 184, 3) := by decide +kernel
theorem dX5_wordIs_16 : decode cX5_wordIs 16 = .ok (.isub, 1) := by decide +kernel
theorem dX5_wordIs_17 : decode cX5_wordIs 17 = .ok (.aload_n 1, 1) := by decide +kernel
theorem dX5_wordIs_18 : decode cX5_wordIs 18 = .ok (.invokevirtual 194, 3) := by decide +kernel
theorem dX5_wordIs_21 : decode cX5_wordIs 21 = .ok (.if_icmp .eq 5, 3) := by decide +kernel
theorem dX5_wordIs_24 : decode cX5_wordIs 24 = .ok (.iconst 0, 1) := by decide +kernel
theorem dX5_wordIs_25 : decode cX5_wordIs 25 = .ok (.ireturn, 1) := by decide +kernel
theorem dX5_wordIs_26 : decode cX5_wordIs 26 = .ok (.iconst 0, 1) := by decide +kernel
theorem dX5_wordIs_27 : decode cX5_wordIs 27 = .ok (.istore_n 2, 1) := by decide +kernel
theorem dX5_wordIs_28 : decode cX5_wordIs 28 = .ok (.iload_n 2, 1) := by decide +kernel
theorem dX5_wordIs_29 : decode cX5_wordIs 29 = .ok (.aload_n 1, 1) := by decide +kernel
theorem dX5_wordIs_30 : decode cX5_wordIs 30 = .ok (.invokevirtual 194, 3) := by decide +kernel
theorem dX5_wordIs_33 : decode cX5_wordIs 33 = .ok (.if_icmp .ge 30, 3) := by decide +kernel
theorem dX5_wordIs_36 : decode cX5_wordIs 36 = .ok (.aload_n 0, 1) := by decide +kernel
theorem dX5_wordIs_37 : decode cX5_wordIs 37 = .ok (.getfield 9, 3) := by decide +kernel
theorem dX5_wordIs_40 : decode cX5_wordIs 40 = .ok (.aload_n 0, 1) := by decide +kernel
theorem dX5_wordIs_41 : decode cX5_wordIs 41 = .ok (.getfield 184, 3) := by decide +kernel
theorem dX5_wordIs_44 : decode cX5_wordIs 44 = .ok (.iload_n 2, 1) := by decide +kernel
theorem dX5_wordIs_45 : decode cX5_wordIs 45 = .ok (.iadd, 1) := by decide +kernel
theorem dX5_wordIs_46 : decode cX5_wordIs 46 = .ok (.baload, 1) := by decide +kernel
theorem dX5_wordIs_47 : decode cX5_wordIs 47 = .ok (.aload_n 1, 1) := by decide +kernel
theorem dX5_wordIs_48 : decode cX5_wordIs 48 = .ok (.iload_n 2, 1) := by decide +kernel
theorem dX5_wordIs_49 : decode cX5_wordIs 49 = .ok (.invokevirtual 198, 3) := by decide +kernel
theorem dX5_wordIs_52 : decode cX5_wordIs 52 = .ok (.if_icmp .eq 5, 3) := by decide +kernel
theorem dX5_wordIs_55 : decode cX5_wordIs 55 = .ok (.iconst 0, 1) := by decide +kernel
theorem dX5_wordIs_56 : decode cX5_wordIs 56 = .ok (.ireturn, 1) := by decide +kernel
theorem dX5_wordIs_57 : decode cX5_wordIs 57 = .ok (.iinc 2 1, 3) := by decide +kernel
theorem dX5_wordIs_60 : decode cX5_wordIs 60 = .ok (.goto (-32), 3) := by decide +kernel
theorem dX5_wordIs_63 : decode cX5_wordIs 63 = .ok (.iconst 1, 1) := by decide +kernel
theorem dX5_wordIs_64 : decode cX5_wordIs 64 = .ok (.ireturn, 1) := by decide +kernel
theorem dX5_wordNumber_0 : decode cX5_wordNumber 0 = .ok (.lconst 0, 1) := by decide +kernel
theorem dX5_wordNumber_1 : decode cX5_wordNumber 1 = .ok (.lstore_n 1, 1) := by decide +kernel
theorem dX5_wordNumber_2 : decode cX5_wordNumber 2 = .ok (.aload_n 0, 1) := by decide +kernel
theorem dX5_wordNumber_3 : decode cX5_wordNumber 3 = .ok (.getfield 184, 3) := by decide +kernel
theorem dX5_wordNumber_6 : decode cX5_wordNumber 6 = .ok (.istore_n 3, 1) := by decide +kernel
theorem dX5_wordNumber_7 : decode cX5_wordNumber 7 = .ok (.iload_n 3, 1) := by decide +kernel
theorem dX5_wordNumber_8 : decode cX5_wordNumber 8 = .ok (.aload_n 0, 1) := by decide +kernel
theorem dX5_wordNumber_9 : decode cX5_wordNumber 9 = .ok (.getfield 32, 3) := by decide +kernel
theorem dX5_wordNumber_12 : decode cX5_wordNumber 12 = .ok (.if_icmp .ge 28, 3) := by decide +kernel
theorem dX5_wordNumber_15 : decode cX5_wordNumber 15 = .ok (.lload_n 1, 1) := by decide +kernel
theorem dX5_wordNumber_16 : decode cX5_wordNumber 16 = .ok (.ldc2_w 202, 3) := by decide +kernel
theorem dX5_wordNumber_19 : decode cX5_wordNumber 19 = .ok (.lmul, 1) := by decide +kernel
theorem dX5_wordNumber_20 : decode cX5_wordNumber 20 = .ok (.aload_n 0, 1) := by decide +kernel
theorem dX5_wordNumber_21 : decode cX5_wordNumber 21 = .ok (.getfield 9, 3) := by decide +kernel
theorem dX5_wordNumber_24 : decode cX5_wordNumber 24 = .ok (.iload_n 3, 1) := by decide +kernel
theorem dX5_wordNumber_25 : decode cX5_wordNumber 25 = .ok (.baload, 1) := by decide +kernel
theorem dX5_wordNumber_26 : decode cX5_wordNumber 26 = .ok (.bipush 97, 2) := by decide +kernel
theorem dX5_wordNumber_28 : decode cX5_wordNumber 28 = .ok (.isub, 1) := by decide +kernel
theorem dX5_wordNumber_29 : decode cX5_wordNumber 29 = .ok (.iconst 1, 1) := by decide +kernel
theorem dX5_wordNumber_30 : decode cX5_wordNumber 30 = .ok (.iadd, 1) := by decide +kernel
theorem dX5_wordNumber_31 : decode cX5_wordNumber 31 = .ok (.i2l, 1) := by decide +kernel
theorem dX5_wordNumber_32 : decode cX5_wordNumber 32 = .ok (.ladd, 1) := by decide +kernel
theorem dX5_wordNumber_33 : decode cX5_wordNumber 33 = .ok (.lstore_n 1, 1) := by decide +kernel
theorem dX5_wordNumber_34 : decode cX5_wordNumber 34 = .ok (.iinc 3 1, 3) := by decide +kernel
theorem dX5_wordNumber_37 : decode cX5_wordNumber 37 = .ok (.goto (-30), 3) := by decide +kernel
theorem dX5_wordNumber_40 : decode cX5_wordNumber 40 = .ok (.lload_n 1, 1) := by decide +kernel
theorem dX5_wordNumber_41 : decode cX5_wordNumber 41 = .ok (.lreturn, 1) := by decide +kernel
theorem dX5_tokenValue_0 : decode cX5_tokenValue 0 = .ok (.iconst 0, 1) := by decide +kernel
theorem dX5_tokenValue_1 : decode cX5_tokenValue 1 = .ok (.istore_n 1, 1) := by decide +kernel
theorem dX5_tokenValue_2 : decode cX5_tokenValue 2 = .ok (.aload_n 0, 1) := by decide +kernel
theorem dX5_tokenValue_3 : decode cX5_tokenValue 3 = .ok (.getfield 184, 3) := by decide +kernel
theorem dX5_tokenValue_6 : decode cX5_tokenValue 6 = .ok (.istore_n 2, 1) := by decide +kernel
theorem dX5_tokenValue_7 : decode cX5_tokenValue 7 = .ok (.iload_n 2, 1) := by decide +kernel
theorem dX5_tokenValue_8 : decode cX5_tokenValue 8 = .ok (.aload_n 0, 1) := by decide +kernel
theorem dX5_tokenValue_9 : decode cX5_tokenValue 9 = .ok (.getfield 32, 3) := by decide +kernel
theorem dX5_tokenValue_12 : decode cX5_tokenValue 12 = .ok (.if_icmp .ge 24, 3) := by decide +kernel
theorem dX5_tokenValue_15 : decode cX5_tokenValue 15 = .ok (.iload_n 1, 1) := by decide +kernel
theorem dX5_tokenValue_16 : decode cX5_tokenValue 16 = .ok (.bipush 10, 2) := by decide +kernel
theorem dX5_tokenValue_18 : decode cX5_tokenValue 18 = .ok (.imul, 1) := by decide +kernel
theorem dX5_tokenValue_19 : decode cX5_tokenValue 19 = .ok (.aload_n 0, 1) := by decide +kernel
theorem dX5_tokenValue_20 : decode cX5_tokenValue 20 = .ok (.getfield 9, 3) := by decide +kernel
theorem dX5_tokenValue_23 : decode cX5_tokenValue 23 = .ok (.iload_n 2, 1) := by decide +kernel
theorem dX5_tokenValue_24 : decode cX5_tokenValue 24 = .ok (.baload, 1) := by decide +kernel
theorem dX5_tokenValue_25 : decode cX5_tokenValue 25 = .ok (.bipush 48, 2) := by decide +kernel
theorem dX5_tokenValue_27 : decode cX5_tokenValue 27 = .ok (.isub, 1) := by decide +kernel
theorem dX5_tokenValue_28 : decode cX5_tokenValue 28 = .ok (.iadd, 1) := by decide +kernel
theorem dX5_tokenValue_29 : decode cX5_tokenValue 29 = .ok (.istore_n 1, 1) := by decide +kernel
theorem dX5_tokenValue_30 : decode cX5_tokenValue 30 = .ok (.iinc 2 1, 3) := by decide +kernel
theorem dX5_tokenValue_33 : decode cX5_tokenValue 33 = .ok (.goto (-26), 3) := by decide +kernel
theorem dX5_tokenValue_36 : decode cX5_tokenValue 36 = .ok (.iload_n 1, 1) := by decide +kernel
theorem dX5_tokenValue_37 : decode cX5_tokenValue 37 = .ok (.ireturn, 1) := by decide +kernel
theorem dX6_init_0 : decode cX6_init 0 = .ok (.aload_n 0, 1) := by decide +kernel
theorem dX6_init_1 : decode cX6_init 1 = .ok (.invokespecial 1, 3) := by decide +kernel
theorem dX6_init_4 : decode cX6_init 4 = .ok (.return_, 1) := by decide +kernel
theorem dX6_copyFrom_0 : decode cX6_copyFrom 0 = .ok (.aload_n 0, 1) := by decide +kernel
theorem dX6_copyFrom_1 : decode cX6_copyFrom 1 = .ok (.aload_n 1, 1) := by decide +kernel
theorem dX6_copyFrom_2 : decode cX6_copyFrom 2 = .ok (.getfield 7, 3) := by decide +kernel
theorem dX6_copyFrom_5 : decode cX6_copyFrom 5 = .ok (.putfield 7, 3) := by decide +kernel
theorem dX6_copyFrom_8 : decode cX6_copyFrom 8 = .ok (.aload_n 0, 1) := by decide +kernel
theorem dX6_copyFrom_9 : decode cX6_copyFrom 9 = .ok (.aload_n 1, 1) := by decide +kernel
theorem dX6_copyFrom_10 : decode cX6_copyFrom 10 = .ok (.getfield 13, 3) := by decide +kernel
theorem dX6_copyFrom_13 : decode cX6_copyFrom 13 = .ok (.putfield 13, 3) := by decide +kernel
theorem dX6_copyFrom_16 : decode cX6_copyFrom 16 = .ok (.aload_n 0, 1) := by decide +kernel
theorem dX6_copyFrom_17 : decode cX6_copyFrom 17 = .ok (.aload_n 1, 1) := by decide +kernel
theorem dX6_copyFrom_18 : decode cX6_copyFrom 18 = .ok (.getfield 16, 3) := by decide +kernel
theorem dX6_copyFrom_21 : decode cX6_copyFrom 21 = .ok (.putfield 16, 3) := by decide +kernel
theorem dX6_copyFrom_24 : decode cX6_copyFrom 24 = .ok (.aload_n 0, 1) := by decide +kernel
theorem dX6_copyFrom_25 : decode cX6_copyFrom 25 = .ok (.aload_n 1, 1) := by decide +kernel
theorem dX6_copyFrom_26 : decode cX6_copyFrom 26 = .ok (.getfield 19, 3) := by decide +kernel
theorem dX6_copyFrom_29 : decode cX6_copyFrom 29 = .ok (.putfield 19, 3) := by decide +kernel
theorem dX6_copyFrom_32 : decode cX6_copyFrom 32 = .ok (.aload_n 0, 1) := by decide +kernel
theorem dX6_copyFrom_33 : decode cX6_copyFrom 33 = .ok (.aload_n 1, 1) := by decide +kernel
theorem dX6_copyFrom_34 : decode cX6_copyFrom 34 = .ok (.getfield 22, 3) := by decide +kernel
theorem dX6_copyFrom_37 : decode cX6_copyFrom 37 = .ok (.putfield 22, 3) := by decide +kernel
theorem dX6_copyFrom_40 : decode cX6_copyFrom 40 = .ok (.aload_n 0, 1) := by decide +kernel
theorem dX6_copyFrom_41 : decode cX6_copyFrom 41 = .ok (.aload_n 1, 1) := by decide +kernel
theorem dX6_copyFrom_42 : decode cX6_copyFrom 42 = .ok (.getfield 25, 3) := by decide +kernel
theorem dX6_copyFrom_45 : decode cX6_copyFrom 45 = .ok (.putfield 25, 3) := by decide +kernel
theorem dX6_copyFrom_48 : decode cX6_copyFrom 48 = .ok (.aload_n 0, 1) := by decide +kernel
theorem dX6_copyFrom_49 : decode cX6_copyFrom 49 = .ok (.aload_n 1, 1) := by decide +kernel
theorem dX6_copyFrom_50 : decode cX6_copyFrom 50 = .ok (.getfield 28, 3) := by decide +kernel
theorem dX6_copyFrom_53 : decode cX6_copyFrom 53 = .ok (.putfield 28, 3) := by decide +kernel
theorem dX6_copyFrom_56 : decode cX6_copyFrom 56 = .ok (.return_, 1) := by decide +kernel
theorem dX6_holds_0 : decode cX6_holds 0 = .ok (.aload_n 0, 1) := by decide +kernel
theorem dX6_holds_1 : decode cX6_holds 1 = .ok (.getfield 13, 3) := by decide +kernel
theorem dX6_holds_4 : decode cX6_holds 4 = .ok (.iload_n 1, 1) := by decide +kernel
theorem dX6_holds_5 : decode cX6_holds 5 = .ok (.if_icmp .ne 28, 3) := by decide +kernel
theorem dX6_holds_8 : decode cX6_holds 8 = .ok (.iload_n 2, 1) := by decide +kernel
theorem dX6_holds_9 : decode cX6_holds 9 = .ok (.aload_n 0, 1) := by decide +kernel
theorem dX6_holds_10 : decode cX6_holds 10 = .ok (.getfield 16, 3) := by decide +kernel
theorem dX6_holds_13 : decode cX6_holds 13 = .ok (.if_icmp .lt 20, 3) := by decide +kernel
theorem dX6_holds_16 : decode cX6_holds 16 = .ok (.iload_n 2, 1) := by decide +kernel
theorem dX6_holds_17 : decode cX6_holds 17 = .ok (.aload_n 0, 1) := by decide +kernel
theorem dX6_holds_18 : decode cX6_holds 18 = .ok (.getfield 16, 3) := by decide +kernel
theorem dX6_holds_21 : decode cX6_holds 21 = .ok (.aload_n 0, 1) := by decide +kernel
theorem dX6_holds_22 : decode cX6_holds 22 = .ok (.getfield 19, 3) := by decide +kernel
theorem dX6_holds_25 : decode cX6_holds 25 = .ok (.iadd, 1) := by decide +kernel
theorem dX6_holds_26 : decode cX6_holds 26 = .ok (.if_icmp .ge 7, 3) := by decide +kernel
theorem dX6_holds_29 : decode cX6_holds 29 = .ok (.iconst 1, 1) := by decide +kernel
theorem dX6_holds_30 : decode cX6_holds 30 = .ok (.goto 4, 3) := by decide +kernel
theorem dX6_holds_33 : decode cX6_holds 33 = .ok (.iconst 0, 1) := by decide +kernel
theorem dX6_holds_34 : decode cX6_holds 34 = .ok (.ireturn, 1) := by decide +kernel
set_option maxRecDepth 20000 in
theorem ggX7_init_X5_init : GoodIn wsX7_init wsX5_init := goodIn_r _ [20, 21, 2, 3, 17, 22, 23, 24, 82, 83, 84, 85, 86, 87, 88, 89, 90] (by decide +kernel) (by decide +kernel)
set_option maxRecDepth 20000 in
theorem gX7_init_X5_init_n9 : GoodIn wsX7_init (wsX5_init) := ggX7_init_X5_init
set_option maxRecDepth 20000 in
theorem ggX7_init_X4_init : GoodIn wsX7_init wsX4_init := goodIn_r _ [27, 28, 2, 3, 29, 30, 31, 32, 33, 34, 35, 36, 37, 38, 39, 40, 41, 42, 43, 44, 45, 46, 47, 48, 49, 50, 51, 52, 53, 54, 55, 56, 57, 58, 59, 10, 60, 61, 62, 63, 64, 65, 66, 67, 68, 69, 70, 71, 72, 73, 74, 75, 76, 100, 101, 102, 103, 104, 105, 106, 107, 108, 109, 110, 111, 112, 113, 114, 115, 116, 117, 121, 122, 123, 124, 125, 126, 127, 128, 129, 130, 131, 132, 133, 134, 135, 136, 137, 138, 139] (by decide +kernel) (by decide +kernel)
set_option maxRecDepth 20000 in
theorem gX7_init_X4_init : GoodIn wsX7_init (wsX4_init) := ggX7_init_X4_init
set_option maxRecDepth 20000 in
theorem ggX7_init_X1_init : GoodIn wsX7_init wsX1_init := goodIn_r _ [78, 79, 2, 3, 80, 81, 118, 119, 120] (by decide +kernel) (by decide +kernel)
set_option maxRecDepth 20000 in
theorem gX7_init_X1_init_n28 : GoodIn wsX7_init (wsX1_init) := ggX7_init_X1_init
theorem dX7_init_0 : decode cX7_init 0 = .ok (.aload_n 0, 1) := by decide +kernel
theorem dX7_init_1 : decode cX7_init 1 = .ok (.invokespecial 1, 3) := by decide +kernel
theorem dX7_init_4 : decode cX7_init 4 = .ok (.aload_n 0, 1) := by decide +kernel
theorem dX7_init_5 : decode cX7_init 5 = .ok (.new 7, 3) := by decide +kernel
theorem dX7_init_8 : decode cX7_init 8 = .ok (.dup, 1) := by decide +kernel
theorem dX7_init_9 : decode cX7_init 9 = .ok (.invokespecial 9, 3) := by decide +kernel
theorem dX7_init_12 : decode cX7_init 12 = .ok (.putfield 10, 3) := by decide +kernel
theorem dX7_init_15 : decode cX7_init 15 = .ok (.aload_n 0, 1) := by decide +kernel
theorem dX7_init_16 : decode cX7_init 16 = .ok (.new 16, 3) := by decide +kernel
theorem dX7_init_19 : decode cX7_init 19 = .ok (.dup, 1) := by decide +kernel
theorem dX7_init_20 : decode cX7_init 20 = .ok (.invokespecial 18, 3) := by decide +kernel
theorem dX7_init_23 : decode cX7_init 23 = .ok (.putfield 19, 3) := by decide +kernel
theorem dX7_init_26 : decode cX7_init 26 = .ok (.aload_n 0, 1) := by decide +kernel
theorem dX7_init_27 : decode cX7_init 27 = .ok (.new 16, 3) := by decide +kernel
theorem dX7_init_30 : decode cX7_init 30 = .ok (.dup, 1) := by decide +kernel
theorem dX7_init_31 : decode cX7_init 31 = .ok (.invokespecial 18, 3) := by decide +kernel
theorem dX7_init_34 : decode cX7_init 34 = .ok (.putfield 23, 3) := by decide +kernel
theorem dX7_init_37 : decode cX7_init 37 = .ok (.aload_n 0, 1) := by decide +kernel
theorem dX7_init_38 : decode cX7_init 38 = .ok (.new 26, 3) := by decide +kernel
theorem dX7_init_41 : decode cX7_init 41 = .ok (.dup, 1) := by decide +kernel
theorem dX7_init_42 : decode cX7_init 42 = .ok (.invokespecial 28, 3) := by decide +kernel
theorem dX7_init_45 : decode cX7_init 45 = .ok (.putfield 29, 3) := by decide +kernel
theorem dX7_init_48 : decode cX7_init 48 = .ok (.aload_n 0, 1) := by decide +kernel
theorem dX7_init_49 : decode cX7_init 49 = .ok (.sipush 280, 3) := by decide +kernel
theorem dX7_init_52 : decode cX7_init 52 = .ok (.newarray .byte, 2) := by decide +kernel
theorem dX7_init_54 : decode cX7_init 54 = .ok (.putfield 33, 3) := by decide +kernel
theorem dX7_init_57 : decode cX7_init 57 = .ok (.return_, 1) := by decide +kernel
set_option maxRecDepth 20000 in
theorem ggX7_feed_X5_appendFourBytes : GoodIn wsX7_feed wsX5_appendFourBytes := goodIn_r _ [8, 9, 10, 20, 21, 22, 23, 24, 25, 26, 27, 28] (by decide +kernel) (by decide +kernel)
set_option maxRecDepth 20000 in
theorem gX7_feed_X5_appendFourBytes : GoodIn wsX7_feed (wsV RX7 42 RX5 yX5_appendFourBytes wsX5_appendFourBytes) := goodIn_app (goodIn_of _ (by decide +kernel)) ggX7_feed_X5_appendFourBytes
theorem dX7_feed_0 : decode cX7_feed 0 = .ok (.aload_n 0, 1) := by decide +kernel
theorem dX7_feed_1 : decode cX7_feed 1 = .ok (.getfield 10, 3) := by decide +kernel
theorem dX7_feed_4 : decode cX7_feed 4 = .ok (.getfield 37, 3) := by decide +kernel
theorem dX7_feed_7 : decode cX7_feed 7 = .ok (.bipush 20, 2) := by decide +kernel
theorem dX7_feed_9 : decode cX7_feed 9 = .ok (.iadd, 1) := by decide +kernel
theorem dX7_feed_10 : decode cX7_feed 10 = .ok (.sipush 900, 3) := by decide +kernel
theorem dX7_feed_13 : decode cX7_feed 13 = .ok (.if_icmp .le 6, 3) := by decide +kernel
theorem dX7_feed_16 : decode cX7_feed 16 = .ok (.ldc 41, 2) := by decide +kernel
theorem dX7_feed_18 : decode cX7_feed 18 = .ok (.ireturn, 1) := by decide +kernel
theorem dX7_feed_19 : decode cX7_feed 19 = .ok (.aload_n 0, 1) := by decide +kernel
theorem dX7_feed_20 : decode cX7_feed 20 = .ok (.getfield 10, 3) := by decide +kernel
theorem dX7_feed_23 : decode cX7_feed 23 = .ok (.iload_n 1, 1) := by decide +kernel
theorem dX7_feed_24 : decode cX7_feed 24 = .ok (.invokevirtual 42, 3) := by decide +kernel
theorem dX7_feed_27 : decode cX7_feed 27 = .ok (.aload_n 0, 1) := by decide +kernel
theorem dX7_feed_28 : decode cX7_feed 28 = .ok (.getfield 10, 3) := by decide +kernel
theorem dX7_feed_31 : decode cX7_feed 31 = .ok (.iload_n 2, 1) := by decide +kernel
theorem dX7_feed_32 : decode cX7_feed 32 = .ok (.invokevirtual 42, 3) := by decide +kernel
theorem dX7_feed_35 : decode cX7_feed 35 = .ok (.aload_n 0, 1) := by decide +kernel
theorem dX7_feed_36 : decode cX7_feed 36 = .ok (.getfield 10, 3) := by decide +kernel
theorem dX7_feed_39 : decode cX7_feed 39 = .ok (.iload_n 3, 1) := by decide +kernel
theorem dX7_feed_40 : decode cX7_feed 40 = .ok (.invokevirtual 42, 3) := by decide +kernel
theorem dX7_feed_43 : decode cX7_feed 43 = .ok (.aload_n 0, 1) := by decide +kernel
theorem dX7_feed_44 : decode cX7_feed 44 = .ok (.getfield 10, 3) := by decide +kernel
theorem dX7_feed_47 : decode cX7_feed 47 = .ok (.iload 4, 2) := by decide +kernel
theorem dX7_feed_49 : decode cX7_feed 49 = .ok (.invokevirtual 42, 3) := by decide +kernel
theorem dX7_feed_52 : decode cX7_feed 52 = .ok (.aload_n 0, 1) := by decide +kernel
theorem dX7_feed_53 : decode cX7_feed 53 = .ok (.getfield 10, 3) := by decide +kernel
theorem dX7_feed_56 : decode cX7_feed 56 = .ok (.iload 5, 2) := by decide +kernel
theorem dX7_feed_58 : decode cX7_feed 58 = .ok (.invokevirtual 42, 3) := by decide +kernel
theorem dX7_feed_61 : decode cX7_feed 61 = .ok (.aload_n 0, 1) := by decide +kernel
theorem dX7_feed_62 : decode cX7_feed 62 = .ok (.getfield 10, 3) := by decide +kernel
theorem dX7_feed_65 : decode cX7_feed 65 = .ok (.getfield 37, 3) := by decide +kernel
theorem dX7_feed_68 : decode cX7_feed 68 = .ok (.ireturn, 1) := by decide +kernel
set_option maxRecDepth 20000 in
theorem ggX7_load_X5_readText : GoodIn wsX7_load wsX5_readText := goodIn_r _ [17, 18, 19, 20, 21, 22, 23, 24, 25, 26, 27, 28, 29, 30, 31, 32, 33, 34, 35, 36, 37, 38, 39, 40, 41, 42, 43, 44, 45, 46, 47, 48, 49, 50, 51, 52, 16, 53, 54, 55, 56, 57, 58, 59, 60, 61, 62, 63, 64, 65, 66, 67, 68, 69, 70, 71, 72, 73, 74, 75, 76, 77, 78, 79, 80, 81, 82, 83, 84, 85, 86, 87, 88, 89, 90, 91, 92, 93, 94, 95, 96, 97, 98, 99, 100, 101, 102, 103, 104, 105, 106, 107, 108, 109, 110, 111, 112, 113, 114, 115, 116, 117, 118, 119, 120, 121, 122, 123, 124, 125, 126, 127, 128, 129, 130, 131, 132, 133, 134, 135, 136, 137, 138, 139, 140, 141, 142, 143, 144, 145, 146, 147, 148, 149, 150, 151, 152, 153, 154, 155, 156, 157, 158, 159, 160, 161, 162, 163, 164, 165, 166, 167, 168, 169, 170, 171, 172, 173, 174, 175, 176, 177, 178, 179, 180, 181, 182, 183, 184, 185, 186, 187, 188, 189, 190, 191, 192, 193, 194, 195, 196, 197, 198, 199, 200, 201, 202, 203, 204, 205, 206, 207, 208, 209, 210, 211, 212, 213, 214, 215, 216, 217, 218, 219, 220, 221, 222, 223, 224, 225, 226, 227, 228, 229, 230, 231, 232, 233, 234, 235, 236, 237, 238, 239, 240, 241, 242, 243, 244, 245, 246, 247, 248, 249, 250, 251, 252, 253, 254, 255, 256, 257, 258, 259, 260, 261, 262, 263, 264, 265, 266, 267, 268, 269, 270, 271, 272, 273, 274, 275, 276, 277, 278, 279, 280, 281, 282, 283, 284, 285, 286, 287, 288, 289, 290, 291, 292, 293, 294, 295, 296, 297, 298, 299, 300, 301, 329, 330, 331, 332, 333, 334, 335, 336, 337, 338, 339, 340, 341, 342, 343, 344, 345, 346, 347, 348, 349, 350, 351, 352, 353, 354, 355, 356, 357, 358, 359, 360, 361, 362, 363, 364, 365, 366, 367, 368, 369, 370, 371, 372, 373, 374] (by decide +kernel) (by decide +kernel)
set_option maxRecDepth 20000 in
theorem gX7_load_X5_readText : GoodIn wsX7_load (wsV RX7 47 RX5 yX5_readText wsX5_readText) := goodIn_app (goodIn_of _ (by decide +kernel)) ggX7_load_X5_readText
set_option maxRecDepth 20000 in
theorem ggX7_load_X1_forgetAll : GoodIn wsX7_load wsX1_forgetAll := goodIn_r _ [306, 307, 375, 376, 377] (by decide +kernel) (by decide +kernel)
set_option maxRecDepth 20000 in
theorem gX7_load_X1_forgetAll : GoodIn wsX7_load (wsV RX7 64 RX1 yX1_forgetAll wsX1_forgetAll) := goodIn_app (goodIn_of _ (by decide +kernel)) ggX7_load_X1_forgetAll
set_option maxRecDepth 20000 in
theorem ggX7_load_X7_forgetPlan : GoodIn wsX7_load wsX7_forgetPlan := goodIn_r _ [312, 313, 314, 315, 316, 317, 318, 319, 320, 321, 322, 323, 324, 325, 326, 327, 328, 378, 379, 380, 381, 382, 383, 384] (by decide +kernel) (by decide +kernel)
set_option maxRecDepth 20000 in
theorem gX7_load_X7_forgetPlan : GoodIn wsX7_load (wsV RX7 67 RX7 yX7_forgetPlan wsX7_forgetPlan) := goodIn_app (goodIn_of _ (by decide +kernel)) ggX7_load_X7_forgetPlan
theorem dX7_load_0 : decode cX7_load 0 = .ok (.iload_n 1, 1) := by decide +kernel
theorem dX7_load_1 : decode cX7_load 1 = .ok (.ifCond .lt 14, 3) := by decide +kernel
theorem dX7_load_4 : decode cX7_load 4 = .ok (.iload_n 1, 1) := by decide +kernel
theorem dX7_load_5 : decode cX7_load 5 = .ok (.aload_n 0, 1) := by decide +kernel
theorem dX7_load_6 : decode cX7_load 6 = .ok (.getfield 10, 3) := by decide +kernel
theorem dX7_load_9 : decode cX7_load 9 = .ok (.getfield 37, 3) := by decide +kernel
theorem dX7_load_12 : decode cX7_load 12 = .ok (.if_icmp .le 6, 3) := by decide +kernel
theorem dX7_load_15 : decode cX7_load 15 = .ok (.ldc 46, 2) := by decide +kernel
theorem dX7_load_17 : decode cX7_load 17 = .ok (.ireturn, 1) := by decide +kernel
theorem dX7_load_18 : decode cX7_load 18 = .ok (.aload_n 0, 1) := by decide +kernel
theorem dX7_load_19 : decode cX7_load 19 = .ok (.getfield 10, 3) := by decide +kernel
theorem dX7_load_22 : decode cX7_load 22 = .ok (.iload_n 1, 1) := by decide +kernel
theorem dX7_load_23 : decode cX7_load 23 = .ok (.aload_n 0, 1) := by decide +kernel
theorem dX7_load_24 : decode cX7_load 24 = .ok (.getfield 23, 3) := by decide +kernel
theorem dX7_load_27 : decode cX7_load 27 = .ok (.invokevirtual 47, 3) := by decide +kernel
theorem dX7_load_30 : decode cX7_load 30 = .ok (.istore_n 2, 1) := by decide +kernel
theorem dX7_load_31 : decode cX7_load 31 = .ok (.aload_n 0, 1) := by decide +kernel
theorem dX7_load_32 : decode cX7_load 32 = .ok (.getfield 10, 3) := by decide +kernel
theorem dX7_load_35 : decode cX7_load 35 = .ok (.iconst 0, 1) := by decide +kernel
theorem dX7_load_36 : decode cX7_load 36 = .ok (.putfield 37, 3) := by decide +kernel
theorem dX7_load_39 : decode cX7_load 39 = .ok (.aload_n 0, 1) := by decide +kernel
theorem dX7_load_40 : decode cX7_load 40 = .ok (.aload_n 0, 1) := by decide +kernel
theorem dX7_load_41 : decode cX7_load 41 = .ok (.getfield 10, 3) := by decide +kernel
theorem dX7_load_44 : decode cX7_load 44 = .ok (.getfield 51, 3) := by decide +kernel
theorem dX7_load_47 : decode cX7_load 47 = .ok (.putfield 54, 3) := by decide +kernel
theorem dX7_load_50 : decode cX7_load 50 = .ok (.aload_n 0, 1) := by decide +kernel
theorem dX7_load_51 : decode cX7_load 51 = .ok (.aload_n 0, 1) := by decide +kernel
theorem dX7_load_52 : decode cX7_load 52 = .ok (.getfield 10, 3) := by decide +kernel
theorem dX7_load_55 : decode cX7_load 55 = .ok (.getfield 57, 3) := by decide +kernel
theorem dX7_load_58 : decode cX7_load 58 = .ok (.putfield 60, 3) := by decide +kernel
theorem dX7_load_61 : decode cX7_load 61 = .ok (.iload_n 2, 1) := by decide +kernel
theorem dX7_load_62 : decode cX7_load 62 = .ok (.ifCond .ne 6, 3) := by decide +kernel
theorem dX7_load_65 : decode cX7_load 65 = .ok (.ldc 63, 2) := by decide +kernel
theorem dX7_load_67 : decode cX7_load 67 = .ok (.ireturn, 1) := by decide +kernel
theorem dX7_load_68 : decode cX7_load 68 = .ok (.aload_n 0, 1) := by decide +kernel
theorem dX7_load_69 : decode cX7_load 69 = .ok (.getfield 19, 3) := by decide +kernel
theorem dX7_load_72 : decode cX7_load 72 = .ok (.astore_n 3, 1) := by decide +kernel
theorem dX7_load_73 : decode cX7_load 73 = .ok (.aload_n 0, 1) := by decide +kernel
theorem dX7_load_74 : decode cX7_load 74 = .ok (.aload_n 0, 1) := by decide +kernel
theorem dX7_load_75 : decode cX7_load 75 = .ok (.getfield 23, 3) := by decide +kernel
theorem dX7_load_78 : decode cX7_load 78 = .ok (.putfield 19, 3) := by decide +kernel
theorem dX7_load_81 : decode cX7_load 81 = .ok (.aload_n 0, 1) := by decide +kernel
theorem dX7_load_82 : decode cX7_load 82 = .ok (.aload_n 3, 1) := by decide +kernel
theorem dX7_load_83 : decode cX7_load 83 = .ok (.putfield 23, 3) := by decide +kernel
theorem dX7_load_86 : decode cX7_load 86 = .ok (.aload_n 0, 1) := by decide +kernel
theorem dX7_load_87 : decode cX7_load 87 = .ok (.getfield 29, 3) := by decide +kernel
theorem dX7_load_90 : decode cX7_load 90 = .ok (.invokevirtual 64, 3) := by decide +kernel
theorem dX7_load_93 : decode cX7_load 93 = .ok (.aload_n 0, 1) := by decide +kernel
theorem dX7_load_94 : decode cX7_load 94 = .ok (.invokevirtual 67, 3) := by decide +kernel
theorem dX7_load_97 : decode cX7_load 97 = .ok (.aload_n 0, 1) := by decide +kernel
theorem dX7_load_98 : decode cX7_load 98 = .ok (.getfield 19, 3) := by decide +kernel
theorem dX7_load_101 : decode cX7_load 101 = .ok (.getfield 70, 3) := by decide +kernel
theorem dX7_load_104 : decode cX7_load 104 = .ok (.ireturn, 1) := by decide +kernel
theorem dX7_errorKind_0 : decode cX7_errorKind 0 = .ok (.aload_n 0, 1) := by decide +kernel
theorem dX7_errorKind_1 : decode cX7_errorKind 1 = .ok (.getfield 54, 3) := by decide +kernel
theorem dX7_errorKind_4 : decode cX7_errorKind 4 = .ok (.ireturn, 1) := by decide +kernel
theorem dX7_errorPosition_0 : decode cX7_errorPosition 0 = .ok (.aload_n 0, 1) := by decide +kernel
theorem dX7_errorPosition_1 : decode cX7_errorPosition 1 = .ok (.getfield 54, 3) := by decide +kernel
theorem dX7_errorPosition_4 : decode cX7_errorPosition 4 = .ok (.ifCond .ne 8, 3) := by decide +kernel
theorem dX7_errorPosition_7 : decode cX7_errorPosition 7 = .ok (.ldc 73, 2) := by decide +kernel
theorem dX7_errorPosition_9 : decode cX7_errorPosition 9 = .ok (.goto 7, 3) := by decide +kernel
theorem dX7_errorPosition_12 : decode cX7_errorPosition 12 = .ok (.aload_n 0, 1) := by decide +kernel
theorem dX7_errorPosition_13 : decode cX7_errorPosition 13 = .ok (.getfield 60, 3) := by decide +kernel
theorem dX7_errorPosition_16 : decode cX7_errorPosition 16 = .ok (.ireturn, 1) := by decide +kernel
set_option maxRecDepth 20000 in
theorem ggX7_homeSlot_X4_hasPlatter : GoodIn wsX7_homeSlot wsX4_hasPlatter := goodIn_r _ [9, 10, 20, 21, 22, 23, 24, 25, 26, 27, 28, 29, 30, 31, 32, 33, 34, 35, 36, 37] (by decide +kernel) (by decide +kernel)
set_option maxRecDepth 20000 in
theorem gX7_homeSlot_X4_hasPlatter : GoodIn wsX7_homeSlot (wsV RX7 74 RX4 yX4_hasPlatter wsX4_hasPlatter) := goodIn_app (goodIn_of _ (by decide +kernel)) ggX7_homeSlot_X4_hasPlatter
theorem dX7_homeSlot_0 : decode cX7_homeSlot 0 = .ok (.aload_n 0, 1) := by decide +kernel
theorem dX7_homeSlot_1 : decode cX7_homeSlot 1 = .ok (.getfield 19, 3) := by decide +kernel
theorem dX7_homeSlot_4 : decode cX7_homeSlot 4 = .ok (.iload_n 1, 1) := by decide +kernel
theorem dX7_homeSlot_5 : decode cX7_homeSlot 5 = .ok (.invokevirtual 74, 3) := by decide +kernel
theorem dX7_homeSlot_8 : decode cX7_homeSlot 8 = .ok (.ifCond .eq 18, 3) := by decide +kernel
theorem dX7_homeSlot_11 : decode cX7_homeSlot 11 = .ok (.aload_n 0, 1) := by decide +kernel
theorem dX7_homeSlot_12 : decode cX7_homeSlot 12 = .ok (.getfield 19, 3) := by decide +kernel
theorem dX7_homeSlot_15 : decode cX7_homeSlot 15 = .ok (.getfield 78, 3) := by decide +kernel
theorem dX7_homeSlot_18 : decode cX7_homeSlot 18 = .ok (.iload_n 1, 1) := by decide +kernel
theorem dX7_homeSlot_19 : decode cX7_homeSlot 19 = .ok (.aaload, 1) := by decide +kernel
theorem dX7_homeSlot_20 : decode cX7_homeSlot 20 = .ok (.getfield 82, 3) := by decide +kernel
theorem dX7_homeSlot_23 : decode cX7_homeSlot 23 = .ok (.goto 5, 3) := by decide +kernel
theorem dX7_homeSlot_26 : decode cX7_homeSlot 26 = .ok (.ldc 87, 2) := by decide +kernel
theorem dX7_homeSlot_28 : decode cX7_homeSlot 28 = .ok (.ireturn, 1) := by decide +kernel
set_option maxRecDepth 20000 in
theorem ggX7_platterInSlot_X4_hasSlot : GoodIn wsX7_platterInSlot wsX4_hasSlot := goodIn_r _ [8, 9, 33, 34, 35, 36, 37, 38, 39, 40, 41, 42, 43, 44, 45, 46, 47, 48, 49, 50] (by decide +kernel) (by decide +kernel)
set_option maxRecDepth 20000 in
theorem gX7_platterInSlot_X4_hasSlot : GoodIn wsX7_platterInSlot (wsV RX7 88 RX4 yX4_hasSlot wsX4_hasSlot) := goodIn_app (goodIn_of _ (by decide +kernel)) ggX7_platterInSlot_X4_hasSlot
set_option maxRecDepth 20000 in
theorem ggX7_platterInSlot_X4_platterWithHome : GoodIn wsX7_platterInSlot wsX4_platterWithHome := goodIn_r _ [13, 14, 15, 16, 33, 34, 35, 36, 37, 38, 39, 40, 41, 42, 43, 44, 45, 46, 47, 48, 49, 50, 51, 52, 53, 54, 55, 56, 57, 58, 59] (by decide +kernel) (by decide +kernel)
set_option maxRecDepth 20000 in
theorem gX7_platterInSlot_X4_platterWithHome : GoodIn wsX7_platterInSlot (wsV RX7 91 RX4 yX4_platterWithHome wsX4_platterWithHome) := goodIn_app (goodIn_of _ (by decide +kernel)) ggX7_platterInSlot_X4_platterWithHome
set_option maxRecDepth 20000 in
theorem ggX7_platterInSlot_X4_driveHolding : GoodIn wsX7_platterInSlot wsX4_driveHolding := goodIn_r _ [20, 21, 22, 23, 33, 34, 35, 36, 37, 38, 39, 40, 41, 42, 43, 44, 45, 46, 47, 48, 49, 50, 60, 61, 62] (by decide +kernel) (by decide +kernel)
set_option maxRecDepth 20000 in
theorem gX7_platterInSlot_X4_driveHolding : GoodIn wsX7_platterInSlot (wsV RX7 95 RX4 yX4_driveHolding wsX4_driveHolding) := goodIn_app (goodIn_of _ (by decide +kernel)) ggX7_platterInSlot_X4_driveHolding
theorem dX7_platterInSlot_0 : decode cX7_platterInSlot 0 = .ok (.aload_n 0, 1) := by decide +kernel
theorem dX7_platterInSlot_1 : decode cX7_platterInSlot 1 = .ok (.getfield 19, 3) := by decide +kernel
theorem dX7_platterInSlot_4 : decode cX7_platterInSlot 4 = .ok (.iload_n 1, 1) := by decide +kernel
theorem dX7_platterInSlot_5 : decode cX7_platterInSlot 5 = .ok (.invokevirtual 88, 3) := by decide +kernel
theorem dX7_platterInSlot_8 : decode cX7_platterInSlot 8 = .ok (.ifCond .ne 6, 3) := by decide +kernel
theorem dX7_platterInSlot_11 : decode cX7_platterInSlot 11 = .ok (.ldc 87, 2) := by decide +kernel
theorem dX7_platterInSlot_13 : decode cX7_platterInSlot 13 = .ok (.ireturn, 1) := by decide +kernel
theorem dX7_platterInSlot_14 : decode cX7_platterInSlot 14 = .ok (.aload_n 0, 1) := by decide +kernel
theorem dX7_platterInSlot_15 : decode cX7_platterInSlot 15 = .ok (.getfield 19, 3) := by decide +kernel
theorem dX7_platterInSlot_18 : decode cX7_platterInSlot 18 = .ok (.iload_n 1, 1) := by decide +kernel
theorem dX7_platterInSlot_19 : decode cX7_platterInSlot 19 = .ok (.invokevirtual 91, 3) := by decide +kernel
theorem dX7_platterInSlot_22 : decode cX7_platterInSlot 22 = .ok (.istore_n 2, 1) := by decide +kernel
theorem dX7_platterInSlot_23 : decode cX7_platterInSlot 23 = .ok (.iload_n 2, 1) := by decide +kernel
theorem dX7_platterInSlot_24 : decode cX7_platterInSlot 24 = .ok (.iconst (-1), 1) := by decide +kernel
theorem dX7_platterInSlot_25 : decode cX7_platterInSlot 25 = .ok (.if_icmp .eq 15, 3) := by decide +kernel
theorem dX7_platterInSlot_28 : decode cX7_platterInSlot 28 = .ok (.aload_n 0, 1) := by decide +kernel
theorem dX7_platterInSlot_29 : decode cX7_platterInSlot 29 = .ok (.getfield 19, 3) := by decide +kernel
theorem dX7_platterInSlot_32 : decode cX7_platterInSlot 32 = .ok (.iload_n 2, 1) := by decide +kernel
theorem dX7_platterInSlot_33 : decode cX7_platterInSlot 33 = .ok (.invokevirtual 95, 3) := by decide +kernel
theorem dX7_platterInSlot_36 : decode cX7_platterInSlot 36 = .ok (.iconst (-1), 1) := by decide +kernel
theorem dX7_platterInSlot_37 : decode cX7_platterInSlot 37 = .ok (.if_icmp .eq 8, 3) := by decide +kernel
theorem dX7_platterInSlot_40 : decode cX7_platterInSlot 40 = .ok (.ldc 73, 2) := by decide +kernel
theorem dX7_platterInSlot_42 : decode cX7_platterInSlot 42 = .ok (.goto 4, 3) := by decide +kernel
theorem dX7_platterInSlot_45 : decode cX7_platterInSlot 45 = .ok (.iload_n 2, 1) := by decide +kernel
theorem dX7_platterInSlot_46 : decode cX7_platterInSlot 46 = .ok (.ireturn, 1) := by decide +kernel
set_option maxRecDepth 20000 in
theorem ggX7_driveOf_X4_hasPlatter : GoodIn wsX7_driveOf wsX4_hasPlatter := goodIn_r _ [7, 8, 30, 31, 32, 33, 34, 35, 36, 37, 38, 39, 40, 41, 42, 43, 44, 45, 46, 47] (by decide +kernel) (by decide +kernel)
set_option maxRecDepth 20000 in
theorem gX7_driveOf_X4_hasPlatter : GoodIn wsX7_driveOf (wsV RX7 74 RX4 yX4_hasPlatter wsX4_hasPlatter) := goodIn_app (goodIn_of _ (by decide +kernel)) ggX7_driveOf_X4_hasPlatter
set_option maxRecDepth 20000 in
theorem ggX7_driveOf_X4_driveHolding : GoodIn wsX7_driveOf wsX4_driveHolding := goodIn_r _ [12, 13, 14, 15, 30, 31, 32, 33, 34, 35, 36, 37, 38, 39, 40, 41, 42, 43, 44, 45, 46, 47, 48, 49, 50] (by decide +kernel) (by decide +kernel)
set_option maxRecDepth 20000 in
theorem gX7_driveOf_X4_driveHolding : GoodIn wsX7_driveOf (wsV RX7 95 RX4 yX4_driveHolding wsX4_driveHolding) := goodIn_app (goodIn_of _ (by decide +kernel)) ggX7_driveOf_X4_driveHolding
set_option maxRecDepth 20000 in
theorem ggX7_driveOf_X7_foundOrNot : GoodIn wsX7_driveOf wsX7_foundOrNot := goodIn_r _ [19, 20] (by decide +kernel) (by decide +kernel)
set_option maxRecDepth 20000 in
theorem gX7_driveOf_X7_foundOrNot : GoodIn wsX7_driveOf (va_wsS RX7 98 yX7_foundOrNot wsX7_foundOrNot) := goodIn_app (goodIn_of _ (by decide +kernel)) ggX7_driveOf_X7_foundOrNot
theorem dX7_driveOf_0 : decode cX7_driveOf 0 = .ok (.aload_n 0, 1) := by decide +kernel
theorem dX7_driveOf_1 : decode cX7_driveOf 1 = .ok (.getfield 19, 3) := by decide +kernel
theorem dX7_driveOf_4 : decode cX7_driveOf 4 = .ok (.iload_n 1, 1) := by decide +kernel
theorem dX7_driveOf_5 : decode cX7_driveOf 5 = .ok (.invokevirtual 74, 3) := by decide +kernel
theorem dX7_driveOf_8 : decode cX7_driveOf 8 = .ok (.ifCond .ne 6, 3) := by decide +kernel
theorem dX7_driveOf_11 : decode cX7_driveOf 11 = .ok (.ldc 87, 2) := by decide +kernel
theorem dX7_driveOf_13 : decode cX7_driveOf 13 = .ok (.ireturn, 1) := by decide +kernel
theorem dX7_driveOf_14 : decode cX7_driveOf 14 = .ok (.aload_n 0, 1) := by decide +kernel
theorem dX7_driveOf_15 : decode cX7_driveOf 15 = .ok (.getfield 19, 3) := by decide +kernel
theorem dX7_driveOf_18 : decode cX7_driveOf 18 = .ok (.iload_n 1, 1) := by decide +kernel
theorem dX7_driveOf_19 : decode cX7_driveOf 19 = .ok (.invokevirtual 95, 3) := by decide +kernel
theorem dX7_driveOf_22 : decode cX7_driveOf 22 = .ok (.invokestatic 98, 3) := by decide +kernel
theorem dX7_driveOf_25 : decode cX7_driveOf 25 = .ok (.ireturn, 1) := by decide +kernel
set_option maxRecDepth 20000 in
theorem ggX7_platterInDrive_X4_hasDrive : GoodIn wsX7_platterInDrive wsX4_hasDrive := goodIn_r _ [9, 10, 25, 26, 27, 28, 29, 30, 31, 32, 33, 34, 35, 36, 37, 38, 39, 40, 41, 42] (by decide +kernel) (by decide +kernel)
set_option maxRecDepth 20000 in
theorem gX7_platterInDrive_X4_hasDrive : GoodIn wsX7_platterInDrive (wsV RX7 101 RX4 yX4_hasDrive wsX4_hasDrive) := goodIn_app (goodIn_of _ (by decide +kernel)) ggX7_platterInDrive_X4_hasDrive
set_option maxRecDepth 20000 in
theorem ggX7_platterInDrive_X7_foundOrNot : GoodIn wsX7_platterInDrive wsX7_foundOrNot := goodIn_r _ [14, 15] (by decide +kernel) (by decide +kernel)
set_option maxRecDepth 20000 in
theorem gX7_platterInDrive_X7_foundOrNot : GoodIn wsX7_platterInDrive (va_wsS RX7 98 yX7_foundOrNot wsX7_foundOrNot) := goodIn_app (goodIn_of _ (by decide +kernel)) ggX7_platterInDrive_X7_foundOrNot
theorem dX7_platterInDrive_0 : decode cX7_platterInDrive 0 = .ok (.aload_n 0, 1) := by decide +kernel
theorem dX7_platterInDrive_1 : decode cX7_platterInDrive 1 = .ok (.getfield 19, 3) := by decide +kernel
theorem dX7_platterInDrive_4 : decode cX7_platterInDrive 4 = .ok (.iload_n 1, 1) := by decide +kernel
theorem dX7_platterInDrive_5 : decode cX7_platterInDrive 5 = .ok (.invokevirtual 101, 3) := by decide +kernel
theorem dX7_platterInDrive_8 : decode cX7_platterInDrive 8 = .ok (.ifCond .eq 21, 3) := by decide +kernel
theorem dX7_platterInDrive_11 : decode cX7_platterInDrive 11 = .ok (.aload_n 0, 1) := by decide +kernel
theorem dX7_platterInDrive_12 : decode cX7_platterInDrive 12 = .ok (.getfield 19, 3) := by decide +kernel
theorem dX7_platterInDrive_15 : decode cX7_platterInDrive 15 = .ok (.getfield 104, 3) := by decide +kernel
theorem dX7_platterInDrive_18 : decode cX7_platterInDrive 18 = .ok (.iload_n 1, 1) := by decide +kernel
theorem dX7_platterInDrive_19 : decode cX7_platterInDrive 19 = .ok (.aaload, 1) := by decide +kernel
theorem dX7_platterInDrive_20 : decode cX7_platterInDrive 20 = .ok (.getfield 108, 3) := by decide +kernel
theorem dX7_platterInDrive_23 : decode cX7_platterInDrive 23 = .ok (.invokestatic 98, 3) := by decide +kernel
theorem dX7_platterInDrive_26 : decode cX7_platterInDrive 26 = .ok (.goto 5, 3) := by decide +kernel
theorem dX7_platterInDrive_29 : decode cX7_platterInDrive 29 = .ok (.ldc 87, 2) := by decide +kernel
theorem dX7_platterInDrive_31 : decode cX7_platterInDrive 31 = .ok (.ireturn, 1) := by decide +kernel
theorem dX7_foundOrNot_0 : decode cX7_foundOrNot 0 = .ok (.iload_n 0, 1) := by decide +kernel
theorem dX7_foundOrNot_1 : decode cX7_foundOrNot 1 = .ok (.iconst (-1), 1) := by decide +kernel
theorem dX7_foundOrNot_2 : decode cX7_foundOrNot 2 = .ok (.if_icmp .ne 8, 3) := by decide +kernel
theorem dX7_foundOrNot_5 : decode cX7_foundOrNot 5 = .ok (.ldc 73, 2) := by decide +kernel
theorem dX7_foundOrNot_7 : decode cX7_foundOrNot 7 = .ok (.goto 4, 3) := by decide +kernel
theorem dX7_foundOrNot_10 : decode cX7_foundOrNot 10 = .ok (.iload_n 0, 1) := by decide +kernel
theorem dX7_foundOrNot_11 : decode cX7_foundOrNot 11 = .ok (.ireturn, 1) := by decide +kernel
theorem dX7_pickerPosition_0 : decode cX7_pickerPosition 0 = .ok (.aload_n 0, 1) := by decide +kernel
theorem dX7_pickerPosition_1 : decode cX7_pickerPosition 1 = .ok (.getfield 19, 3) := by decide +kernel
theorem dX7_pickerPosition_4 : decode cX7_pickerPosition 4 = .ok (.getfield 113, 3) := by decide +kernel
theorem dX7_pickerPosition_7 : decode cX7_pickerPosition 7 = .ok (.ireturn, 1) := by decide +kernel
theorem dX7_clock_0 : decode cX7_clock 0 = .ok (.aload_n 0, 1) := by decide +kernel
theorem dX7_clock_1 : decode cX7_clock 1 = .ok (.getfield 19, 3) := by decide +kernel
theorem dX7_clock_4 : decode cX7_clock 4 = .ok (.getfield 116, 3) := by decide +kernel
theorem dX7_clock_7 : decode cX7_clock 7 = .ok (.ireturn, 1) := by decide +kernel
theorem dX7_exchanges_0 : decode cX7_exchanges 0 = .ok (.aload_n 0, 1) := by decide +kernel
theorem dX7_exchanges_1 : decode cX7_exchanges 1 = .ok (.getfield 19, 3) := by decide +kernel
theorem dX7_exchanges_4 : decode cX7_exchanges 4 = .ok (.getfield 119, 3) := by decide +kernel
theorem dX7_exchanges_7 : decode cX7_exchanges 7 = .ok (.ireturn, 1) := by decide +kernel
theorem dX7_travel_0 : decode cX7_travel 0 = .ok (.aload_n 0, 1) := by decide +kernel
theorem dX7_travel_1 : decode cX7_travel 1 = .ok (.getfield 19, 3) := by decide +kernel
theorem dX7_travel_4 : decode cX7_travel 4 = .ok (.getfield 122, 3) := by decide +kernel
theorem dX7_travel_7 : decode cX7_travel 7 = .ok (.ireturn, 1) := by decide +kernel
set_option maxRecDepth 20000 in
theorem ggX7_chosenDrive_X7_mountProblem : GoodIn wsX7_chosenDrive wsX7_mountProblem := goodIn_r _ [6, 1, 7, 8, 9, 10, 11, 12, 13, 14, 15, 33, 34, 35, 36, 37, 38, 39, 40, 41, 42, 43, 44, 45, 46, 47, 48, 49, 50, 51, 52, 53, 54, 55, 56, 57, 58, 59] (by decide +kernel) (by decide +kernel)
set_option maxRecDepth 20000 in
theorem gX7_chosenDrive_X7_mountProblem : GoodIn wsX7_chosenDrive (wsV RX7 125 RX7 yX7_mountProblem wsX7_mountProblem) := goodIn_app (goodIn_of _ (by decide +kernel)) ggX7_chosenDrive_X7_mountProblem
set_option maxRecDepth 20000 in
theorem ggX7_chosenDrive_X4_driveToChoose : GoodIn wsX7_chosenDrive wsX4_driveToChoose := goodIn_r _ [19, 20, 21, 22, 13, 23, 24, 25, 26, 27, 28, 29, 30, 31, 32, 42, 43, 44, 45, 46, 47, 48, 49, 50, 51, 52, 53, 54, 55, 56, 57, 58, 59, 60, 61, 62] (by decide +kernel) (by decide +kernel)
set_option maxRecDepth 20000 in
theorem gX7_chosenDrive_X4_driveToChoose : GoodIn wsX7_chosenDrive (wsV RX7 128 RX4 yX4_driveToChoose wsX4_driveToChoose) := goodIn_app (goodIn_of _ (by decide +kernel)) ggX7_chosenDrive_X4_driveToChoose
theorem dX7_chosenDrive_0 : decode cX7_chosenDrive 0 = .ok (.aload_n 0, 1) := by decide +kernel
theorem dX7_chosenDrive_1 : decode cX7_chosenDrive 1 = .ok (.iload_n 1, 1) := by decide +kernel
theorem dX7_chosenDrive_2 : decode cX7_chosenDrive 2 = .ok (.invokevirtual 125, 3) := by decide +kernel
theorem dX7_chosenDrive_5 : decode cX7_chosenDrive 5 = .ok (.istore_n 2, 1) := by decide +kernel
theorem dX7_chosenDrive_6 : decode cX7_chosenDrive 6 = .ok (.iload_n 2, 1) := by decide +kernel
theorem dX7_chosenDrive_7 : decode cX7_chosenDrive 7 = .ok (.ifCond .eq 7, 3) := by decide +kernel
theorem dX7_chosenDrive_10 : decode cX7_chosenDrive 10 = .ok (.iload_n 2, 1) := by decide +kernel
theorem dX7_chosenDrive_11 : decode cX7_chosenDrive 11 = .ok (.goto 11, 3) := by decide +kernel
theorem dX7_chosenDrive_14 : decode cX7_chosenDrive 14 = .ok (.aload_n 0, 1) := by decide +kernel
theorem dX7_chosenDrive_15 : decode cX7_chosenDrive 15 = .ok (.getfield 19, 3) := by decide +kernel
theorem dX7_chosenDrive_18 : decode cX7_chosenDrive 18 = .ok (.iload_n 1, 1) := by decide +kernel
theorem dX7_chosenDrive_19 : decode cX7_chosenDrive 19 = .ok (.invokevirtual 128, 3) := by decide +kernel
theorem dX7_chosenDrive_22 : decode cX7_chosenDrive 22 = .ok (.ireturn, 1) := by decide +kernel
set_option maxRecDepth 20000 in
theorem ggX7_mountTime_X7_mountProblem : GoodIn wsX7_mountTime wsX7_mountProblem := goodIn_r _ [6, 1, 7, 8, 9, 10, 11, 12, 13, 14, 15, 54, 55, 56, 57, 58, 59, 60, 61, 62, 63, 64, 65, 66, 67, 68, 69, 70, 71, 72, 73, 74, 75, 76, 77, 78, 79, 80] (by decide +kernel) (by decide +kernel)
set_option maxRecDepth 20000 in
theorem gX7_mountTime_X7_mountProblem : GoodIn wsX7_mountTime (wsV RX7 125 RX7 yX7_mountProblem wsX7_mountProblem) := goodIn_app (goodIn_of _ (by decide +kernel)) ggX7_mountTime_X7_mountProblem
set_option maxRecDepth 20000 in
theorem ggX7_mountTime_X4_chosenBringTime : GoodIn wsX7_mountTime wsX4_chosenBringTime := goodIn_r _ [19, 20, 21, 22, 13, 23, 24, 25, 26, 27, 28, 29, 30, 31, 32, 33, 34, 35, 36, 37, 38, 39, 40, 41, 42, 43, 44, 45, 46, 47, 48, 49, 50, 51, 52, 53, 63, 64, 65, 66, 67, 68, 69, 70, 71, 72, 73, 74, 75, 76, 77, 78, 79, 80, 81, 82, 83, 84, 85, 86, 87, 88, 89, 90, 91, 92] (by decide +kernel) (by decide +kernel)
set_option maxRecDepth 20000 in
theorem gX7_mountTime_X4_chosenBringTime : GoodIn wsX7_mountTime (wsV RX7 131 RX4 yX4_chosenBringTime wsX4_chosenBringTime) := goodIn_app (goodIn_of _ (by decide +kernel)) ggX7_mountTime_X4_chosenBringTime
theorem dX7_mountTime_0 : decode cX7_mountTime 0 = .ok (.aload_n 0, 1) := by decide +kernel
theorem dX7_mountTime_1 : decode cX7_mountTime 1 = .ok (.iload_n 1, 1) := by decide +kernel
theorem dX7_mountTime_2 : decode cX7_mountTime 2 = .ok (.invokevirtual 125, 3) := by decide +kernel
theorem dX7_mountTime_5 : decode cX7_mountTime 5 = .ok (.istore_n 2, 1) := by decide +kernel
theorem dX7_mountTime_6 : decode cX7_mountTime 6 = .ok (.iload_n 2, 1) := by decide +kernel
theorem dX7_mountTime_7 : decode cX7_mountTime 7 = .ok (.ifCond .eq 7, 3) := by decide +kernel
theorem dX7_mountTime_10 : decode cX7_mountTime 10 = .ok (.iload_n 2, 1) := by decide +kernel
theorem dX7_mountTime_11 : decode cX7_mountTime 11 = .ok (.goto 11, 3) := by decide +kernel
theorem dX7_mountTime_14 : decode cX7_mountTime 14 = .ok (.aload_n 0, 1) := by decide +kernel
theorem dX7_mountTime_15 : decode cX7_mountTime 15 = .ok (.getfield 19, 3) := by decide +kernel
theorem dX7_mountTime_18 : decode cX7_mountTime 18 = .ok (.iload_n 1, 1) := by decide +kernel
theorem dX7_mountTime_19 : decode cX7_mountTime 19 = .ok (.invokevirtual 131, 3) := by decide +kernel
theorem dX7_mountTime_22 : decode cX7_mountTime 22 = .ok (.ireturn, 1) := by decide +kernel
set_option maxRecDepth 20000 in
theorem ggX7_mountProblem_X4_hasPlatter : GoodIn wsX7_mountProblem wsX4_hasPlatter := goodIn_r _ [9, 10, 20, 21, 22, 23, 24, 25, 26, 27, 28, 29, 30, 31, 32, 33, 34, 35, 36, 37] (by decide +kernel) (by decide +kernel)
set_option maxRecDepth 20000 in
theorem gX7_mountProblem_X4_hasPlatter : GoodIn wsX7_mountProblem (wsV RX7 74 RX4 yX4_hasPlatter wsX4_hasPlatter) := goodIn_app (goodIn_of _ (by decide +kernel)) ggX7_mountProblem_X4_hasPlatter
theorem dX7_mountProblem_0 : decode cX7_mountProblem 0 = .ok (.aload_n 0, 1) := by decide +kernel
theorem dX7_mountProblem_1 : decode cX7_mountProblem 1 = .ok (.getfield 19, 3) := by decide +kernel
theorem dX7_mountProblem_4 : decode cX7_mountProblem 4 = .ok (.iload_n 1, 1) := by decide +kernel
theorem dX7_mountProblem_5 : decode cX7_mountProblem 5 = .ok (.invokevirtual 74, 3) := by decide +kernel
theorem dX7_mountProblem_8 : decode cX7_mountProblem 8 = .ok (.ifCond .ne 6, 3) := by decide +kernel
theorem dX7_mountProblem_11 : decode cX7_mountProblem 11 = .ok (.ldc 87, 2) := by decide +kernel
theorem dX7_mountProblem_13 : decode cX7_mountProblem 13 = .ok (.ireturn, 1) := by decide +kernel
theorem dX7_mountProblem_14 : decode cX7_mountProblem 14 = .ok (.aload_n 0, 1) := by decide +kernel
theorem dX7_mountProblem_15 : decode cX7_mountProblem 15 = .ok (.getfield 19, 3) := by decide +kernel
theorem dX7_mountProblem_18 : decode cX7_mountProblem 18 = .ok (.getfield 134, 3) := by decide +kernel
theorem dX7_mountProblem_21 : decode cX7_mountProblem 21 = .ok (.ifCond .ne 8, 3) := by decide +kernel
theorem dX7_mountProblem_24 : decode cX7_mountProblem 24 = .ok (.ldc 137, 2) := by decide +kernel
theorem dX7_mountProblem_26 : decode cX7_mountProblem 26 = .ok (.goto 4, 3) := by decide +kernel
theorem dX7_mountProblem_29 : decode cX7_mountProblem 29 = .ok (.iconst 0, 1) := by decide +kernel
theorem dX7_mountProblem_30 : decode cX7_mountProblem 30 = .ok (.ireturn, 1) := by decide +kernel
set_option maxRecDepth 20000 in
theorem ggX7_mountTimeIn_X4_hasPlatter : GoodIn wsX7_mountTimeIn wsX4_hasPlatter := goodIn_r _ [8, 9, 47, 48, 49, 50, 51, 52, 53, 54, 55, 56, 57, 58, 59, 60, 61, 62, 63, 64] (by decide +kernel) (by decide +kernel)
set_option maxRecDepth 20000 in
theorem gX7_mountTimeIn_X4_hasPlatter : GoodIn wsX7_mountTimeIn (wsV RX7 74 RX4 yX4_hasPlatter wsX4_hasPlatter) := goodIn_app (goodIn_of _ (by decide +kernel)) ggX7_mountTimeIn_X4_hasPlatter
set_option maxRecDepth 20000 in
theorem ggX7_mountTimeIn_X4_hasDrive : GoodIn wsX7_mountTimeIn wsX4_hasDrive := goodIn_r _ [13, 14, 47, 48, 49, 50, 51, 52, 53, 54, 55, 56, 57, 58, 59, 60, 61, 62, 63, 64] (by decide +kernel) (by decide +kernel)
set_option maxRecDepth 20000 in
theorem gX7_mountTimeIn_X4_hasDrive : GoodIn wsX7_mountTimeIn (wsV RX7 101 RX4 yX4_hasDrive wsX4_hasDrive) := goodIn_app (goodIn_of _ (by decide +kernel)) ggX7_mountTimeIn_X4_hasDrive
set_option maxRecDepth 20000 in
theorem ggX7_mountTimeIn_X4_driveHolding : GoodIn wsX7_mountTimeIn wsX4_driveHolding := goodIn_r _ [18, 14, 19, 20, 47, 48, 49, 50, 51, 52, 53, 54, 55, 56, 57, 58, 59, 60, 61, 62, 63, 64, 65, 66, 67] (by decide +kernel) (by decide +kernel)
set_option maxRecDepth 20000 in
theorem gX7_mountTimeIn_X4_driveHolding : GoodIn wsX7_mountTimeIn (wsV RX7 95 RX4 yX4_driveHolding wsX4_driveHolding) := goodIn_app (goodIn_of _ (by decide +kernel)) ggX7_mountTimeIn_X4_driveHolding
set_option maxRecDepth 20000 in
theorem ggX7_mountTimeIn_X4_bringTime : GoodIn wsX7_mountTimeIn wsX4_bringTime := goodIn_r _ [24, 19, 20, 25, 26, 27, 28, 7, 29, 30, 31, 32, 33, 34, 35, 36, 37, 47, 48, 49, 50, 51, 52, 53, 54, 55, 56, 57, 58, 59, 60, 61, 62, 63, 64, 65, 66, 67, 68, 69, 70, 71, 72, 73, 74, 75, 76] (by decide +kernel) (by decide +kernel)
set_option maxRecDepth 20000 in
theorem gX7_mountTimeIn_X4_bringTime : GoodIn wsX7_mountTimeIn (wsV RX7 138 RX4 yX4_bringTime wsX4_bringTime) := goodIn_app (goodIn_of _ (by decide +kernel)) ggX7_mountTimeIn_X4_bringTime
theorem dX7_mountTimeIn_0 : decode cX7_mountTimeIn 0 = .ok (.aload_n 0, 1) := by decide +kernel
theorem dX7_mountTimeIn_1 : decode cX7_mountTimeIn 1 = .ok (.getfield 19, 3) := by decide +kernel
theorem dX7_mountTimeIn_4 : decode cX7_mountTimeIn 4 = .ok (.iload_n 1, 1) := by decide +kernel
theorem dX7_mountTimeIn_5 : decode cX7_mountTimeIn 5 = .ok (.invokevirtual 74, 3) := by decide +kernel
theorem dX7_mountTimeIn_8 : decode cX7_mountTimeIn 8 = .ok (.ifCond .eq 14, 3) := by decide +kernel
theorem dX7_mountTimeIn_11 : decode cX7_mountTimeIn 11 = .ok (.aload_n 0, 1) := by decide +kernel
theorem dX7_mountTimeIn_12 : decode cX7_mountTimeIn 12 = .ok (.getfield 19, 3) := by decide +kernel
theorem dX7_mountTimeIn_15 : decode cX7_mountTimeIn 15 = .ok (.iload_n 2, 1) := by decide +kernel
theorem dX7_mountTimeIn_16 : decode cX7_mountTimeIn 16 = .ok (.invokevirtual 101, 3) := by decide +kernel
theorem dX7_mountTimeIn_19 : decode cX7_mountTimeIn 19 = .ok (.ifCond .ne 6, 3) := by decide +kernel
theorem dX7_mountTimeIn_22 : decode cX7_mountTimeIn 22 = .ok (.ldc 87, 2) := by decide +kernel
theorem dX7_mountTimeIn_24 : decode cX7_mountTimeIn 24 = .ok (.ireturn, 1) := by decide +kernel
theorem dX7_mountTimeIn_25 : decode cX7_mountTimeIn 25 = .ok (.aload_n 0, 1) := by decide +kernel
theorem dX7_mountTimeIn_26 : decode cX7_mountTimeIn 26 = .ok (.getfield 19, 3) := by decide +kernel
theorem dX7_mountTimeIn_29 : decode cX7_mountTimeIn 29 = .ok (.iload_n 1, 1) := by decide +kernel
theorem dX7_mountTimeIn_30 : decode cX7_mountTimeIn 30 = .ok (.invokevirtual 95, 3) := by decide +kernel
theorem dX7_mountTimeIn_33 : decode cX7_mountTimeIn 33 = .ok (.istore_n 3, 1) := by decide +kernel
theorem dX7_mountTimeIn_34 : decode cX7_mountTimeIn 34 = .ok (.iload_n 3, 1) := by decide +kernel
theorem dX7_mountTimeIn_35 : decode cX7_mountTimeIn 35 = .ok (.iconst (-1), 1) := by decide +kernel
theorem dX7_mountTimeIn_36 : decode cX7_mountTimeIn 36 = .ok (.if_icmp .eq 13, 3) := by decide +kernel
theorem dX7_mountTimeIn_39 : decode cX7_mountTimeIn 39 = .ok (.iload_n 3, 1) := by decide +kernel
theorem dX7_mountTimeIn_40 : decode cX7_mountTimeIn 40 = .ok (.iload_n 2, 1) := by decide +kernel
theorem dX7_mountTimeIn_41 : decode cX7_mountTimeIn 41 = .ok (.if_icmp .eq 8, 3) := by decide +kernel
theorem dX7_mountTimeIn_44 : decode cX7_mountTimeIn 44 = .ok (.ldc 73, 2) := by decide +kernel
theorem dX7_mountTimeIn_46 : decode cX7_mountTimeIn 46 = .ok (.goto 12, 3) := by decide +kernel
theorem dX7_mountTimeIn_49 : decode cX7_mountTimeIn 49 = .ok (.aload_n 0, 1) := by decide +kernel
theorem dX7_mountTimeIn_50 : decode cX7_mountTimeIn 50 = .ok (.getfield 19, 3) := by decide +kernel
theorem dX7_mountTimeIn_53 : decode cX7_mountTimeIn 53 = .ok (.iload_n 1, 1) := by decide +kernel
theorem dX7_mountTimeIn_54 : decode cX7_mountTimeIn 54 = .ok (.iload_n 2, 1) := by decide +kernel
theorem dX7_mountTimeIn_55 : decode cX7_mountTimeIn 55 = .ok (.invokevirtual 138, 3) := by decide +kernel
theorem dX7_mountTimeIn_58 : decode cX7_mountTimeIn 58 = .ok (.ireturn, 1) := by decide +kernel
set_option maxRecDepth 20000 in
theorem ggX7_freeSectors_X4_hasPlatter : GoodIn wsX7_freeSectors wsX4_hasPlatter := goodIn_r _ [8, 9, 26, 27, 28, 29, 30, 31, 32, 33, 34, 35, 36, 37, 38, 39, 40, 41, 42, 43] (by decide +kernel) (by decide +kernel)
set_option maxRecDepth 20000 in
theorem gX7_freeSectors_X4_hasPlatter : GoodIn wsX7_freeSectors (wsV RX7 74 RX4 yX4_hasPlatter wsX4_hasPlatter) := goodIn_app (goodIn_of _ (by decide +kernel)) ggX7_freeSectors_X4_hasPlatter
set_option maxRecDepth 20000 in
theorem ggX7_freeSectors_X3_unused : GoodIn wsX7_freeSectors wsX3_unused := goodIn_r _ [14, 15, 16, 44, 45, 46, 47, 48, 49, 50, 51, 52] (by decide +kernel) (by decide +kernel)
set_option maxRecDepth 20000 in
theorem gX7_freeSectors_X3_unused : GoodIn wsX7_freeSectors (wsV RX7 142 RX3 yX3_unused wsX3_unused) := goodIn_app (goodIn_of _ (by decide +kernel)) ggX7_freeSectors_X3_unused
theorem dX7_freeSectors_0 : decode cX7_freeSectors 0 = .ok (.aload_n 0, 1) := by decide +kernel
theorem dX7_freeSectors_1 : decode cX7_freeSectors 1 = .ok (.getfield 19, 3) := by decide +kernel
theorem dX7_freeSectors_4 : decode cX7_freeSectors 4 = .ok (.iload_n 1, 1) := by decide +kernel
theorem dX7_freeSectors_5 : decode cX7_freeSectors 5 = .ok (.invokevirtual 74, 3) := by decide +kernel
theorem dX7_freeSectors_8 : decode cX7_freeSectors 8 = .ok (.ifCond .eq 18, 3) := by decide +kernel
theorem dX7_freeSectors_11 : decode cX7_freeSectors 11 = .ok (.aload_n 0, 1) := by decide +kernel
theorem dX7_freeSectors_12 : decode cX7_freeSectors 12 = .ok (.getfield 19, 3) := by decide +kernel
theorem dX7_freeSectors_15 : decode cX7_freeSectors 15 = .ok (.getfield 78, 3) := by decide +kernel
theorem dX7_freeSectors_18 : decode cX7_freeSectors 18 = .ok (.iload_n 1, 1) := by decide +kernel
theorem dX7_freeSectors_19 : decode cX7_freeSectors 19 = .ok (.aaload, 1) := by decide +kernel
theorem dX7_freeSectors_20 : decode cX7_freeSectors 20 = .ok (.invokevirtual 142, 3) := by decide +kernel
theorem dX7_freeSectors_23 : decode cX7_freeSectors 23 = .ok (.goto 5, 3) := by decide +kernel
theorem dX7_freeSectors_26 : decode cX7_freeSectors 26 = .ok (.ldc 87, 2) := by decide +kernel
theorem dX7_freeSectors_28 : decode cX7_freeSectors 28 = .ok (.ireturn, 1) := by decide +kernel
set_option maxRecDepth 20000 in
theorem ggX7_sessionCount_X4_hasPlatter : GoodIn wsX7_sessionCount wsX4_hasPlatter := goodIn_r _ [9, 10, 20, 21, 22, 23, 24, 25, 26, 27, 28, 29, 30, 31, 32, 33, 34, 35, 36, 37] (by decide +kernel) (by decide +kernel)
set_option maxRecDepth 20000 in
theorem gX7_sessionCount_X4_hasPlatter : GoodIn wsX7_sessionCount (wsV RX7 74 RX4 yX4_hasPlatter wsX4_hasPlatter) := goodIn_app (goodIn_of _ (by decide +kernel)) ggX7_sessionCount_X4_hasPlatter
theorem dX7_sessionCount_0 : decode cX7_sessionCount 0 = .ok (.aload_n 0, 1) := by decide +kernel
theorem dX7_sessionCount_1 : decode cX7_sessionCount 1 = .ok (.getfield 19, 3) := by decide +kernel
theorem dX7_sessionCount_4 : decode cX7_sessionCount 4 = .ok (.iload_n 1, 1) := by decide +kernel
theorem dX7_sessionCount_5 : decode cX7_sessionCount 5 = .ok (.invokevirtual 74, 3) := by decide +kernel
theorem dX7_sessionCount_8 : decode cX7_sessionCount 8 = .ok (.ifCond .eq 18, 3) := by decide +kernel
theorem dX7_sessionCount_11 : decode cX7_sessionCount 11 = .ok (.aload_n 0, 1) := by decide +kernel
theorem dX7_sessionCount_12 : decode cX7_sessionCount 12 = .ok (.getfield 19, 3) := by decide +kernel
theorem dX7_sessionCount_15 : decode cX7_sessionCount 15 = .ok (.getfield 78, 3) := by decide +kernel
theorem dX7_sessionCount_18 : decode cX7_sessionCount 18 = .ok (.iload_n 1, 1) := by decide +kernel
theorem dX7_sessionCount_19 : decode cX7_sessionCount 19 = .ok (.aaload, 1) := by decide +kernel
theorem dX7_sessionCount_20 : decode cX7_sessionCount 20 = .ok (.getfield 146, 3) := by decide +kernel
theorem dX7_sessionCount_23 : decode cX7_sessionCount 23 = .ok (.goto 5, 3) := by decide +kernel
theorem dX7_sessionCount_26 : decode cX7_sessionCount 26 = .ok (.ldc 87, 2) := by decide +kernel
theorem dX7_sessionCount_28 : decode cX7_sessionCount 28 = .ok (.ireturn, 1) := by decide +kernel
set_option maxRecDepth 20000 in
theorem ggX7_hasOpenSession_X4_hasPlatter : GoodIn wsX7_hasOpenSession wsX4_hasPlatter := goodIn_r _ [9, 10, 20, 21, 22, 23, 24, 25, 26, 27, 28, 29, 30, 31, 32, 33, 34, 35, 36, 37] (by decide +kernel) (by decide +kernel)
set_option maxRecDepth 20000 in
theorem gX7_hasOpenSession_X4_hasPlatter : GoodIn wsX7_hasOpenSession (wsV RX7 74 RX4 yX4_hasPlatter wsX4_hasPlatter) := goodIn_app (goodIn_of _ (by decide +kernel)) ggX7_hasOpenSession_X4_hasPlatter
theorem dX7_hasOpenSession_0 : decode cX7_hasOpenSession 0 = .ok (.aload_n 0, 1) := by decide +kernel
theorem dX7_hasOpenSession_1 : decode cX7_hasOpenSession 1 = .ok (.getfield 19, 3) := by decide +kernel
theorem dX7_hasOpenSession_4 : decode cX7_hasOpenSession 4 = .ok (.iload_n 1, 1) := by decide +kernel
theorem dX7_hasOpenSession_5 : decode cX7_hasOpenSession 5 = .ok (.invokevirtual 74, 3) := by decide +kernel
theorem dX7_hasOpenSession_8 : decode cX7_hasOpenSession 8 = .ok (.ifCond .ne 6, 3) := by decide +kernel
theorem dX7_hasOpenSession_11 : decode cX7_hasOpenSession 11 = .ok (.ldc 87, 2) := by decide +kernel
theorem dX7_hasOpenSession_13 : decode cX7_hasOpenSession 13 = .ok (.ireturn, 1) := by decide +kernel
theorem dX7_hasOpenSession_14 : decode cX7_hasOpenSession 14 = .ok (.aload_n 0, 1) := by decide +kernel
theorem dX7_hasOpenSession_15 : decode cX7_hasOpenSession 15 = .ok (.getfield 19, 3) := by decide +kernel
theorem dX7_hasOpenSession_18 : decode cX7_hasOpenSession 18 = .ok (.getfield 78, 3) := by decide +kernel
theorem dX7_hasOpenSession_21 : decode cX7_hasOpenSession 21 = .ok (.iload_n 1, 1) := by decide +kernel
theorem dX7_hasOpenSession_22 : decode cX7_hasOpenSession 22 = .ok (.aaload, 1) := by decide +kernel
theorem dX7_hasOpenSession_23 : decode cX7_hasOpenSession 23 = .ok (.getfield 149, 3) := by decide +kernel
theorem dX7_hasOpenSession_26 : decode cX7_hasOpenSession 26 = .ok (.ifCond .eq 7, 3) := by decide +kernel
theorem dX7_hasOpenSession_29 : decode cX7_hasOpenSession 29 = .ok (.iconst 1, 1) := by decide +kernel
theorem dX7_hasOpenSession_30 : decode cX7_hasOpenSession 30 = .ok (.goto 4, 3) := by decide +kernel
theorem dX7_hasOpenSession_33 : decode cX7_hasOpenSession 33 = .ok (.iconst 0, 1) := by decide +kernel
theorem dX7_hasOpenSession_34 : decode cX7_hasOpenSession 34 = .ok (.ireturn, 1) := by decide +kernel
set_option maxRecDepth 20000 in
theorem ggX7_sessionStart_X4_hasSession : GoodIn wsX7_sessionStart wsX4_hasSession := goodIn_r _ [9, 10, 11, 12, 13, 14, 8, 15, 16, 26, 27, 28, 29, 30, 31, 32, 33, 34, 35, 36, 37, 38, 39, 40, 41, 42, 43, 44, 45, 46, 47, 48, 49, 50, 51, 52] (by decide +kernel) (by decide +kernel)
set_option maxRecDepth 20000 in
theorem gX7_sessionStart_X4_hasSession : GoodIn wsX7_sessionStart (wsV RX7 153 RX4 yX4_hasSession wsX4_hasSession) := goodIn_app (goodIn_of _ (by decide +kernel)) ggX7_sessionStart_X4_hasSession
theorem dX7_sessionStart_0 : decode cX7_sessionStart 0 = .ok (.aload_n 0, 1) := by decide +kernel
theorem dX7_sessionStart_1 : decode cX7_sessionStart 1 = .ok (.getfield 19, 3) := by decide +kernel
theorem dX7_sessionStart_4 : decode cX7_sessionStart 4 = .ok (.iload_n 1, 1) := by decide +kernel
theorem dX7_sessionStart_5 : decode cX7_sessionStart 5 = .ok (.iload_n 2, 1) := by decide +kernel
theorem dX7_sessionStart_6 : decode cX7_sessionStart 6 = .ok (.invokevirtual 153, 3) := by decide +kernel
theorem dX7_sessionStart_9 : decode cX7_sessionStart 9 = .ok (.ifCond .ne 6, 3) := by decide +kernel
theorem dX7_sessionStart_12 : decode cX7_sessionStart 12 = .ok (.ldc 87, 2) := by decide +kernel
theorem dX7_sessionStart_14 : decode cX7_sessionStart 14 = .ok (.ireturn, 1) := by decide +kernel
theorem dX7_sessionStart_15 : decode cX7_sessionStart 15 = .ok (.aload_n 0, 1) := by decide +kernel
theorem dX7_sessionStart_16 : decode cX7_sessionStart 16 = .ok (.getfield 19, 3) := by decide +kernel
theorem dX7_sessionStart_19 : decode cX7_sessionStart 19 = .ok (.getfield 78, 3) := by decide +kernel
theorem dX7_sessionStart_22 : decode cX7_sessionStart 22 = .ok (.iload_n 1, 1) := by decide +kernel
theorem dX7_sessionStart_23 : decode cX7_sessionStart 23 = .ok (.aaload, 1) := by decide +kernel
theorem dX7_sessionStart_24 : decode cX7_sessionStart 24 = .ok (.getfield 157, 3) := by decide +kernel
theorem dX7_sessionStart_27 : decode cX7_sessionStart 27 = .ok (.iload_n 2, 1) := by decide +kernel
theorem dX7_sessionStart_28 : decode cX7_sessionStart 28 = .ok (.iaload, 1) := by decide +kernel
theorem dX7_sessionStart_29 : decode cX7_sessionStart 29 = .ok (.ireturn, 1) := by decide +kernel
set_option maxRecDepth 20000 in
theorem ggX7_sessionSize_X4_hasSession : GoodIn wsX7_sessionSize wsX4_hasSession := goodIn_r _ [9, 10, 11, 12, 13, 14, 8, 15, 16, 26, 27, 28, 29, 30, 31, 32, 33, 34, 35, 36, 37, 38, 39, 40, 41, 42, 43, 44, 45, 46, 47, 48, 49, 50, 51, 52] (by decide +kernel) (by decide +kernel)
set_option maxRecDepth 20000 in
theorem gX7_sessionSize_X4_hasSession : GoodIn wsX7_sessionSize (wsV RX7 153 RX4 yX4_hasSession wsX4_hasSession) := goodIn_app (goodIn_of _ (by decide +kernel)) ggX7_sessionSize_X4_hasSession
theorem dX7_sessionSize_0 : decode cX7_sessionSize 0 = .ok (.aload_n 0, 1) := by decide +kernel
theorem dX7_sessionSize_1 : decode cX7_sessionSize 1 = .ok (.getfield 19, 3) := by decide +kernel
theorem dX7_sessionSize_4 : decode cX7_sessionSize 4 = .ok (.iload_n 1, 1) := by decide +kernel
theorem dX7_sessionSize_5 : decode cX7_sessionSize 5 = .ok (.iload_n 2, 1) := by decide +kernel
theorem dX7_sessionSize_6 : decode cX7_sessionSize 6 = .ok (.invokevirtual 153, 3) := by decide +kernel
theorem dX7_sessionSize_9 : decode cX7_sessionSize 9 = .ok (.ifCond .ne 6, 3) := by decide +kernel
theorem dX7_sessionSize_12 : decode cX7_sessionSize 12 = .ok (.ldc 87, 2) := by decide +kernel
theorem dX7_sessionSize_14 : decode cX7_sessionSize 14 = .ok (.ireturn, 1) := by decide +kernel
theorem dX7_sessionSize_15 : decode cX7_sessionSize 15 = .ok (.aload_n 0, 1) := by decide +kernel
theorem dX7_sessionSize_16 : decode cX7_sessionSize 16 = .ok (.getfield 19, 3) := by decide +kernel
theorem dX7_sessionSize_19 : decode cX7_sessionSize 19 = .ok (.getfield 78, 3) := by decide +kernel
theorem dX7_sessionSize_22 : decode cX7_sessionSize 22 = .ok (.iload_n 1, 1) := by decide +kernel
theorem dX7_sessionSize_23 : decode cX7_sessionSize 23 = .ok (.aaload, 1) := by decide +kernel
theorem dX7_sessionSize_24 : decode cX7_sessionSize 24 = .ok (.getfield 161, 3) := by decide +kernel
theorem dX7_sessionSize_27 : decode cX7_sessionSize 27 = .ok (.iload_n 2, 1) := by decide +kernel
theorem dX7_sessionSize_28 : decode cX7_sessionSize 28 = .ok (.iaload, 1) := by decide +kernel
theorem dX7_sessionSize_29 : decode cX7_sessionSize 29 = .ok (.ireturn, 1) := by decide +kernel
set_option maxRecDepth 20000 in
theorem ggX7_sparesLeft_X4_hasPlatter : GoodIn wsX7_sparesLeft wsX4_hasPlatter := goodIn_r _ [9, 10, 20, 21, 22, 23, 24, 25, 26, 27, 28, 29, 30, 31, 32, 33, 34, 35, 36, 37] (by decide +kernel) (by decide +kernel)
set_option maxRecDepth 20000 in
theorem gX7_sparesLeft_X4_hasPlatter : GoodIn wsX7_sparesLeft (wsV RX7 74 RX4 yX4_hasPlatter wsX4_hasPlatter) := goodIn_app (goodIn_of _ (by decide +kernel)) ggX7_sparesLeft_X4_hasPlatter
theorem dX7_sparesLeft_0 : decode cX7_sparesLeft 0 = .ok (.aload_n 0, 1) := by decide +kernel
theorem dX7_sparesLeft_1 : decode cX7_sparesLeft 1 = .ok (.getfield 19, 3) := by decide +kernel
theorem dX7_sparesLeft_4 : decode cX7_sparesLeft 4 = .ok (.iload_n 1, 1) := by decide +kernel
theorem dX7_sparesLeft_5 : decode cX7_sparesLeft 5 = .ok (.invokevirtual 74, 3) := by decide +kernel
theorem dX7_sparesLeft_8 : decode cX7_sparesLeft 8 = .ok (.ifCond .eq 18, 3) := by decide +kernel
theorem dX7_sparesLeft_11 : decode cX7_sparesLeft 11 = .ok (.aload_n 0, 1) := by decide +kernel
theorem dX7_sparesLeft_12 : decode cX7_sparesLeft 12 = .ok (.getfield 19, 3) := by decide +kernel
theorem dX7_sparesLeft_15 : decode cX7_sparesLeft 15 = .ok (.getfield 78, 3) := by decide +kernel
theorem dX7_sparesLeft_18 : decode cX7_sparesLeft 18 = .ok (.iload_n 1, 1) := by decide +kernel
theorem dX7_sparesLeft_19 : decode cX7_sparesLeft 19 = .ok (.aaload, 1) := by decide +kernel
theorem dX7_sparesLeft_20 : decode cX7_sparesLeft 20 = .ok (.getfield 164, 3) := by decide +kernel
theorem dX7_sparesLeft_23 : decode cX7_sparesLeft 23 = .ok (.goto 5, 3) := by decide +kernel
theorem dX7_sparesLeft_26 : decode cX7_sparesLeft 26 = .ok (.ldc 87, 2) := by decide +kernel
theorem dX7_sparesLeft_28 : decode cX7_sparesLeft 28 = .ok (.ireturn, 1) := by decide +kernel
set_option maxRecDepth 20000 in
theorem ggX7_staleSectors_X4_hasPlatter : GoodIn wsX7_staleSectors wsX4_hasPlatter := goodIn_r _ [7, 8, 32, 33, 34, 35, 36, 37, 38, 39, 40, 41, 42, 43, 44, 45, 46, 47, 48, 49] (by decide +kernel) (by decide +kernel)
set_option maxRecDepth 20000 in
theorem gX7_staleSectors_X4_hasPlatter : GoodIn wsX7_staleSectors (wsV RX7 74 RX4 yX4_hasPlatter wsX4_hasPlatter) := goodIn_app (goodIn_of _ (by decide +kernel)) ggX7_staleSectors_X4_hasPlatter
set_option maxRecDepth 20000 in
theorem ggX7_staleSectors_X4_countStale : GoodIn wsX7_staleSectors wsX4_countStale := goodIn_r _ [12, 13, 14, 15, 16, 17, 18, 19, 6, 20, 21, 22, 32, 33, 34, 35, 36, 37, 38, 39, 40, 41, 42, 43, 44, 45, 46, 47, 48, 49, 50, 51, 52, 53, 54, 55, 56] (by decide +kernel) (by decide +kernel)
set_option maxRecDepth 20000 in
theorem gX7_staleSectors_X4_countStale : GoodIn wsX7_staleSectors (wsV RX7 167 RX4 yX4_countStale wsX4_countStale) := goodIn_app (goodIn_of _ (by decide +kernel)) ggX7_staleSectors_X4_countStale
theorem dX7_staleSectors_0 : decode cX7_staleSectors 0 = .ok (.aload_n 0, 1) := by decide +kernel
theorem dX7_staleSectors_1 : decode cX7_staleSectors 1 = .ok (.getfield 19, 3) := by decide +kernel
theorem dX7_staleSectors_4 : decode cX7_staleSectors 4 = .ok (.iload_n 1, 1) := by decide +kernel
theorem dX7_staleSectors_5 : decode cX7_staleSectors 5 = .ok (.invokevirtual 74, 3) := by decide +kernel
theorem dX7_staleSectors_8 : decode cX7_staleSectors 8 = .ok (.ifCond .eq 14, 3) := by decide +kernel
theorem dX7_staleSectors_11 : decode cX7_staleSectors 11 = .ok (.aload_n 0, 1) := by decide +kernel
theorem dX7_staleSectors_12 : decode cX7_staleSectors 12 = .ok (.getfield 19, 3) := by decide +kernel
theorem dX7_staleSectors_15 : decode cX7_staleSectors 15 = .ok (.iload_n 1, 1) := by decide +kernel
theorem dX7_staleSectors_16 : decode cX7_staleSectors 16 = .ok (.invokevirtual 167, 3) := by decide +kernel
theorem dX7_staleSectors_19 : decode cX7_staleSectors 19 = .ok (.goto 5, 3) := by decide +kernel
theorem dX7_staleSectors_22 : decode cX7_staleSectors 22 = .ok (.ldc 87, 2) := by decide +kernel
theorem dX7_staleSectors_24 : decode cX7_staleSectors 24 = .ok (.ireturn, 1) := by decide +kernel
set_option maxRecDepth 20000 in
theorem ggX7_sectorKind_X4_hasSector : GoodIn wsX7_sectorKind wsX4_hasSector := goodIn_r _ [7, 8, 9, 10, 11, 12, 6, 13, 14, 55, 56, 57, 58, 59, 60, 61, 62, 63, 64, 65, 66, 67, 68, 69, 70, 71, 72, 73, 74, 75, 76, 77, 78, 79, 80, 81] (by decide +kernel) (by decide +kernel)
set_option maxRecDepth 20000 in
theorem gX7_sectorKind_X4_hasSector : GoodIn wsX7_sectorKind (wsV RX7 170 RX4 yX4_hasSector wsX4_hasSector) := goodIn_app (goodIn_of _ (by decide +kernel)) ggX7_sectorKind_X4_hasSector
set_option maxRecDepth 20000 in
theorem ggX7_sectorKind_X4_kindOfSector : GoodIn wsX7_sectorKind wsX4_kindOfSector := goodIn_r _ [18, 8, 19, 20, 21, 22, 6, 23, 24, 25, 26, 27, 28, 29, 30, 31, 32, 33, 34, 35, 36, 37, 38, 39, 40, 41, 42, 43, 44, 45, 55, 56, 57, 58, 59, 60, 61, 62, 63, 64, 65, 66, 67, 68, 69, 70, 71, 72, 73, 74, 75, 76, 77, 78, 79, 80, 81, 82, 83, 84, 85, 86, 87, 88] (by decide +kernel) (by decide +kernel)
set_option maxRecDepth 20000 in
theorem gX7_sectorKind_X4_kindOfSector : GoodIn wsX7_sectorKind (wsV RX7 173 RX4 yX4_kindOfSector wsX4_kindOfSector) := goodIn_app (goodIn_of _ (by decide +kernel)) ggX7_sectorKind_X4_kindOfSector
theorem dX7_sectorKind_0 : decode cX7_sectorKind 0 = .ok (.aload_n 0, 1) := by decide +kernel
theorem dX7_sectorKind_1 : decode cX7_sectorKind 1 = .ok (.getfield 19, 3) := by decide +kernel
theorem dX7_sectorKind_4 : decode cX7_sectorKind 4 = .ok (.iload_n 1, 1) := by decide +kernel
theorem dX7_sectorKind_5 : decode cX7_sectorKind 5 = .ok (.iload_n 2, 1) := by decide +kernel
theorem dX7_sectorKind_6 : decode cX7_sectorKind 6 = .ok (.invokevirtual 170, 3) := by decide +kernel
theorem dX7_sectorKind_9 : decode cX7_sectorKind 9 = .ok (.ifCond .eq 15, 3) := by decide +kernel
theorem dX7_sectorKind_12 : decode cX7_sectorKind 12 = .ok (.aload_n 0, 1) := by decide +kernel
theorem dX7_sectorKind_13 : decode cX7_sectorKind 13 = .ok (.getfield 19, 3) := by decide +kernel
theorem dX7_sectorKind_16 : decode cX7_sectorKind 16 = .ok (.iload_n 1, 1) := by decide +kernel
theorem dX7_sectorKind_17 : decode cX7_sectorKind 17 = .ok (.iload_n 2, 1) := by decide +kernel
theorem dX7_sectorKind_18 : decode cX7_sectorKind 18 = .ok (.invokevirtual 173, 3) := by decide +kernel
theorem dX7_sectorKind_21 : decode cX7_sectorKind 21 = .ok (.goto 5, 3) := by decide +kernel
theorem dX7_sectorKind_24 : decode cX7_sectorKind 24 = .ok (.ldc 87, 2) := by decide +kernel
theorem dX7_sectorKind_26 : decode cX7_sectorKind 26 = .ok (.ireturn, 1) := by decide +kernel
set_option maxRecDepth 20000 in
theorem ggX7_fillBits_X4_hasPlatter : GoodIn wsX7_fillBits wsX4_hasPlatter := goodIn_r _ [10, 11, 27, 28, 29, 30, 31, 32, 33, 34, 35, 36, 37, 38, 39, 40, 41, 42, 43, 44] (by decide +kernel) (by decide +kernel)
set_option maxRecDepth 20000 in
theorem gX7_fillBits_X4_hasPlatter : GoodIn wsX7_fillBits (wsV RX7 74 RX4 yX4_hasPlatter wsX4_hasPlatter) := goodIn_app (goodIn_of _ (by decide +kernel)) ggX7_fillBits_X4_hasPlatter
set_option maxRecDepth 20000 in
theorem ggX7_fillBits_X7_bitsOfShare : GoodIn wsX7_fillBits wsX7_bitsOfShare := goodIn_r _ [15, 16, 17] (by decide +kernel) (by decide +kernel)
set_option maxRecDepth 20000 in
theorem gX7_fillBits_X7_bitsOfShare : GoodIn wsX7_fillBits (va_wsS RX7 182 yX7_bitsOfShare wsX7_bitsOfShare) := goodIn_app (goodIn_of _ (by decide +kernel)) ggX7_fillBits_X7_bitsOfShare
theorem dX7_fillBits_0 : decode cX7_fillBits 0 = .ok (.aload_n 0, 1) := by decide +kernel
theorem dX7_fillBits_1 : decode cX7_fillBits 1 = .ok (.getfield 19, 3) := by decide +kernel
theorem dX7_fillBits_4 : decode cX7_fillBits 4 = .ok (.iload_n 1, 1) := by decide +kernel
theorem dX7_fillBits_5 : decode cX7_fillBits 5 = .ok (.invokevirtual 74, 3) := by decide +kernel
theorem dX7_fillBits_8 : decode cX7_fillBits 8 = .ok (.ifCond .ne 6, 3) := by decide +kernel
theorem dX7_fillBits_11 : decode cX7_fillBits 11 = .ok (.ldc 87, 2) := by decide +kernel
theorem dX7_fillBits_13 : decode cX7_fillBits 13 = .ok (.ireturn, 1) := by decide +kernel
theorem dX7_fillBits_14 : decode cX7_fillBits 14 = .ok (.aload_n 0, 1) := by decide +kernel
theorem dX7_fillBits_15 : decode cX7_fillBits 15 = .ok (.getfield 19, 3) := by decide +kernel
theorem dX7_fillBits_18 : decode cX7_fillBits 18 = .ok (.getfield 78, 3) := by decide +kernel
theorem dX7_fillBits_21 : decode cX7_fillBits 21 = .ok (.iload_n 1, 1) := by decide +kernel
theorem dX7_fillBits_22 : decode cX7_fillBits 22 = .ok (.aaload, 1) := by decide +kernel
theorem dX7_fillBits_23 : decode cX7_fillBits 23 = .ok (.astore_n 2, 1) := by decide +kernel
theorem dX7_fillBits_24 : decode cX7_fillBits 24 = .ok (.aload_n 2, 1) := by decide +kernel
theorem dX7_fillBits_25 : decode cX7_fillBits 25 = .ok (.getfield 176, 3) := by decide +kernel
theorem dX7_fillBits_28 : decode cX7_fillBits 28 = .ok (.aload_n 2, 1) := by decide +kernel
theorem dX7_fillBits_29 : decode cX7_fillBits 29 = .ok (.getfield 179, 3) := by decide +kernel
theorem dX7_fillBits_32 : decode cX7_fillBits 32 = .ok (.invokestatic 182, 3) := by decide +kernel
theorem dX7_fillBits_35 : decode cX7_fillBits 35 = .ok (.ireturn, 1) := by decide +kernel
theorem dX7_bitsOfShare_0 : decode cX7_bitsOfShare 0 = .ok (.iload_n 0, 1) := by decide +kernel
theorem dX7_bitsOfShare_1 : decode cX7_bitsOfShare 1 = .ok (.ifCond .le 7, 3) := by decide +kernel
theorem dX7_bitsOfShare_4 : decode cX7_bitsOfShare 4 = .ok (.iload_n 1, 1) := by decide +kernel
theorem dX7_bitsOfShare_5 : decode cX7_bitsOfShare 5 = .ok (.ifCond .gt 5, 3) := by decide +kernel
theorem dX7_bitsOfShare_8 : decode cX7_bitsOfShare 8 = .ok (.iconst 0, 1) := by decide +kernel
theorem dX7_bitsOfShare_9 : decode cX7_bitsOfShare 9 = .ok (.ireturn, 1) := by decide +kernel
theorem dX7_bitsOfShare_10 : decode cX7_bitsOfShare 10 = .ok (.ldc2_w 185, 3) := by decide +kernel
theorem dX7_bitsOfShare_13 : decode cX7_bitsOfShare 13 = .ok (.lstore_n 2, 1) := by decide +kernel
theorem dX7_bitsOfShare_14 : decode cX7_bitsOfShare 14 = .ok (.iconst 0, 1) := by decide +kernel
theorem dX7_bitsOfShare_15 : decode cX7_bitsOfShare 15 = .ok (.istore 4, 2) := by decide +kernel
theorem dX7_bitsOfShare_17 : decode cX7_bitsOfShare 17 = .ok (.iload 4, 2) := by decide +kernel
theorem dX7_bitsOfShare_19 : decode cX7_bitsOfShare 19 = .ok (.bipush 40, 2) := by decide +kernel
theorem dX7_bitsOfShare_21 : decode cX7_bitsOfShare 21 = .ok (.if_icmp .ge 22, 3) := by decide +kernel
theorem dX7_bitsOfShare_24 : decode cX7_bitsOfShare 24 = .ok (.iload_n 0, 1) := by decide +kernel
theorem dX7_bitsOfShare_25 : decode cX7_bitsOfShare 25 = .ok (.i2l, 1) := by decide +kernel
theorem dX7_bitsOfShare_26 : decode cX7_bitsOfShare 26 = .ok (.iload 4, 2) := by decide +kernel
theorem dX7_bitsOfShare_28 : decode cX7_bitsOfShare 28 = .ok (.lshl, 1) := by decide +kernel
theorem dX7_bitsOfShare_29 : decode cX7_bitsOfShare 29 = .ok (.iload_n 1, 1) := by decide +kernel
theorem dX7_bitsOfShare_30 : decode cX7_bitsOfShare 30 = .ok (.i2l, 1) := by decide +kernel
theorem dX7_bitsOfShare_31 : decode cX7_bitsOfShare 31 = .ok (.ldiv, 1) := by decide +kernel
theorem dX7_bitsOfShare_32 : decode cX7_bitsOfShare 32 = .ok (.lload_n 2, 1) := by decide +kernel
theorem dX7_bitsOfShare_33 : decode cX7_bitsOfShare 33 = .ok (.lcmp, 1) := by decide +kernel
theorem dX7_bitsOfShare_34 : decode cX7_bitsOfShare 34 = .ok (.ifCond .ge 9, 3) := by decide +kernel
theorem dX7_bitsOfShare_37 : decode cX7_bitsOfShare 37 = .ok (.iinc 4 1, 3) := by decide +kernel
theorem dX7_bitsOfShare_40 : decode cX7_bitsOfShare 40 = .ok (.goto (-23), 3) := by decide +kernel
theorem dX7_bitsOfShare_43 : decode cX7_bitsOfShare 43 = .ok (.iload_n 0, 1) := by decide +kernel
theorem dX7_bitsOfShare_44 : decode cX7_bitsOfShare 44 = .ok (.i2l, 1) := by decide +kernel
theorem dX7_bitsOfShare_45 : decode cX7_bitsOfShare 45 = .ok (.iload 4, 2) := by decide +kernel
theorem dX7_bitsOfShare_47 : decode cX7_bitsOfShare 47 = .ok (.lshl, 1) := by decide +kernel
theorem dX7_bitsOfShare_48 : decode cX7_bitsOfShare 48 = .ok (.lstore 5, 2) := by decide +kernel
theorem dX7_bitsOfShare_50 : decode cX7_bitsOfShare 50 = .ok (.lload 5, 2) := by decide +kernel
theorem dX7_bitsOfShare_52 : decode cX7_bitsOfShare 52 = .ok (.iload_n 1, 1) := by decide +kernel
theorem dX7_bitsOfShare_53 : decode cX7_bitsOfShare 53 = .ok (.i2l, 1) := by decide +kernel
theorem dX7_bitsOfShare_54 : decode cX7_bitsOfShare 54 = .ok (.ldiv, 1) := by decide +kernel
theorem dX7_bitsOfShare_55 : decode cX7_bitsOfShare 55 = .ok (.lstore 7, 2) := by decide +kernel
theorem dX7_bitsOfShare_57 : decode cX7_bitsOfShare 57 = .ok (.ldc2_w 187, 3) := by decide +kernel
theorem dX7_bitsOfShare_60 : decode cX7_bitsOfShare 60 = .ok (.lload 5, 2) := by decide +kernel
theorem dX7_bitsOfShare_62 : decode cX7_bitsOfShare 62 = .ok (.iload_n 1, 1) := by decide +kernel
theorem dX7_bitsOfShare_63 : decode cX7_bitsOfShare 63 = .ok (.i2l, 1) := by decide +kernel
theorem dX7_bitsOfShare_64 : decode cX7_bitsOfShare 64 = .ok (.lrem, 1) := by decide +kernel
theorem dX7_bitsOfShare_65 : decode cX7_bitsOfShare 65 = .ok (.lmul, 1) := by decide +kernel
theorem dX7_bitsOfShare_66 : decode cX7_bitsOfShare 66 = .ok (.iload_n 1, 1) := by decide +kernel
theorem dX7_bitsOfShare_67 : decode cX7_bitsOfShare 67 = .ok (.i2l, 1) := by decide +kernel
theorem dX7_bitsOfShare_68 : decode cX7_bitsOfShare 68 = .ok (.lcmp, 1) := by decide +kernel
theorem dX7_bitsOfShare_69 : decode cX7_bitsOfShare 69 = .ok (.ifCond .lt 9, 3) := by decide +kernel
theorem dX7_bitsOfShare_72 : decode cX7_bitsOfShare 72 = .ok (.lload 7, 2) := by decide +kernel
theorem dX7_bitsOfShare_74 : decode cX7_bitsOfShare 74 = .ok (.lconst 1, 1) := by decide +kernel
theorem dX7_bitsOfShare_75 : decode cX7_bitsOfShare 75 = .ok (.ladd, 1) := by decide +kernel
theorem dX7_bitsOfShare_76 : decode cX7_bitsOfShare 76 = .ok (.lstore 7, 2) := by decide +kernel
theorem dX7_bitsOfShare_78 : decode cX7_bitsOfShare 78 = .ok (.sipush 150, 3) := by decide +kernel
theorem dX7_bitsOfShare_81 : decode cX7_bitsOfShare 81 = .ok (.iload 4, 2) := by decide +kernel
theorem dX7_bitsOfShare_83 : decode cX7_bitsOfShare 83 = .ok (.isub, 1) := by decide +kernel
theorem dX7_bitsOfShare_84 : decode cX7_bitsOfShare 84 = .ok (.istore 9, 2) := by decide +kernel
theorem dX7_bitsOfShare_86 : decode cX7_bitsOfShare 86 = .ok (.iload 9, 2) := by decide +kernel
theorem dX7_bitsOfShare_88 : decode cX7_bitsOfShare 88 = .ok (.bipush 23, 2) := by decide +kernel
theorem dX7_bitsOfShare_90 : decode cX7_bitsOfShare 90 = .ok (.ishl, 1) := by decide +kernel
theorem dX7_bitsOfShare_91 : decode cX7_bitsOfShare 91 = .ok (.lload 7, 2) := by decide +kernel
theorem dX7_bitsOfShare_93 : decode cX7_bitsOfShare 93 = .ok (.lload_n 2, 1) := by decide +kernel
theorem dX7_bitsOfShare_94 : decode cX7_bitsOfShare 94 = .ok (.lsub, 1) := by decide +kernel
theorem dX7_bitsOfShare_95 : decode cX7_bitsOfShare 95 = .ok (.l2i, 1) := by decide +kernel
theorem dX7_bitsOfShare_96 : decode cX7_bitsOfShare 96 = .ok (.iadd, 1) := by decide +kernel
theorem dX7_bitsOfShare_97 : decode cX7_bitsOfShare 97 = .ok (.ireturn, 1) := by decide +kernel
set_option maxRecDepth 20000 in
theorem ggX7_cleanRun_X4_hasPlatter : GoodIn wsX7_cleanRun wsX4_hasPlatter := goodIn_r _ [8, 9, 35, 36, 37, 38, 39, 40, 41, 42, 43, 44, 45, 46, 47, 48, 49, 50, 51, 52] (by decide +kernel) (by decide +kernel)
set_option maxRecDepth 20000 in
theorem gX7_cleanRun_X4_hasPlatter : GoodIn wsX7_cleanRun (wsV RX7 74 RX4 yX4_hasPlatter wsX4_hasPlatter) := goodIn_app (goodIn_of _ (by decide +kernel)) ggX7_cleanRun_X4_hasPlatter
set_option maxRecDepth 20000 in
theorem ggX7_cleanRun_X3_longestCleanRun : GoodIn wsX7_cleanRun wsX3_longestCleanRun := goodIn_r _ [14, 15, 16, 17, 18, 19, 20, 21, 22, 23, 13, 24, 25, 53, 54, 55, 56, 57, 58, 59, 60, 61] (by decide +kernel) (by decide +kernel)
set_option maxRecDepth 20000 in
theorem gX7_cleanRun_X3_longestCleanRun : GoodIn wsX7_cleanRun (wsV RX7 189 RX3 yX3_longestCleanRun wsX3_longestCleanRun) := goodIn_app (goodIn_of _ (by decide +kernel)) ggX7_cleanRun_X3_longestCleanRun
theorem dX7_cleanRun_0 : decode cX7_cleanRun 0 = .ok (.aload_n 0, 1) := by decide +kernel
theorem dX7_cleanRun_1 : decode cX7_cleanRun 1 = .ok (.getfield 19, 3) := by decide +kernel
theorem dX7_cleanRun_4 : decode cX7_cleanRun 4 = .ok (.iload_n 1, 1) := by decide +kernel
theorem dX7_cleanRun_5 : decode cX7_cleanRun 5 = .ok (.invokevirtual 74, 3) := by decide +kernel
theorem dX7_cleanRun_8 : decode cX7_cleanRun 8 = .ok (.ifCond .eq 18, 3) := by decide +kernel
theorem dX7_cleanRun_11 : decode cX7_cleanRun 11 = .ok (.aload_n 0, 1) := by decide +kernel
theorem dX7_cleanRun_12 : decode cX7_cleanRun 12 = .ok (.getfield 19, 3) := by decide +kernel
theorem dX7_cleanRun_15 : decode cX7_cleanRun 15 = .ok (.getfield 78, 3) := by decide +kernel
theorem dX7_cleanRun_18 : decode cX7_cleanRun 18 = .ok (.iload_n 1, 1) := by decide +kernel
theorem dX7_cleanRun_19 : decode cX7_cleanRun 19 = .ok (.aaload, 1) := by decide +kernel
theorem dX7_cleanRun_20 : decode cX7_cleanRun 20 = .ok (.invokevirtual 189, 3) := by decide +kernel
theorem dX7_cleanRun_23 : decode cX7_cleanRun 23 = .ok (.goto 5, 3) := by decide +kernel
theorem dX7_cleanRun_26 : decode cX7_cleanRun 26 = .ok (.ldc 87, 2) := by decide +kernel
theorem dX7_cleanRun_28 : decode cX7_cleanRun 28 = .ok (.ireturn, 1) := by decide +kernel
set_option maxRecDepth 20000 in
theorem ggX7_bestPlatter_X7_isSize : GoodIn wsX7_bestPlatter wsX7_isSize := goodIn_r _ [10] (by decide +kernel) (by decide +kernel)
set_option maxRecDepth 20000 in
theorem gX7_bestPlatter_X7_isSize : GoodIn wsX7_bestPlatter (va_wsS RX7 192 yX7_isSize wsX7_isSize) := goodIn_app (goodIn_of _ (by decide +kernel)) ggX7_bestPlatter_X7_isSize
set_option maxRecDepth 20000 in
theorem ggX7_bestPlatter_X3_canTake : GoodIn wsX7_bestPlatter wsX3_canTake := goodIn_r _ [15, 16, 17, 18, 19, 20, 21, 14, 22, 23, 24, 25, 26, 27, 28, 29, 30, 31, 32, 33, 105, 106, 107, 108, 109, 110, 111, 112, 113] (by decide +kernel) (by decide +kernel)
set_option maxRecDepth 20000 in
theorem gX7_bestPlatter_X3_canTake : GoodIn wsX7_bestPlatter (wsV RX7 198 RX3 yX3_canTake wsX3_canTake) := goodIn_app (goodIn_of _ (by decide +kernel)) ggX7_bestPlatter_X3_canTake
set_option maxRecDepth 20000 in
theorem ggX7_bestPlatter_X4_chosenBringTime : GoodIn wsX7_bestPlatter wsX4_chosenBringTime := goodIn_r _ [38, 39, 40, 41, 37, 42, 43, 44, 45, 46, 47, 48, 49, 50, 51, 52, 53, 54, 55, 56, 57, 58, 59, 60, 61, 62, 63, 64, 65, 66, 67, 68, 69, 70, 71, 72, 87, 88, 89, 90, 91, 92, 93, 94, 95, 96, 97, 98, 99, 100, 101, 102, 103, 104, 114, 115, 116, 105, 106, 107, 108, 109, 110, 111, 112, 113] (by decide +kernel) (by decide +kernel)
set_option maxRecDepth 20000 in
theorem gX7_bestPlatter_X4_chosenBringTime : GoodIn wsX7_bestPlatter (wsV RX7 131 RX4 yX4_chosenBringTime wsX4_chosenBringTime) := goodIn_app (goodIn_of _ (by decide +kernel)) ggX7_bestPlatter_X4_chosenBringTime
set_option maxRecDepth 20000 in
theorem ggX7_bestPlatter_X3_unused : GoodIn wsX7_bestPlatter wsX3_unused := goodIn_r _ [22, 23, 24, 105, 106, 107, 108, 109, 110, 111, 112, 113] (by decide +kernel) (by decide +kernel)
set_option maxRecDepth 20000 in
theorem gX7_bestPlatter_X3_unused : GoodIn wsX7_bestPlatter (wsV RX7 142 RX3 yX3_unused wsX3_unused) := goodIn_app (goodIn_of _ (by decide +kernel)) ggX7_bestPlatter_X3_unused
set_option maxRecDepth 20000 in
theorem ggX7_bestPlatter_X7_foundOrNot : GoodIn wsX7_bestPlatter wsX7_foundOrNot := goodIn_r _ [76, 77] (by decide +kernel) (by decide +kernel)
set_option maxRecDepth 20000 in
theorem gX7_bestPlatter_X7_foundOrNot : GoodIn wsX7_bestPlatter (va_wsS RX7 98 yX7_foundOrNot wsX7_foundOrNot) := goodIn_app (goodIn_of _ (by decide +kernel)) ggX7_bestPlatter_X7_foundOrNot
theorem dX7_bestPlatter_0 : decode cX7_bestPlatter 0 = .ok (.iload_n 1, 1) := by decide +kernel
theorem dX7_bestPlatter_1 : decode cX7_bestPlatter 1 = .ok (.invokestatic 192, 3) := by decide +kernel
theorem dX7_bestPlatter_4 : decode cX7_bestPlatter 4 = .ok (.ifCond .ne 6, 3) := by decide +kernel
theorem dX7_bestPlatter_7 : decode cX7_bestPlatter 7 = .ok (.ldc 46, 2) := by decide +kernel
theorem dX7_bestPlatter_9 : decode cX7_bestPlatter 9 = .ok (.ireturn, 1) := by decide +kernel
theorem dX7_bestPlatter_10 : decode cX7_bestPlatter 10 = .ok (.aload_n 0, 1) := by decide +kernel
theorem dX7_bestPlatter_11 : decode cX7_bestPlatter 11 = .ok (.getfield 19, 3) := by decide +kernel
theorem dX7_bestPlatter_14 : decode cX7_bestPlatter 14 = .ok (.getfield 134, 3) := by decide +kernel
theorem dX7_bestPlatter_17 : decode cX7_bestPlatter 17 = .ok (.ifCond .ne 6, 3) := by decide +kernel
theorem dX7_bestPlatter_20 : decode cX7_bestPlatter 20 = .ok (.ldc 137, 2) := by decide +kernel
theorem dX7_bestPlatter_22 : decode cX7_bestPlatter 22 = .ok (.ireturn, 1) := by decide +kernel
theorem dX7_bestPlatter_23 : decode cX7_bestPlatter 23 = .ok (.iconst (-1), 1) := by decide +kernel
theorem dX7_bestPlatter_24 : decode cX7_bestPlatter 24 = .ok (.istore_n 2, 1) := by decide +kernel
theorem dX7_bestPlatter_25 : decode cX7_bestPlatter 25 = .ok (.iconst 0, 1) := by decide +kernel
theorem dX7_bestPlatter_26 : decode cX7_bestPlatter 26 = .ok (.istore_n 3, 1) := by decide +kernel
theorem dX7_bestPlatter_27 : decode cX7_bestPlatter 27 = .ok (.iconst 0, 1) := by decide +kernel
theorem dX7_bestPlatter_28 : decode cX7_bestPlatter 28 = .ok (.istore 4, 2) := by decide +kernel
theorem dX7_bestPlatter_30 : decode cX7_bestPlatter 30 = .ok (.iconst 0, 1) := by decide +kernel
theorem dX7_bestPlatter_31 : decode cX7_bestPlatter 31 = .ok (.istore 5, 2) := by decide +kernel
theorem dX7_bestPlatter_33 : decode cX7_bestPlatter 33 = .ok (.iload 5, 2) := by decide +kernel
theorem dX7_bestPlatter_35 : decode cX7_bestPlatter 35 = .ok (.aload_n 0, 1) := by decide +kernel
theorem dX7_bestPlatter_36 : decode cX7_bestPlatter 36 = .ok (.getfield 19, 3) := by decide +kernel
theorem dX7_bestPlatter_39 : decode cX7_bestPlatter 39 = .ok (.getfield 195, 3) := by decide +kernel
theorem dX7_bestPlatter_42 : decode cX7_bestPlatter 42 = .ok (.if_icmp .ge 82, 3) := by decide +kernel
theorem dX7_bestPlatter_45 : decode cX7_bestPlatter 45 = .ok (.aload_n 0, 1) := by decide +kernel
theorem dX7_bestPlatter_46 : decode cX7_bestPlatter 46 = .ok (.getfield 19, 3) := by decide +kernel
theorem dX7_bestPlatter_49 : decode cX7_bestPlatter 49 = .ok (.getfield 78, 3) := by decide +kernel
theorem dX7_bestPlatter_52 : decode cX7_bestPlatter 52 = .ok (.iload 5, 2) := by decide +kernel
theorem dX7_bestPlatter_54 : decode cX7_bestPlatter 54 = .ok (.aaload, 1) := by decide +kernel
theorem dX7_bestPlatter_55 : decode cX7_bestPlatter 55 = .ok (.astore 6, 2) := by decide +kernel
theorem dX7_bestPlatter_57 : decode cX7_bestPlatter 57 = .ok (.aload 6, 2) := by decide +kernel
theorem dX7_bestPlatter_59 : decode cX7_bestPlatter 59 = .ok (.iload_n 1, 1) := by decide +kernel
theorem dX7_bestPlatter_60 : decode cX7_bestPlatter 60 = .ok (.invokevirtual 198, 3) := by decide +kernel
theorem dX7_bestPlatter_63 : decode cX7_bestPlatter 63 = .ok (.ifCond .eq 55, 3) := by decide +kernel
theorem dX7_bestPlatter_66 : decode cX7_bestPlatter 66 = .ok (.aload_n 0, 1) := by decide +kernel
theorem dX7_bestPlatter_67 : decode cX7_bestPlatter 67 = .ok (.getfield 19, 3) := by decide +kernel
theorem dX7_bestPlatter_70 : decode cX7_bestPlatter 70 = .ok (.iload 5, 2) := by decide +kernel
theorem dX7_bestPlatter_72 : decode cX7_bestPlatter 72 = .ok (.invokevirtual 131, 3) := by decide +kernel
theorem dX7_bestPlatter_75 : decode cX7_bestPlatter 75 = .ok (.istore 7, 2) := by decide +kernel
theorem dX7_bestPlatter_77 : decode cX7_bestPlatter 77 = .ok (.aload 6, 2) := by decide +kernel
theorem dX7_bestPlatter_79 : decode cX7_bestPlatter 79 = .ok (.invokevirtual 142, 3) := by decide +kernel
theorem dX7_bestPlatter_82 : decode cX7_bestPlatter 82 = .ok (.istore 8, 2) := by decide +kernel
theorem dX7_bestPlatter_84 : decode cX7_bestPlatter 84 = .ok (.iload_n 2, 1) := by decide +kernel
theorem dX7_bestPlatter_85 : decode cX7_bestPlatter 85 = .ok (.iconst (-1), 1) := by decide +kernel
theorem dX7_bestPlatter_86 : decode cX7_bestPlatter 86 = .ok (.if_icmp .eq 22, 3) := by decide +kernel
theorem dX7_bestPlatter_89 : decode cX7_bestPlatter 89 = .ok (.iload 7, 2) := by decide +kernel
theorem dX7_bestPlatter_91 : decode cX7_bestPlatter 91 = .ok (.iload_n 3, 1) := by decide +kernel
theorem dX7_bestPlatter_92 : decode cX7_bestPlatter 92 = .ok (.if_icmp .lt 16, 3) := by decide +kernel
theorem dX7_bestPlatter_95 : decode cX7_bestPlatter 95 = .ok (.iload 7, 2) := by decide +kernel
theorem dX7_bestPlatter_97 : decode cX7_bestPlatter 97 = .ok (.iload_n 3, 1) := by decide +kernel
theorem dX7_bestPlatter_98 : decode cX7_bestPlatter 98 = .ok (.if_icmp .ne 20, 3) := by decide +kernel
theorem dX7_bestPlatter_101 : decode cX7_bestPlatter 101 = .ok (.iload 8, 2) := by decide +kernel
theorem dX7_bestPlatter_103 : decode cX7_bestPlatter 103 = .ok (.iload 4, 2) := by decide +kernel
theorem dX7_bestPlatter_105 : decode cX7_bestPlatter 105 = .ok (.if_icmp .ge 13, 3) := by decide +kernel
theorem dX7_bestPlatter_108 : decode cX7_bestPlatter 108 = .ok (.iload 5, 2) := by decide +kernel
theorem dX7_bestPlatter_110 : decode cX7_bestPlatter 110 = .ok (.istore_n 2, 1) := by decide +kernel
theorem dX7_bestPlatter_111 : decode cX7_bestPlatter 111 = .ok (.iload 7, 2) := by decide +kernel
theorem dX7_bestPlatter_113 : decode cX7_bestPlatter 113 = .ok (.istore_n 3, 1) := by decide +kernel
theorem dX7_bestPlatter_114 : decode cX7_bestPlatter 114 = .ok (.iload 8, 2) := by decide +kernel
theorem dX7_bestPlatter_116 : decode cX7_bestPlatter 116 = .ok (.istore 4, 2) := by decide +kernel
theorem dX7_bestPlatter_118 : decode cX7_bestPlatter 118 = .ok (.iinc 5 1, 3) := by decide +kernel
theorem dX7_bestPlatter_121 : decode cX7_bestPlatter 121 = .ok (.goto (-88), 3) := by decide +kernel
theorem dX7_bestPlatter_124 : decode cX7_bestPlatter 124 = .ok (.iload_n 2, 1) := by decide +kernel
theorem dX7_bestPlatter_125 : decode cX7_bestPlatter 125 = .ok (.invokestatic 98, 3) := by decide +kernel
theorem dX7_bestPlatter_128 : decode cX7_bestPlatter 128 = .ok (.ireturn, 1) := by decide +kernel
theorem dX7_isSize_0 : decode cX7_isSize 0 = .ok (.iload_n 0, 1) := by decide +kernel
theorem dX7_isSize_1 : decode cX7_isSize 1 = .ok (.iconst 1, 1) := by decide +kernel
theorem dX7_isSize_2 : decode cX7_isSize 2 = .ok (.if_icmp .lt 14, 3) := by decide +kernel
theorem dX7_isSize_5 : decode cX7_isSize 5 = .ok (.iload_n 0, 1) := by decide +kernel
theorem dX7_isSize_6 : decode cX7_isSize 6 = .ok (.sipush 300, 3) := by decide +kernel
theorem dX7_isSize_9 : decode cX7_isSize 9 = .ok (.if_icmp .gt 7, 3) := by decide +kernel
theorem dX7_isSize_12 : decode cX7_isSize 12 = .ok (.iconst 1, 1) := by decide +kernel
theorem dX7_isSize_13 : decode cX7_isSize 13 = .ok (.goto 4, 3) := by decide +kernel
theorem dX7_isSize_16 : decode cX7_isSize 16 = .ok (.iconst 0, 1) := by decide +kernel
theorem dX7_isSize_17 : decode cX7_isSize 17 = .ok (.ireturn, 1) := by decide +kernel
set_option maxRecDepth 20000 in
theorem ggX7_versionCount_X4_hasFile : GoodIn wsX7_versionCount wsX4_hasFile := goodIn_r _ [7, 8, 25, 26, 27, 28, 29, 30, 31, 32, 33, 34, 35, 36, 37, 38, 39, 40, 41, 42] (by decide +kernel) (by decide +kernel)
set_option maxRecDepth 20000 in
theorem gX7_versionCount_X4_hasFile : GoodIn wsX7_versionCount (wsV RX7 201 RX4 yX4_hasFile wsX4_hasFile) := goodIn_app (goodIn_of _ (by decide +kernel)) ggX7_versionCount_X4_hasFile
set_option maxRecDepth 20000 in
theorem ggX7_versionCount_X4_countVersions : GoodIn wsX7_versionCount wsX4_countVersions := goodIn_r _ [12, 13, 14, 15, 25, 26, 27, 28, 29, 30, 31, 32, 33, 34, 35, 36, 37, 38, 39, 40, 41, 42, 43, 44, 45, 46, 47, 48, 49] (by decide +kernel) (by decide +kernel)
set_option maxRecDepth 20000 in
theorem gX7_versionCount_X4_countVersions : GoodIn wsX7_versionCount (wsV RX7 204 RX4 yX4_countVersions wsX4_countVersions) := goodIn_app (goodIn_of _ (by decide +kernel)) ggX7_versionCount_X4_countVersions
theorem dX7_versionCount_0 : decode cX7_versionCount 0 = .ok (.aload_n 0, 1) := by decide +kernel
theorem dX7_versionCount_1 : decode cX7_versionCount 1 = .ok (.getfield 19, 3) := by decide +kernel
theorem dX7_versionCount_4 : decode cX7_versionCount 4 = .ok (.iload_n 1, 1) := by decide +kernel
theorem dX7_versionCount_5 : decode cX7_versionCount 5 = .ok (.invokevirtual 201, 3) := by decide +kernel
theorem dX7_versionCount_8 : decode cX7_versionCount 8 = .ok (.ifCond .eq 14, 3) := by decide +kernel
theorem dX7_versionCount_11 : decode cX7_versionCount 11 = .ok (.aload_n 0, 1) := by decide +kernel
theorem dX7_versionCount_12 : decode cX7_versionCount 12 = .ok (.getfield 19, 3) := by decide +kernel
theorem dX7_versionCount_15 : decode cX7_versionCount 15 = .ok (.iload_n 1, 1) := by decide +kernel
theorem dX7_versionCount_16 : decode cX7_versionCount 16 = .ok (.invokevirtual 204, 3) := by decide +kernel
theorem dX7_versionCount_19 : decode cX7_versionCount 19 = .ok (.goto 5, 3) := by decide +kernel
theorem dX7_versionCount_22 : decode cX7_versionCount 22 = .ok (.ldc 87, 2) := by decide +kernel
theorem dX7_versionCount_24 : decode cX7_versionCount 24 = .ok (.ireturn, 1) := by decide +kernel
set_option maxRecDepth 20000 in
theorem ggX7_filePlatter_X4_hasFile : GoodIn wsX7_filePlatter wsX4_hasFile := goodIn_r _ [8, 9, 32, 33, 34, 35, 36, 37, 38, 39, 40, 41, 42, 43, 44, 45, 46, 47, 48, 49] (by decide +kernel) (by decide +kernel)
set_option maxRecDepth 20000 in
theorem gX7_filePlatter_X4_hasFile : GoodIn wsX7_filePlatter (wsV RX7 201 RX4 yX4_hasFile wsX4_hasFile) := goodIn_app (goodIn_of _ (by decide +kernel)) ggX7_filePlatter_X4_hasFile
set_option maxRecDepth 20000 in
theorem ggX7_filePlatter_X4_currentVersion : GoodIn wsX7_filePlatter wsX4_currentVersion := goodIn_r _ [13, 14, 15, 32, 33, 34, 35, 36, 37, 38, 39, 40, 41, 42, 43, 44, 45, 46, 47, 48, 49] (by decide +kernel) (by decide +kernel)
set_option maxRecDepth 20000 in
theorem gX7_filePlatter_X4_currentVersion : GoodIn wsX7_filePlatter (wsV RX7 207 RX4 yX4_currentVersion wsX4_currentVersion) := goodIn_app (goodIn_of _ (by decide +kernel)) ggX7_filePlatter_X4_currentVersion
theorem dX7_filePlatter_0 : decode cX7_filePlatter 0 = .ok (.aload_n 0, 1) := by decide +kernel
theorem dX7_filePlatter_1 : decode cX7_filePlatter 1 = .ok (.getfield 19, 3) := by decide +kernel
theorem dX7_filePlatter_4 : decode cX7_filePlatter 4 = .ok (.iload_n 1, 1) := by decide +kernel
theorem dX7_filePlatter_5 : decode cX7_filePlatter 5 = .ok (.invokevirtual 201, 3) := by decide +kernel
theorem dX7_filePlatter_8 : decode cX7_filePlatter 8 = .ok (.ifCond .eq 17, 3) := by decide +kernel
theorem dX7_filePlatter_11 : decode cX7_filePlatter 11 = .ok (.aload_n 0, 1) := by decide +kernel
theorem dX7_filePlatter_12 : decode cX7_filePlatter 12 = .ok (.getfield 19, 3) := by decide +kernel
theorem dX7_filePlatter_15 : decode cX7_filePlatter 15 = .ok (.iload_n 1, 1) := by decide +kernel
theorem dX7_filePlatter_16 : decode cX7_filePlatter 16 = .ok (.invokevirtual 207, 3) := by decide +kernel
theorem dX7_filePlatter_19 : decode cX7_filePlatter 19 = .ok (.getfield 211, 3) := by decide +kernel
theorem dX7_filePlatter_22 : decode cX7_filePlatter 22 = .ok (.goto 5, 3) := by decide +kernel
theorem dX7_filePlatter_25 : decode cX7_filePlatter 25 = .ok (.ldc 87, 2) := by decide +kernel
theorem dX7_filePlatter_27 : decode cX7_filePlatter 27 = .ok (.ireturn, 1) := by decide +kernel
set_option maxRecDepth 20000 in
theorem ggX7_fileStart_X4_hasFile : GoodIn wsX7_fileStart wsX4_hasFile := goodIn_r _ [8, 9, 32, 33, 34, 35, 36, 37, 38, 39, 40, 41, 42, 43, 44, 45, 46, 47, 48, 49] (by decide +kernel) (by decide +kernel)
set_option maxRecDepth 20000 in
theorem gX7_fileStart_X4_hasFile : GoodIn wsX7_fileStart (wsV RX7 201 RX4 yX4_hasFile wsX4_hasFile) := goodIn_app (goodIn_of _ (by decide +kernel)) ggX7_fileStart_X4_hasFile
set_option maxRecDepth 20000 in
theorem ggX7_fileStart_X4_currentVersion : GoodIn wsX7_fileStart wsX4_currentVersion := goodIn_r _ [13, 14, 15, 32, 33, 34, 35, 36, 37, 38, 39, 40, 41, 42, 43, 44, 45, 46, 47, 48, 49] (by decide +kernel) (by decide +kernel)
set_option maxRecDepth 20000 in
theorem gX7_fileStart_X4_currentVersion : GoodIn wsX7_fileStart (wsV RX7 207 RX4 yX4_currentVersion wsX4_currentVersion) := goodIn_app (goodIn_of _ (by decide +kernel)) ggX7_fileStart_X4_currentVersion
theorem dX7_fileStart_0 : decode cX7_fileStart 0 = .ok (.aload_n 0, 1) := by decide +kernel
theorem dX7_fileStart_1 : decode cX7_fileStart 1 = .ok (.getfield 19, 3) := by decide +kernel
theorem dX7_fileStart_4 : decode cX7_fileStart 4 = .ok (.iload_n 1, 1) := by decide +kernel
theorem dX7_fileStart_5 : decode cX7_fileStart 5 = .ok (.invokevirtual 201, 3) := by decide +kernel
theorem dX7_fileStart_8 : decode cX7_fileStart 8 = .ok (.ifCond .eq 17, 3) := by decide +kernel
theorem dX7_fileStart_11 : decode cX7_fileStart 11 = .ok (.aload_n 0, 1) := by decide +kernel
theorem dX7_fileStart_12 : decode cX7_fileStart 12 = .ok (.getfield 19, 3) := by decide +kernel
theorem dX7_fileStart_15 : decode cX7_fileStart 15 = .ok (.iload_n 1, 1) := by decide +kernel
theorem dX7_fileStart_16 : decode cX7_fileStart 16 = .ok (.invokevirtual 207, 3) := by decide +kernel
theorem dX7_fileStart_19 : decode cX7_fileStart 19 = .ok (.getfield 214, 3) := by decide +kernel
theorem dX7_fileStart_22 : decode cX7_fileStart 22 = .ok (.goto 5, 3) := by decide +kernel
theorem dX7_fileStart_25 : decode cX7_fileStart 25 = .ok (.ldc 87, 2) := by decide +kernel
theorem dX7_fileStart_27 : decode cX7_fileStart 27 = .ok (.ireturn, 1) := by decide +kernel
set_option maxRecDepth 20000 in
theorem ggX7_fileSize_X4_hasFile : GoodIn wsX7_fileSize wsX4_hasFile := goodIn_r _ [8, 9, 32, 33, 34, 35, 36, 37, 38, 39, 40, 41, 42, 43, 44, 45, 46, 47, 48, 49] (by decide +kernel) (by decide +kernel)
set_option maxRecDepth 20000 in
theorem gX7_fileSize_X4_hasFile : GoodIn wsX7_fileSize (wsV RX7 201 RX4 yX4_hasFile wsX4_hasFile) := goodIn_app (goodIn_of _ (by decide +kernel)) ggX7_fileSize_X4_hasFile
set_option maxRecDepth 20000 in
theorem ggX7_fileSize_X4_currentVersion : GoodIn wsX7_fileSize wsX4_currentVersion := goodIn_r _ [13, 14, 15, 32, 33, 34, 35, 36, 37, 38, 39, 40, 41, 42, 43, 44, 45, 46, 47, 48, 49] (by decide +kernel) (by decide +kernel)
set_option maxRecDepth 20000 in
theorem gX7_fileSize_X4_currentVersion : GoodIn wsX7_fileSize (wsV RX7 207 RX4 yX4_currentVersion wsX4_currentVersion) := goodIn_app (goodIn_of _ (by decide +kernel)) ggX7_fileSize_X4_currentVersion
theorem dX7_fileSize_0 : decode cX7_fileSize 0 = .ok (.aload_n 0, 1) := by decide +kernel
theorem dX7_fileSize_1 : decode cX7_fileSize 1 = .ok (.getfield 19, 3) := by decide +kernel
theorem dX7_fileSize_4 : decode cX7_fileSize 4 = .ok (.iload_n 1, 1) := by decide +kernel
theorem dX7_fileSize_5 : decode cX7_fileSize 5 = .ok (.invokevirtual 201, 3) := by decide +kernel
theorem dX7_fileSize_8 : decode cX7_fileSize 8 = .ok (.ifCond .eq 17, 3) := by decide +kernel
theorem dX7_fileSize_11 : decode cX7_fileSize 11 = .ok (.aload_n 0, 1) := by decide +kernel
theorem dX7_fileSize_12 : decode cX7_fileSize 12 = .ok (.getfield 19, 3) := by decide +kernel
theorem dX7_fileSize_15 : decode cX7_fileSize 15 = .ok (.iload_n 1, 1) := by decide +kernel
theorem dX7_fileSize_16 : decode cX7_fileSize 16 = .ok (.invokevirtual 207, 3) := by decide +kernel
theorem dX7_fileSize_19 : decode cX7_fileSize 19 = .ok (.getfield 217, 3) := by decide +kernel
theorem dX7_fileSize_22 : decode cX7_fileSize 22 = .ok (.goto 5, 3) := by decide +kernel
theorem dX7_fileSize_25 : decode cX7_fileSize 25 = .ok (.ldc 87, 2) := by decide +kernel
theorem dX7_fileSize_27 : decode cX7_fileSize 27 = .ok (.ireturn, 1) := by decide +kernel
set_option maxRecDepth 20000 in
theorem ggX7_fileSession_X4_hasFile : GoodIn wsX7_fileSession wsX4_hasFile := goodIn_r _ [8, 9, 32, 33, 34, 35, 36, 37, 38, 39, 40, 41, 42, 43, 44, 45, 46, 47, 48, 49] (by decide +kernel) (by decide +kernel)
set_option maxRecDepth 20000 in
theorem gX7_fileSession_X4_hasFile : GoodIn wsX7_fileSession (wsV RX7 201 RX4 yX4_hasFile wsX4_hasFile) := goodIn_app (goodIn_of _ (by decide +kernel)) ggX7_fileSession_X4_hasFile
set_option maxRecDepth 20000 in
theorem ggX7_fileSession_X4_currentVersion : GoodIn wsX7_fileSession wsX4_currentVersion := goodIn_r _ [13, 14, 15, 32, 33, 34, 35, 36, 37, 38, 39, 40, 41, 42, 43, 44, 45, 46, 47, 48, 49] (by decide +kernel) (by decide +kernel)
set_option maxRecDepth 20000 in
theorem gX7_fileSession_X4_currentVersion : GoodIn wsX7_fileSession (wsV RX7 207 RX4 yX4_currentVersion wsX4_currentVersion) := goodIn_app (goodIn_of _ (by decide +kernel)) ggX7_fileSession_X4_currentVersion
theorem dX7_fileSession_0 : decode cX7_fileSession 0 = .ok (.aload_n 0, 1) := by decide +kernel
theorem dX7_fileSession_1 : decode cX7_fileSession 1 = .ok (.getfield 19, 3) := by decide +kernel
theorem dX7_fileSession_4 : decode cX7_fileSession 4 = .ok (.iload_n 1, 1) := by decide +kernel
theorem dX7_fileSession_5 : decode cX7_fileSession 5 = .ok (.invokevirtual 201, 3) := by decide +kernel
theorem dX7_fileSession_8 : decode cX7_fileSession 8 = .ok (.ifCond .eq 17, 3) := by decide +kernel
theorem dX7_fileSession_11 : decode cX7_fileSession 11 = .ok (.aload_n 0, 1) := by decide +kernel
theorem dX7_fileSession_12 : decode cX7_fileSession 12 = .ok (.getfield 19, 3) := by decide +kernel
theorem dX7_fileSession_15 : decode cX7_fileSession 15 = .ok (.iload_n 1, 1) := by decide +kernel
theorem dX7_fileSession_16 : decode cX7_fileSession 16 = .ok (.invokevirtual 207, 3) := by decide +kernel
theorem dX7_fileSession_19 : decode cX7_fileSession 19 = .ok (.getfield 220, 3) := by decide +kernel
theorem dX7_fileSession_22 : decode cX7_fileSession 22 = .ok (.goto 5, 3) := by decide +kernel
theorem dX7_fileSession_25 : decode cX7_fileSession 25 = .ok (.ldc 87, 2) := by decide +kernel
theorem dX7_fileSession_27 : decode cX7_fileSession 27 = .ok (.ireturn, 1) := by decide +kernel
set_option maxRecDepth 20000 in
theorem ggX7_remappedSectors_X4_hasFile : GoodIn wsX7_remappedSectors wsX4_hasFile := goodIn_r _ [8, 9, 32, 33, 34, 35, 36, 37, 38, 39, 40, 41, 42, 43, 44, 45, 46, 47, 48, 49] (by decide +kernel) (by decide +kernel)
set_option maxRecDepth 20000 in
theorem gX7_remappedSectors_X4_hasFile : GoodIn wsX7_remappedSectors (wsV RX7 201 RX4 yX4_hasFile wsX4_hasFile) := goodIn_app (goodIn_of _ (by decide +kernel)) ggX7_remappedSectors_X4_hasFile
set_option maxRecDepth 20000 in
theorem ggX7_remappedSectors_X4_currentVersion : GoodIn wsX7_remappedSectors wsX4_currentVersion := goodIn_r _ [13, 14, 15, 32, 33, 34, 35, 36, 37, 38, 39, 40, 41, 42, 43, 44, 45, 46, 47, 48, 49] (by decide +kernel) (by decide +kernel)
set_option maxRecDepth 20000 in
theorem gX7_remappedSectors_X4_currentVersion : GoodIn wsX7_remappedSectors (wsV RX7 207 RX4 yX4_currentVersion wsX4_currentVersion) := goodIn_app (goodIn_of _ (by decide +kernel)) ggX7_remappedSectors_X4_currentVersion
theorem dX7_remappedSectors_0 : decode cX7_remappedSectors 0 = .ok (.aload_n 0, 1) := by decide +kernel
theorem dX7_remappedSectors_1 : decode cX7_remappedSectors 1 = .ok (.getfield 19, 3) := by decide +kernel
theorem dX7_remappedSectors_4 : decode cX7_remappedSectors 4 = .ok (.iload_n 1, 1) := by decide +kernel
theorem dX7_remappedSectors_5 : decode cX7_remappedSectors 5 = .ok (.invokevirtual 201, 3) := by decide +kernel
theorem dX7_remappedSectors_8 : decode cX7_remappedSectors 8 = .ok (.ifCond .eq 17, 3) := by decide +kernel
theorem dX7_remappedSectors_11 : decode cX7_remappedSectors 11 = .ok (.aload_n 0, 1) := by decide +kernel
theorem dX7_remappedSectors_12 : decode cX7_remappedSectors 12 = .ok (.getfield 19, 3) := by decide +kernel
theorem dX7_remappedSectors_15 : decode cX7_remappedSectors 15 = .ok (.iload_n 1, 1) := by decide +kernel
theorem dX7_remappedSectors_16 : decode cX7_remappedSectors 16 = .ok (.invokevirtual 207, 3) := by decide +kernel
theorem dX7_remappedSectors_19 : decode cX7_remappedSectors 19 = .ok (.getfield 223, 3) := by decide +kernel
theorem dX7_remappedSectors_22 : decode cX7_remappedSectors 22 = .ok (.goto 5, 3) := by decide +kernel
theorem dX7_remappedSectors_25 : decode cX7_remappedSectors 25 = .ok (.ldc 87, 2) := by decide +kernel
theorem dX7_remappedSectors_27 : decode cX7_remappedSectors 27 = .ok (.ireturn, 1) := by decide +kernel
set_option maxRecDepth 20000 in
theorem ggX7_fileState_X4_hasFile : GoodIn wsX7_fileState wsX4_hasFile := goodIn_r _ [8, 9, 52, 53, 54, 55, 56, 57, 58, 59, 60, 61, 62, 63, 64, 65, 66, 67, 68, 69] (by decide +kernel) (by decide +kernel)
set_option maxRecDepth 20000 in
theorem gX7_fileState_X4_hasFile : GoodIn wsX7_fileState (wsV RX7 201 RX4 yX4_hasFile wsX4_hasFile) := goodIn_app (goodIn_of _ (by decide +kernel)) ggX7_fileState_X4_hasFile
set_option maxRecDepth 20000 in
theorem ggX7_fileState_X4_currentVersion : GoodIn wsX7_fileState wsX4_currentVersion := goodIn_r _ [13, 14, 15, 52, 53, 54, 55, 56, 57, 58, 59, 60, 61, 62, 63, 64, 65, 66, 67, 68, 69] (by decide +kernel) (by decide +kernel)
set_option maxRecDepth 20000 in
theorem gX7_fileState_X4_currentVersion : GoodIn wsX7_fileState (wsV RX7 207 RX4 yX4_currentVersion wsX4_currentVersion) := goodIn_app (goodIn_of _ (by decide +kernel)) ggX7_fileState_X4_currentVersion
set_option maxRecDepth 20000 in
theorem ggX7_fileState_X4_isReadable : GoodIn wsX7_fileState wsX4_isReadable := goodIn_r _ [19, 20, 11, 12, 7, 13, 14, 15, 21, 22, 23, 24, 25, 26, 27, 28, 29, 30, 31, 32, 33, 34, 35, 52, 53, 54, 55, 56, 57, 58, 59, 60, 61, 62, 63, 64, 65, 66, 67, 68, 69, 45, 46, 47, 48, 49, 50, 51, 70, 71, 72, 73, 74, 75, 76, 77, 78] (by decide +kernel) (by decide +kernel)
set_option maxRecDepth 20000 in
theorem gX7_fileState_X4_isReadable : GoodIn wsX7_fileState (wsV RX7 229 RX4 yX4_isReadable wsX4_isReadable) := goodIn_app (goodIn_of _ (by decide +kernel)) ggX7_fileState_X4_isReadable
theorem dX7_fileState_0 : decode cX7_fileState 0 = .ok (.aload_n 0, 1) := by decide +kernel
theorem dX7_fileState_1 : decode cX7_fileState 1 = .ok (.getfield 19, 3) := by decide +kernel
theorem dX7_fileState_4 : decode cX7_fileState 4 = .ok (.iload_n 1, 1) := by decide +kernel
theorem dX7_fileState_5 : decode cX7_fileState 5 = .ok (.invokevirtual 201, 3) := by decide +kernel
theorem dX7_fileState_8 : decode cX7_fileState 8 = .ok (.ifCond .ne 6, 3) := by decide +kernel
theorem dX7_fileState_11 : decode cX7_fileState 11 = .ok (.ldc 87, 2) := by decide +kernel
theorem dX7_fileState_13 : decode cX7_fileState 13 = .ok (.ireturn, 1) := by decide +kernel
theorem dX7_fileState_14 : decode cX7_fileState 14 = .ok (.aload_n 0, 1) := by decide +kernel
theorem dX7_fileState_15 : decode cX7_fileState 15 = .ok (.getfield 19, 3) := by decide +kernel
theorem dX7_fileState_18 : decode cX7_fileState 18 = .ok (.iload_n 1, 1) := by decide +kernel
theorem dX7_fileState_19 : decode cX7_fileState 19 = .ok (.invokevirtual 207, 3) := by decide +kernel
theorem dX7_fileState_22 : decode cX7_fileState 22 = .ok (.getfield 226, 3) := by decide +kernel
theorem dX7_fileState_25 : decode cX7_fileState 25 = .ok (.ifCond .eq 5, 3) := by decide +kernel
theorem dX7_fileState_28 : decode cX7_fileState 28 = .ok (.iconst 1, 1) := by decide +kernel
theorem dX7_fileState_29 : decode cX7_fileState 29 = .ok (.ireturn, 1) := by decide +kernel
theorem dX7_fileState_30 : decode cX7_fileState 30 = .ok (.aload_n 0, 1) := by decide +kernel
theorem dX7_fileState_31 : decode cX7_fileState 31 = .ok (.getfield 19, 3) := by decide +kernel
theorem dX7_fileState_34 : decode cX7_fileState 34 = .ok (.iload_n 1, 1) := by decide +kernel
theorem dX7_fileState_35 : decode cX7_fileState 35 = .ok (.invokevirtual 229, 3) := by decide +kernel
theorem dX7_fileState_38 : decode cX7_fileState 38 = .ok (.ifCond .eq 7, 3) := by decide +kernel
theorem dX7_fileState_41 : decode cX7_fileState 41 = .ok (.iconst 0, 1) := by decide +kernel
theorem dX7_fileState_42 : decode cX7_fileState 42 = .ok (.goto 4, 3) := by decide +kernel
theorem dX7_fileState_45 : decode cX7_fileState 45 = .ok (.iconst 2, 1) := by decide +kernel
theorem dX7_fileState_46 : decode cX7_fileState 46 = .ok (.ireturn, 1) := by decide +kernel
set_option maxRecDepth 20000 in
theorem ggX7_readTime_X7_readProblem : GoodIn wsX7_readTime wsX7_readProblem := goodIn_r _ [7, 1, 8, 9, 10, 11, 12, 13, 14, 15, 16, 17, 18, 19, 20, 21, 22, 23, 24, 25, 26, 27, 28, 29, 30, 31, 32, 33, 34, 35, 36, 37, 38, 39, 40, 41, 42, 87, 88, 89, 90, 91, 92, 93, 94, 95, 103, 104, 105, 106, 107, 108, 109, 110, 111, 112, 113, 114, 115, 116, 117, 118, 119, 120, 96, 97, 98, 99, 100, 101, 102, 121, 122, 123, 124, 125, 126, 127, 128, 129] (by decide +kernel) (by decide +kernel)
set_option maxRecDepth 20000 in
theorem gX7_readTime_X7_readProblem : GoodIn wsX7_readTime (wsV RX7 232 RX7 yX7_readProblem wsX7_readProblem) := goodIn_app (goodIn_of _ (by decide +kernel)) ggX7_readTime_X7_readProblem
set_option maxRecDepth 20000 in
theorem ggX7_readTime_X4_currentVersion : GoodIn wsX7_readTime wsX4_currentVersion := goodIn_r _ [25, 26, 27, 103, 104, 105, 106, 107, 108, 109, 110, 111, 112, 113, 114, 115, 116, 117, 118, 119, 120] (by decide +kernel) (by decide +kernel)
set_option maxRecDepth 20000 in
theorem gX7_readTime_X4_currentVersion : GoodIn wsX7_readTime (wsV RX7 207 RX4 yX4_currentVersion wsX4_currentVersion) := goodIn_app (goodIn_of _ (by decide +kernel)) ggX7_readTime_X4_currentVersion
set_option maxRecDepth 20000 in
theorem ggX7_readTime_X4_chosenBringTime : GoodIn wsX7_readTime wsX4_chosenBringTime := goodIn_r _ [47, 48, 49, 50, 15, 51, 52, 53, 54, 55, 56, 57, 58, 59, 60, 61, 62, 63, 64, 65, 66, 67, 68, 69, 70, 71, 72, 73, 74, 75, 33, 76, 77, 78, 79, 80, 103, 104, 105, 106, 107, 108, 109, 110, 111, 112, 113, 114, 115, 116, 117, 118, 119, 120, 130, 131, 132, 121, 122, 123, 124, 125, 126, 127, 128, 129] (by decide +kernel) (by decide +kernel)
set_option maxRecDepth 20000 in
theorem gX7_readTime_X4_chosenBringTime : GoodIn wsX7_readTime (wsV RX7 131 RX4 yX4_chosenBringTime wsX4_chosenBringTime) := goodIn_app (goodIn_of _ (by decide +kernel)) ggX7_readTime_X4_chosenBringTime
set_option maxRecDepth 20000 in
theorem ggX7_readTime_X4_sectorsReadTime : GoodIn wsX7_readTime wsX4_sectorsReadTime := goodIn_r _ [84, 69, 85, 86, 103, 104, 105, 106, 107, 108, 109, 110, 111, 112, 113, 114, 115, 116, 117, 118, 119, 120, 96, 97, 98, 99, 100, 101, 102] (by decide +kernel) (by decide +kernel)
set_option maxRecDepth 20000 in
theorem gX7_readTime_X4_sectorsReadTime : GoodIn wsX7_readTime (wsV RX7 235 RX4 yX4_sectorsReadTime wsX4_sectorsReadTime) := goodIn_app (goodIn_of _ (by decide +kernel)) ggX7_readTime_X4_sectorsReadTime
theorem dX7_readTime_0 : decode cX7_readTime 0 = .ok (.aload_n 0, 1) := by decide +kernel
theorem dX7_readTime_1 : decode cX7_readTime 1 = .ok (.iload_n 1, 1) := by decide +kernel
theorem dX7_readTime_2 : decode cX7_readTime 2 = .ok (.invokevirtual 232, 3) := by decide +kernel
theorem dX7_readTime_5 : decode cX7_readTime 5 = .ok (.istore_n 2, 1) := by decide +kernel
theorem dX7_readTime_6 : decode cX7_readTime 6 = .ok (.iload_n 2, 1) := by decide +kernel
theorem dX7_readTime_7 : decode cX7_readTime 7 = .ok (.ifCond .eq 5, 3) := by decide +kernel
theorem dX7_readTime_10 : decode cX7_readTime 10 = .ok (.iload_n 2, 1) := by decide +kernel
theorem dX7_readTime_11 : decode cX7_readTime 11 = .ok (.ireturn, 1) := by decide +kernel
theorem dX7_readTime_12 : decode cX7_readTime 12 = .ok (.aload_n 0, 1) := by decide +kernel
theorem dX7_readTime_13 : decode cX7_readTime 13 = .ok (.getfield 19, 3) := by decide +kernel
theorem dX7_readTime_16 : decode cX7_readTime 16 = .ok (.iload_n 1, 1) := by decide +kernel
theorem dX7_readTime_17 : decode cX7_readTime 17 = .ok (.invokevirtual 207, 3) := by decide +kernel
theorem dX7_readTime_20 : decode cX7_readTime 20 = .ok (.astore_n 3, 1) := by decide +kernel
theorem dX7_readTime_21 : decode cX7_readTime 21 = .ok (.aload_n 0, 1) := by decide +kernel
theorem dX7_readTime_22 : decode cX7_readTime 22 = .ok (.getfield 19, 3) := by decide +kernel
theorem dX7_readTime_25 : decode cX7_readTime 25 = .ok (.aload_n 3, 1) := by decide +kernel
theorem dX7_readTime_26 : decode cX7_readTime 26 = .ok (.getfield 211, 3) := by decide +kernel
theorem dX7_readTime_29 : decode cX7_readTime 29 = .ok (.invokevirtual 131, 3) := by decide +kernel
theorem dX7_readTime_32 : decode cX7_readTime 32 = .ok (.aload_n 0, 1) := by decide +kernel
theorem dX7_readTime_33 : decode cX7_readTime 33 = .ok (.getfield 19, 3) := by decide +kernel
theorem dX7_readTime_36 : decode cX7_readTime 36 = .ok (.aload_n 3, 1) := by decide +kernel
theorem dX7_readTime_37 : decode cX7_readTime 37 = .ok (.invokevirtual 235, 3) := by decide +kernel
theorem dX7_readTime_40 : decode cX7_readTime 40 = .ok (.iadd, 1) := by decide +kernel
theorem dX7_readTime_41 : decode cX7_readTime 41 = .ok (.ireturn, 1) := by decide +kernel
set_option maxRecDepth 20000 in
theorem ggX7_readProblem_X4_hasFile : GoodIn wsX7_readProblem wsX4_hasFile := goodIn_r _ [10, 11, 46, 47, 48, 49, 50, 51, 52, 53, 54, 55, 56, 57, 58, 59, 60, 61, 62, 63] (by decide +kernel) (by decide +kernel)
set_option maxRecDepth 20000 in
theorem gX7_readProblem_X4_hasFile : GoodIn wsX7_readProblem (wsV RX7 201 RX4 yX4_hasFile wsX4_hasFile) := goodIn_app (goodIn_of _ (by decide +kernel)) ggX7_readProblem_X4_hasFile
set_option maxRecDepth 20000 in
theorem ggX7_readProblem_X4_isReadable : GoodIn wsX7_readProblem wsX4_isReadable := goodIn_r _ [15, 16, 17, 18, 9, 19, 20, 21, 22, 23, 24, 25, 26, 27, 28, 29, 30, 31, 32, 33, 34, 35, 36, 46, 47, 48, 49, 50, 51, 52, 53, 54, 55, 56, 57, 58, 59, 60, 61, 62, 63, 64, 65, 66, 67, 68, 69, 70, 71, 72, 73, 74, 75, 76, 77, 78, 79] (by decide +kernel) (by decide +kernel)
set_option maxRecDepth 20000 in
theorem gX7_readProblem_X4_isReadable : GoodIn wsX7_readProblem (wsV RX7 229 RX4 yX4_isReadable wsX4_isReadable) := goodIn_app (goodIn_of _ (by decide +kernel)) ggX7_readProblem_X4_isReadable
theorem dX7_readProblem_0 : decode cX7_readProblem 0 = .ok (.aload_n 0, 1) := by decide +kernel
theorem dX7_readProblem_1 : decode cX7_readProblem 1 = .ok (.getfield 19, 3) := by decide +kernel
theorem dX7_readProblem_4 : decode cX7_readProblem 4 = .ok (.iload_n 1, 1) := by decide +kernel
theorem dX7_readProblem_5 : decode cX7_readProblem 5 = .ok (.invokevirtual 201, 3) := by decide +kernel
theorem dX7_readProblem_8 : decode cX7_readProblem 8 = .ok (.ifCond .ne 6, 3) := by decide +kernel
theorem dX7_readProblem_11 : decode cX7_readProblem 11 = .ok (.ldc 87, 2) := by decide +kernel
theorem dX7_readProblem_13 : decode cX7_readProblem 13 = .ok (.ireturn, 1) := by decide +kernel
theorem dX7_readProblem_14 : decode cX7_readProblem 14 = .ok (.aload_n 0, 1) := by decide +kernel
theorem dX7_readProblem_15 : decode cX7_readProblem 15 = .ok (.getfield 19, 3) := by decide +kernel
theorem dX7_readProblem_18 : decode cX7_readProblem 18 = .ok (.getfield 134, 3) := by decide +kernel
theorem dX7_readProblem_21 : decode cX7_readProblem 21 = .ok (.ifCond .ne 6, 3) := by decide +kernel
theorem dX7_readProblem_24 : decode cX7_readProblem 24 = .ok (.ldc 137, 2) := by decide +kernel
theorem dX7_readProblem_26 : decode cX7_readProblem 26 = .ok (.ireturn, 1) := by decide +kernel
theorem dX7_readProblem_27 : decode cX7_readProblem 27 = .ok (.aload_n 0, 1) := by decide +kernel
theorem dX7_readProblem_28 : decode cX7_readProblem 28 = .ok (.getfield 19, 3) := by decide +kernel
theorem dX7_readProblem_31 : decode cX7_readProblem 31 = .ok (.iload_n 1, 1) := by decide +kernel
theorem dX7_readProblem_32 : decode cX7_readProblem 32 = .ok (.invokevirtual 229, 3) := by decide +kernel
theorem dX7_readProblem_35 : decode cX7_readProblem 35 = .ok (.ifCond .eq 7, 3) := by decide +kernel
theorem dX7_readProblem_38 : decode cX7_readProblem 38 = .ok (.iconst 0, 1) := by decide +kernel
theorem dX7_readProblem_39 : decode cX7_readProblem 39 = .ok (.goto 5, 3) := by decide +kernel
theorem dX7_readProblem_42 : decode cX7_readProblem 42 = .ok (.ldc 239, 2) := by decide +kernel
theorem dX7_readProblem_44 : decode cX7_readProblem 44 = .ok (.ireturn, 1) := by decide +kernel
set_option maxRecDepth 20000 in
theorem ggX7_lastGoodVersion_X4_hasFile : GoodIn wsX7_lastGoodVersion wsX4_hasFile := goodIn_r _ [7, 8, 45, 46, 47, 48, 49, 50, 51, 52, 53, 54, 55, 56, 57, 58, 59, 60, 61, 62] (by decide +kernel) (by decide +kernel)
set_option maxRecDepth 20000 in
theorem gX7_lastGoodVersion_X4_hasFile : GoodIn wsX7_lastGoodVersion (wsV RX7 201 RX4 yX4_hasFile wsX4_hasFile) := goodIn_app (goodIn_of _ (by decide +kernel)) ggX7_lastGoodVersion_X4_hasFile
set_option maxRecDepth 20000 in
theorem ggX7_lastGoodVersion_X4_lastGood : GoodIn wsX7_lastGoodVersion wsX4_lastGood := goodIn_r _ [12, 13, 14, 15, 16, 17, 18, 6, 19, 20, 21, 22, 23, 24, 25, 26, 27, 28, 29, 30, 45, 46, 47, 48, 49, 50, 51, 52, 53, 54, 55, 56, 57, 58, 59, 60, 61, 62, 63, 64, 65, 66, 67, 68, 69, 70, 71, 72, 73, 74, 75, 76, 77, 78] (by decide +kernel) (by decide +kernel)
set_option maxRecDepth 20000 in
theorem gX7_lastGoodVersion_X4_lastGood : GoodIn wsX7_lastGoodVersion (wsV RX7 240 RX4 yX4_lastGood wsX4_lastGood) := goodIn_app (goodIn_of _ (by decide +kernel)) ggX7_lastGoodVersion_X4_lastGood
set_option maxRecDepth 20000 in
theorem ggX7_lastGoodVersion_X7_foundOrNot : GoodIn wsX7_lastGoodVersion wsX7_foundOrNot := goodIn_r _ [34, 35] (by decide +kernel) (by decide +kernel)
set_option maxRecDepth 20000 in
theorem gX7_lastGoodVersion_X7_foundOrNot : GoodIn wsX7_lastGoodVersion (va_wsS RX7 98 yX7_foundOrNot wsX7_foundOrNot) := goodIn_app (goodIn_of _ (by decide +kernel)) ggX7_lastGoodVersion_X7_foundOrNot
theorem dX7_lastGoodVersion_0 : decode cX7_lastGoodVersion 0 = .ok (.aload_n 0, 1) := by decide +kernel
theorem dX7_lastGoodVersion_1 : decode cX7_lastGoodVersion 1 = .ok (.getfield 19, 3) := by decide +kernel
theorem dX7_lastGoodVersion_4 : decode cX7_lastGoodVersion 4 = .ok (.iload_n 1, 1) := by decide +kernel
theorem dX7_lastGoodVersion_5 : decode cX7_lastGoodVersion 5 = .ok (.invokevirtual 201, 3) := by decide +kernel
theorem dX7_lastGoodVersion_8 : decode cX7_lastGoodVersion 8 = .ok (.ifCond .eq 17, 3) := by decide +kernel
theorem dX7_lastGoodVersion_11 : decode cX7_lastGoodVersion 11 = .ok (.aload_n 0, 1) := by decide +kernel
theorem dX7_lastGoodVersion_12 : decode cX7_lastGoodVersion 12 = .ok (.getfield 19, 3) := by decide +kernel
theorem dX7_lastGoodVersion_15 : decode cX7_lastGoodVersion 15 = .ok (.iload_n 1, 1) := by decide +kernel
theorem dX7_lastGoodVersion_16 : decode cX7_lastGoodVersion 16 = .ok (.invokevirtual 240, 3) := by decide +kernel
theorem dX7_lastGoodVersion_19 : decode cX7_lastGoodVersion 19 = .ok (.invokestatic 98, 3) := by decide +kernel
theorem dX7_lastGoodVersion_22 : decode cX7_lastGoodVersion 22 = .ok (.goto 5, 3) := by decide +kernel
theorem dX7_lastGoodVersion_25 : decode cX7_lastGoodVersion 25 = .ok (.ldc 87, 2) := by decide +kernel
theorem dX7_lastGoodVersion_27 : decode cX7_lastGoodVersion 27 = .ok (.ireturn, 1) := by decide +kernel
set_option maxRecDepth 20000 in
theorem ggX7_fileOfSector_X4_hasSector : GoodIn wsX7_fileOfSector wsX4_hasSector := goodIn_r _ [10, 11, 12, 13, 14, 15, 9, 16, 17, 41, 42, 43, 44, 45, 46, 47, 48, 49, 50, 51, 52, 53, 54, 55, 56, 57, 58, 66, 67, 68, 69, 70, 71, 72, 73, 74] (by decide +kernel) (by decide +kernel)
set_option maxRecDepth 20000 in
theorem gX7_fileOfSector_X4_hasSector : GoodIn wsX7_fileOfSector (wsV RX7 170 RX4 yX4_hasSector wsX4_hasSector) := goodIn_app (goodIn_of _ (by decide +kernel)) ggX7_fileOfSector_X4_hasSector
set_option maxRecDepth 20000 in
theorem ggX7_fileOfSector_X4_versionAt : GoodIn wsX7_fileOfSector wsX4_versionAt := goodIn_r _ [21, 22, 23, 24, 25, 26, 27, 28, 29, 30, 31, 41, 42, 43, 44, 45, 46, 47, 48, 49, 50, 51, 52, 53, 54, 55, 56, 57, 58, 59, 60, 61, 62, 63, 64, 65] (by decide +kernel) (by decide +kernel)
set_option maxRecDepth 20000 in
theorem gX7_fileOfSector_X4_versionAt : GoodIn wsX7_fileOfSector (wsV RX7 243 RX4 yX4_versionAt wsX4_versionAt) := goodIn_app (goodIn_of _ (by decide +kernel)) ggX7_fileOfSector_X4_versionAt
theorem dX7_fileOfSector_0 : decode cX7_fileOfSector 0 = .ok (.aload_n 0, 1) := by decide +kernel
theorem dX7_fileOfSector_1 : decode cX7_fileOfSector 1 = .ok (.getfield 19, 3) := by decide +kernel
theorem dX7_fileOfSector_4 : decode cX7_fileOfSector 4 = .ok (.iload_n 1, 1) := by decide +kernel
theorem dX7_fileOfSector_5 : decode cX7_fileOfSector 5 = .ok (.iload_n 2, 1) := by decide +kernel
theorem dX7_fileOfSector_6 : decode cX7_fileOfSector 6 = .ok (.invokevirtual 170, 3) := by decide +kernel
theorem dX7_fileOfSector_9 : decode cX7_fileOfSector 9 = .ok (.ifCond .ne 6, 3) := by decide +kernel
theorem dX7_fileOfSector_12 : decode cX7_fileOfSector 12 = .ok (.ldc 87, 2) := by decide +kernel
theorem dX7_fileOfSector_14 : decode cX7_fileOfSector 14 = .ok (.ireturn, 1) := by decide +kernel
theorem dX7_fileOfSector_15 : decode cX7_fileOfSector 15 = .ok (.aload_n 0, 1) := by decide +kernel
theorem dX7_fileOfSector_16 : decode cX7_fileOfSector 16 = .ok (.getfield 19, 3) := by decide +kernel
theorem dX7_fileOfSector_19 : decode cX7_fileOfSector 19 = .ok (.iload_n 1, 1) := by decide +kernel
theorem dX7_fileOfSector_20 : decode cX7_fileOfSector 20 = .ok (.iload_n 2, 1) := by decide +kernel
theorem dX7_fileOfSector_21 : decode cX7_fileOfSector 21 = .ok (.invokevirtual 243, 3) := by decide +kernel
theorem dX7_fileOfSector_24 : decode cX7_fileOfSector 24 = .ok (.istore_n 3, 1) := by decide +kernel
theorem dX7_fileOfSector_25 : decode cX7_fileOfSector 25 = .ok (.iload_n 3, 1) := by decide +kernel
theorem dX7_fileOfSector_26 : decode cX7_fileOfSector 26 = .ok (.iconst (-1), 1) := by decide +kernel
theorem dX7_fileOfSector_27 : decode cX7_fileOfSector 27 = .ok (.if_icmp .ne 8, 3) := by decide +kernel
theorem dX7_fileOfSector_30 : decode cX7_fileOfSector 30 = .ok (.ldc 73, 2) := by decide +kernel
theorem dX7_fileOfSector_32 : decode cX7_fileOfSector 32 = .ok (.goto 15, 3) := by decide +kernel
theorem dX7_fileOfSector_35 : decode cX7_fileOfSector 35 = .ok (.aload_n 0, 1) := by decide +kernel
theorem dX7_fileOfSector_36 : decode cX7_fileOfSector 36 = .ok (.getfield 19, 3) := by decide +kernel
theorem dX7_fileOfSector_39 : decode cX7_fileOfSector 39 = .ok (.getfield 246, 3) := by decide +kernel
theorem dX7_fileOfSector_42 : decode cX7_fileOfSector 42 = .ok (.iload_n 3, 1) := by decide +kernel
theorem dX7_fileOfSector_43 : decode cX7_fileOfSector 43 = .ok (.aaload, 1) := by decide +kernel
theorem dX7_fileOfSector_44 : decode cX7_fileOfSector 44 = .ok (.getfield 250, 3) := by decide +kernel
theorem dX7_fileOfSector_47 : decode cX7_fileOfSector 47 = .ok (.ireturn, 1) := by decide +kernel
set_option maxRecDepth 20000 in
theorem ggX7_filesOn_X4_hasPlatter : GoodIn wsX7_filesOn wsX4_hasPlatter := goodIn_r _ [7, 8, 30, 31, 32, 33, 34, 35, 36, 37, 38, 39, 40, 41, 42, 43, 44, 45, 46, 47] (by decide +kernel) (by decide +kernel)
set_option maxRecDepth 20000 in
theorem gX7_filesOn_X4_hasPlatter : GoodIn wsX7_filesOn (wsV RX7 74 RX4 yX4_hasPlatter wsX4_hasPlatter) := goodIn_app (goodIn_of _ (by decide +kernel)) ggX7_filesOn_X4_hasPlatter
set_option maxRecDepth 20000 in
theorem ggX7_filesOn_X4_countFiles : GoodIn wsX7_filesOn wsX4_countFiles := goodIn_r _ [12, 13, 14, 15, 16, 17, 6, 18, 19, 20, 30, 31, 32, 33, 34, 35, 36, 37, 38, 39, 40, 41, 42, 43, 44, 45, 46, 47, 48, 49, 50, 51, 52, 53, 54] (by decide +kernel) (by decide +kernel)
set_option maxRecDepth 20000 in
theorem gX7_filesOn_X4_countFiles : GoodIn wsX7_filesOn (wsV RX7 253 RX4 yX4_countFiles wsX4_countFiles) := goodIn_app (goodIn_of _ (by decide +kernel)) ggX7_filesOn_X4_countFiles
theorem dX7_filesOn_0 : decode cX7_filesOn 0 = .ok (.aload_n 0, 1) := by decide +kernel
theorem dX7_filesOn_1 : decode cX7_filesOn 1 = .ok (.getfield 19, 3) := by decide +kernel
theorem dX7_filesOn_4 : decode cX7_filesOn 4 = .ok (.iload_n 1, 1) := by decide +kernel
theorem dX7_filesOn_5 : decode cX7_filesOn 5 = .ok (.invokevirtual 74, 3) := by decide +kernel
theorem dX7_filesOn_8 : decode cX7_filesOn 8 = .ok (.ifCond .eq 14, 3) := by decide +kernel
theorem dX7_filesOn_11 : decode cX7_filesOn 11 = .ok (.aload_n 0, 1) := by decide +kernel
theorem dX7_filesOn_12 : decode cX7_filesOn 12 = .ok (.getfield 19, 3) := by decide +kernel
theorem dX7_filesOn_15 : decode cX7_filesOn 15 = .ok (.iload_n 1, 1) := by decide +kernel
theorem dX7_filesOn_16 : decode cX7_filesOn 16 = .ok (.invokevirtual 253, 3) := by decide +kernel
theorem dX7_filesOn_19 : decode cX7_filesOn 19 = .ok (.goto 5, 3) := by decide +kernel
theorem dX7_filesOn_22 : decode cX7_filesOn 22 = .ok (.ldc 87, 2) := by decide +kernel
theorem dX7_filesOn_24 : decode cX7_filesOn 24 = .ok (.ireturn, 1) := by decide +kernel
set_option maxRecDepth 20000 in
theorem ggX7_mount_X7_mountProblem : GoodIn wsX7_mount wsX7_mountProblem := goodIn_r _ [7, 1, 8, 9, 10, 11, 12, 13, 14, 15, 16, 173, 174, 175, 176, 177, 178, 179, 180, 181, 182, 183, 184, 185, 186, 187, 188, 189, 190, 191, 192, 193, 194, 195, 196, 197, 198, 199] (by decide +kernel) (by decide +kernel)
set_option maxRecDepth 20000 in
theorem gX7_mount_X7_mountProblem : GoodIn wsX7_mount (wsV RX7 125 RX7 yX7_mountProblem wsX7_mountProblem) := goodIn_app (goodIn_of _ (by decide +kernel)) ggX7_mount_X7_mountProblem
set_option maxRecDepth 20000 in
theorem ggX7_mount_X7_remember : GoodIn wsX7_mount wsX7_remember := goodIn_r _ [20, 21, 1, 22, 23, 24, 25, 26, 27, 28, 29, 30, 31, 14, 32, 33, 34, 35, 36, 37, 38, 39, 40, 41, 42, 43, 44, 45, 46, 47, 48, 49, 50, 51, 52, 53, 54, 55, 56, 57, 58, 59, 60, 61, 62, 63, 64, 65, 66, 67, 68, 69, 70, 71, 72, 16, 73, 74, 75, 76, 77, 78, 79, 80, 81, 82, 83, 84, 85, 86, 87, 88, 89, 90, 91, 92, 93, 94, 95, 96, 97, 98, 99, 100, 101, 102, 103, 104, 105, 106, 107, 108, 109, 110, 111, 112, 113, 114, 115, 116, 117, 118, 119, 120, 121, 122, 123, 124, 6, 125, 126, 127, 128, 129, 130, 131, 132, 173, 174, 175, 176, 177, 178, 179, 180, 181, 200, 201, 202, 182, 183, 184, 185, 186, 187, 188, 189, 190, 191, 192, 193, 194, 195, 196, 197, 198, 199, 203, 204, 205, 206, 207, 208, 209, 210, 211, 212, 213, 214, 215, 216, 217, 218, 219, 220, 221, 222, 223, 224, 225, 226, 227, 228] (by decide +kernel) (by decide +kernel)
set_option maxRecDepth 20000 in
theorem gX7_mount_X7_remember : GoodIn wsX7_mount (wsV RX7 256 RX7 yX7_remember wsX7_remember) := goodIn_app (goodIn_of _ (by decide +kernel)) ggX7_mount_X7_remember
set_option maxRecDepth 20000 in
theorem ggX7_mount_X4_bringToChosen : GoodIn wsX7_mount wsX4_bringToChosen := goodIn_r _ [136, 137, 138, 139, 14, 140, 141, 142, 143, 144, 71, 41, 145, 146, 147, 148, 149, 72, 150, 151, 152, 153, 154, 78, 80, 155, 77, 79, 156, 157, 158, 159, 39, 160, 161, 162, 163, 43, 164, 165, 166, 167, 168, 169, 170, 171, 172, 182, 183, 184, 185, 186, 187, 188, 189, 190, 191, 192, 193, 194, 195, 196, 197, 198, 199, 203, 204, 205, 206, 207, 208, 209, 210, 211, 212, 213, 214] (by decide +kernel) (by decide +kernel)
set_option maxRecDepth 20000 in
theorem gX7_mount_X4_bringToChosen : GoodIn wsX7_mount (wsV RX7 259 RX4 yX4_bringToChosen wsX4_bringToChosen) := goodIn_app (goodIn_of _ (by decide +kernel)) ggX7_mount_X4_bringToChosen
theorem dX7_mount_0 : decode cX7_mount 0 = .ok (.aload_n 0, 1) := by decide +kernel
theorem dX7_mount_1 : decode cX7_mount 1 = .ok (.iload_n 1, 1) := by decide +kernel
theorem dX7_mount_2 : decode cX7_mount 2 = .ok (.invokevirtual 125, 3) := by decide +kernel
theorem dX7_mount_5 : decode cX7_mount 5 = .ok (.istore_n 2, 1) := by decide +kernel
theorem dX7_mount_6 : decode cX7_mount 6 = .ok (.iload_n 2, 1) := by decide +kernel
theorem dX7_mount_7 : decode cX7_mount 7 = .ok (.ifCond .eq 5, 3) := by decide +kernel
theorem dX7_mount_10 : decode cX7_mount 10 = .ok (.iload_n 2, 1) := by decide +kernel
theorem dX7_mount_11 : decode cX7_mount 11 = .ok (.ireturn, 1) := by decide +kernel
theorem dX7_mount_12 : decode cX7_mount 12 = .ok (.aload_n 0, 1) := by decide +kernel
theorem dX7_mount_13 : decode cX7_mount 13 = .ok (.invokevirtual 256, 3) := by decide +kernel
theorem dX7_mount_16 : decode cX7_mount 16 = .ok (.aload_n 0, 1) := by decide +kernel
theorem dX7_mount_17 : decode cX7_mount 17 = .ok (.getfield 19, 3) := by decide +kernel
theorem dX7_mount_20 : decode cX7_mount 20 = .ok (.getfield 116, 3) := by decide +kernel
theorem dX7_mount_23 : decode cX7_mount 23 = .ok (.istore_n 3, 1) := by decide +kernel
theorem dX7_mount_24 : decode cX7_mount 24 = .ok (.aload_n 0, 1) := by decide +kernel
theorem dX7_mount_25 : decode cX7_mount 25 = .ok (.getfield 19, 3) := by decide +kernel
theorem dX7_mount_28 : decode cX7_mount 28 = .ok (.iload_n 1, 1) := by decide +kernel
theorem dX7_mount_29 : decode cX7_mount 29 = .ok (.invokevirtual 259, 3) := by decide +kernel
theorem dX7_mount_32 : decode cX7_mount 32 = .ok (.aload_n 0, 1) := by decide +kernel
theorem dX7_mount_33 : decode cX7_mount 33 = .ok (.getfield 19, 3) := by decide +kernel
theorem dX7_mount_36 : decode cX7_mount 36 = .ok (.getfield 116, 3) := by decide +kernel
theorem dX7_mount_39 : decode cX7_mount 39 = .ok (.iload_n 3, 1) := by decide +kernel
theorem dX7_mount_40 : decode cX7_mount 40 = .ok (.isub, 1) := by decide +kernel
theorem dX7_mount_41 : decode cX7_mount 41 = .ok (.ireturn, 1) := by decide +kernel
set_option maxRecDepth 20000 in
theorem ggX7_eject_X4_hasDrive : GoodIn wsX7_eject wsX4_hasDrive := goodIn_r _ [11, 12, 150, 151, 152, 153, 154, 155, 156, 157, 158, 159, 160, 161, 162, 163, 164, 165, 166, 167] (by decide +kernel) (by decide +kernel)
set_option maxRecDepth 20000 in
theorem gX7_eject_X4_hasDrive : GoodIn wsX7_eject (wsV RX7 101 RX4 yX4_hasDrive wsX4_hasDrive) := goodIn_app (goodIn_of _ (by decide +kernel)) ggX7_eject_X4_hasDrive
set_option maxRecDepth 20000 in
theorem ggX7_eject_X7_remember : GoodIn wsX7_eject wsX7_remember := goodIn_r _ [17, 18, 1, 19, 20, 21, 22, 23, 24, 25, 26, 27, 28, 10, 29, 30, 31, 32, 33, 34, 35, 36, 37, 38, 39, 40, 41, 42, 43, 44, 45, 46, 47, 48, 49, 50, 51, 52, 53, 54, 55, 56, 57, 58, 59, 60, 61, 62, 63, 64, 65, 66, 67, 12, 68, 69, 70, 71, 72, 73, 74, 75, 76, 77, 78, 79, 80, 81, 82, 83, 84, 85, 86, 87, 88, 89, 90, 91, 92, 93, 94, 95, 96, 97, 98, 99, 100, 101, 102, 103, 104, 105, 106, 107, 108, 109, 110, 111, 112, 113, 114, 115, 116, 117, 118, 119, 120, 121, 16, 122, 123, 124, 125, 126, 127, 128, 129, 141, 142, 143, 144, 145, 146, 147, 148, 149, 171, 172, 173, 150, 151, 152, 153, 154, 155, 156, 157, 158, 159, 160, 161, 162, 163, 164, 165, 166, 167, 168, 169, 170, 174, 175, 176, 177, 178, 179, 180, 181, 182, 183, 184, 185, 186, 187, 188, 189, 190, 191, 192, 193, 194, 195, 196] (by decide +kernel) (by decide +kernel)
set_option maxRecDepth 20000 in
theorem gX7_eject_X7_remember : GoodIn wsX7_eject (wsV RX7 256 RX7 yX7_remember wsX7_remember) := goodIn_app (goodIn_of _ (by decide +kernel)) ggX7_eject_X7_remember
set_option maxRecDepth 20000 in
theorem ggX7_eject_X4_carryHome : GoodIn wsX7_eject wsX4_carryHome := goodIn_r _ [133, 38, 134, 135, 40, 136, 74, 137, 138, 139, 140, 75, 36, 77, 150, 151, 152, 153, 154, 155, 156, 157, 158, 159, 160, 161, 162, 163, 164, 165, 166, 167, 168, 169, 170, 174, 175, 176, 177, 178, 179, 180, 181, 182] (by decide +kernel) (by decide +kernel)
set_option maxRecDepth 20000 in
theorem gX7_eject_X4_carryHome : GoodIn wsX7_eject (wsV RX7 262 RX4 yX4_carryHome wsX4_carryHome) := goodIn_app (goodIn_of _ (by decide +kernel)) ggX7_eject_X4_carryHome
theorem dX7_eject_0 : decode cX7_eject 0 = .ok (.aload_n 0, 1) := by decide +kernel
theorem dX7_eject_1 : decode cX7_eject 1 = .ok (.getfield 19, 3) := by decide +kernel
theorem dX7_eject_4 : decode cX7_eject 4 = .ok (.iload_n 1, 1) := by decide +kernel
theorem dX7_eject_5 : decode cX7_eject 5 = .ok (.invokevirtual 101, 3) := by decide +kernel
theorem dX7_eject_8 : decode cX7_eject 8 = .ok (.ifCond .ne 6, 3) := by decide +kernel
theorem dX7_eject_11 : decode cX7_eject 11 = .ok (.ldc 87, 2) := by decide +kernel
theorem dX7_eject_13 : decode cX7_eject 13 = .ok (.ireturn, 1) := by decide +kernel
theorem dX7_eject_14 : decode cX7_eject 14 = .ok (.aload_n 0, 1) := by decide +kernel
theorem dX7_eject_15 : decode cX7_eject 15 = .ok (.getfield 19, 3) := by decide +kernel
theorem dX7_eject_18 : decode cX7_eject 18 = .ok (.getfield 104, 3) := by decide +kernel
theorem dX7_eject_21 : decode cX7_eject 21 = .ok (.iload_n 1, 1) := by decide +kernel
theorem dX7_eject_22 : decode cX7_eject 22 = .ok (.aaload, 1) := by decide +kernel
theorem dX7_eject_23 : decode cX7_eject 23 = .ok (.getfield 108, 3) := by decide +kernel
theorem dX7_eject_26 : decode cX7_eject 26 = .ok (.iconst (-1), 1) := by decide +kernel
theorem dX7_eject_27 : decode cX7_eject 27 = .ok (.if_icmp .ne 6, 3) := by decide +kernel
theorem dX7_eject_30 : decode cX7_eject 30 = .ok (.ldc 73, 2) := by decide +kernel
theorem dX7_eject_32 : decode cX7_eject 32 = .ok (.ireturn, 1) := by decide +kernel
theorem dX7_eject_33 : decode cX7_eject 33 = .ok (.aload_n 0, 1) := by decide +kernel
theorem dX7_eject_34 : decode cX7_eject 34 = .ok (.invokevirtual 256, 3) := by decide +kernel
theorem dX7_eject_37 : decode cX7_eject 37 = .ok (.aload_n 0, 1) := by decide +kernel
theorem dX7_eject_38 : decode cX7_eject 38 = .ok (.getfield 19, 3) := by decide +kernel
theorem dX7_eject_41 : decode cX7_eject 41 = .ok (.getfield 116, 3) := by decide +kernel
theorem dX7_eject_44 : decode cX7_eject 44 = .ok (.istore_n 2, 1) := by decide +kernel
theorem dX7_eject_45 : decode cX7_eject 45 = .ok (.aload_n 0, 1) := by decide +kernel
theorem dX7_eject_46 : decode cX7_eject 46 = .ok (.getfield 19, 3) := by decide +kernel
theorem dX7_eject_49 : decode cX7_eject 49 = .ok (.iload_n 1, 1) := by decide +kernel
theorem dX7_eject_50 : decode cX7_eject 50 = .ok (.invokevirtual 262, 3) := by decide +kernel
theorem dX7_eject_53 : decode cX7_eject 53 = .ok (.aload_n 0, 1) := by decide +kernel
theorem dX7_eject_54 : decode cX7_eject 54 = .ok (.getfield 19, 3) := by decide +kernel
theorem dX7_eject_57 : decode cX7_eject 57 = .ok (.getfield 116, 3) := by decide +kernel
theorem dX7_eject_60 : decode cX7_eject 60 = .ok (.iload_n 2, 1) := by decide +kernel
theorem dX7_eject_61 : decode cX7_eject 61 = .ok (.isub, 1) := by decide +kernel
theorem dX7_eject_62 : decode cX7_eject 62 = .ok (.ireturn, 1) := by decide +kernel
set_option maxRecDepth 20000 in
theorem ggX7_read_X7_readProblem : GoodIn wsX7_read wsX7_readProblem := goodIn_r _ [7, 1, 8, 9, 10, 11, 12, 13, 14, 15, 16, 17, 18, 19, 20, 21, 22, 23, 24, 25, 26, 27, 28, 29, 30, 31, 32, 33, 34, 35, 36, 37, 38, 39, 40, 41, 42, 203, 204, 205, 206, 207, 208, 209, 210, 211, 212, 213, 214, 215, 216, 217, 218, 219, 220, 221, 222, 223, 224, 225, 226, 227, 228, 229, 230, 231, 232, 233, 234, 235, 236, 237, 238, 239, 240, 241, 242, 243, 244, 245] (by decide +kernel) (by decide +kernel)
set_option maxRecDepth 20000 in
theorem gX7_read_X7_readProblem : GoodIn wsX7_read (wsV RX7 232 RX7 yX7_readProblem wsX7_readProblem) := goodIn_app (goodIn_of _ (by decide +kernel)) ggX7_read_X7_readProblem
set_option maxRecDepth 20000 in
theorem ggX7_read_X7_remember : GoodIn wsX7_read wsX7_remember := goodIn_r _ [46, 47, 1, 48, 49, 50, 51, 52, 53, 54, 55, 56, 57, 15, 58, 59, 60, 61, 62, 63, 64, 65, 66, 67, 68, 33, 69, 26, 27, 70, 71, 72, 73, 39, 74, 75, 76, 77, 78, 79, 80, 81, 82, 83, 84, 85, 86, 87, 88, 89, 90, 91, 92, 93, 94, 95, 96, 97, 17, 98, 99, 100, 101, 102, 103, 104, 105, 106, 107, 108, 109, 110, 111, 112, 113, 114, 115, 116, 117, 118, 119, 120, 121, 122, 123, 124, 125, 126, 127, 128, 129, 42, 41, 130, 131, 132, 133, 134, 135, 136, 137, 138, 139, 140, 141, 142, 143, 144, 6, 145, 146, 147, 148, 149, 150, 151, 152, 203, 204, 205, 206, 207, 208, 209, 210, 211, 246, 247, 248, 212, 213, 214, 215, 216, 217, 218, 219, 220, 221, 222, 223, 224, 225, 226, 227, 228, 229, 249, 250, 251, 237, 238, 239, 240, 241, 242, 243, 244, 245, 230, 231, 232, 233, 234, 235, 236, 252, 253, 254, 255, 256, 257, 258] (by decide +kernel) (by decide +kernel)
set_option maxRecDepth 20000 in
theorem gX7_read_X7_remember : GoodIn wsX7_read (wsV RX7 256 RX7 yX7_remember wsX7_remember) := goodIn_app (goodIn_of _ (by decide +kernel)) ggX7_read_X7_remember
set_option maxRecDepth 20000 in
theorem ggX7_read_X4_readFile : GoodIn wsX7_read wsX4_readFile := goodIn_r _ [156, 34, 100, 22, 23, 24, 15, 25, 26, 27, 157, 158, 159, 160, 161, 162, 163, 164, 165, 166, 167, 168, 93, 67, 169, 170, 171, 172, 173, 94, 174, 175, 176, 177, 178, 102, 179, 99, 101, 180, 181, 182, 183, 65, 184, 185, 186, 187, 33, 188, 189, 190, 191, 192, 193, 194, 195, 196, 197, 198, 199, 200, 201, 202, 230, 231, 232, 233, 234, 235, 236, 212, 213, 214, 215, 216, 217, 218, 219, 220, 221, 222, 223, 224, 225, 226, 227, 228, 229, 249, 250, 251, 237, 238, 239, 240, 241, 242, 243, 244, 245] (by decide +kernel) (by decide +kernel)
set_option maxRecDepth 20000 in
theorem gX7_read_X4_readFile : GoodIn wsX7_read (wsV RX7 265 RX4 yX4_readFile wsX4_readFile) := goodIn_app (goodIn_of _ (by decide +kernel)) ggX7_read_X4_readFile
theorem dX7_read_0 : decode cX7_read 0 = .ok (.aload_n 0, 1) := by decide +kernel
theorem dX7_read_1 : decode cX7_read 1 = .ok (.iload_n 1, 1) := by decide +kernel
theorem dX7_read_2 : decode cX7_read 2 = .ok (.invokevirtual 232, 3) := by decide +kernel
theorem dX7_read_5 : decode cX7_read 5 = .ok (.istore_n 2, 1) := by decide +kernel
theorem dX7_read_6 : decode cX7_read 6 = .ok (.iload_n 2, 1) := by decide +kernel
theorem dX7_read_7 : decode cX7_read 7 = .ok (.ifCond .eq 5, 3) := by decide +kernel
theorem dX7_read_10 : decode cX7_read 10 = .ok (.iload_n 2, 1) := by decide +kernel
theorem dX7_read_11 : decode cX7_read 11 = .ok (.ireturn, 1) := by decide +kernel
theorem dX7_read_12 : decode cX7_read 12 = .ok (.aload_n 0, 1) := by decide +kernel
theorem dX7_read_13 : decode cX7_read 13 = .ok (.invokevirtual 256, 3) := by decide +kernel
theorem dX7_read_16 : decode cX7_read 16 = .ok (.aload_n 0, 1) := by decide +kernel
theorem dX7_read_17 : decode cX7_read 17 = .ok (.getfield 19, 3) := by decide +kernel
theorem dX7_read_20 : decode cX7_read 20 = .ok (.getfield 116, 3) := by decide +kernel
theorem dX7_read_23 : decode cX7_read 23 = .ok (.istore_n 3, 1) := by decide +kernel
theorem dX7_read_24 : decode cX7_read 24 = .ok (.aload_n 0, 1) := by decide +kernel
theorem dX7_read_25 : decode cX7_read 25 = .ok (.getfield 19, 3) := by decide +kernel
theorem dX7_read_28 : decode cX7_read 28 = .ok (.iload_n 1, 1) := by decide +kernel
theorem dX7_read_29 : decode cX7_read 29 = .ok (.invokevirtual 265, 3) := by decide +kernel
theorem dX7_read_32 : decode cX7_read 32 = .ok (.aload_n 0, 1) := by decide +kernel
theorem dX7_read_33 : decode cX7_read 33 = .ok (.getfield 19, 3) := by decide +kernel
theorem dX7_read_36 : decode cX7_read 36 = .ok (.getfield 116, 3) := by decide +kernel
theorem dX7_read_39 : decode cX7_read 39 = .ok (.iload_n 3, 1) := by decide +kernel
theorem dX7_read_40 : decode cX7_read 40 = .ok (.isub, 1) := by decide +kernel
theorem dX7_read_41 : decode cX7_read 41 = .ok (.ireturn, 1) := by decide +kernel
set_option maxRecDepth 20000 in
theorem ggX7_write_X4_hasFile : GoodIn wsX7_write wsX4_hasFile := goodIn_r _ [9, 10, 238, 239, 240, 241, 242, 243, 244, 245, 246, 247, 248, 249, 250, 251, 252, 253, 254, 255] (by decide +kernel) (by decide +kernel)
set_option maxRecDepth 20000 in
theorem gX7_write_X4_hasFile : GoodIn wsX7_write (wsV RX7 201 RX4 yX4_hasFile wsX4_hasFile) := goodIn_app (goodIn_of _ (by decide +kernel)) ggX7_write_X4_hasFile
set_option maxRecDepth 20000 in
theorem ggX7_write_X4_hasPlatter : GoodIn wsX7_write wsX4_hasPlatter := goodIn_r _ [14, 15, 238, 239, 240, 241, 242, 243, 244, 245, 246, 247, 248, 249, 250, 251, 252, 253, 254, 255] (by decide +kernel) (by decide +kernel)
set_option maxRecDepth 20000 in
theorem gX7_write_X4_hasPlatter : GoodIn wsX7_write (wsV RX7 74 RX4 yX4_hasPlatter wsX4_hasPlatter) := goodIn_app (goodIn_of _ (by decide +kernel)) ggX7_write_X4_hasPlatter
set_option maxRecDepth 20000 in
theorem ggX7_write_X7_isSize : GoodIn wsX7_write wsX7_isSize := goodIn_r _ [19] (by decide +kernel) (by decide +kernel)
set_option maxRecDepth 20000 in
theorem gX7_write_X7_isSize : GoodIn wsX7_write (va_wsS RX7 192 yX7_isSize wsX7_isSize) := goodIn_app (goodIn_of _ (by decide +kernel)) ggX7_write_X7_isSize
set_option maxRecDepth 20000 in
theorem ggX7_write_X7_writeProblem : GoodIn wsX7_write wsX7_writeProblem := goodIn_r _ [23, 1, 24, 25, 26, 27, 28, 29, 30, 31, 32, 33, 34, 35, 36, 37, 38, 39, 40, 41, 42, 43, 44, 45, 46, 47, 48, 49, 50, 51, 52, 229, 230, 231, 232, 233, 234, 235, 236, 237, 238, 239, 240, 241, 242, 243, 244, 245, 246, 247, 248, 249, 250, 251, 252, 253, 254, 255, 256, 257, 258, 259, 260, 261, 262, 263, 264] (by decide +kernel) (by decide +kernel)
set_option maxRecDepth 20000 in
theorem gX7_write_X7_writeProblem : GoodIn wsX7_write (wsV RX7 268 RX7 yX7_writeProblem wsX7_writeProblem) := goodIn_app (goodIn_of _ (by decide +kernel)) ggX7_write_X7_writeProblem
set_option maxRecDepth 20000 in
theorem ggX7_write_X7_remember : GoodIn wsX7_write wsX7_remember := goodIn_r _ [56, 57, 1, 58, 59, 60, 61, 62, 63, 64, 65, 66, 67, 8, 68, 69, 70, 71, 72, 73, 74, 75, 76, 77, 78, 79, 80, 81, 82, 83, 84, 85, 86, 33, 87, 88, 89, 90, 91, 92, 93, 94, 95, 96, 52, 97, 98, 99, 100, 101, 102, 103, 104, 105, 106, 15, 107, 108, 10, 109, 110, 111, 112, 113, 114, 115, 116, 117, 118, 119, 120, 121, 122, 123, 124, 125, 126, 127, 128, 129, 130, 131, 132, 133, 134, 135, 136, 137, 42, 37, 43, 36, 35, 138, 139, 140, 141, 142, 143, 144, 145, 146, 147, 148, 149, 150, 151, 152, 18, 153, 154, 155, 156, 157, 158, 159, 160, 229, 230, 231, 232, 233, 234, 235, 236, 237, 265, 266, 267, 238, 239, 240, 241, 242, 243, 244, 245, 246, 247, 248, 249, 250, 251, 252, 253, 254, 255, 268, 269, 270, 256, 257, 258, 259, 260, 261, 262, 263, 264, 271, 272, 273, 274, 275, 276, 277, 278, 279, 280, 281, 282, 283, 284] (by decide +kernel) (by decide +kernel)
set_option maxRecDepth 20000 in
theorem gX7_write_X7_remember : GoodIn wsX7_write (wsV RX7 256 RX7 yX7_remember wsX7_remember) := goodIn_app (goodIn_of _ (by decide +kernel)) ggX7_write_X7_remember
set_option maxRecDepth 20000 in
theorem ggX7_write_X4_writeVersion : GoodIn wsX7_write wsX4_writeVersion := goodIn_r _ [164, 111, 75, 165, 166, 167, 8, 168, 169, 170, 171, 172, 173, 174, 175, 176, 105, 77, 177, 178, 179, 180, 181, 106, 182, 183, 184, 185, 186, 113, 187, 110, 112, 188, 189, 190, 191, 192, 193, 194, 195, 79, 196, 197, 198, 199, 200, 201, 202, 203, 204, 205, 206, 207, 208, 108, 81, 209, 210, 211, 212, 213, 214, 215, 216, 217, 82, 218, 6, 7, 9, 10, 219, 12, 13, 14, 15, 220, 45, 46, 33, 47, 43, 48, 49, 50, 51, 52, 221, 222, 223, 224, 35, 36, 95, 96, 37, 225, 226, 227, 228, 238, 239, 240, 241, 242, 243, 244, 245, 246, 247, 248, 249, 250, 251, 252, 253, 254, 255, 268, 269, 270, 256, 257, 258, 259, 260, 261, 262, 263, 264, 271, 272, 273, 274, 275, 276, 277] (by decide +kernel) (by decide +kernel)
set_option maxRecDepth 20000 in
theorem gX7_write_X4_writeVersion : GoodIn wsX7_write (wsV RX7 271 RX4 yX4_writeVersion wsX4_writeVersion) := goodIn_app (goodIn_of _ (by decide +kernel)) ggX7_write_X4_writeVersion
theorem dX7_write_0 : decode cX7_write 0 = .ok (.aload_n 0, 1) := by decide +kernel
theorem dX7_write_1 : decode cX7_write 1 = .ok (.getfield 19, 3) := by decide +kernel
theorem dX7_write_4 : decode cX7_write 4 = .ok (.iload_n 1, 1) := by decide +kernel
theorem dX7_write_5 : decode cX7_write 5 = .ok (.invokevirtual 201, 3) := by decide +kernel
theorem dX7_write_8 : decode cX7_write 8 = .ok (.ifCond .eq 14, 3) := by decide +kernel
theorem dX7_write_11 : decode cX7_write 11 = .ok (.aload_n 0, 1) := by decide +kernel
theorem dX7_write_12 : decode cX7_write 12 = .ok (.getfield 19, 3) := by decide +kernel
theorem dX7_write_15 : decode cX7_write 15 = .ok (.iload_n 3, 1) := by decide +kernel
theorem dX7_write_16 : decode cX7_write 16 = .ok (.invokevirtual 74, 3) := by decide +kernel
theorem dX7_write_19 : decode cX7_write 19 = .ok (.ifCond .ne 6, 3) := by decide +kernel
theorem dX7_write_22 : decode cX7_write 22 = .ok (.ldc 87, 2) := by decide +kernel
theorem dX7_write_24 : decode cX7_write 24 = .ok (.ireturn, 1) := by decide +kernel
theorem dX7_write_25 : decode cX7_write 25 = .ok (.iload_n 2, 1) := by decide +kernel
theorem dX7_write_26 : decode cX7_write 26 = .ok (.invokestatic 192, 3) := by decide +kernel
theorem dX7_write_29 : decode cX7_write 29 = .ok (.ifCond .ne 6, 3) := by decide +kernel
theorem dX7_write_32 : decode cX7_write 32 = .ok (.ldc 46, 2) := by decide +kernel
theorem dX7_write_34 : decode cX7_write 34 = .ok (.ireturn, 1) := by decide +kernel
theorem dX7_write_35 : decode cX7_write 35 = .ok (.aload_n 0, 1) := by decide +kernel
theorem dX7_write_36 : decode cX7_write 36 = .ok (.iload_n 2, 1) := by decide +kernel
theorem dX7_write_37 : decode cX7_write 37 = .ok (.iload_n 3, 1) := by decide +kernel
theorem dX7_write_38 : decode cX7_write 38 = .ok (.invokevirtual 268, 3) := by decide +kernel
theorem dX7_write_41 : decode cX7_write 41 = .ok (.istore 4, 2) := by decide +kernel
theorem dX7_write_43 : decode cX7_write 43 = .ok (.iload 4, 2) := by decide +kernel
theorem dX7_write_45 : decode cX7_write 45 = .ok (.ifCond .eq 6, 3) := by decide +kernel
theorem dX7_write_48 : decode cX7_write 48 = .ok (.iload 4, 2) := by decide +kernel
theorem dX7_write_50 : decode cX7_write 50 = .ok (.ireturn, 1) := by decide +kernel
theorem dX7_write_51 : decode cX7_write 51 = .ok (.aload_n 0, 1) := by decide +kernel
theorem dX7_write_52 : decode cX7_write 52 = .ok (.invokevirtual 256, 3) := by decide +kernel
theorem dX7_write_55 : decode cX7_write 55 = .ok (.aload_n 0, 1) := by decide +kernel
theorem dX7_write_56 : decode cX7_write 56 = .ok (.getfield 19, 3) := by decide +kernel
theorem dX7_write_59 : decode cX7_write 59 = .ok (.getfield 116, 3) := by decide +kernel
theorem dX7_write_62 : decode cX7_write 62 = .ok (.istore 5, 2) := by decide +kernel
theorem dX7_write_64 : decode cX7_write 64 = .ok (.aload_n 0, 1) := by decide +kernel
theorem dX7_write_65 : decode cX7_write 65 = .ok (.getfield 19, 3) := by decide +kernel
theorem dX7_write_68 : decode cX7_write 68 = .ok (.iload_n 1, 1) := by decide +kernel
theorem dX7_write_69 : decode cX7_write 69 = .ok (.iload_n 2, 1) := by decide +kernel
theorem dX7_write_70 : decode cX7_write 70 = .ok (.iload_n 3, 1) := by decide +kernel
theorem dX7_write_71 : decode cX7_write 71 = .ok (.invokevirtual 271, 3) := by decide +kernel
theorem dX7_write_74 : decode cX7_write 74 = .ok (.aload_n 0, 1) := by decide +kernel
theorem dX7_write_75 : decode cX7_write 75 = .ok (.getfield 19, 3) := by decide +kernel
theorem dX7_write_78 : decode cX7_write 78 = .ok (.getfield 116, 3) := by decide +kernel
theorem dX7_write_81 : decode cX7_write 81 = .ok (.iload 5, 2) := by decide +kernel
theorem dX7_write_83 : decode cX7_write 83 = .ok (.isub, 1) := by decide +kernel
theorem dX7_write_84 : decode cX7_write 84 = .ok (.ireturn, 1) := by decide +kernel
set_option maxRecDepth 20000 in
theorem ggX7_create_X4_hasPlatter : GoodIn wsX7_create wsX4_hasPlatter := goodIn_r _ [10, 11, 237, 238, 239, 240, 241, 242, 243, 244, 245, 246, 247, 248, 249, 250, 251, 252, 253, 254] (by decide +kernel) (by decide +kernel)
set_option maxRecDepth 20000 in
theorem gX7_create_X4_hasPlatter : GoodIn wsX7_create (wsV RX7 74 RX4 yX4_hasPlatter wsX4_hasPlatter) := goodIn_app (goodIn_of _ (by decide +kernel)) ggX7_create_X4_hasPlatter
set_option maxRecDepth 20000 in
theorem ggX7_create_X7_isSize : GoodIn wsX7_create wsX7_isSize := goodIn_r _ [15] (by decide +kernel) (by decide +kernel)
set_option maxRecDepth 20000 in
theorem gX7_create_X7_isSize : GoodIn wsX7_create (va_wsS RX7 192 yX7_isSize wsX7_isSize) := goodIn_app (goodIn_of _ (by decide +kernel)) ggX7_create_X7_isSize
set_option maxRecDepth 20000 in
theorem ggX7_create_X7_writeProblem : GoodIn wsX7_create wsX7_writeProblem := goodIn_r _ [19, 1, 20, 5, 21, 22, 23, 24, 25, 26, 27, 28, 29, 30, 31, 32, 33, 34, 35, 36, 37, 38, 39, 40, 41, 42, 43, 44, 45, 46, 47, 228, 229, 230, 231, 232, 233, 234, 235, 236, 237, 238, 239, 240, 241, 242, 243, 244, 245, 246, 247, 248, 249, 250, 251, 252, 253, 254, 255, 256, 257, 258, 259, 260, 261, 262, 263] (by decide +kernel) (by decide +kernel)
set_option maxRecDepth 20000 in
theorem gX7_create_X7_writeProblem : GoodIn wsX7_create (wsV RX7 268 RX7 yX7_writeProblem wsX7_writeProblem) := goodIn_app (goodIn_of _ (by decide +kernel)) ggX7_create_X7_writeProblem
set_option maxRecDepth 20000 in
theorem ggX7_create_X7_remember : GoodIn wsX7_create wsX7_remember := goodIn_r _ [51, 52, 1, 53, 54, 55, 56, 57, 58, 59, 60, 61, 62, 9, 63, 64, 65, 66, 67, 68, 69, 70, 71, 72, 73, 74, 75, 76, 77, 78, 79, 80, 81, 28, 82, 83, 84, 85, 86, 87, 88, 89, 90, 91, 47, 92, 93, 94, 95, 96, 97, 98, 99, 100, 101, 11, 102, 103, 104, 105, 106, 107, 108, 109, 110, 111, 112, 113, 114, 115, 116, 117, 118, 119, 120, 121, 122, 123, 124, 125, 126, 127, 128, 129, 130, 131, 132, 133, 37, 32, 38, 31, 30, 134, 135, 136, 137, 138, 139, 140, 141, 142, 143, 144, 145, 146, 147, 148, 14, 149, 150, 151, 152, 153, 154, 155, 156, 228, 229, 230, 231, 232, 233, 234, 235, 236, 264, 265, 266, 237, 238, 239, 240, 241, 242, 243, 244, 245, 246, 247, 248, 249, 250, 251, 252, 253, 254, 267, 268, 269, 255, 256, 257, 258, 259, 260, 261, 262, 263, 270, 271, 272, 273, 274, 275, 276, 277, 278, 279, 280, 281, 282, 283] (by decide +kernel) (by decide +kernel)
set_option maxRecDepth 20000 in
theorem gX7_create_X7_remember : GoodIn wsX7_create (wsV RX7 256 RX7 yX7_remember wsX7_remember) := goodIn_app (goodIn_of _ (by decide +kernel)) ggX7_create_X7_remember
set_option maxRecDepth 20000 in
theorem ggX7_create_X4_writeVersion : GoodIn wsX7_create wsX4_writeVersion := goodIn_r _ [160, 107, 70, 161, 162, 163, 9, 164, 165, 166, 167, 168, 169, 170, 171, 172, 100, 72, 173, 174, 175, 176, 177, 101, 178, 179, 180, 181, 182, 109, 183, 106, 108, 184, 185, 186, 187, 188, 189, 190, 191, 74, 192, 193, 194, 195, 196, 197, 198, 199, 200, 201, 202, 203, 204, 103, 76, 205, 206, 207, 208, 209, 210, 211, 212, 213, 77, 214, 215, 216, 217, 104, 218, 7, 8, 10, 11, 219, 40, 41, 28, 42, 38, 43, 44, 45, 46, 47, 220, 221, 222, 223, 30, 31, 90, 91, 32, 224, 225, 226, 227, 237, 238, 239, 240, 241, 242, 243, 244, 245, 246, 247, 248, 249, 250, 251, 252, 253, 254, 267, 268, 269, 255, 256, 257, 258, 259, 260, 261, 262, 263, 270, 271, 272, 273, 274, 275, 276] (by decide +kernel) (by decide +kernel)
set_option maxRecDepth 20000 in
theorem gX7_create_X4_writeVersion : GoodIn wsX7_create (wsV RX7 271 RX4 yX4_writeVersion wsX4_writeVersion) := goodIn_app (goodIn_of _ (by decide +kernel)) ggX7_create_X4_writeVersion
theorem dX7_create_0 : decode cX7_create 0 = .ok (.aload_n 0, 1) := by decide +kernel
theorem dX7_create_1 : decode cX7_create 1 = .ok (.getfield 19, 3) := by decide +kernel
theorem dX7_create_4 : decode cX7_create 4 = .ok (.iload_n 2, 1) := by decide +kernel
theorem dX7_create_5 : decode cX7_create 5 = .ok (.invokevirtual 74, 3) := by decide +kernel
theorem dX7_create_8 : decode cX7_create 8 = .ok (.ifCond .ne 6, 3) := by decide +kernel
theorem dX7_create_11 : decode cX7_create 11 = .ok (.ldc 87, 2) := by decide +kernel
theorem dX7_create_13 : decode cX7_create 13 = .ok (.ireturn, 1) := by decide +kernel
theorem dX7_create_14 : decode cX7_create 14 = .ok (.iload_n 1, 1) := by decide +kernel
theorem dX7_create_15 : decode cX7_create 15 = .ok (.invokestatic 192, 3) := by decide +kernel
theorem dX7_create_18 : decode cX7_create 18 = .ok (.ifCond .ne 6, 3) := by decide +kernel
theorem dX7_create_21 : decode cX7_create 21 = .ok (.ldc 46, 2) := by decide +kernel
theorem dX7_create_23 : decode cX7_create 23 = .ok (.ireturn, 1) := by decide +kernel
theorem dX7_create_24 : decode cX7_create 24 = .ok (.aload_n 0, 1) := by decide +kernel
theorem dX7_create_25 : decode cX7_create 25 = .ok (.getfield 19, 3) := by decide +kernel
theorem dX7_create_28 : decode cX7_create 28 = .ok (.getfield 70, 3) := by decide +kernel
theorem dX7_create_31 : decode cX7_create 31 = .ok (.bipush 20, 2) := by decide +kernel
theorem dX7_create_33 : decode cX7_create 33 = .ok (.if_icmp .lt 6, 3) := by decide +kernel
theorem dX7_create_36 : decode cX7_create 36 = .ok (.ldc 41, 2) := by decide +kernel
theorem dX7_create_38 : decode cX7_create 38 = .ok (.ireturn, 1) := by decide +kernel
theorem dX7_create_39 : decode cX7_create 39 = .ok (.aload_n 0, 1) := by decide +kernel
theorem dX7_create_40 : decode cX7_create 40 = .ok (.iload_n 1, 1) := by decide +kernel
theorem dX7_create_41 : decode cX7_create 41 = .ok (.iload_n 2, 1) := by decide +kernel
theorem dX7_create_42 : decode cX7_create 42 = .ok (.invokevirtual 268, 3) := by decide +kernel
theorem dX7_create_45 : decode cX7_create 45 = .ok (.istore_n 3, 1) := by decide +kernel
theorem dX7_create_46 : decode cX7_create 46 = .ok (.iload_n 3, 1) := by decide +kernel
theorem dX7_create_47 : decode cX7_create 47 = .ok (.ifCond .eq 5, 3) := by decide +kernel
theorem dX7_create_50 : decode cX7_create 50 = .ok (.iload_n 3, 1) := by decide +kernel
theorem dX7_create_51 : decode cX7_create 51 = .ok (.ireturn, 1) := by decide +kernel
theorem dX7_create_52 : decode cX7_create 52 = .ok (.aload_n 0, 1) := by decide +kernel
theorem dX7_create_53 : decode cX7_create 53 = .ok (.invokevirtual 256, 3) := by decide +kernel
theorem dX7_create_56 : decode cX7_create 56 = .ok (.aload_n 0, 1) := by decide +kernel
theorem dX7_create_57 : decode cX7_create 57 = .ok (.getfield 19, 3) := by decide +kernel
theorem dX7_create_60 : decode cX7_create 60 = .ok (.getfield 70, 3) := by decide +kernel
theorem dX7_create_63 : decode cX7_create 63 = .ok (.istore 4, 2) := by decide +kernel
theorem dX7_create_65 : decode cX7_create 65 = .ok (.aload_n 0, 1) := by decide +kernel
theorem dX7_create_66 : decode cX7_create 66 = .ok (.getfield 19, 3) := by decide +kernel
theorem dX7_create_69 : decode cX7_create 69 = .ok (.dup, 1) := by decide +kernel
theorem dX7_create_70 : decode cX7_create 70 = .ok (.getfield 70, 3) := by decide +kernel
theorem dX7_create_73 : decode cX7_create 73 = .ok (.iconst 1, 1) := by decide +kernel
theorem dX7_create_74 : decode cX7_create 74 = .ok (.iadd, 1) := by decide +kernel
theorem dX7_create_75 : decode cX7_create 75 = .ok (.putfield 70, 3) := by decide +kernel
theorem dX7_create_78 : decode cX7_create 78 = .ok (.aload_n 0, 1) := by decide +kernel
theorem dX7_create_79 : decode cX7_create 79 = .ok (.getfield 19, 3) := by decide +kernel
theorem dX7_create_82 : decode cX7_create 82 = .ok (.iload 4, 2) := by decide +kernel
theorem dX7_create_84 : decode cX7_create 84 = .ok (.iload_n 1, 1) := by decide +kernel
theorem dX7_create_85 : decode cX7_create 85 = .ok (.iload_n 2, 1) := by decide +kernel
theorem dX7_create_86 : decode cX7_create 86 = .ok (.invokevirtual 271, 3) := by decide +kernel
theorem dX7_create_89 : decode cX7_create 89 = .ok (.iload 4, 2) := by decide +kernel
theorem dX7_create_91 : decode cX7_create 91 = .ok (.ireturn, 1) := by decide +kernel
set_option maxRecDepth 20000 in
theorem ggX7_writeProblem_X3_canTake : GoodIn wsX7_writeProblem wsX3_canTake := goodIn_r _ [12, 13, 14, 15, 16, 17, 18, 11, 19, 20, 21, 22, 23, 24, 25, 26, 27, 28, 29, 30, 58, 59, 60, 61, 62, 63, 64, 65, 66] (by decide +kernel) (by decide +kernel)
set_option maxRecDepth 20000 in
theorem gX7_writeProblem_X3_canTake : GoodIn wsX7_writeProblem (wsV RX7 198 RX3 yX3_canTake wsX3_canTake) := goodIn_app (goodIn_of _ (by decide +kernel)) ggX7_writeProblem_X3_canTake
theorem dX7_writeProblem_0 : decode cX7_writeProblem 0 = .ok (.aload_n 0, 1) := by decide +kernel
theorem dX7_writeProblem_1 : decode cX7_writeProblem 1 = .ok (.getfield 19, 3) := by decide +kernel
theorem dX7_writeProblem_4 : decode cX7_writeProblem 4 = .ok (.getfield 275, 3) := by decide +kernel
theorem dX7_writeProblem_7 : decode cX7_writeProblem 7 = .ok (.bipush 40, 2) := by decide +kernel
theorem dX7_writeProblem_9 : decode cX7_writeProblem 9 = .ok (.if_icmp .lt 6, 3) := by decide +kernel
theorem dX7_writeProblem_12 : decode cX7_writeProblem 12 = .ok (.ldc 41, 2) := by decide +kernel
theorem dX7_writeProblem_14 : decode cX7_writeProblem 14 = .ok (.ireturn, 1) := by decide +kernel
theorem dX7_writeProblem_15 : decode cX7_writeProblem 15 = .ok (.aload_n 0, 1) := by decide +kernel
theorem dX7_writeProblem_16 : decode cX7_writeProblem 16 = .ok (.getfield 19, 3) := by decide +kernel
theorem dX7_writeProblem_19 : decode cX7_writeProblem 19 = .ok (.getfield 134, 3) := by decide +kernel
theorem dX7_writeProblem_22 : decode cX7_writeProblem 22 = .ok (.ifCond .ne 6, 3) := by decide +kernel
theorem dX7_writeProblem_25 : decode cX7_writeProblem 25 = .ok (.ldc 137, 2) := by decide +kernel
theorem dX7_writeProblem_27 : decode cX7_writeProblem 27 = .ok (.ireturn, 1) := by decide +kernel
theorem dX7_writeProblem_28 : decode cX7_writeProblem 28 = .ok (.aload_n 0, 1) := by decide +kernel
theorem dX7_writeProblem_29 : decode cX7_writeProblem 29 = .ok (.getfield 19, 3) := by decide +kernel
theorem dX7_writeProblem_32 : decode cX7_writeProblem 32 = .ok (.getfield 78, 3) := by decide +kernel
theorem dX7_writeProblem_35 : decode cX7_writeProblem 35 = .ok (.iload_n 2, 1) := by decide +kernel
theorem dX7_writeProblem_36 : decode cX7_writeProblem 36 = .ok (.aaload, 1) := by decide +kernel
theorem dX7_writeProblem_37 : decode cX7_writeProblem 37 = .ok (.iload_n 1, 1) := by decide +kernel
theorem dX7_writeProblem_38 : decode cX7_writeProblem 38 = .ok (.invokevirtual 198, 3) := by decide +kernel
theorem dX7_writeProblem_41 : decode cX7_writeProblem 41 = .ok (.ifCond .eq 7, 3) := by decide +kernel
theorem dX7_writeProblem_44 : decode cX7_writeProblem 44 = .ok (.iconst 0, 1) := by decide +kernel
theorem dX7_writeProblem_45 : decode cX7_writeProblem 45 = .ok (.goto 5, 3) := by decide +kernel
theorem dX7_writeProblem_48 : decode cX7_writeProblem 48 = .ok (.ldc 239, 2) := by decide +kernel
theorem dX7_writeProblem_50 : decode cX7_writeProblem 50 = .ok (.ireturn, 1) := by decide +kernel
set_option maxRecDepth 20000 in
theorem ggX7_closeSession_X4_hasPlatter : GoodIn wsX7_closeSession wsX4_hasPlatter := goodIn_r _ [12, 13, 199, 200, 201, 202, 203, 204, 205, 206, 207, 208, 209, 210, 211, 212, 213, 214, 215, 216] (by decide +kernel) (by decide +kernel)
set_option maxRecDepth 20000 in
theorem gX7_closeSession_X4_hasPlatter : GoodIn wsX7_closeSession (wsV RX7 74 RX4 yX4_hasPlatter wsX4_hasPlatter) := goodIn_app (goodIn_of _ (by decide +kernel)) ggX7_closeSession_X4_hasPlatter
set_option maxRecDepth 20000 in
theorem ggX7_closeSession_X7_remember : GoodIn wsX7_closeSession wsX7_remember := goodIn_r _ [18, 19, 1, 20, 21, 22, 23, 24, 25, 26, 27, 28, 29, 11, 30, 31, 32, 33, 34, 35, 36, 37, 38, 39, 40, 41, 42, 43, 44, 45, 46, 47, 48, 49, 50, 51, 52, 53, 54, 55, 56, 57, 58, 59, 60, 61, 62, 63, 64, 65, 66, 67, 68, 69, 70, 13, 71, 72, 73, 74, 75, 76, 77, 78, 79, 80, 81, 82, 83, 84, 85, 86, 87, 88, 89, 90, 91, 92, 93, 94, 95, 96, 97, 98, 99, 100, 101, 102, 103, 104, 105, 106, 107, 108, 109, 110, 111, 112, 113, 114, 115, 116, 117, 118, 119, 120, 121, 122, 17, 123, 124, 125, 126, 127, 128, 129, 130, 190, 191, 192, 193, 194, 195, 196, 197, 198, 226, 227, 228, 199, 200, 201, 202, 203, 204, 205, 206, 207, 208, 209, 210, 211, 212, 213, 214, 215, 216, 229, 230, 231, 217, 218, 219, 220, 221, 222, 223, 224, 225, 232, 233, 234, 235, 236, 237, 238, 239, 240, 241, 242, 243, 244, 245] (by decide +kernel) (by decide +kernel)
set_option maxRecDepth 20000 in
theorem gX7_closeSession_X7_remember : GoodIn wsX7_closeSession (wsV RX7 256 RX7 yX7_remember wsX7_remember) := goodIn_app (goodIn_of _ (by decide +kernel)) ggX7_closeSession_X7_remember
set_option maxRecDepth 20000 in
theorem ggX7_closeSession_X4_closeInDrive : GoodIn wsX7_closeSession wsX4_closeInDrive := goodIn_r _ [134, 41, 76, 37, 135, 136, 137, 11, 138, 139, 140, 141, 142, 143, 144, 145, 146, 69, 39, 147, 148, 149, 150, 151, 70, 152, 153, 154, 155, 156, 78, 157, 75, 77, 158, 159, 160, 161, 162, 163, 164, 165, 166, 167, 168, 169, 170, 171, 172, 173, 174, 175, 176, 177, 49, 178, 179, 180, 181, 107, 182, 183, 184, 185, 103, 105, 186, 187, 188, 189, 106, 59, 199, 200, 201, 202, 203, 204, 205, 206, 207, 208, 209, 210, 211, 212, 213, 214, 215, 216, 229, 230, 231, 217, 218, 219, 220, 221, 222, 223, 224, 225] (by decide +kernel) (by decide +kernel)
set_option maxRecDepth 20000 in
theorem gX7_closeSession_X4_closeInDrive : GoodIn wsX7_closeSession (wsV RX7 278 RX4 yX4_closeInDrive wsX4_closeInDrive) := goodIn_app (goodIn_of _ (by decide +kernel)) ggX7_closeSession_X4_closeInDrive
theorem dX7_closeSession_0 : decode cX7_closeSession 0 = .ok (.aload_n 0, 1) := by decide +kernel
theorem dX7_closeSession_1 : decode cX7_closeSession 1 = .ok (.getfield 19, 3) := by decide +kernel
theorem dX7_closeSession_4 : decode cX7_closeSession 4 = .ok (.iload_n 1, 1) := by decide +kernel
theorem dX7_closeSession_5 : decode cX7_closeSession 5 = .ok (.invokevirtual 74, 3) := by decide +kernel
theorem dX7_closeSession_8 : decode cX7_closeSession 8 = .ok (.ifCond .ne 6, 3) := by decide +kernel
theorem dX7_closeSession_11 : decode cX7_closeSession 11 = .ok (.ldc 87, 2) := by decide +kernel
theorem dX7_closeSession_13 : decode cX7_closeSession 13 = .ok (.ireturn, 1) := by decide +kernel
theorem dX7_closeSession_14 : decode cX7_closeSession 14 = .ok (.aload_n 0, 1) := by decide +kernel
theorem dX7_closeSession_15 : decode cX7_closeSession 15 = .ok (.getfield 19, 3) := by decide +kernel
theorem dX7_closeSession_18 : decode cX7_closeSession 18 = .ok (.getfield 78, 3) := by decide +kernel
theorem dX7_closeSession_21 : decode cX7_closeSession 21 = .ok (.iload_n 1, 1) := by decide +kernel
theorem dX7_closeSession_22 : decode cX7_closeSession 22 = .ok (.aaload, 1) := by decide +kernel
theorem dX7_closeSession_23 : decode cX7_closeSession 23 = .ok (.getfield 149, 3) := by decide +kernel
theorem dX7_closeSession_26 : decode cX7_closeSession 26 = .ok (.ifCond .ne 6, 3) := by decide +kernel
theorem dX7_closeSession_29 : decode cX7_closeSession 29 = .ok (.ldc 73, 2) := by decide +kernel
theorem dX7_closeSession_31 : decode cX7_closeSession 31 = .ok (.ireturn, 1) := by decide +kernel
theorem dX7_closeSession_32 : decode cX7_closeSession 32 = .ok (.aload_n 0, 1) := by decide +kernel
theorem dX7_closeSession_33 : decode cX7_closeSession 33 = .ok (.getfield 19, 3) := by decide +kernel
theorem dX7_closeSession_36 : decode cX7_closeSession 36 = .ok (.getfield 134, 3) := by decide +kernel
theorem dX7_closeSession_39 : decode cX7_closeSession 39 = .ok (.ifCond .ne 6, 3) := by decide +kernel
theorem dX7_closeSession_42 : decode cX7_closeSession 42 = .ok (.ldc 137, 2) := by decide +kernel
theorem dX7_closeSession_44 : decode cX7_closeSession 44 = .ok (.ireturn, 1) := by decide +kernel
theorem dX7_closeSession_45 : decode cX7_closeSession 45 = .ok (.aload_n 0, 1) := by decide +kernel
theorem dX7_closeSession_46 : decode cX7_closeSession 46 = .ok (.invokevirtual 256, 3) := by decide +kernel
theorem dX7_closeSession_49 : decode cX7_closeSession 49 = .ok (.aload_n 0, 1) := by decide +kernel
theorem dX7_closeSession_50 : decode cX7_closeSession 50 = .ok (.getfield 19, 3) := by decide +kernel
theorem dX7_closeSession_53 : decode cX7_closeSession 53 = .ok (.iload_n 1, 1) := by decide +kernel
theorem dX7_closeSession_54 : decode cX7_closeSession 54 = .ok (.invokevirtual 278, 3) := by decide +kernel
theorem dX7_closeSession_57 : decode cX7_closeSession 57 = .ok (.ireturn, 1) := by decide +kernel
set_option maxRecDepth 20000 in
theorem ggX7_markBad_X4_hasSector : GoodIn wsX7_markBad wsX4_hasSector := goodIn_r _ [11, 12, 13, 14, 15, 16, 10, 17, 18, 169, 170, 171, 172, 173, 174, 175, 176, 177, 178, 179, 180, 181, 182, 183, 184, 185, 186, 187, 188, 189, 190, 191, 192, 193, 194, 195] (by decide +kernel) (by decide +kernel)
set_option maxRecDepth 20000 in
theorem gX7_markBad_X4_hasSector : GoodIn wsX7_markBad (wsV RX7 170 RX4 yX4_hasSector wsX4_hasSector) := goodIn_app (goodIn_of _ (by decide +kernel)) ggX7_markBad_X4_hasSector
set_option maxRecDepth 20000 in
theorem ggX7_markBad_X3_isBad : GoodIn wsX7_markBad wsX3_isBad := goodIn_r _ [23, 24, 187, 188, 189, 190, 191, 192, 193, 194, 195] (by decide +kernel) (by decide +kernel)
set_option maxRecDepth 20000 in
theorem gX7_markBad_X3_isBad : GoodIn wsX7_markBad (wsV RX7 281 RX3 yX3_isBad wsX3_isBad) := goodIn_app (goodIn_of _ (by decide +kernel)) ggX7_markBad_X3_isBad
set_option maxRecDepth 20000 in
theorem ggX7_markBad_X7_remember : GoodIn wsX7_markBad wsX7_remember := goodIn_r _ [29, 30, 1, 31, 32, 33, 34, 35, 36, 37, 38, 39, 40, 10, 41, 42, 43, 44, 45, 46, 47, 48, 49, 50, 51, 12, 52, 53, 54, 55, 56, 57, 58, 22, 59, 60, 61, 62, 63, 64, 65, 66, 67, 68, 24, 69, 70, 71, 72, 73, 74, 75, 76, 77, 78, 18, 79, 80, 81, 82, 83, 84, 85, 86, 87, 88, 89, 90, 91, 92, 93, 94, 95, 96, 97, 98, 99, 100, 101, 102, 103, 104, 105, 106, 107, 108, 109, 110, 111, 112, 113, 114, 115, 116, 117, 118, 119, 120, 121, 122, 123, 124, 125, 126, 127, 128, 129, 130, 28, 131, 132, 133, 134, 135, 136, 137, 138, 160, 161, 162, 163, 164, 165, 166, 167, 168, 196, 197, 198, 169, 170, 171, 172, 173, 174, 175, 176, 177, 178, 179, 180, 181, 182, 183, 184, 185, 186, 199, 200, 201, 187, 188, 189, 190, 191, 192, 193, 194, 195, 202, 203, 204, 205, 206, 207, 208, 209, 210, 211, 212, 213, 214, 215] (by decide +kernel) (by decide +kernel)
set_option maxRecDepth 20000 in
theorem gX7_markBad_X7_remember : GoodIn wsX7_markBad (wsV RX7 256 RX7 yX7_remember wsX7_remember) := goodIn_app (goodIn_of _ (by decide +kernel)) ggX7_markBad_X7_remember
set_option maxRecDepth 20000 in
theorem ggX7_markBad_X4_spoil : GoodIn wsX7_markBad wsX4_spoil := goodIn_r _ [142, 12, 79, 53, 143, 144, 145, 146, 22, 147, 24, 148, 149, 150, 10, 151, 80, 152, 153, 154, 60, 155, 122, 123, 124, 169, 170, 171, 172, 173, 174, 175, 176, 177, 178, 179, 180, 181, 182, 183, 184, 185, 186, 202, 203, 204, 205, 206, 207, 208, 187, 188, 189, 190, 191, 192, 193, 194, 195] (by decide +kernel) (by decide +kernel)
set_option maxRecDepth 20000 in
theorem gX7_markBad_X4_spoil : GoodIn wsX7_markBad (wsV RX7 288 RX4 yX4_spoil wsX4_spoil) := goodIn_app (goodIn_of _ (by decide +kernel)) ggX7_markBad_X4_spoil
set_option maxRecDepth 20000 in
theorem ggX7_markBad_X4_countDamaged : GoodIn wsX7_markBad wsX4_countDamaged := goodIn_r _ [159, 80, 53, 143, 169, 170, 171, 172, 173, 174, 175, 176, 177, 178, 179, 180, 181, 182, 183, 184, 185, 186, 202, 203, 204, 205, 206, 207, 208] (by decide +kernel) (by decide +kernel)
set_option maxRecDepth 20000 in
theorem gX7_markBad_X4_countDamaged : GoodIn wsX7_markBad (wsV RX7 292 RX4 yX4_countDamaged wsX4_countDamaged) := goodIn_app (goodIn_of _ (by decide +kernel)) ggX7_markBad_X4_countDamaged
theorem dX7_markBad_0 : decode cX7_markBad 0 = .ok (.aload_n 0, 1) := by decide +kernel
theorem dX7_markBad_1 : decode cX7_markBad 1 = .ok (.getfield 19, 3) := by decide +kernel
theorem dX7_markBad_4 : decode cX7_markBad 4 = .ok (.iload_n 1, 1) := by decide +kernel
theorem dX7_markBad_5 : decode cX7_markBad 5 = .ok (.iload_n 2, 1) := by decide +kernel
theorem dX7_markBad_6 : decode cX7_markBad 6 = .ok (.invokevirtual 170, 3) := by decide +kernel
theorem dX7_markBad_9 : decode cX7_markBad 9 = .ok (.ifCond .ne 6, 3) := by decide +kernel
theorem dX7_markBad_12 : decode cX7_markBad 12 = .ok (.ldc 87, 2) := by decide +kernel
theorem dX7_markBad_14 : decode cX7_markBad 14 = .ok (.ireturn, 1) := by decide +kernel
theorem dX7_markBad_15 : decode cX7_markBad 15 = .ok (.aload_n 0, 1) := by decide +kernel
theorem dX7_markBad_16 : decode cX7_markBad 16 = .ok (.getfield 19, 3) := by decide +kernel
theorem dX7_markBad_19 : decode cX7_markBad 19 = .ok (.getfield 78, 3) := by decide +kernel
theorem dX7_markBad_22 : decode cX7_markBad 22 = .ok (.iload_n 1, 1) := by decide +kernel
theorem dX7_markBad_23 : decode cX7_markBad 23 = .ok (.aaload, 1) := by decide +kernel
theorem dX7_markBad_24 : decode cX7_markBad 24 = .ok (.iload_n 2, 1) := by decide +kernel
theorem dX7_markBad_25 : decode cX7_markBad 25 = .ok (.invokevirtual 281, 3) := by decide +kernel
theorem dX7_markBad_28 : decode cX7_markBad 28 = .ok (.ifCond .eq 7, 3) := by decide +kernel
theorem dX7_markBad_31 : decode cX7_markBad 31 = .ok (.ldc_w 284, 3) := by decide +kernel
theorem dX7_markBad_34 : decode cX7_markBad 34 = .ok (.ireturn, 1) := by decide +kernel
theorem dX7_markBad_35 : decode cX7_markBad 35 = .ok (.aload_n 0, 1) := by decide +kernel
theorem dX7_markBad_36 : decode cX7_markBad 36 = .ok (.getfield 19, 3) := by decide +kernel
theorem dX7_markBad_39 : decode cX7_markBad 39 = .ok (.getfield 285, 3) := by decide +kernel
theorem dX7_markBad_42 : decode cX7_markBad 42 = .ok (.bipush 20, 2) := by decide +kernel
theorem dX7_markBad_44 : decode cX7_markBad 44 = .ok (.if_icmp .lt 6, 3) := by decide +kernel
theorem dX7_markBad_47 : decode cX7_markBad 47 = .ok (.ldc 41, 2) := by decide +kernel
theorem dX7_markBad_49 : decode cX7_markBad 49 = .ok (.ireturn, 1) := by decide +kernel
theorem dX7_markBad_50 : decode cX7_markBad 50 = .ok (.aload_n 0, 1) := by decide +kernel
theorem dX7_markBad_51 : decode cX7_markBad 51 = .ok (.invokevirtual 256, 3) := by decide +kernel
theorem dX7_markBad_54 : decode cX7_markBad 54 = .ok (.aload_n 0, 1) := by decide +kernel
theorem dX7_markBad_55 : decode cX7_markBad 55 = .ok (.getfield 19, 3) := by decide +kernel
theorem dX7_markBad_58 : decode cX7_markBad 58 = .ok (.iload_n 1, 1) := by decide +kernel
theorem dX7_markBad_59 : decode cX7_markBad 59 = .ok (.iload_n 2, 1) := by decide +kernel
theorem dX7_markBad_60 : decode cX7_markBad 60 = .ok (.invokevirtual 288, 3) := by decide +kernel
theorem dX7_markBad_63 : decode cX7_markBad 63 = .ok (.aload_n 0, 1) := by decide +kernel
theorem dX7_markBad_64 : decode cX7_markBad 64 = .ok (.getfield 19, 3) := by decide +kernel
theorem dX7_markBad_67 : decode cX7_markBad 67 = .ok (.invokevirtual 292, 3) := by decide +kernel
theorem dX7_markBad_70 : decode cX7_markBad 70 = .ok (.ireturn, 1) := by decide +kernel
set_option maxRecDepth 20000 in
theorem ggX7_moveHome_X4_hasPlatter : GoodIn wsX7_moveHome wsX4_hasPlatter := goodIn_r _ [12, 13, 154, 155, 156, 157, 158, 159, 160, 161, 162, 163, 164, 165, 166, 167, 168, 169, 170, 171] (by decide +kernel) (by decide +kernel)
set_option maxRecDepth 20000 in
theorem gX7_moveHome_X4_hasPlatter : GoodIn wsX7_moveHome (wsV RX7 74 RX4 yX4_hasPlatter wsX4_hasPlatter) := goodIn_app (goodIn_of _ (by decide +kernel)) ggX7_moveHome_X4_hasPlatter
set_option maxRecDepth 20000 in
theorem ggX7_moveHome_X4_hasSlot : GoodIn wsX7_moveHome wsX4_hasSlot := goodIn_r _ [17, 18, 154, 155, 156, 157, 158, 159, 160, 161, 162, 163, 164, 165, 166, 167, 168, 169, 170, 171] (by decide +kernel) (by decide +kernel)
set_option maxRecDepth 20000 in
theorem gX7_moveHome_X4_hasSlot : GoodIn wsX7_moveHome (wsV RX7 88 RX4 yX4_hasSlot wsX4_hasSlot) := goodIn_app (goodIn_of _ (by decide +kernel)) ggX7_moveHome_X4_hasSlot
set_option maxRecDepth 20000 in
theorem ggX7_moveHome_X4_driveHolding : GoodIn wsX7_moveHome wsX4_driveHolding := goodIn_r _ [22, 23, 24, 25, 154, 155, 156, 157, 158, 159, 160, 161, 162, 163, 164, 165, 166, 167, 168, 169, 170, 171, 181, 182, 183] (by decide +kernel) (by decide +kernel)
set_option maxRecDepth 20000 in
theorem gX7_moveHome_X4_driveHolding : GoodIn wsX7_moveHome (wsV RX7 95 RX4 yX4_driveHolding wsX4_driveHolding) := goodIn_app (goodIn_of _ (by decide +kernel)) ggX7_moveHome_X4_driveHolding
set_option maxRecDepth 20000 in
theorem ggX7_moveHome_X4_platterWithHome : GoodIn wsX7_moveHome wsX4_platterWithHome := goodIn_r _ [29, 13, 30, 31, 154, 155, 156, 157, 158, 159, 160, 161, 162, 163, 164, 165, 166, 167, 168, 169, 170, 171, 172, 173, 174, 175, 176, 177, 178, 179, 180] (by decide +kernel) (by decide +kernel)
set_option maxRecDepth 20000 in
theorem gX7_moveHome_X4_platterWithHome : GoodIn wsX7_moveHome (wsV RX7 91 RX4 yX4_platterWithHome wsX4_platterWithHome) := goodIn_app (goodIn_of _ (by decide +kernel)) ggX7_moveHome_X4_platterWithHome
set_option maxRecDepth 20000 in
theorem ggX7_moveHome_X7_remember : GoodIn wsX7_moveHome wsX7_remember := goodIn_r _ [36, 37, 1, 38, 39, 40, 41, 42, 43, 44, 45, 46, 47, 11, 48, 49, 50, 51, 52, 53, 54, 55, 56, 24, 57, 30, 58, 59, 60, 61, 62, 63, 64, 65, 66, 67, 68, 69, 70, 71, 72, 73, 74, 75, 76, 77, 78, 79, 80, 81, 82, 83, 18, 23, 84, 13, 85, 86, 87, 88, 89, 90, 91, 92, 93, 94, 95, 96, 97, 98, 99, 100, 101, 102, 103, 104, 105, 106, 107, 108, 109, 110, 111, 112, 113, 114, 115, 116, 117, 118, 119, 120, 121, 122, 123, 124, 125, 126, 127, 128, 129, 130, 131, 132, 133, 134, 135, 136, 35, 137, 138, 139, 140, 141, 142, 143, 144, 145, 146, 147, 148, 149, 150, 151, 152, 153, 184, 185, 186, 154, 155, 156, 157, 158, 159, 160, 161, 162, 163, 164, 165, 166, 167, 168, 169, 170, 171, 181, 182, 183, 172, 173, 174, 175, 176, 177, 178, 179, 180, 187, 188, 189, 190, 191, 192, 193, 194, 195, 196, 197, 198, 199, 200] (by decide +kernel) (by decide +kernel)
set_option maxRecDepth 20000 in
theorem gX7_moveHome_X7_remember : GoodIn wsX7_moveHome (wsV RX7 256 RX7 yX7_remember wsX7_remember) := goodIn_app (goodIn_of _ (by decide +kernel)) ggX7_moveHome_X7_remember
theorem dX7_moveHome_0 : decode cX7_moveHome 0 = .ok (.aload_n 0, 1) := by decide +kernel
theorem dX7_moveHome_1 : decode cX7_moveHome 1 = .ok (.getfield 19, 3) := by decide +kernel
theorem dX7_moveHome_4 : decode cX7_moveHome 4 = .ok (.iload_n 1, 1) := by decide +kernel
theorem dX7_moveHome_5 : decode cX7_moveHome 5 = .ok (.invokevirtual 74, 3) := by decide +kernel
theorem dX7_moveHome_8 : decode cX7_moveHome 8 = .ok (.ifCond .eq 14, 3) := by decide +kernel
theorem dX7_moveHome_11 : decode cX7_moveHome 11 = .ok (.aload_n 0, 1) := by decide +kernel
theorem dX7_moveHome_12 : decode cX7_moveHome 12 = .ok (.getfield 19, 3) := by decide +kernel
theorem dX7_moveHome_15 : decode cX7_moveHome 15 = .ok (.iload_n 2, 1) := by decide +kernel
theorem dX7_moveHome_16 : decode cX7_moveHome 16 = .ok (.invokevirtual 88, 3) := by decide +kernel
theorem dX7_moveHome_19 : decode cX7_moveHome 19 = .ok (.ifCond .ne 6, 3) := by decide +kernel
theorem dX7_moveHome_22 : decode cX7_moveHome 22 = .ok (.ldc 87, 2) := by decide +kernel
theorem dX7_moveHome_24 : decode cX7_moveHome 24 = .ok (.ireturn, 1) := by decide +kernel
theorem dX7_moveHome_25 : decode cX7_moveHome 25 = .ok (.aload_n 0, 1) := by decide +kernel
theorem dX7_moveHome_26 : decode cX7_moveHome 26 = .ok (.getfield 19, 3) := by decide +kernel
theorem dX7_moveHome_29 : decode cX7_moveHome 29 = .ok (.getfield 78, 3) := by decide +kernel
theorem dX7_moveHome_32 : decode cX7_moveHome 32 = .ok (.iload_n 1, 1) := by decide +kernel
theorem dX7_moveHome_33 : decode cX7_moveHome 33 = .ok (.aaload, 1) := by decide +kernel
theorem dX7_moveHome_34 : decode cX7_moveHome 34 = .ok (.getfield 82, 3) := by decide +kernel
theorem dX7_moveHome_37 : decode cX7_moveHome 37 = .ok (.istore_n 3, 1) := by decide +kernel
theorem dX7_moveHome_38 : decode cX7_moveHome 38 = .ok (.iload_n 3, 1) := by decide +kernel
theorem dX7_moveHome_39 : decode cX7_moveHome 39 = .ok (.iload_n 2, 1) := by decide +kernel
theorem dX7_moveHome_40 : decode cX7_moveHome 40 = .ok (.if_icmp .ne 7, 3) := by decide +kernel
theorem dX7_moveHome_43 : decode cX7_moveHome 43 = .ok (.ldc_w 284, 3) := by decide +kernel
theorem dX7_moveHome_46 : decode cX7_moveHome 46 = .ok (.ireturn, 1) := by decide +kernel
theorem dX7_moveHome_47 : decode cX7_moveHome 47 = .ok (.aload_n 0, 1) := by decide +kernel
theorem dX7_moveHome_48 : decode cX7_moveHome 48 = .ok (.getfield 19, 3) := by decide +kernel
theorem dX7_moveHome_51 : decode cX7_moveHome 51 = .ok (.iload_n 1, 1) := by decide +kernel
theorem dX7_moveHome_52 : decode cX7_moveHome 52 = .ok (.invokevirtual 95, 3) := by decide +kernel
theorem dX7_moveHome_55 : decode cX7_moveHome 55 = .ok (.iconst (-1), 1) := by decide +kernel
theorem dX7_moveHome_56 : decode cX7_moveHome 56 = .ok (.if_icmp .eq 6, 3) := by decide +kernel
theorem dX7_moveHome_59 : decode cX7_moveHome 59 = .ok (.ldc 73, 2) := by decide +kernel
theorem dX7_moveHome_61 : decode cX7_moveHome 61 = .ok (.ireturn, 1) := by decide +kernel
theorem dX7_moveHome_62 : decode cX7_moveHome 62 = .ok (.aload_n 0, 1) := by decide +kernel
theorem dX7_moveHome_63 : decode cX7_moveHome 63 = .ok (.getfield 19, 3) := by decide +kernel
theorem dX7_moveHome_66 : decode cX7_moveHome 66 = .ok (.iload_n 2, 1) := by decide +kernel
theorem dX7_moveHome_67 : decode cX7_moveHome 67 = .ok (.invokevirtual 91, 3) := by decide +kernel
theorem dX7_moveHome_70 : decode cX7_moveHome 70 = .ok (.iconst (-1), 1) := by decide +kernel
theorem dX7_moveHome_71 : decode cX7_moveHome 71 = .ok (.if_icmp .eq 6, 3) := by decide +kernel
theorem dX7_moveHome_74 : decode cX7_moveHome 74 = .ok (.ldc 41, 2) := by decide +kernel
theorem dX7_moveHome_76 : decode cX7_moveHome 76 = .ok (.ireturn, 1) := by decide +kernel
theorem dX7_moveHome_77 : decode cX7_moveHome 77 = .ok (.aload_n 0, 1) := by decide +kernel
theorem dX7_moveHome_78 : decode cX7_moveHome 78 = .ok (.invokevirtual 256, 3) := by decide +kernel
theorem dX7_moveHome_81 : decode cX7_moveHome 81 = .ok (.aload_n 0, 1) := by decide +kernel
theorem dX7_moveHome_82 : decode cX7_moveHome 82 = .ok (.getfield 19, 3) := by decide +kernel
theorem dX7_moveHome_85 : decode cX7_moveHome 85 = .ok (.getfield 78, 3) := by decide +kernel
theorem dX7_moveHome_88 : decode cX7_moveHome 88 = .ok (.iload_n 1, 1) := by decide +kernel
theorem dX7_moveHome_89 : decode cX7_moveHome 89 = .ok (.aaload, 1) := by decide +kernel
theorem dX7_moveHome_90 : decode cX7_moveHome 90 = .ok (.iload_n 2, 1) := by decide +kernel
theorem dX7_moveHome_91 : decode cX7_moveHome 91 = .ok (.putfield 82, 3) := by decide +kernel
theorem dX7_moveHome_94 : decode cX7_moveHome 94 = .ok (.iload_n 3, 1) := by decide +kernel
theorem dX7_moveHome_95 : decode cX7_moveHome 95 = .ok (.ireturn, 1) := by decide +kernel
set_option maxRecDepth 20000 in
theorem ggX7_setTimes_X7_isTime : GoodIn wsX7_setTimes wsX7_isTime := goodIn_r _ [8] (by decide +kernel) (by decide +kernel)
set_option maxRecDepth 20000 in
theorem gX7_setTimes_X7_isTime : GoodIn wsX7_setTimes (va_wsS RX7 295 yX7_isTime wsX7_isTime) := goodIn_app (goodIn_of _ (by decide +kernel)) ggX7_setTimes_X7_isTime
set_option maxRecDepth 20000 in
theorem ggX7_setTimes_X7_remember : GoodIn wsX7_setTimes wsX7_remember := goodIn_r _ [12, 13, 2, 14, 15, 16, 17, 18, 19, 20, 21, 22, 23, 24, 25, 26, 27, 28, 29, 30, 31, 32, 33, 34, 35, 36, 37, 38, 39, 40, 41, 42, 43, 44, 45, 46, 47, 48, 49, 50, 51, 52, 53, 54, 55, 56, 57, 58, 59, 60, 61, 62, 63, 64, 65, 66, 67, 68, 69, 70, 71, 72, 73, 74, 75, 76, 77, 78, 79, 80, 81, 82, 83, 84, 85, 86, 87, 88, 89, 90, 91, 92, 93, 94, 95, 96, 97, 98, 99, 100, 101, 102, 103, 104, 105, 106, 107, 108, 109, 110, 111, 112, 113, 114, 115, 116, 117, 118, 7, 119, 120, 121, 122, 123, 124, 125, 126, 128, 129, 130, 131, 132, 133, 134, 135, 136, 155, 156, 157, 137, 138, 139, 140, 141, 142, 143, 144, 145, 146, 147, 148, 149, 150, 151, 152, 153, 154, 158, 159, 160, 161, 162, 163, 164, 165, 166, 167, 168, 169, 170, 171, 172, 173, 174, 175, 176, 177, 178, 179, 180, 181, 182, 183] (by decide +kernel) (by decide +kernel)
set_option maxRecDepth 20000 in
theorem gX7_setTimes_X7_remember : GoodIn wsX7_setTimes (wsV RX7 256 RX7 yX7_remember wsX7_remember) := goodIn_app (goodIn_of _ (by decide +kernel)) ggX7_setTimes_X7_remember
set_option maxRecDepth 20000 in
theorem ggX7_setTimes_X4_putTimes : GoodIn wsX7_setTimes wsX4_putTimes := goodIn_r _ [78, 32, 137, 138, 139, 140, 141, 142, 143, 144, 145, 146, 147, 148, 149, 150, 151, 152, 153, 154] (by decide +kernel) (by decide +kernel)
set_option maxRecDepth 20000 in
theorem gX7_setTimes_X4_putTimes : GoodIn wsX7_setTimes (wsV RX7 301 RX4 yX4_putTimes wsX4_putTimes) := goodIn_app (goodIn_of _ (by decide +kernel)) ggX7_setTimes_X4_putTimes
theorem dX7_setTimes_0 : decode cX7_setTimes 0 = .ok (.iload_n 1, 1) := by decide +kernel
theorem dX7_setTimes_1 : decode cX7_setTimes 1 = .ok (.invokestatic 295, 3) := by decide +kernel
theorem dX7_setTimes_4 : decode cX7_setTimes 4 = .ok (.ifCond .eq 33, 3) := by decide +kernel
theorem dX7_setTimes_7 : decode cX7_setTimes 7 = .ok (.iload_n 2, 1) := by decide +kernel
theorem dX7_setTimes_8 : decode cX7_setTimes 8 = .ok (.invokestatic 295, 3) := by decide +kernel
theorem dX7_setTimes_11 : decode cX7_setTimes 11 = .ok (.ifCond .eq 26, 3) := by decide +kernel
theorem dX7_setTimes_14 : decode cX7_setTimes 14 = .ok (.iload_n 3, 1) := by decide +kernel
theorem dX7_setTimes_15 : decode cX7_setTimes 15 = .ok (.invokestatic 295, 3) := by decide +kernel
theorem dX7_setTimes_18 : decode cX7_setTimes 18 = .ok (.ifCond .eq 19, 3) := by decide +kernel
theorem dX7_setTimes_21 : decode cX7_setTimes 21 = .ok (.iload 4, 2) := by decide +kernel
theorem dX7_setTimes_23 : decode cX7_setTimes 23 = .ok (.invokestatic 295, 3) := by decide +kernel
theorem dX7_setTimes_26 : decode cX7_setTimes 26 = .ok (.ifCond .eq 11, 3) := by decide +kernel
theorem dX7_setTimes_29 : decode cX7_setTimes 29 = .ok (.iload 5, 2) := by decide +kernel
theorem dX7_setTimes_31 : decode cX7_setTimes 31 = .ok (.invokestatic 295, 3) := by decide +kernel
theorem dX7_setTimes_34 : decode cX7_setTimes 34 = .ok (.ifCond .ne 6, 3) := by decide +kernel
theorem dX7_setTimes_37 : decode cX7_setTimes 37 = .ok (.ldc 46, 2) := by decide +kernel
theorem dX7_setTimes_39 : decode cX7_setTimes 39 = .ok (.ireturn, 1) := by decide +kernel
theorem dX7_setTimes_40 : decode cX7_setTimes 40 = .ok (.aload_n 0, 1) := by decide +kernel
theorem dX7_setTimes_41 : decode cX7_setTimes 41 = .ok (.getfield 19, 3) := by decide +kernel
theorem dX7_setTimes_44 : decode cX7_setTimes 44 = .ok (.getfield 298, 3) := by decide +kernel
theorem dX7_setTimes_47 : decode cX7_setTimes 47 = .ok (.astore 6, 2) := by decide +kernel
theorem dX7_setTimes_49 : decode cX7_setTimes 49 = .ok (.aload 6, 2) := by decide +kernel
theorem dX7_setTimes_51 : decode cX7_setTimes 51 = .ok (.iconst 0, 1) := by decide +kernel
theorem dX7_setTimes_52 : decode cX7_setTimes 52 = .ok (.iaload, 1) := by decide +kernel
theorem dX7_setTimes_53 : decode cX7_setTimes 53 = .ok (.iload_n 1, 1) := by decide +kernel
theorem dX7_setTimes_54 : decode cX7_setTimes 54 = .ok (.if_icmp .ne 41, 3) := by decide +kernel
theorem dX7_setTimes_57 : decode cX7_setTimes 57 = .ok (.aload 6, 2) := by decide +kernel
theorem dX7_setTimes_59 : decode cX7_setTimes 59 = .ok (.iconst 1, 1) := by decide +kernel
theorem dX7_setTimes_60 : decode cX7_setTimes 60 = .ok (.iaload, 1) := by decide +kernel
theorem dX7_setTimes_61 : decode cX7_setTimes 61 = .ok (.iload_n 2, 1) := by decide +kernel
theorem dX7_setTimes_62 : decode cX7_setTimes 62 = .ok (.if_icmp .ne 33, 3) := by decide +kernel
theorem dX7_setTimes_65 : decode cX7_setTimes 65 = .ok (.aload 6, 2) := by decide +kernel
theorem dX7_setTimes_67 : decode cX7_setTimes 67 = .ok (.iconst 2, 1) := by decide +kernel
theorem dX7_setTimes_68 : decode cX7_setTimes 68 = .ok (.iaload, 1) := by decide +kernel
theorem dX7_setTimes_69 : decode cX7_setTimes 69 = .ok (.iload_n 3, 1) := by decide +kernel
theorem dX7_setTimes_70 : decode cX7_setTimes 70 = .ok (.if_icmp .ne 25, 3) := by decide +kernel
theorem dX7_setTimes_73 : decode cX7_setTimes 73 = .ok (.aload 6, 2) := by decide +kernel
theorem dX7_setTimes_75 : decode cX7_setTimes 75 = .ok (.iconst 3, 1) := by decide +kernel
theorem dX7_setTimes_76 : decode cX7_setTimes 76 = .ok (.iaload, 1) := by decide +kernel
theorem dX7_setTimes_77 : decode cX7_setTimes 77 = .ok (.iload 4, 2) := by decide +kernel
theorem dX7_setTimes_79 : decode cX7_setTimes 79 = .ok (.if_icmp .ne 16, 3) := by decide +kernel
theorem dX7_setTimes_82 : decode cX7_setTimes 82 = .ok (.aload 6, 2) := by decide +kernel
theorem dX7_setTimes_84 : decode cX7_setTimes 84 = .ok (.iconst 4, 1) := by decide +kernel
theorem dX7_setTimes_85 : decode cX7_setTimes 85 = .ok (.iaload, 1) := by decide +kernel
theorem dX7_setTimes_86 : decode cX7_setTimes 86 = .ok (.iload 5, 2) := by decide +kernel
theorem dX7_setTimes_88 : decode cX7_setTimes 88 = .ok (.if_icmp .ne 7, 3) := by decide +kernel
theorem dX7_setTimes_91 : decode cX7_setTimes 91 = .ok (.ldc_w 284, 3) := by decide +kernel
theorem dX7_setTimes_94 : decode cX7_setTimes 94 = .ok (.ireturn, 1) := by decide +kernel
theorem dX7_setTimes_95 : decode cX7_setTimes 95 = .ok (.aload_n 0, 1) := by decide +kernel
theorem dX7_setTimes_96 : decode cX7_setTimes 96 = .ok (.invokevirtual 256, 3) := by decide +kernel
theorem dX7_setTimes_99 : decode cX7_setTimes 99 = .ok (.aload 6, 2) := by decide +kernel
theorem dX7_setTimes_101 : decode cX7_setTimes 101 = .ok (.iconst 0, 1) := by decide +kernel
theorem dX7_setTimes_102 : decode cX7_setTimes 102 = .ok (.iaload, 1) := by decide +kernel
theorem dX7_setTimes_103 : decode cX7_setTimes 103 = .ok (.aload 6, 2) := by decide +kernel
theorem dX7_setTimes_105 : decode cX7_setTimes 105 = .ok (.iconst 1, 1) := by decide +kernel
theorem dX7_setTimes_106 : decode cX7_setTimes 106 = .ok (.iaload, 1) := by decide +kernel
theorem dX7_setTimes_107 : decode cX7_setTimes 107 = .ok (.iadd, 1) := by decide +kernel
theorem dX7_setTimes_108 : decode cX7_setTimes 108 = .ok (.aload 6, 2) := by decide +kernel
theorem dX7_setTimes_110 : decode cX7_setTimes 110 = .ok (.iconst 2, 1) := by decide +kernel
theorem dX7_setTimes_111 : decode cX7_setTimes 111 = .ok (.iaload, 1) := by decide +kernel
theorem dX7_setTimes_112 : decode cX7_setTimes 112 = .ok (.iadd, 1) := by decide +kernel
theorem dX7_setTimes_113 : decode cX7_setTimes 113 = .ok (.aload 6, 2) := by decide +kernel
theorem dX7_setTimes_115 : decode cX7_setTimes 115 = .ok (.iconst 3, 1) := by decide +kernel
theorem dX7_setTimes_116 : decode cX7_setTimes 116 = .ok (.iaload, 1) := by decide +kernel
theorem dX7_setTimes_117 : decode cX7_setTimes 117 = .ok (.iadd, 1) := by decide +kernel
theorem dX7_setTimes_118 : decode cX7_setTimes 118 = .ok (.aload 6, 2) := by decide +kernel
theorem dX7_setTimes_120 : decode cX7_setTimes 120 = .ok (.iconst 4, 1) := by decide +kernel
theorem dX7_setTimes_121 : decode cX7_setTimes 121 = .ok (.iaload, 1) := by decide +kernel
theorem dX7_setTimes_122 : decode cX7_setTimes 122 = .ok (.iadd, 1) := by decide +kernel
theorem dX7_setTimes_123 : decode cX7_setTimes 123 = .ok (.istore 7, 2) := by decide +kernel
theorem dX7_setTimes_125 : decode cX7_setTimes 125 = .ok (.aload_n 0, 1) := by decide +kernel
theorem dX7_setTimes_126 : decode cX7_setTimes 126 = .ok (.getfield 19, 3) := by decide +kernel
theorem dX7_setTimes_129 : decode cX7_setTimes 129 = .ok (.iload_n 1, 1) := by decide +kernel
theorem dX7_setTimes_130 : decode cX7_setTimes 130 = .ok (.iload_n 2, 1) := by decide +kernel
theorem dX7_setTimes_131 : decode cX7_setTimes 131 = .ok (.iload_n 3, 1) := by decide +kernel
theorem dX7_setTimes_132 : decode cX7_setTimes 132 = .ok (.iload 4, 2) := by decide +kernel
theorem dX7_setTimes_134 : decode cX7_setTimes 134 = .ok (.iload 5, 2) := by decide +kernel
theorem dX7_setTimes_136 : decode cX7_setTimes 136 = .ok (.invokevirtual 301, 3) := by decide +kernel
theorem dX7_setTimes_139 : decode cX7_setTimes 139 = .ok (.iload 7, 2) := by decide +kernel
theorem dX7_setTimes_141 : decode cX7_setTimes 141 = .ok (.ireturn, 1) := by decide +kernel
theorem dX7_isTime_0 : decode cX7_isTime 0 = .ok (.iload_n 0, 1) := by decide +kernel
theorem dX7_isTime_1 : decode cX7_isTime 1 = .ok (.ifCond .lt 13, 3) := by decide +kernel
theorem dX7_isTime_4 : decode cX7_isTime 4 = .ok (.iload_n 0, 1) := by decide +kernel
theorem dX7_isTime_5 : decode cX7_isTime 5 = .ok (.bipush 99, 2) := by decide +kernel
theorem dX7_isTime_7 : decode cX7_isTime 7 = .ok (.if_icmp .gt 7, 3) := by decide +kernel
theorem dX7_isTime_10 : decode cX7_isTime 10 = .ok (.iconst 1, 1) := by decide +kernel
theorem dX7_isTime_11 : decode cX7_isTime 11 = .ok (.goto 4, 3) := by decide +kernel
theorem dX7_isTime_14 : decode cX7_isTime 14 = .ok (.iconst 0, 1) := by decide +kernel
theorem dX7_isTime_15 : decode cX7_isTime 15 = .ok (.ireturn, 1) := by decide +kernel
set_option maxRecDepth 20000 in
theorem ggX7_request_X4_hasFile : GoodIn wsX7_request wsX4_hasFile := goodIn_r _ [11, 12, 158, 159, 160, 161, 162, 163, 164, 165, 166, 167, 168, 169, 170, 171, 172, 173, 174, 175] (by decide +kernel) (by decide +kernel)
set_option maxRecDepth 20000 in
theorem gX7_request_X4_hasFile : GoodIn wsX7_request (wsV RX7 201 RX4 yX4_hasFile wsX4_hasFile) := goodIn_app (goodIn_of _ (by decide +kernel)) ggX7_request_X4_hasFile
set_option maxRecDepth 20000 in
theorem ggX7_request_X4_isReadable : GoodIn wsX7_request wsX4_isReadable := goodIn_r _ [16, 17, 18, 19, 10, 20, 21, 22, 23, 24, 25, 26, 27, 28, 29, 30, 31, 32, 33, 34, 35, 36, 37, 158, 159, 160, 161, 162, 163, 164, 165, 166, 167, 168, 169, 170, 171, 172, 173, 174, 175, 176, 177, 178, 179, 180, 181, 182, 183, 184, 185, 186, 187, 188, 189, 190, 191] (by decide +kernel) (by decide +kernel)
set_option maxRecDepth 20000 in
theorem gX7_request_X4_isReadable : GoodIn wsX7_request (wsV RX7 229 RX4 yX4_isReadable wsX4_isReadable) := goodIn_app (goodIn_of _ (by decide +kernel)) ggX7_request_X4_isReadable
set_option maxRecDepth 20000 in
theorem ggX7_request_X7_remember : GoodIn wsX7_request wsX7_remember := goodIn_r _ [42, 43, 1, 44, 45, 46, 47, 48, 49, 50, 51, 52, 53, 10, 54, 55, 56, 57, 58, 59, 60, 61, 62, 63, 64, 28, 65, 21, 22, 66, 67, 68, 69, 34, 70, 71, 72, 73, 74, 75, 76, 77, 78, 79, 80, 81, 82, 83, 84, 85, 86, 87, 88, 89, 90, 91, 92, 93, 12, 94, 95, 96, 97, 98, 99, 100, 101, 102, 103, 104, 105, 106, 107, 108, 109, 110, 111, 112, 113, 114, 115, 116, 117, 118, 119, 120, 121, 122, 123, 124, 125, 37, 36, 126, 127, 128, 129, 130, 131, 132, 133, 134, 135, 136, 137, 138, 139, 140, 41, 141, 142, 143, 144, 145, 146, 147, 148, 149, 150, 151, 152, 153, 154, 155, 156, 157, 192, 193, 194, 158, 159, 160, 161, 162, 163, 164, 165, 166, 167, 168, 169, 170, 171, 172, 173, 174, 175, 195, 196, 197, 183, 184, 185, 186, 187, 188, 189, 190, 191, 176, 177, 178, 179, 180, 181, 182, 198, 199, 200, 201, 202, 203, 204] (by decide +kernel) (by decide +kernel)
set_option maxRecDepth 20000 in
theorem gX7_request_X7_remember : GoodIn wsX7_request (wsV RX7 256 RX7 yX7_remember wsX7_remember) := goodIn_app (goodIn_of _ (by decide +kernel)) ggX7_request_X7_remember
theorem dX7_request_0 : decode cX7_request 0 = .ok (.aload_n 0, 1) := by decide +kernel
theorem dX7_request_1 : decode cX7_request 1 = .ok (.getfield 19, 3) := by decide +kernel
theorem dX7_request_4 : decode cX7_request 4 = .ok (.iload_n 1, 1) := by decide +kernel
theorem dX7_request_5 : decode cX7_request 5 = .ok (.invokevirtual 201, 3) := by decide +kernel
theorem dX7_request_8 : decode cX7_request 8 = .ok (.ifCond .ne 6, 3) := by decide +kernel
theorem dX7_request_11 : decode cX7_request 11 = .ok (.ldc 87, 2) := by decide +kernel
theorem dX7_request_13 : decode cX7_request 13 = .ok (.ireturn, 1) := by decide +kernel
theorem dX7_request_14 : decode cX7_request 14 = .ok (.aload_n 0, 1) := by decide +kernel
theorem dX7_request_15 : decode cX7_request 15 = .ok (.getfield 19, 3) := by decide +kernel
theorem dX7_request_18 : decode cX7_request 18 = .ok (.iload_n 1, 1) := by decide +kernel
theorem dX7_request_19 : decode cX7_request 19 = .ok (.invokevirtual 229, 3) := by decide +kernel
theorem dX7_request_22 : decode cX7_request 22 = .ok (.ifCond .ne 6, 3) := by decide +kernel
theorem dX7_request_25 : decode cX7_request 25 = .ok (.ldc 239, 2) := by decide +kernel
theorem dX7_request_27 : decode cX7_request 27 = .ok (.ireturn, 1) := by decide +kernel
theorem dX7_request_28 : decode cX7_request 28 = .ok (.aload_n 0, 1) := by decide +kernel
theorem dX7_request_29 : decode cX7_request 29 = .ok (.getfield 19, 3) := by decide +kernel
theorem dX7_request_32 : decode cX7_request 32 = .ok (.getfield 305, 3) := by decide +kernel
theorem dX7_request_35 : decode cX7_request 35 = .ok (.bipush 16, 2) := by decide +kernel
theorem dX7_request_37 : decode cX7_request 37 = .ok (.if_icmp .lt 6, 3) := by decide +kernel
theorem dX7_request_40 : decode cX7_request 40 = .ok (.ldc 41, 2) := by decide +kernel
theorem dX7_request_42 : decode cX7_request 42 = .ok (.ireturn, 1) := by decide +kernel
theorem dX7_request_43 : decode cX7_request 43 = .ok (.aload_n 0, 1) := by decide +kernel
theorem dX7_request_44 : decode cX7_request 44 = .ok (.invokevirtual 256, 3) := by decide +kernel
theorem dX7_request_47 : decode cX7_request 47 = .ok (.aload_n 0, 1) := by decide +kernel
theorem dX7_request_48 : decode cX7_request 48 = .ok (.getfield 19, 3) := by decide +kernel
theorem dX7_request_51 : decode cX7_request 51 = .ok (.getfield 308, 3) := by decide +kernel
theorem dX7_request_54 : decode cX7_request 54 = .ok (.aload_n 0, 1) := by decide +kernel
theorem dX7_request_55 : decode cX7_request 55 = .ok (.getfield 19, 3) := by decide +kernel
theorem dX7_request_58 : decode cX7_request 58 = .ok (.getfield 305, 3) := by decide +kernel
theorem dX7_request_61 : decode cX7_request 61 = .ok (.iload_n 1, 1) := by decide +kernel
theorem dX7_request_62 : decode cX7_request 62 = .ok (.iastore, 1) := by decide +kernel
theorem dX7_request_63 : decode cX7_request 63 = .ok (.aload_n 0, 1) := by decide +kernel
theorem dX7_request_64 : decode cX7_request 64 = .ok (.getfield 19, 3) := by decide +kernel
theorem dX7_request_67 : decode cX7_request 67 = .ok (.dup, 1) := by decide +kernel
theorem dX7_request_68 : decode cX7_request 68 = .ok (.getfield 305, 3) := by decide +kernel
theorem dX7_request_71 : decode cX7_request 71 = .ok (.iconst 1, 1) := by decide +kernel
theorem dX7_request_72 : decode cX7_request 72 = .ok (.iadd, 1) := by decide +kernel
theorem dX7_request_73 : decode cX7_request 73 = .ok (.putfield 305, 3) := by decide +kernel
theorem dX7_request_76 : decode cX7_request 76 = .ok (.aload_n 0, 1) := by decide +kernel
theorem dX7_request_77 : decode cX7_request 77 = .ok (.getfield 19, 3) := by decide +kernel
theorem dX7_request_80 : decode cX7_request 80 = .ok (.getfield 305, 3) := by decide +kernel
theorem dX7_request_83 : decode cX7_request 83 = .ok (.ireturn, 1) := by decide +kernel
set_option maxRecDepth 20000 in
theorem ggX7_dropRequest_X4_hasRequest : GoodIn wsX7_dropRequest wsX4_hasRequest := goodIn_r _ [7, 8, 139, 140, 141, 142, 143, 144, 145, 146, 147, 148, 149, 150, 151, 152, 153, 154, 155, 156] (by decide +kernel) (by decide +kernel)
set_option maxRecDepth 20000 in
theorem gX7_dropRequest_X4_hasRequest : GoodIn wsX7_dropRequest (wsV RX7 311 RX4 yX4_hasRequest wsX4_hasRequest) := goodIn_app (goodIn_of _ (by decide +kernel)) ggX7_dropRequest_X4_hasRequest
set_option maxRecDepth 20000 in
theorem ggX7_dropRequest_X7_remember : GoodIn wsX7_dropRequest wsX7_remember := goodIn_r _ [13, 14, 1, 15, 16, 17, 18, 19, 20, 21, 22, 23, 24, 6, 25, 26, 27, 28, 29, 30, 31, 32, 33, 34, 35, 36, 37, 38, 39, 40, 41, 42, 43, 44, 45, 46, 47, 48, 49, 50, 51, 52, 53, 54, 55, 56, 57, 58, 59, 60, 61, 62, 63, 64, 65, 66, 67, 68, 69, 8, 70, 71, 72, 73, 74, 75, 76, 77, 78, 79, 80, 81, 82, 83, 84, 85, 86, 87, 88, 89, 90, 91, 92, 93, 94, 95, 96, 97, 98, 99, 100, 101, 102, 103, 104, 105, 106, 107, 108, 109, 110, 111, 112, 113, 114, 115, 116, 117, 12, 118, 119, 120, 121, 122, 123, 124, 125, 130, 131, 132, 133, 134, 135, 136, 137, 138, 157, 158, 159, 139, 140, 141, 142, 143, 144, 145, 146, 147, 148, 149, 150, 151, 152, 153, 154, 155, 156, 160, 161, 162, 163, 164, 165, 166, 167, 168, 169, 170, 171, 172, 173, 174, 175, 176, 177, 178, 179, 180, 181, 182, 183, 184, 185] (by decide +kernel) (by decide +kernel)
set_option maxRecDepth 20000 in
theorem gX7_dropRequest_X7_remember : GoodIn wsX7_dropRequest (wsV RX7 256 RX7 yX7_remember wsX7_remember) := goodIn_app (goodIn_of _ (by decide +kernel)) ggX7_dropRequest_X7_remember
set_option maxRecDepth 20000 in
theorem ggX7_dropRequest_X4_removeRequest : GoodIn wsX7_dropRequest wsX4_removeRequest := goodIn_r _ [129, 40, 8, 139, 140, 141, 142, 143, 144, 145, 146, 147, 148, 149, 150, 151, 152, 153, 154, 155, 156] (by decide +kernel) (by decide +kernel)
set_option maxRecDepth 20000 in
theorem gX7_dropRequest_X4_removeRequest : GoodIn wsX7_dropRequest (wsV RX7 314 RX4 yX4_removeRequest wsX4_removeRequest) := goodIn_app (goodIn_of _ (by decide +kernel)) ggX7_dropRequest_X4_removeRequest
theorem dX7_dropRequest_0 : decode cX7_dropRequest 0 = .ok (.aload_n 0, 1) := by decide +kernel
theorem dX7_dropRequest_1 : decode cX7_dropRequest 1 = .ok (.getfield 19, 3) := by decide +kernel
theorem dX7_dropRequest_4 : decode cX7_dropRequest 4 = .ok (.iload_n 1, 1) := by decide +kernel
theorem dX7_dropRequest_5 : decode cX7_dropRequest 5 = .ok (.invokevirtual 311, 3) := by decide +kernel
theorem dX7_dropRequest_8 : decode cX7_dropRequest 8 = .ok (.ifCond .ne 6, 3) := by decide +kernel
theorem dX7_dropRequest_11 : decode cX7_dropRequest 11 = .ok (.ldc 87, 2) := by decide +kernel
theorem dX7_dropRequest_13 : decode cX7_dropRequest 13 = .ok (.ireturn, 1) := by decide +kernel
theorem dX7_dropRequest_14 : decode cX7_dropRequest 14 = .ok (.aload_n 0, 1) := by decide +kernel
theorem dX7_dropRequest_15 : decode cX7_dropRequest 15 = .ok (.invokevirtual 256, 3) := by decide +kernel
theorem dX7_dropRequest_18 : decode cX7_dropRequest 18 = .ok (.aload_n 0, 1) := by decide +kernel
theorem dX7_dropRequest_19 : decode cX7_dropRequest 19 = .ok (.getfield 19, 3) := by decide +kernel
theorem dX7_dropRequest_22 : decode cX7_dropRequest 22 = .ok (.iload_n 1, 1) := by decide +kernel
theorem dX7_dropRequest_23 : decode cX7_dropRequest 23 = .ok (.invokevirtual 314, 3) := by decide +kernel
theorem dX7_dropRequest_26 : decode cX7_dropRequest 26 = .ok (.ireturn, 1) := by decide +kernel
set_option maxRecDepth 20000 in
theorem ggX7_serveBatch_X7_planBatch : GoodIn wsX7_serveBatch wsX7_planBatch := goodIn_r _ [11, 1, 12, 13, 14, 10, 15, 6, 16, 17, 18, 19, 20, 21, 22, 23, 24, 25, 26, 27, 28, 29, 30, 31, 32, 33, 34, 35, 36, 37, 38, 39, 40, 41, 42, 43, 44, 45, 46, 47, 48, 49, 50, 51, 52, 53, 54, 55, 56, 57, 58, 59, 60, 61, 62, 63, 64, 65, 66, 67, 68, 69, 70, 71, 72, 73, 74, 75, 76, 77, 78, 79, 80, 81, 82, 83, 84, 85, 86, 87, 88, 89, 90, 91, 92, 93, 94, 95, 96, 97, 98, 99, 100, 101, 102, 103, 104, 105, 106, 107, 108, 109, 110, 111, 112, 113, 114, 115, 116, 117, 118, 119, 120, 121, 122, 123, 124, 125, 126, 127, 128, 129, 130, 131, 132, 133, 134, 135, 136, 137, 138, 139, 140, 141, 142, 143, 144, 145, 146, 147, 148, 149, 272, 273, 274, 275, 276, 277, 278, 279, 280, 281, 282, 283, 284, 285, 286, 287, 288, 289, 290, 291, 292, 293, 294, 295, 296, 297, 298, 306, 307, 308, 309, 310, 311, 312, 313, 314, 315, 316, 317, 318, 319, 320, 321, 299, 300, 301, 302, 303, 304, 305, 322, 323, 324] (by decide +kernel) (by decide +kernel)
set_option maxRecDepth 20000 in
theorem gX7_serveBatch_X7_planBatch : GoodIn wsX7_serveBatch (wsV RX7 317 RX7 yX7_planBatch wsX7_planBatch) := goodIn_app (goodIn_of _ (by decide +kernel)) ggX7_serveBatch_X7_planBatch
set_option maxRecDepth 20000 in
theorem ggX7_serveBatch_X7_remember : GoodIn wsX7_serveBatch wsX7_remember := goodIn_r _ [153, 154, 1, 155, 156, 157, 158, 159, 160, 161, 162, 163, 164, 24, 165, 166, 167, 168, 58, 59, 60, 133, 169, 82, 170, 37, 171, 30, 31, 76, 172, 173, 174, 43, 175, 176, 177, 178, 179, 180, 181, 182, 183, 184, 185, 186, 187, 188, 189, 190, 191, 192, 193, 81, 92, 194, 195, 196, 197, 75, 139, 198, 199, 200, 201, 202, 203, 204, 205, 206, 207, 208, 209, 210, 211, 212, 213, 214, 215, 216, 217, 218, 219, 220, 221, 222, 223, 224, 225, 226, 227, 46, 45, 228, 229, 230, 231, 232, 233, 234, 235, 236, 237, 238, 239, 240, 241, 242, 10, 243, 51, 244, 245, 246, 54, 247, 65, 272, 273, 274, 275, 276, 277, 278, 279, 280, 325, 326, 327, 281, 282, 283, 284, 285, 286, 287, 288, 289, 290, 291, 292, 293, 294, 295, 296, 297, 298, 322, 323, 324, 313, 314, 315, 316, 317, 318, 319, 320, 321, 306, 307, 308, 309, 310, 311, 312, 299, 300, 301, 302, 303, 304, 305] (by decide +kernel) (by decide +kernel)
set_option maxRecDepth 20000 in
theorem gX7_serveBatch_X7_remember : GoodIn wsX7_serveBatch (wsV RX7 256 RX7 yX7_remember wsX7_remember) := goodIn_app (goodIn_of _ (by decide +kernel)) ggX7_serveBatch_X7_remember
set_option maxRecDepth 20000 in
theorem ggX7_serveBatch_X7_readyPlanner : GoodIn wsX7_serveBatch wsX7_readyPlanner := goodIn_r _ [50, 51, 52, 53, 54, 55, 56, 57, 58, 59, 60, 61, 62, 63, 64, 65, 272, 273, 274, 275, 276, 277, 278, 279, 280, 299, 300, 301, 302, 303, 304, 305] (by decide +kernel) (by decide +kernel)
set_option maxRecDepth 20000 in
theorem gX7_serveBatch_X7_readyPlanner : GoodIn wsX7_serveBatch (wsV RX7 320 RX7 yX7_readyPlanner wsX7_readyPlanner) := goodIn_app (goodIn_of _ (by decide +kernel)) ggX7_serveBatch_X7_readyPlanner
set_option maxRecDepth 20000 in
theorem ggX7_serveBatch_X4_readInDrives : GoodIn wsX7_serveBatch wsX4_readInDrives := goodIn_r _ [251, 81, 252, 253, 254, 24, 255, 75, 76, 38, 82, 83, 198, 26, 27, 28, 29, 30, 31, 256, 257, 258, 259, 133, 260, 261, 262, 263, 264, 265, 92, 93, 281, 282, 283, 284, 285, 286, 287, 288, 289, 290, 291, 292, 293, 294, 295, 296, 297, 298, 306, 307, 308, 309, 310, 311, 312, 322, 323, 324] (by decide +kernel) (by decide +kernel)
set_option maxRecDepth 20000 in
theorem gX7_serveBatch_X4_readInDrives : GoodIn wsX7_serveBatch (wsV RX7 324 RX4 yX4_readInDrives wsX4_readInDrives) := goodIn_app (goodIn_of _ (by decide +kernel)) ggX7_serveBatch_X4_readInDrives
set_option maxRecDepth 20000 in
theorem ggX7_serveBatch_X4_bringInto : GoodIn wsX7_serveBatch wsX4_bringInto := goodIn_r _ [269, 82, 83, 198, 200, 138, 139, 199, 270, 130, 131, 24, 132, 133, 134, 135, 136, 137, 37, 140, 141, 119, 106, 120, 262, 263, 264, 265, 92, 93, 281, 282, 283, 284, 285, 286, 287, 288, 289, 290, 291, 292, 293, 294, 295, 296, 297, 298, 322, 323, 324, 313, 314, 315, 316, 317, 318, 319, 320, 321] (by decide +kernel) (by decide +kernel)
set_option maxRecDepth 20000 in
theorem gX7_serveBatch_X4_bringInto : GoodIn wsX7_serveBatch (wsV RX7 338 RX4 yX4_bringInto wsX4_bringInto) := goodIn_app (goodIn_of _ (by decide +kernel)) ggX7_serveBatch_X4_bringInto
set_option maxRecDepth 20000 in
theorem ggX7_serveBatch_X4_readRequestsIn : GoodIn wsX7_serveBatch wsX4_readRequestsIn := goodIn_r _ [255, 75, 76, 38, 82, 83, 198, 26, 27, 28, 24, 29, 30, 31, 256, 257, 258, 259, 133, 260, 261, 262, 263, 264, 265, 92, 93, 281, 282, 283, 284, 285, 286, 287, 288, 289, 290, 291, 292, 293, 294, 295, 296, 297, 298, 306, 307, 308, 309, 310, 311, 312, 322, 323, 324] (by decide +kernel) (by decide +kernel)
set_option maxRecDepth 20000 in
theorem gX7_serveBatch_X4_readRequestsIn : GoodIn wsX7_serveBatch (wsV RX7 341 RX4 yX4_readRequestsIn wsX4_readRequestsIn) := goodIn_app (goodIn_of _ (by decide +kernel)) ggX7_serveBatch_X4_readRequestsIn
theorem dX7_serveBatch_0 : decode cX7_serveBatch 0 = .ok (.aload_n 0, 1) := by decide +kernel
theorem dX7_serveBatch_1 : decode cX7_serveBatch 1 = .ok (.invokevirtual 317, 3) := by decide +kernel
theorem dX7_serveBatch_4 : decode cX7_serveBatch 4 = .ok (.istore_n 1, 1) := by decide +kernel
theorem dX7_serveBatch_5 : decode cX7_serveBatch 5 = .ok (.iload_n 1, 1) := by decide +kernel
theorem dX7_serveBatch_6 : decode cX7_serveBatch 6 = .ok (.ifCond .eq 5, 3) := by decide +kernel
theorem dX7_serveBatch_9 : decode cX7_serveBatch 9 = .ok (.iload_n 1, 1) := by decide +kernel
theorem dX7_serveBatch_10 : decode cX7_serveBatch 10 = .ok (.ireturn, 1) := by decide +kernel
theorem dX7_serveBatch_11 : decode cX7_serveBatch 11 = .ok (.aload_n 0, 1) := by decide +kernel
theorem dX7_serveBatch_12 : decode cX7_serveBatch 12 = .ok (.invokevirtual 256, 3) := by decide +kernel
theorem dX7_serveBatch_15 : decode cX7_serveBatch 15 = .ok (.aload_n 0, 1) := by decide +kernel
theorem dX7_serveBatch_16 : decode cX7_serveBatch 16 = .ok (.getfield 19, 3) := by decide +kernel
theorem dX7_serveBatch_19 : decode cX7_serveBatch 19 = .ok (.getfield 116, 3) := by decide +kernel
theorem dX7_serveBatch_22 : decode cX7_serveBatch 22 = .ok (.istore_n 2, 1) := by decide +kernel
theorem dX7_serveBatch_23 : decode cX7_serveBatch 23 = .ok (.aload_n 0, 1) := by decide +kernel
theorem dX7_serveBatch_24 : decode cX7_serveBatch 24 = .ok (.invokevirtual 320, 3) := by decide +kernel
theorem dX7_serveBatch_27 : decode cX7_serveBatch 27 = .ok (.astore_n 3, 1) := by decide +kernel
theorem dX7_serveBatch_28 : decode cX7_serveBatch 28 = .ok (.aload_n 0, 1) := by decide +kernel
theorem dX7_serveBatch_29 : decode cX7_serveBatch 29 = .ok (.getfield 19, 3) := by decide +kernel
theorem dX7_serveBatch_32 : decode cX7_serveBatch 32 = .ok (.invokevirtual 324, 3) := by decide +kernel
theorem dX7_serveBatch_35 : decode cX7_serveBatch 35 = .ok (.iconst 0, 1) := by decide +kernel
theorem dX7_serveBatch_36 : decode cX7_serveBatch 36 = .ok (.istore 4, 2) := by decide +kernel
theorem dX7_serveBatch_38 : decode cX7_serveBatch 38 = .ok (.iload 4, 2) := by decide +kernel
theorem dX7_serveBatch_40 : decode cX7_serveBatch 40 = .ok (.aload_n 3, 1) := by decide +kernel
theorem dX7_serveBatch_41 : decode cX7_serveBatch 41 = .ok (.getfield 327, 3) := by decide +kernel
theorem dX7_serveBatch_44 : decode cX7_serveBatch 44 = .ok (.if_icmp .ge 38, 3) := by decide +kernel
theorem dX7_serveBatch_47 : decode cX7_serveBatch 47 = .ok (.aload_n 0, 1) := by decide +kernel
theorem dX7_serveBatch_48 : decode cX7_serveBatch 48 = .ok (.getfield 19, 3) := by decide +kernel
theorem dX7_serveBatch_51 : decode cX7_serveBatch 51 = .ok (.aload_n 3, 1) := by decide +kernel
theorem dX7_serveBatch_52 : decode cX7_serveBatch 52 = .ok (.getfield 332, 3) := by decide +kernel
theorem dX7_serveBatch_55 : decode cX7_serveBatch 55 = .ok (.iload 4, 2) := by decide +kernel
theorem dX7_serveBatch_57 : decode cX7_serveBatch 57 = .ok (.iaload, 1) := by decide +kernel
theorem dX7_serveBatch_58 : decode cX7_serveBatch 58 = .ok (.aload_n 3, 1) := by decide +kernel
theorem dX7_serveBatch_59 : decode cX7_serveBatch 59 = .ok (.getfield 335, 3) := by decide +kernel
theorem dX7_serveBatch_62 : decode cX7_serveBatch 62 = .ok (.invokevirtual 338, 3) := by decide +kernel
theorem dX7_serveBatch_65 : decode cX7_serveBatch 65 = .ok (.aload_n 0, 1) := by decide +kernel
theorem dX7_serveBatch_66 : decode cX7_serveBatch 66 = .ok (.getfield 19, 3) := by decide +kernel
theorem dX7_serveBatch_69 : decode cX7_serveBatch 69 = .ok (.aload_n 3, 1) := by decide +kernel
theorem dX7_serveBatch_70 : decode cX7_serveBatch 70 = .ok (.getfield 335, 3) := by decide +kernel
theorem dX7_serveBatch_73 : decode cX7_serveBatch 73 = .ok (.invokevirtual 341, 3) := by decide +kernel
theorem dX7_serveBatch_76 : decode cX7_serveBatch 76 = .ok (.iinc 4 1, 3) := by decide +kernel
theorem dX7_serveBatch_79 : decode cX7_serveBatch 79 = .ok (.goto (-41), 3) := by decide +kernel
theorem dX7_serveBatch_82 : decode cX7_serveBatch 82 = .ok (.aload_n 0, 1) := by decide +kernel
theorem dX7_serveBatch_83 : decode cX7_serveBatch 83 = .ok (.getfield 19, 3) := by decide +kernel
theorem dX7_serveBatch_86 : decode cX7_serveBatch 86 = .ok (.iconst 0, 1) := by decide +kernel
theorem dX7_serveBatch_87 : decode cX7_serveBatch 87 = .ok (.putfield 305, 3) := by decide +kernel
theorem dX7_serveBatch_90 : decode cX7_serveBatch 90 = .ok (.aload_n 0, 1) := by decide +kernel
theorem dX7_serveBatch_91 : decode cX7_serveBatch 91 = .ok (.getfield 19, 3) := by decide +kernel
theorem dX7_serveBatch_94 : decode cX7_serveBatch 94 = .ok (.getfield 116, 3) := by decide +kernel
theorem dX7_serveBatch_97 : decode cX7_serveBatch 97 = .ok (.iload_n 2, 1) := by decide +kernel
theorem dX7_serveBatch_98 : decode cX7_serveBatch 98 = .ok (.isub, 1) := by decide +kernel
theorem dX7_serveBatch_99 : decode cX7_serveBatch 99 = .ok (.ireturn, 1) := by decide +kernel
set_option maxRecDepth 20000 in
theorem ggX7_undo_X1_goBack : GoodIn wsX7_undo wsX1_goBack := goodIn_r _ [9, 10, 11, 12, 34, 35, 36] (by decide +kernel) (by decide +kernel)
set_option maxRecDepth 20000 in
theorem gX7_undo_X1_goBack : GoodIn wsX7_undo (wsV RX7 347 RX1 yX1_goBack wsX1_goBack) := goodIn_app (goodIn_of _ (by decide +kernel)) ggX7_undo_X1_goBack
set_option maxRecDepth 20000 in
theorem ggX7_undo_X7_forgetPlan : GoodIn wsX7_undo wsX7_forgetPlan := goodIn_r _ [17, 18, 19, 20, 21, 22, 23, 24, 25, 26, 27, 28, 29, 30, 31, 32, 33, 37, 38, 39, 40, 41, 42, 43] (by decide +kernel) (by decide +kernel)
set_option maxRecDepth 20000 in
theorem gX7_undo_X7_forgetPlan : GoodIn wsX7_undo (wsV RX7 67 RX7 yX7_forgetPlan wsX7_forgetPlan) := goodIn_app (goodIn_of _ (by decide +kernel)) ggX7_undo_X7_forgetPlan
theorem dX7_undo_0 : decode cX7_undo 0 = .ok (.aload_n 0, 1) := by decide +kernel
theorem dX7_undo_1 : decode cX7_undo 1 = .ok (.getfield 29, 3) := by decide +kernel
theorem dX7_undo_4 : decode cX7_undo 4 = .ok (.getfield 344, 3) := by decide +kernel
theorem dX7_undo_7 : decode cX7_undo 7 = .ok (.ifCond .ne 6, 3) := by decide +kernel
theorem dX7_undo_10 : decode cX7_undo 10 = .ok (.ldc 73, 2) := by decide +kernel
theorem dX7_undo_12 : decode cX7_undo 12 = .ok (.ireturn, 1) := by decide +kernel
theorem dX7_undo_13 : decode cX7_undo 13 = .ok (.aload_n 0, 1) := by decide +kernel
theorem dX7_undo_14 : decode cX7_undo 14 = .ok (.aload_n 0, 1) := by decide +kernel
theorem dX7_undo_15 : decode cX7_undo 15 = .ok (.getfield 29, 3) := by decide +kernel
theorem dX7_undo_18 : decode cX7_undo 18 = .ok (.aload_n 0, 1) := by decide +kernel
theorem dX7_undo_19 : decode cX7_undo 19 = .ok (.getfield 19, 3) := by decide +kernel
theorem dX7_undo_22 : decode cX7_undo 22 = .ok (.invokevirtual 347, 3) := by decide +kernel
theorem dX7_undo_25 : decode cX7_undo 25 = .ok (.putfield 19, 3) := by decide +kernel
theorem dX7_undo_28 : decode cX7_undo 28 = .ok (.aload_n 0, 1) := by decide +kernel
theorem dX7_undo_29 : decode cX7_undo 29 = .ok (.invokevirtual 67, 3) := by decide +kernel
theorem dX7_undo_32 : decode cX7_undo 32 = .ok (.aload_n 0, 1) := by decide +kernel
theorem dX7_undo_33 : decode cX7_undo 33 = .ok (.getfield 29, 3) := by decide +kernel
theorem dX7_undo_36 : decode cX7_undo 36 = .ok (.getfield 344, 3) := by decide +kernel
theorem dX7_undo_39 : decode cX7_undo 39 = .ok (.ireturn, 1) := by decide +kernel
set_option maxRecDepth 20000 in
theorem ggX7_remember_X1_keep : GoodIn wsX7_remember wsX1_keep := goodIn_r _ [7, 8, 9, 10, 11, 12, 13, 14, 15, 16, 17, 18, 19, 20, 21, 22, 23, 24, 25, 26, 27, 28, 29, 30, 31, 32, 33, 34, 35, 36, 37, 38, 39, 40, 41, 42, 43, 44, 45, 46, 47, 48, 49, 50, 51, 52, 53, 54, 55, 56, 57, 58, 59, 60, 61, 62, 63, 64, 65, 66, 67, 68, 69, 70, 71, 72, 73, 74, 75, 76, 77, 78, 79, 80, 81, 82, 83, 84, 85, 86, 87, 88, 89, 90, 91, 92, 93, 94, 95, 96, 97, 98, 99, 100, 101, 102, 103, 104, 126, 127, 128, 129, 130, 131, 132, 133, 134, 135, 136, 137, 138, 139, 140, 141, 142, 143, 144, 145, 146, 147, 148, 149, 150, 151, 152, 153, 154, 155, 156, 157, 158, 159, 160, 161, 162, 163, 164, 165] (by decide +kernel) (by decide +kernel)
set_option maxRecDepth 20000 in
theorem gX7_remember_X1_keep : GoodIn wsX7_remember (wsV RX7 351 RX1 yX1_keep wsX1_keep) := goodIn_app (goodIn_of _ (by decide +kernel)) ggX7_remember_X1_keep
set_option maxRecDepth 20000 in
theorem ggX7_remember_X7_forgetPlan : GoodIn wsX7_remember wsX7_forgetPlan := goodIn_r _ [109, 110, 111, 112, 113, 114, 115, 116, 117, 118, 119, 120, 121, 122, 123, 124, 125, 166, 167, 168, 169, 170, 171, 172] (by decide +kernel) (by decide +kernel)
set_option maxRecDepth 20000 in
theorem gX7_remember_X7_forgetPlan : GoodIn wsX7_remember (wsV RX7 67 RX7 yX7_forgetPlan wsX7_forgetPlan) := goodIn_app (goodIn_of _ (by decide +kernel)) ggX7_remember_X7_forgetPlan
theorem dX7_remember_0 : decode cX7_remember 0 = .ok (.aload_n 0, 1) := by decide +kernel
theorem dX7_remember_1 : decode cX7_remember 1 = .ok (.getfield 29, 3) := by decide +kernel
theorem dX7_remember_4 : decode cX7_remember 4 = .ok (.aload_n 0, 1) := by decide +kernel
theorem dX7_remember_5 : decode cX7_remember 5 = .ok (.getfield 19, 3) := by decide +kernel
theorem dX7_remember_8 : decode cX7_remember 8 = .ok (.invokevirtual 351, 3) := by decide +kernel
theorem dX7_remember_11 : decode cX7_remember 11 = .ok (.aload_n 0, 1) := by decide +kernel
theorem dX7_remember_12 : decode cX7_remember 12 = .ok (.invokevirtual 67, 3) := by decide +kernel
theorem dX7_remember_15 : decode cX7_remember 15 = .ok (.return_, 1) := by decide +kernel
set_option maxRecDepth 20000 in
theorem ggX7_requestedFile_X4_hasRequest : GoodIn wsX7_requestedFile wsX4_hasRequest := goodIn_r _ [8, 9, 19, 20, 21, 22, 23, 24, 25, 26, 27, 28, 29, 30, 31, 32, 33, 34, 35, 36] (by decide +kernel) (by decide +kernel)
set_option maxRecDepth 20000 in
theorem gX7_requestedFile_X4_hasRequest : GoodIn wsX7_requestedFile (wsV RX7 311 RX4 yX4_hasRequest wsX4_hasRequest) := goodIn_app (goodIn_of _ (by decide +kernel)) ggX7_requestedFile_X4_hasRequest
theorem dX7_requestedFile_0 : decode cX7_requestedFile 0 = .ok (.aload_n 0, 1) := by decide +kernel
theorem dX7_requestedFile_1 : decode cX7_requestedFile 1 = .ok (.getfield 19, 3) := by decide +kernel
theorem dX7_requestedFile_4 : decode cX7_requestedFile 4 = .ok (.iload_n 1, 1) := by decide +kernel
theorem dX7_requestedFile_5 : decode cX7_requestedFile 5 = .ok (.invokevirtual 311, 3) := by decide +kernel
theorem dX7_requestedFile_8 : decode cX7_requestedFile 8 = .ok (.ifCond .eq 15, 3) := by decide +kernel
theorem dX7_requestedFile_11 : decode cX7_requestedFile 11 = .ok (.aload_n 0, 1) := by decide +kernel
theorem dX7_requestedFile_12 : decode cX7_requestedFile 12 = .ok (.getfield 19, 3) := by decide +kernel
theorem dX7_requestedFile_15 : decode cX7_requestedFile 15 = .ok (.getfield 308, 3) := by decide +kernel
theorem dX7_requestedFile_18 : decode cX7_requestedFile 18 = .ok (.iload_n 1, 1) := by decide +kernel
theorem dX7_requestedFile_19 : decode cX7_requestedFile 19 = .ok (.iaload, 1) := by decide +kernel
theorem dX7_requestedFile_20 : decode cX7_requestedFile 20 = .ok (.goto 5, 3) := by decide +kernel
theorem dX7_requestedFile_23 : decode cX7_requestedFile 23 = .ok (.ldc 87, 2) := by decide +kernel
theorem dX7_requestedFile_25 : decode cX7_requestedFile 25 = .ok (.ireturn, 1) := by decide +kernel
set_option maxRecDepth 20000 in
theorem ggX7_batchTime_X7_batchProblem : GoodIn wsX7_batchTime wsX7_batchProblem := goodIn_r _ [6, 1, 7, 8, 9, 10, 11, 12, 13, 14, 15, 16, 17, 18, 19, 20, 21, 22, 23, 24, 25, 26, 27, 28, 29, 30, 31, 32, 33, 34, 35, 36, 37, 38, 143, 144, 145, 146, 147, 148, 149, 150, 151, 152, 153, 154, 155, 156, 157, 158, 159, 160, 161, 162, 163, 164, 165, 166, 167, 168, 169, 170, 171, 172, 173, 174, 175, 176, 177, 178, 179, 180, 181, 182, 183, 184, 185] (by decide +kernel) (by decide +kernel)
set_option maxRecDepth 20000 in
theorem gX7_batchTime_X7_batchProblem : GoodIn wsX7_batchTime (wsV RX7 355 RX7 yX7_batchProblem wsX7_batchProblem) := goodIn_app (goodIn_of _ (by decide +kernel)) ggX7_batchTime_X7_batchProblem
set_option maxRecDepth 20000 in
theorem ggX7_batchTime_X7_readyPlanner : GoodIn wsX7_batchTime wsX7_readyPlanner := goodIn_r _ [42, 43, 44, 45, 46, 47, 48, 49, 50, 51, 52, 53, 54, 55, 56, 57, 143, 144, 145, 146, 147, 148, 149, 150, 151, 186, 187, 188, 189, 190, 191, 192] (by decide +kernel) (by decide +kernel)
set_option maxRecDepth 20000 in
theorem gX7_batchTime_X7_readyPlanner : GoodIn wsX7_batchTime (wsV RX7 320 RX7 yX7_readyPlanner wsX7_readyPlanner) := goodIn_app (goodIn_of _ (by decide +kernel)) ggX7_batchTime_X7_readyPlanner
set_option maxRecDepth 20000 in
theorem ggX7_batchTime_X2_timeWithout : GoodIn wsX7_batchTime wsX2_timeWithout := goodIn_r _ [61, 62, 63, 64, 16, 65, 66, 67, 30, 18, 19, 20, 21, 22, 23, 68, 69, 70, 71, 72, 73, 74, 75, 76, 77, 78, 79, 80, 81, 82, 83, 84, 85, 86, 87, 46, 88, 57, 89, 90, 53, 91, 92, 93, 94, 95, 96, 97, 98, 99, 100, 101, 102, 103, 104, 105, 106, 107, 108, 109, 110, 111, 54, 112, 113, 114, 115, 116, 117, 118, 119, 120, 121, 122, 123, 124, 125, 126, 127, 128, 129, 130, 29, 131, 132, 133, 134, 135, 136, 137, 138, 139, 140, 141, 142, 152, 153, 154, 155, 156, 157, 158, 159, 160, 161, 162, 163, 164, 165, 166, 167, 168, 169, 170, 171, 172, 173, 174, 175, 176, 193, 194, 195, 186, 187, 188, 189, 190, 191, 192, 177, 178, 179, 180, 181, 182, 183, 184, 185] (by decide +kernel) (by decide +kernel)
set_option maxRecDepth 20000 in
theorem gX7_batchTime_X2_timeWithout : GoodIn wsX7_batchTime (wsV RX7 358 RX2 yX2_timeWithout wsX2_timeWithout) := goodIn_app (goodIn_of _ (by decide +kernel)) ggX7_batchTime_X2_timeWithout
theorem dX7_batchTime_0 : decode cX7_batchTime 0 = .ok (.aload_n 0, 1) := by decide +kernel
theorem dX7_batchTime_1 : decode cX7_batchTime 1 = .ok (.iconst 1, 1) := by decide +kernel
theorem dX7_batchTime_2 : decode cX7_batchTime 2 = .ok (.invokevirtual 355, 3) := by decide +kernel
theorem dX7_batchTime_5 : decode cX7_batchTime 5 = .ok (.istore_n 1, 1) := by decide +kernel
theorem dX7_batchTime_6 : decode cX7_batchTime 6 = .ok (.iload_n 1, 1) := by decide +kernel
theorem dX7_batchTime_7 : decode cX7_batchTime 7 = .ok (.ifCond .eq 7, 3) := by decide +kernel
theorem dX7_batchTime_10 : decode cX7_batchTime 10 = .ok (.iload_n 1, 1) := by decide +kernel
theorem dX7_batchTime_11 : decode cX7_batchTime 11 = .ok (.goto 15, 3) := by decide +kernel
theorem dX7_batchTime_14 : decode cX7_batchTime 14 = .ok (.aload_n 0, 1) := by decide +kernel
theorem dX7_batchTime_15 : decode cX7_batchTime 15 = .ok (.invokevirtual 320, 3) := by decide +kernel
theorem dX7_batchTime_18 : decode cX7_batchTime 18 = .ok (.aload_n 0, 1) := by decide +kernel
theorem dX7_batchTime_19 : decode cX7_batchTime 19 = .ok (.getfield 19, 3) := by decide +kernel
theorem dX7_batchTime_22 : decode cX7_batchTime 22 = .ok (.iconst (-1), 1) := by decide +kernel
theorem dX7_batchTime_23 : decode cX7_batchTime 23 = .ok (.invokevirtual 358, 3) := by decide +kernel
theorem dX7_batchTime_26 : decode cX7_batchTime 26 = .ok (.ireturn, 1) := by decide +kernel
set_option maxRecDepth 20000 in
theorem ggX7_batchExchanges_X7_planBatch : GoodIn wsX7_batchExchanges wsX7_planBatch := goodIn_r _ [6, 7, 8, 9, 10, 5, 11, 12, 13, 14, 15, 16, 17, 18, 19, 20, 21, 22, 23, 24, 25, 26, 27, 28, 29, 30, 31, 32, 33, 34, 35, 36, 37, 38, 39, 40, 41, 42, 43, 44, 45, 46, 47, 48, 49, 50, 51, 52, 53, 54, 55, 56, 57, 58, 59, 60, 61, 62, 63, 64, 65, 66, 67, 68, 69, 70, 71, 72, 73, 74, 75, 76, 77, 78, 79, 80, 81, 82, 83, 84, 85, 86, 87, 88, 89, 90, 91, 92, 93, 94, 95, 96, 97, 98, 99, 100, 101, 102, 103, 104, 105, 106, 107, 108, 109, 110, 111, 112, 113, 114, 115, 116, 117, 118, 119, 120, 121, 122, 123, 124, 125, 126, 127, 128, 129, 130, 131, 132, 133, 134, 135, 136, 137, 138, 139, 140, 141, 142, 143, 144, 145, 146, 154, 155, 156, 157, 158, 159, 160, 161, 162, 163, 164, 165, 166, 167, 168, 169, 170, 171, 172, 173, 174, 175, 176, 177, 178, 179, 180, 181, 182, 183, 184, 185, 186, 187, 188, 189, 190, 191, 192, 193, 194, 195, 196, 147, 148, 149, 150, 151, 152, 153, 197, 198, 199] (by decide +kernel) (by decide +kernel)
set_option maxRecDepth 20000 in
theorem gX7_batchExchanges_X7_planBatch : GoodIn wsX7_batchExchanges (wsV RX7 317 RX7 yX7_planBatch wsX7_planBatch) := goodIn_app (goodIn_of _ (by decide +kernel)) ggX7_batchExchanges_X7_planBatch
set_option maxRecDepth 20000 in
theorem ggX7_batchExchanges_X7_readyPlanner : GoodIn wsX7_batchExchanges wsX7_readyPlanner := goodIn_r _ [47, 48, 49, 50, 51, 52, 53, 54, 55, 56, 57, 58, 59, 60, 61, 62, 154, 155, 156, 157, 158, 159, 160, 161, 162, 147, 148, 149, 150, 151, 152, 153] (by decide +kernel) (by decide +kernel)
set_option maxRecDepth 20000 in
theorem gX7_batchExchanges_X7_readyPlanner : GoodIn wsX7_batchExchanges (wsV RX7 320 RX7 yX7_readyPlanner wsX7_readyPlanner) := goodIn_app (goodIn_of _ (by decide +kernel)) ggX7_batchExchanges_X7_readyPlanner
theorem dX7_batchExchanges_0 : decode cX7_batchExchanges 0 = .ok (.aload_n 0, 1) := by decide +kernel
theorem dX7_batchExchanges_1 : decode cX7_batchExchanges 1 = .ok (.invokevirtual 317, 3) := by decide +kernel
theorem dX7_batchExchanges_4 : decode cX7_batchExchanges 4 = .ok (.istore_n 1, 1) := by decide +kernel
theorem dX7_batchExchanges_5 : decode cX7_batchExchanges 5 = .ok (.iload_n 1, 1) := by decide +kernel
theorem dX7_batchExchanges_6 : decode cX7_batchExchanges 6 = .ok (.ifCond .eq 7, 3) := by decide +kernel
theorem dX7_batchExchanges_9 : decode cX7_batchExchanges 9 = .ok (.iload_n 1, 1) := by decide +kernel
theorem dX7_batchExchanges_10 : decode cX7_batchExchanges 10 = .ok (.goto 10, 3) := by decide +kernel
theorem dX7_batchExchanges_13 : decode cX7_batchExchanges 13 = .ok (.aload_n 0, 1) := by decide +kernel
theorem dX7_batchExchanges_14 : decode cX7_batchExchanges 14 = .ok (.invokevirtual 320, 3) := by decide +kernel
theorem dX7_batchExchanges_17 : decode cX7_batchExchanges 17 = .ok (.getfield 327, 3) := by decide +kernel
theorem dX7_batchExchanges_20 : decode cX7_batchExchanges 20 = .ok (.ireturn, 1) := by decide +kernel
set_option maxRecDepth 20000 in
theorem ggX7_batchPlatter_X7_planBatch : GoodIn wsX7_batchPlatter wsX7_planBatch := goodIn_r _ [8, 9, 10, 11, 12, 7, 13, 14, 15, 16, 17, 18, 19, 20, 21, 22, 23, 24, 25, 26, 27, 28, 29, 30, 31, 32, 33, 34, 35, 36, 37, 38, 39, 40, 41, 42, 43, 44, 45, 46, 47, 48, 49, 50, 51, 52, 53, 54, 55, 56, 57, 58, 59, 60, 61, 62, 63, 64, 65, 66, 67, 68, 69, 70, 71, 72, 73, 74, 75, 76, 77, 78, 79, 80, 81, 82, 83, 84, 85, 86, 87, 88, 89, 90, 91, 92, 93, 94, 95, 96, 97, 98, 99, 100, 101, 102, 103, 104, 105, 106, 107, 108, 109, 110, 111, 112, 113, 114, 115, 116, 117, 118, 119, 120, 121, 122, 123, 124, 125, 126, 127, 128, 129, 130, 131, 132, 133, 134, 135, 136, 137, 138, 139, 140, 141, 142, 143, 144, 145, 146, 147, 148, 156, 157, 158, 159, 160, 161, 162, 163, 164, 165, 166, 167, 168, 169, 170, 171, 172, 173, 174, 175, 176, 177, 178, 179, 180, 181, 182, 183, 184, 185, 186, 187, 188, 189, 190, 191, 192, 193, 194, 195, 196, 197, 198, 149, 150, 151, 152, 153, 154, 155, 199, 200, 201] (by decide +kernel) (by decide +kernel)
set_option maxRecDepth 20000 in
theorem gX7_batchPlatter_X7_planBatch : GoodIn wsX7_batchPlatter (wsV RX7 317 RX7 yX7_planBatch wsX7_planBatch) := goodIn_app (goodIn_of _ (by decide +kernel)) ggX7_batchPlatter_X7_planBatch
set_option maxRecDepth 20000 in
theorem ggX7_batchPlatter_X7_readyPlanner : GoodIn wsX7_batchPlatter wsX7_readyPlanner := goodIn_r _ [49, 50, 51, 52, 53, 54, 55, 56, 57, 58, 59, 60, 61, 62, 63, 64, 156, 157, 158, 159, 160, 161, 162, 163, 164, 149, 150, 151, 152, 153, 154, 155] (by decide +kernel) (by decide +kernel)
set_option maxRecDepth 20000 in
theorem gX7_batchPlatter_X7_readyPlanner : GoodIn wsX7_batchPlatter (wsV RX7 320 RX7 yX7_readyPlanner wsX7_readyPlanner) := goodIn_app (goodIn_of _ (by decide +kernel)) ggX7_batchPlatter_X7_readyPlanner
theorem dX7_batchPlatter_0 : decode cX7_batchPlatter 0 = .ok (.aload_n 0, 1) := by decide +kernel
theorem dX7_batchPlatter_1 : decode cX7_batchPlatter 1 = .ok (.invokevirtual 317, 3) := by decide +kernel
theorem dX7_batchPlatter_4 : decode cX7_batchPlatter 4 = .ok (.istore_n 2, 1) := by decide +kernel
theorem dX7_batchPlatter_5 : decode cX7_batchPlatter 5 = .ok (.iload_n 2, 1) := by decide +kernel
theorem dX7_batchPlatter_6 : decode cX7_batchPlatter 6 = .ok (.ifCond .eq 5, 3) := by decide +kernel
theorem dX7_batchPlatter_9 : decode cX7_batchPlatter 9 = .ok (.iload_n 2, 1) := by decide +kernel
theorem dX7_batchPlatter_10 : decode cX7_batchPlatter 10 = .ok (.ireturn, 1) := by decide +kernel
theorem dX7_batchPlatter_11 : decode cX7_batchPlatter 11 = .ok (.aload_n 0, 1) := by decide +kernel
theorem dX7_batchPlatter_12 : decode cX7_batchPlatter 12 = .ok (.invokevirtual 320, 3) := by decide +kernel
theorem dX7_batchPlatter_15 : decode cX7_batchPlatter 15 = .ok (.astore_n 3, 1) := by decide +kernel
theorem dX7_batchPlatter_16 : decode cX7_batchPlatter 16 = .ok (.iload_n 1, 1) := by decide +kernel
theorem dX7_batchPlatter_17 : decode cX7_batchPlatter 17 = .ok (.ifCond .lt 11, 3) := by decide +kernel
theorem dX7_batchPlatter_20 : decode cX7_batchPlatter 20 = .ok (.iload_n 1, 1) := by decide +kernel
theorem dX7_batchPlatter_21 : decode cX7_batchPlatter 21 = .ok (.aload_n 3, 1) := by decide +kernel
theorem dX7_batchPlatter_22 : decode cX7_batchPlatter 22 = .ok (.getfield 327, 3) := by decide +kernel
theorem dX7_batchPlatter_25 : decode cX7_batchPlatter 25 = .ok (.if_icmp .lt 8, 3) := by decide +kernel
theorem dX7_batchPlatter_28 : decode cX7_batchPlatter 28 = .ok (.ldc 87, 2) := by decide +kernel
theorem dX7_batchPlatter_30 : decode cX7_batchPlatter 30 = .ok (.goto 9, 3) := by decide +kernel
theorem dX7_batchPlatter_33 : decode cX7_batchPlatter 33 = .ok (.aload_n 3, 1) := by decide +kernel
theorem dX7_batchPlatter_34 : decode cX7_batchPlatter 34 = .ok (.getfield 332, 3) := by decide +kernel
theorem dX7_batchPlatter_37 : decode cX7_batchPlatter 37 = .ok (.iload_n 1, 1) := by decide +kernel
theorem dX7_batchPlatter_38 : decode cX7_batchPlatter 38 = .ok (.iaload, 1) := by decide +kernel
theorem dX7_batchPlatter_39 : decode cX7_batchPlatter 39 = .ok (.ireturn, 1) := by decide +kernel
set_option maxRecDepth 20000 in
theorem ggX7_oneByOneTime_X7_batchProblem : GoodIn wsX7_oneByOneTime wsX7_batchProblem := goodIn_r _ [10, 2, 3, 11, 12, 13, 4, 14, 15, 16, 17, 18, 19, 20, 21, 22, 23, 24, 25, 26, 27, 28, 29, 30, 31, 32, 33, 34, 35, 36, 37, 38, 39, 40, 146, 147, 148, 149, 150, 151, 152, 153, 154, 155, 156, 157, 158, 159, 160, 161, 162, 163, 164, 165, 166, 167, 168, 169, 170, 171, 172, 173, 174, 175, 176, 177, 178, 179, 180, 181, 182, 183, 184, 185, 186, 187, 188] (by decide +kernel) (by decide +kernel)
set_option maxRecDepth 20000 in
theorem gX7_oneByOneTime_X7_batchProblem : GoodIn wsX7_oneByOneTime (wsV RX7 355 RX7 yX7_batchProblem wsX7_batchProblem) := goodIn_app (goodIn_of _ (by decide +kernel)) ggX7_oneByOneTime_X7_batchProblem
set_option maxRecDepth 20000 in
theorem ggX7_oneByOneTime_X4_copyFrom : GoodIn wsX7_oneByOneTime wsX4_copyFrom := goodIn_r _ [44, 45, 46, 47, 48, 49, 50, 51, 52, 53, 54, 31, 55, 56, 24, 25, 57, 58, 59, 60, 61, 62, 63, 64, 65, 66, 67, 68, 69, 70, 71, 72, 73, 74, 37, 75, 76, 77, 78, 79, 40, 39, 80, 81, 82, 83, 84, 85, 86, 87, 88, 89, 90, 91, 92, 93, 94, 95, 155, 156, 157, 158, 159, 160, 161, 162, 163, 164, 165, 166, 167, 168, 169, 170, 171, 172, 189, 190, 191, 180, 181, 182, 183, 184, 185, 186, 187, 188, 173, 174, 175, 176, 177, 178, 179] (by decide +kernel) (by decide +kernel)
set_option maxRecDepth 20000 in
theorem gX7_oneByOneTime_X4_copyFrom : GoodIn wsX7_oneByOneTime (wsV RX7 362 RX4 yX4_copyFrom wsX4_copyFrom) := goodIn_app (goodIn_of _ (by decide +kernel)) ggX7_oneByOneTime_X4_copyFrom
set_option maxRecDepth 20000 in
theorem ggX7_oneByOneTime_X4_readFile : GoodIn wsX7_oneByOneTime wsX4_readFile := goodIn_r _ [99, 32, 61, 20, 21, 22, 18, 23, 24, 25, 100, 101, 102, 103, 104, 105, 106, 107, 108, 109, 110, 111, 51, 52, 112, 113, 114, 115, 116, 53, 117, 118, 119, 120, 121, 63, 122, 60, 62, 123, 124, 125, 126, 46, 127, 128, 129, 130, 31, 131, 132, 133, 134, 135, 136, 137, 138, 139, 140, 141, 142, 143, 144, 145, 173, 174, 175, 176, 177, 178, 179, 155, 156, 157, 158, 159, 160, 161, 162, 163, 164, 165, 166, 167, 168, 169, 170, 171, 172, 189, 190, 191, 180, 181, 182, 183, 184, 185, 186, 187, 188] (by decide +kernel) (by decide +kernel)
set_option maxRecDepth 20000 in
theorem gX7_oneByOneTime_X4_readFile : GoodIn wsX7_oneByOneTime (wsV RX7 265 RX4 yX4_readFile wsX4_readFile) := goodIn_app (goodIn_of _ (by decide +kernel)) ggX7_oneByOneTime_X4_readFile
theorem dX7_oneByOneTime_0 : decode cX7_oneByOneTime 0 = .ok (.aload_n 0, 1) := by decide +kernel
theorem dX7_oneByOneTime_1 : decode cX7_oneByOneTime 1 = .ok (.iconst 1, 1) := by decide +kernel
theorem dX7_oneByOneTime_2 : decode cX7_oneByOneTime 2 = .ok (.invokevirtual 355, 3) := by decide +kernel
theorem dX7_oneByOneTime_5 : decode cX7_oneByOneTime 5 = .ok (.istore_n 1, 1) := by decide +kernel
theorem dX7_oneByOneTime_6 : decode cX7_oneByOneTime 6 = .ok (.iload_n 1, 1) := by decide +kernel
theorem dX7_oneByOneTime_7 : decode cX7_oneByOneTime 7 = .ok (.ifCond .eq 5, 3) := by decide +kernel
theorem dX7_oneByOneTime_10 : decode cX7_oneByOneTime 10 = .ok (.iload_n 1, 1) := by decide +kernel
theorem dX7_oneByOneTime_11 : decode cX7_oneByOneTime 11 = .ok (.ireturn, 1) := by decide +kernel
theorem dX7_oneByOneTime_12 : decode cX7_oneByOneTime 12 = .ok (.aload_n 0, 1) := by decide +kernel
theorem dX7_oneByOneTime_13 : decode cX7_oneByOneTime 13 = .ok (.getfield 23, 3) := by decide +kernel
theorem dX7_oneByOneTime_16 : decode cX7_oneByOneTime 16 = .ok (.aload_n 0, 1) := by decide +kernel
theorem dX7_oneByOneTime_17 : decode cX7_oneByOneTime 17 = .ok (.getfield 19, 3) := by decide +kernel
theorem dX7_oneByOneTime_20 : decode cX7_oneByOneTime 20 = .ok (.invokevirtual 362, 3) := by decide +kernel
theorem dX7_oneByOneTime_23 : decode cX7_oneByOneTime 23 = .ok (.iconst 0, 1) := by decide +kernel
theorem dX7_oneByOneTime_24 : decode cX7_oneByOneTime 24 = .ok (.istore_n 2, 1) := by decide +kernel
theorem dX7_oneByOneTime_25 : decode cX7_oneByOneTime 25 = .ok (.iload_n 2, 1) := by decide +kernel
theorem dX7_oneByOneTime_26 : decode cX7_oneByOneTime 26 = .ok (.aload_n 0, 1) := by decide +kernel
theorem dX7_oneByOneTime_27 : decode cX7_oneByOneTime 27 = .ok (.getfield 19, 3) := by decide +kernel
theorem dX7_oneByOneTime_30 : decode cX7_oneByOneTime 30 = .ok (.getfield 305, 3) := by decide +kernel
theorem dX7_oneByOneTime_33 : decode cX7_oneByOneTime 33 = .ok (.if_icmp .ge 25, 3) := by decide +kernel
theorem dX7_oneByOneTime_36 : decode cX7_oneByOneTime 36 = .ok (.aload_n 0, 1) := by decide +kernel
theorem dX7_oneByOneTime_37 : decode cX7_oneByOneTime 37 = .ok (.getfield 23, 3) := by decide +kernel
theorem dX7_oneByOneTime_40 : decode cX7_oneByOneTime 40 = .ok (.aload_n 0, 1) := by decide +kernel
theorem dX7_oneByOneTime_41 : decode cX7_oneByOneTime 41 = .ok (.getfield 19, 3) := by decide +kernel
theorem dX7_oneByOneTime_44 : decode cX7_oneByOneTime 44 = .ok (.getfield 308, 3) := by decide +kernel
theorem dX7_oneByOneTime_47 : decode cX7_oneByOneTime 47 = .ok (.iload_n 2, 1) := by decide +kernel
theorem dX7_oneByOneTime_48 : decode cX7_oneByOneTime 48 = .ok (.iaload, 1) := by decide +kernel
theorem dX7_oneByOneTime_49 : decode cX7_oneByOneTime 49 = .ok (.invokevirtual 265, 3) := by decide +kernel
theorem dX7_oneByOneTime_52 : decode cX7_oneByOneTime 52 = .ok (.iinc 2 1, 3) := by decide +kernel
theorem dX7_oneByOneTime_55 : decode cX7_oneByOneTime 55 = .ok (.goto (-30), 3) := by decide +kernel
theorem dX7_oneByOneTime_58 : decode cX7_oneByOneTime 58 = .ok (.aload_n 0, 1) := by decide +kernel
theorem dX7_oneByOneTime_59 : decode cX7_oneByOneTime 59 = .ok (.getfield 23, 3) := by decide +kernel
theorem dX7_oneByOneTime_62 : decode cX7_oneByOneTime 62 = .ok (.getfield 116, 3) := by decide +kernel
theorem dX7_oneByOneTime_65 : decode cX7_oneByOneTime 65 = .ok (.aload_n 0, 1) := by decide +kernel
theorem dX7_oneByOneTime_66 : decode cX7_oneByOneTime 66 = .ok (.getfield 19, 3) := by decide +kernel
theorem dX7_oneByOneTime_69 : decode cX7_oneByOneTime 69 = .ok (.getfield 116, 3) := by decide +kernel
theorem dX7_oneByOneTime_72 : decode cX7_oneByOneTime 72 = .ok (.isub, 1) := by decide +kernel
theorem dX7_oneByOneTime_73 : decode cX7_oneByOneTime 73 = .ok (.ireturn, 1) := by decide +kernel
set_option maxRecDepth 20000 in
theorem ggX7_leastTimeWithoutOne_X7_batchProblem : GoodIn wsX7_leastTimeWithoutOne wsX7_batchProblem := goodIn_r _ [12, 2, 3, 13, 14, 15, 16, 17, 18, 19, 20, 21, 22, 23, 24, 25, 26, 27, 28, 29, 30, 31, 32, 33, 34, 35, 36, 37, 38, 39, 40, 41, 42, 43, 145, 146, 147, 148, 149, 150, 151, 152, 153, 154, 155, 156, 157, 158, 159, 160, 161, 162, 163, 164, 165, 166, 167, 168, 169, 170, 171, 172, 173, 174, 175, 176, 177, 178, 179, 180, 181, 182, 183, 184, 185, 186, 187] (by decide +kernel) (by decide +kernel)
set_option maxRecDepth 20000 in
theorem gX7_leastTimeWithoutOne_X7_batchProblem : GoodIn wsX7_leastTimeWithoutOne (wsV RX7 355 RX7 yX7_batchProblem wsX7_batchProblem) := goodIn_app (goodIn_of _ (by decide +kernel)) ggX7_leastTimeWithoutOne_X7_batchProblem
set_option maxRecDepth 20000 in
theorem ggX7_leastTimeWithoutOne_X7_readyPlanner : GoodIn wsX7_leastTimeWithoutOne wsX7_readyPlanner := goodIn_r _ [47, 48, 49, 50, 51, 52, 53, 54, 55, 56, 57, 58, 59, 60, 61, 62, 145, 146, 147, 148, 149, 150, 151, 152, 153, 188, 189, 190, 191, 192, 193, 194] (by decide +kernel) (by decide +kernel)
set_option maxRecDepth 20000 in
theorem gX7_leastTimeWithoutOne_X7_readyPlanner : GoodIn wsX7_leastTimeWithoutOne (wsV RX7 320 RX7 yX7_readyPlanner wsX7_readyPlanner) := goodIn_app (goodIn_of _ (by decide +kernel)) ggX7_leastTimeWithoutOne_X7_readyPlanner
set_option maxRecDepth 20000 in
theorem ggX7_leastTimeWithoutOne_X2_timeWithout : GoodIn wsX7_leastTimeWithoutOne wsX2_timeWithout := goodIn_r _ [66, 67, 68, 69, 21, 70, 71, 72, 35, 23, 24, 25, 26, 27, 28, 73, 74, 75, 76, 77, 78, 79, 80, 81, 82, 83, 84, 85, 86, 87, 88, 89, 90, 91, 92, 51, 93, 62, 94, 95, 58, 96, 5, 6, 7, 97, 98, 99, 100, 101, 102, 103, 104, 105, 106, 107, 108, 109, 110, 111, 112, 113, 59, 114, 115, 116, 117, 118, 119, 120, 121, 122, 123, 124, 125, 126, 127, 128, 129, 130, 131, 132, 34, 133, 134, 135, 136, 137, 138, 139, 140, 141, 142, 143, 144, 154, 155, 156, 157, 158, 159, 160, 161, 162, 163, 164, 165, 166, 167, 168, 169, 170, 171, 172, 173, 174, 175, 176, 177, 178, 195, 196, 197, 188, 189, 190, 191, 192, 193, 194, 179, 180, 181, 182, 183, 184, 185, 186, 187] (by decide +kernel) (by decide +kernel)
set_option maxRecDepth 20000 in
theorem gX7_leastTimeWithoutOne_X2_timeWithout : GoodIn wsX7_leastTimeWithoutOne (wsV RX7 358 RX2 yX2_timeWithout wsX2_timeWithout) := goodIn_app (goodIn_of _ (by decide +kernel)) ggX7_leastTimeWithoutOne_X2_timeWithout
theorem dX7_leastTimeWithoutOne_0 : decode cX7_leastTimeWithoutOne 0 = .ok (.aload_n 0, 1) := by decide +kernel
theorem dX7_leastTimeWithoutOne_1 : decode cX7_leastTimeWithoutOne 1 = .ok (.iconst 2, 1) := by decide +kernel
theorem dX7_leastTimeWithoutOne_2 : decode cX7_leastTimeWithoutOne 2 = .ok (.invokevirtual 355, 3) := by decide +kernel
theorem dX7_leastTimeWithoutOne_5 : decode cX7_leastTimeWithoutOne 5 = .ok (.istore_n 1, 1) := by decide +kernel
theorem dX7_leastTimeWithoutOne_6 : decode cX7_leastTimeWithoutOne 6 = .ok (.iload_n 1, 1) := by decide +kernel
theorem dX7_leastTimeWithoutOne_7 : decode cX7_leastTimeWithoutOne 7 = .ok (.ifCond .eq 5, 3) := by decide +kernel
theorem dX7_leastTimeWithoutOne_10 : decode cX7_leastTimeWithoutOne 10 = .ok (.iload_n 1, 1) := by decide +kernel
theorem dX7_leastTimeWithoutOne_11 : decode cX7_leastTimeWithoutOne 11 = .ok (.ireturn, 1) := by decide +kernel
theorem dX7_leastTimeWithoutOne_12 : decode cX7_leastTimeWithoutOne 12 = .ok (.aload_n 0, 1) := by decide +kernel
theorem dX7_leastTimeWithoutOne_13 : decode cX7_leastTimeWithoutOne 13 = .ok (.invokevirtual 320, 3) := by decide +kernel
theorem dX7_leastTimeWithoutOne_16 : decode cX7_leastTimeWithoutOne 16 = .ok (.astore_n 2, 1) := by decide +kernel
theorem dX7_leastTimeWithoutOne_17 : decode cX7_leastTimeWithoutOne 17 = .ok (.ldc_w 367, 3) := by decide +kernel
theorem dX7_leastTimeWithoutOne_20 : decode cX7_leastTimeWithoutOne 20 = .ok (.istore_n 3, 1) := by decide +kernel
theorem dX7_leastTimeWithoutOne_21 : decode cX7_leastTimeWithoutOne 21 = .ok (.iconst 0, 1) := by decide +kernel
theorem dX7_leastTimeWithoutOne_22 : decode cX7_leastTimeWithoutOne 22 = .ok (.istore 4, 2) := by decide +kernel
theorem dX7_leastTimeWithoutOne_24 : decode cX7_leastTimeWithoutOne 24 = .ok (.iload 4, 2) := by decide +kernel
theorem dX7_leastTimeWithoutOne_26 : decode cX7_leastTimeWithoutOne 26 = .ok (.aload_n 0, 1) := by decide +kernel
theorem dX7_leastTimeWithoutOne_27 : decode cX7_leastTimeWithoutOne 27 = .ok (.getfield 19, 3) := by decide +kernel
theorem dX7_leastTimeWithoutOne_30 : decode cX7_leastTimeWithoutOne 30 = .ok (.getfield 305, 3) := by decide +kernel
theorem dX7_leastTimeWithoutOne_33 : decode cX7_leastTimeWithoutOne 33 = .ok (.if_icmp .ge 24, 3) := by decide +kernel
theorem dX7_leastTimeWithoutOne_36 : decode cX7_leastTimeWithoutOne 36 = .ok (.iload_n 3, 1) := by decide +kernel
theorem dX7_leastTimeWithoutOne_37 : decode cX7_leastTimeWithoutOne 37 = .ok (.aload_n 2, 1) := by decide +kernel
theorem dX7_leastTimeWithoutOne_38 : decode cX7_leastTimeWithoutOne 38 = .ok (.aload_n 0, 1) := by decide +kernel
theorem dX7_leastTimeWithoutOne_39 : decode cX7_leastTimeWithoutOne 39 = .ok (.getfield 19, 3) := by decide +kernel
theorem dX7_leastTimeWithoutOne_42 : decode cX7_leastTimeWithoutOne 42 = .ok (.iload 4, 2) := by decide +kernel
theorem dX7_leastTimeWithoutOne_44 : decode cX7_leastTimeWithoutOne 44 = .ok (.invokevirtual 358, 3) := by decide +kernel
theorem dX7_leastTimeWithoutOne_47 : decode cX7_leastTimeWithoutOne 47 = .ok (.invokestatic 368, 3) := by decide +kernel
theorem dX7_leastTimeWithoutOne_50 : decode cX7_leastTimeWithoutOne 50 = .ok (.istore_n 3, 1) := by decide +kernel
theorem dX7_leastTimeWithoutOne_51 : decode cX7_leastTimeWithoutOne 51 = .ok (.iinc 4 1, 3) := by decide +kernel
theorem dX7_leastTimeWithoutOne_54 : decode cX7_leastTimeWithoutOne 54 = .ok (.goto (-30), 3) := by decide +kernel
theorem dX7_leastTimeWithoutOne_57 : decode cX7_leastTimeWithoutOne 57 = .ok (.iload_n 3, 1) := by decide +kernel
theorem dX7_leastTimeWithoutOne_58 : decode cX7_leastTimeWithoutOne 58 = .ok (.ireturn, 1) := by decide +kernel
set_option maxRecDepth 20000 in
theorem ggX7_batchProblem_X4_isReadable : GoodIn wsX7_batchProblem wsX4_isReadable := goodIn_r _ [12, 13, 14, 15, 11, 16, 17, 18, 19, 20, 21, 22, 23, 24, 25, 26, 27, 28, 29, 30, 31, 32, 33, 43, 44, 45, 46, 47, 48, 49, 50, 51, 52, 53, 54, 55, 56, 57, 58, 59, 60, 61, 62, 63, 64, 65, 66, 67, 68, 69, 70, 71, 72, 73, 74, 75, 76] (by decide +kernel) (by decide +kernel)
set_option maxRecDepth 20000 in
theorem gX7_batchProblem_X4_isReadable : GoodIn wsX7_batchProblem (wsV RX7 229 RX4 yX4_isReadable wsX4_isReadable) := goodIn_app (goodIn_of _ (by decide +kernel)) ggX7_batchProblem_X4_isReadable
theorem dX7_batchProblem_0 : decode cX7_batchProblem 0 = .ok (.aload_n 0, 1) := by decide +kernel
theorem dX7_batchProblem_1 : decode cX7_batchProblem 1 = .ok (.getfield 19, 3) := by decide +kernel
theorem dX7_batchProblem_4 : decode cX7_batchProblem 4 = .ok (.getfield 305, 3) := by decide +kernel
theorem dX7_batchProblem_7 : decode cX7_batchProblem 7 = .ok (.iload_n 1, 1) := by decide +kernel
theorem dX7_batchProblem_8 : decode cX7_batchProblem 8 = .ok (.if_icmp .ge 6, 3) := by decide +kernel
theorem dX7_batchProblem_11 : decode cX7_batchProblem 11 = .ok (.ldc 73, 2) := by decide +kernel
theorem dX7_batchProblem_13 : decode cX7_batchProblem 13 = .ok (.ireturn, 1) := by decide +kernel
theorem dX7_batchProblem_14 : decode cX7_batchProblem 14 = .ok (.aload_n 0, 1) := by decide +kernel
theorem dX7_batchProblem_15 : decode cX7_batchProblem 15 = .ok (.getfield 19, 3) := by decide +kernel
theorem dX7_batchProblem_18 : decode cX7_batchProblem 18 = .ok (.getfield 134, 3) := by decide +kernel
theorem dX7_batchProblem_21 : decode cX7_batchProblem 21 = .ok (.ifCond .ne 6, 3) := by decide +kernel
theorem dX7_batchProblem_24 : decode cX7_batchProblem 24 = .ok (.ldc 137, 2) := by decide +kernel
theorem dX7_batchProblem_26 : decode cX7_batchProblem 26 = .ok (.ireturn, 1) := by decide +kernel
theorem dX7_batchProblem_27 : decode cX7_batchProblem 27 = .ok (.iconst 0, 1) := by decide +kernel
theorem dX7_batchProblem_28 : decode cX7_batchProblem 28 = .ok (.istore_n 2, 1) := by decide +kernel
theorem dX7_batchProblem_29 : decode cX7_batchProblem 29 = .ok (.iload_n 2, 1) := by decide +kernel
theorem dX7_batchProblem_30 : decode cX7_batchProblem 30 = .ok (.aload_n 0, 1) := by decide +kernel
theorem dX7_batchProblem_31 : decode cX7_batchProblem 31 = .ok (.getfield 19, 3) := by decide +kernel
theorem dX7_batchProblem_34 : decode cX7_batchProblem 34 = .ok (.getfield 305, 3) := by decide +kernel
theorem dX7_batchProblem_37 : decode cX7_batchProblem 37 = .ok (.if_icmp .ge 31, 3) := by decide +kernel
theorem dX7_batchProblem_40 : decode cX7_batchProblem 40 = .ok (.aload_n 0, 1) := by decide +kernel
theorem dX7_batchProblem_41 : decode cX7_batchProblem 41 = .ok (.getfield 19, 3) := by decide +kernel
theorem dX7_batchProblem_44 : decode cX7_batchProblem 44 = .ok (.aload_n 0, 1) := by decide +kernel
theorem dX7_batchProblem_45 : decode cX7_batchProblem 45 = .ok (.getfield 19, 3) := by decide +kernel
theorem dX7_batchProblem_48 : decode cX7_batchProblem 48 = .ok (.getfield 308, 3) := by decide +kernel
theorem dX7_batchProblem_51 : decode cX7_batchProblem 51 = .ok (.iload_n 2, 1) := by decide +kernel
theorem dX7_batchProblem_52 : decode cX7_batchProblem 52 = .ok (.iaload, 1) := by decide +kernel
theorem dX7_batchProblem_53 : decode cX7_batchProblem 53 = .ok (.invokevirtual 229, 3) := by decide +kernel
theorem dX7_batchProblem_56 : decode cX7_batchProblem 56 = .ok (.ifCond .ne 6, 3) := by decide +kernel
theorem dX7_batchProblem_59 : decode cX7_batchProblem 59 = .ok (.ldc 239, 2) := by decide +kernel
theorem dX7_batchProblem_61 : decode cX7_batchProblem 61 = .ok (.ireturn, 1) := by decide +kernel
theorem dX7_batchProblem_62 : decode cX7_batchProblem 62 = .ok (.iinc 2 1, 3) := by decide +kernel
theorem dX7_batchProblem_65 : decode cX7_batchProblem 65 = .ok (.goto (-36), 3) := by decide +kernel
theorem dX7_batchProblem_68 : decode cX7_batchProblem 68 = .ok (.iconst 0, 1) := by decide +kernel
theorem dX7_batchProblem_69 : decode cX7_batchProblem 69 = .ok (.ireturn, 1) := by decide +kernel
set_option maxRecDepth 20000 in
theorem ggX7_planBatch_X7_batchProblem : GoodIn wsX7_planBatch wsX7_batchProblem := goodIn_r _ [6, 1, 7, 8, 9, 10, 11, 12, 13, 14, 15, 16, 17, 18, 19, 20, 21, 22, 23, 24, 25, 26, 27, 28, 29, 30, 31, 32, 33, 34, 35, 36, 37, 38, 142, 143, 144, 145, 146, 147, 148, 149, 150, 151, 152, 153, 154, 155, 156, 157, 158, 159, 160, 161, 162, 163, 164, 165, 166, 167, 168, 169, 170, 171, 172, 173, 174, 175, 176, 177, 178, 179, 180, 181, 182, 183, 184] (by decide +kernel) (by decide +kernel)
set_option maxRecDepth 20000 in
theorem gX7_planBatch_X7_batchProblem : GoodIn wsX7_planBatch (wsV RX7 355 RX7 yX7_batchProblem wsX7_batchProblem) := goodIn_app (goodIn_of _ (by decide +kernel)) ggX7_planBatch_X7_batchProblem
set_option maxRecDepth 20000 in
theorem ggX7_planBatch_X7_readyPlanner : GoodIn wsX7_planBatch wsX7_readyPlanner := goodIn_r _ [42, 43, 44, 45, 46, 47, 48, 49, 50, 51, 52, 53, 54, 55, 56, 57, 142, 143, 144, 145, 146, 147, 148, 149, 150, 185, 186, 187, 188, 189, 190, 191] (by decide +kernel) (by decide +kernel)
set_option maxRecDepth 20000 in
theorem gX7_planBatch_X7_readyPlanner : GoodIn wsX7_planBatch (wsV RX7 320 RX7 yX7_readyPlanner wsX7_readyPlanner) := goodIn_app (goodIn_of _ (by decide +kernel)) ggX7_planBatch_X7_readyPlanner
set_option maxRecDepth 20000 in
theorem ggX7_planBatch_X2_planOrder : GoodIn wsX7_planBatch wsX2_planOrder := goodIn_r _ [61, 56, 62, 53, 55, 63, 64, 65, 16, 66, 67, 68, 30, 18, 19, 20, 21, 22, 23, 69, 70, 71, 72, 73, 74, 75, 76, 77, 78, 79, 80, 81, 82, 83, 84, 85, 86, 87, 88, 89, 90, 91, 92, 46, 93, 57, 94, 95, 96, 97, 98, 99, 100, 101, 102, 103, 104, 105, 106, 107, 108, 109, 110, 111, 112, 54, 113, 114, 115, 116, 117, 118, 119, 120, 121, 122, 123, 124, 125, 126, 127, 128, 129, 130, 131, 29, 132, 133, 134, 135, 136, 137, 138, 139, 140, 141, 185, 186, 187, 188, 189, 190, 191, 151, 152, 153, 154, 155, 156, 157, 158, 159, 160, 161, 162, 163, 164, 165, 166, 167, 168, 169, 170, 171, 172, 173, 174, 175, 192, 193, 194, 176, 177, 178, 179, 180, 181, 182, 183, 184] (by decide +kernel) (by decide +kernel)
set_option maxRecDepth 20000 in
theorem gX7_planBatch_X2_planOrder : GoodIn wsX7_planBatch (wsV RX7 373 RX2 yX2_planOrder wsX2_planOrder) := goodIn_app (goodIn_of _ (by decide +kernel)) ggX7_planBatch_X2_planOrder
theorem dX7_planBatch_0 : decode cX7_planBatch 0 = .ok (.aload_n 0, 1) := by decide +kernel
theorem dX7_planBatch_1 : decode cX7_planBatch 1 = .ok (.iconst 1, 1) := by decide +kernel
theorem dX7_planBatch_2 : decode cX7_planBatch 2 = .ok (.invokevirtual 355, 3) := by decide +kernel
theorem dX7_planBatch_5 : decode cX7_planBatch 5 = .ok (.istore_n 1, 1) := by decide +kernel
theorem dX7_planBatch_6 : decode cX7_planBatch 6 = .ok (.iload_n 1, 1) := by decide +kernel
theorem dX7_planBatch_7 : decode cX7_planBatch 7 = .ok (.ifCond .ne 14, 3) := by decide +kernel
theorem dX7_planBatch_10 : decode cX7_planBatch 10 = .ok (.aload_n 0, 1) := by decide +kernel
theorem dX7_planBatch_11 : decode cX7_planBatch 11 = .ok (.invokevirtual 320, 3) := by decide +kernel
theorem dX7_planBatch_14 : decode cX7_planBatch 14 = .ok (.aload_n 0, 1) := by decide +kernel
theorem dX7_planBatch_15 : decode cX7_planBatch 15 = .ok (.getfield 19, 3) := by decide +kernel
theorem dX7_planBatch_18 : decode cX7_planBatch 18 = .ok (.invokevirtual 373, 3) := by decide +kernel
theorem dX7_planBatch_21 : decode cX7_planBatch 21 = .ok (.iload_n 1, 1) := by decide +kernel
theorem dX7_planBatch_22 : decode cX7_planBatch 22 = .ok (.ireturn, 1) := by decide +kernel
set_option maxRecDepth 20000 in
theorem ggX7_readyPlanner_X2_init : GoodIn wsX7_readyPlanner wsX2_init := goodIn_r _ [6, 7, 8, 9, 10, 11, 12, 13, 14, 15, 25, 26, 27, 28, 29, 30, 31] (by decide +kernel) (by decide +kernel)
set_option maxRecDepth 20000 in
theorem gX7_readyPlanner_X2_init_n380 : GoodIn wsX7_readyPlanner (wsX2_init) := ggX7_readyPlanner_X2_init
theorem dX7_readyPlanner_0 : decode cX7_readyPlanner 0 = .ok (.aload_n 0, 1) := by decide +kernel
theorem dX7_readyPlanner_1 : decode cX7_readyPlanner 1 = .ok (.getfield 376, 3) := by decide +kernel
theorem dX7_readyPlanner_4 : decode cX7_readyPlanner 4 = .ok (.ifnonnull 14, 3) := by decide +kernel
theorem dX7_readyPlanner_7 : decode cX7_readyPlanner 7 = .ok (.aload_n 0, 1) := by decide +kernel
theorem dX7_readyPlanner_8 : decode cX7_readyPlanner 8 = .ok (.new 328, 3) := by decide +kernel
theorem dX7_readyPlanner_11 : decode cX7_readyPlanner 11 = .ok (.dup, 1) := by decide +kernel
theorem dX7_readyPlanner_12 : decode cX7_readyPlanner 12 = .ok (.invokespecial 380, 3) := by decide +kernel
theorem dX7_readyPlanner_15 : decode cX7_readyPlanner 15 = .ok (.putfield 376, 3) := by decide +kernel
theorem dX7_readyPlanner_18 : decode cX7_readyPlanner 18 = .ok (.aload_n 0, 1) := by decide +kernel
theorem dX7_readyPlanner_19 : decode cX7_readyPlanner 19 = .ok (.getfield 376, 3) := by decide +kernel
theorem dX7_readyPlanner_22 : decode cX7_readyPlanner 22 = .ok (.areturn, 1) := by decide +kernel
set_option maxRecDepth 20000 in
theorem ggX7_forgetPlan_X2_forgetTable : GoodIn wsX7_forgetPlan wsX2_forgetTable := goodIn_r _ [6, 7, 17, 18, 19, 20, 21, 22, 23] (by decide +kernel) (by decide +kernel)
set_option maxRecDepth 20000 in
theorem gX7_forgetPlan_X2_forgetTable : GoodIn wsX7_forgetPlan (wsV RX7 381 RX2 yX2_forgetTable wsX2_forgetTable) := goodIn_app (goodIn_of _ (by decide +kernel)) ggX7_forgetPlan_X2_forgetTable
theorem dX7_forgetPlan_0 : decode cX7_forgetPlan 0 = .ok (.aload_n 0, 1) := by decide +kernel
theorem dX7_forgetPlan_1 : decode cX7_forgetPlan 1 = .ok (.getfield 376, 3) := by decide +kernel
theorem dX7_forgetPlan_4 : decode cX7_forgetPlan 4 = .ok (.ifnull 10, 3) := by decide +kernel
theorem dX7_forgetPlan_7 : decode cX7_forgetPlan 7 = .ok (.aload_n 0, 1) := by decide +kernel
theorem dX7_forgetPlan_8 : decode cX7_forgetPlan 8 = .ok (.getfield 376, 3) := by decide +kernel
theorem dX7_forgetPlan_11 : decode cX7_forgetPlan 11 = .ok (.invokevirtual 381, 3) := by decide +kernel
theorem dX7_forgetPlan_14 : decode cX7_forgetPlan 14 = .ok (.return_, 1) := by decide +kernel
set_option maxRecDepth 20000 in
theorem ggX7_nearestHome_X7_mountProblem : GoodIn wsX7_nearestHome wsX7_mountProblem := goodIn_r _ [7, 1, 8, 9, 10, 11, 12, 13, 14, 15, 16, 41, 42, 43, 44, 45, 46, 47, 48, 49, 50, 51, 52, 53, 54, 55, 56, 57, 58, 59, 60, 61, 62, 63, 64, 65, 66, 67] (by decide +kernel) (by decide +kernel)
set_option maxRecDepth 20000 in
theorem gX7_nearestHome_X7_mountProblem : GoodIn wsX7_nearestHome (wsV RX7 125 RX7 yX7_mountProblem wsX7_mountProblem) := goodIn_app (goodIn_of _ (by decide +kernel)) ggX7_nearestHome_X7_mountProblem
set_option maxRecDepth 20000 in
theorem ggX7_nearestHome_X4_platterWithHome : GoodIn wsX7_nearestHome wsX4_platterWithHome := goodIn_r _ [20, 16, 21, 22, 50, 51, 52, 53, 54, 55, 56, 57, 58, 59, 60, 61, 62, 63, 64, 65, 66, 67, 68, 69, 70, 71, 72, 73, 74, 75, 76] (by decide +kernel) (by decide +kernel)
set_option maxRecDepth 20000 in
theorem gX7_nearestHome_X4_platterWithHome : GoodIn wsX7_nearestHome (wsV RX7 91 RX4 yX4_platterWithHome wsX4_platterWithHome) := goodIn_app (goodIn_of _ (by decide +kernel)) ggX7_nearestHome_X4_platterWithHome
set_option maxRecDepth 20000 in
theorem ggX7_nearestHome_X4_distanceToDrive : GoodIn wsX7_nearestHome wsX4_distanceToDrive := goodIn_r _ [26, 27, 28, 29, 30, 31, 32, 33, 34, 35, 36, 50, 51, 52, 53, 54, 55, 56, 57, 58, 59, 60, 61, 62, 63, 64, 65, 66, 67, 77, 78, 79] (by decide +kernel) (by decide +kernel)
set_option maxRecDepth 20000 in
theorem gX7_nearestHome_X4_distanceToDrive : GoodIn wsX7_nearestHome (wsV RX7 387 RX4 yX4_distanceToDrive wsX4_distanceToDrive) := goodIn_app (goodIn_of _ (by decide +kernel)) ggX7_nearestHome_X4_distanceToDrive
set_option maxRecDepth 20000 in
theorem ggX7_nearestHome_X7_foundOrNot : GoodIn wsX7_nearestHome wsX7_foundOrNot := goodIn_r _ [39, 40] (by decide +kernel) (by decide +kernel)
set_option maxRecDepth 20000 in
theorem gX7_nearestHome_X7_foundOrNot : GoodIn wsX7_nearestHome (va_wsS RX7 98 yX7_foundOrNot wsX7_foundOrNot) := goodIn_app (goodIn_of _ (by decide +kernel)) ggX7_nearestHome_X7_foundOrNot
theorem dX7_nearestHome_0 : decode cX7_nearestHome 0 = .ok (.aload_n 0, 1) := by decide +kernel
theorem dX7_nearestHome_1 : decode cX7_nearestHome 1 = .ok (.iload_n 1, 1) := by decide +kernel
theorem dX7_nearestHome_2 : decode cX7_nearestHome 2 = .ok (.invokevirtual 125, 3) := by decide +kernel
theorem dX7_nearestHome_5 : decode cX7_nearestHome 5 = .ok (.istore_n 2, 1) := by decide +kernel
theorem dX7_nearestHome_6 : decode cX7_nearestHome 6 = .ok (.iload_n 2, 1) := by decide +kernel
theorem dX7_nearestHome_7 : decode cX7_nearestHome 7 = .ok (.ifCond .eq 5, 3) := by decide +kernel
theorem dX7_nearestHome_10 : decode cX7_nearestHome 10 = .ok (.iload_n 2, 1) := by decide +kernel
theorem dX7_nearestHome_11 : decode cX7_nearestHome 11 = .ok (.ireturn, 1) := by decide +kernel
theorem dX7_nearestHome_12 : decode cX7_nearestHome 12 = .ok (.iconst (-1), 1) := by decide +kernel
theorem dX7_nearestHome_13 : decode cX7_nearestHome 13 = .ok (.istore_n 3, 1) := by decide +kernel
theorem dX7_nearestHome_14 : decode cX7_nearestHome 14 = .ok (.iconst 0, 1) := by decide +kernel
theorem dX7_nearestHome_15 : decode cX7_nearestHome 15 = .ok (.istore 4, 2) := by decide +kernel
theorem dX7_nearestHome_17 : decode cX7_nearestHome 17 = .ok (.iconst 0, 1) := by decide +kernel
theorem dX7_nearestHome_18 : decode cX7_nearestHome 18 = .ok (.istore 5, 2) := by decide +kernel
theorem dX7_nearestHome_20 : decode cX7_nearestHome 20 = .ok (.iload 5, 2) := by decide +kernel
theorem dX7_nearestHome_22 : decode cX7_nearestHome 22 = .ok (.aload_n 0, 1) := by decide +kernel
theorem dX7_nearestHome_23 : decode cX7_nearestHome 23 = .ok (.getfield 19, 3) := by decide +kernel
theorem dX7_nearestHome_26 : decode cX7_nearestHome 26 = .ok (.getfield 384, 3) := by decide +kernel
theorem dX7_nearestHome_29 : decode cX7_nearestHome 29 = .ok (.if_icmp .ge 62, 3) := by decide +kernel
theorem dX7_nearestHome_32 : decode cX7_nearestHome 32 = .ok (.aload_n 0, 1) := by decide +kernel
theorem dX7_nearestHome_33 : decode cX7_nearestHome 33 = .ok (.getfield 19, 3) := by decide +kernel
theorem dX7_nearestHome_36 : decode cX7_nearestHome 36 = .ok (.iload 5, 2) := by decide +kernel
theorem dX7_nearestHome_38 : decode cX7_nearestHome 38 = .ok (.invokevirtual 91, 3) := by decide +kernel
theorem dX7_nearestHome_41 : decode cX7_nearestHome 41 = .ok (.istore 6, 2) := by decide +kernel
theorem dX7_nearestHome_43 : decode cX7_nearestHome 43 = .ok (.aload_n 0, 1) := by decide +kernel
theorem dX7_nearestHome_44 : decode cX7_nearestHome 44 = .ok (.getfield 19, 3) := by decide +kernel
theorem dX7_nearestHome_47 : decode cX7_nearestHome 47 = .ok (.iload 5, 2) := by decide +kernel
theorem dX7_nearestHome_49 : decode cX7_nearestHome 49 = .ok (.invokevirtual 387, 3) := by decide +kernel
theorem dX7_nearestHome_52 : decode cX7_nearestHome 52 = .ok (.istore 7, 2) := by decide +kernel
theorem dX7_nearestHome_54 : decode cX7_nearestHome 54 = .ok (.iload 6, 2) := by decide +kernel
theorem dX7_nearestHome_56 : decode cX7_nearestHome 56 = .ok (.iconst (-1), 1) := by decide +kernel
theorem dX7_nearestHome_57 : decode cX7_nearestHome 57 = .ok (.if_icmp .eq 9, 3) := by decide +kernel
theorem dX7_nearestHome_60 : decode cX7_nearestHome 60 = .ok (.iload 6, 2) := by decide +kernel
theorem dX7_nearestHome_62 : decode cX7_nearestHome 62 = .ok (.iload_n 1, 1) := by decide +kernel
theorem dX7_nearestHome_63 : decode cX7_nearestHome 63 = .ok (.if_icmp .ne 22, 3) := by decide +kernel
theorem dX7_nearestHome_66 : decode cX7_nearestHome 66 = .ok (.iload_n 3, 1) := by decide +kernel
theorem dX7_nearestHome_67 : decode cX7_nearestHome 67 = .ok (.iconst (-1), 1) := by decide +kernel
theorem dX7_nearestHome_68 : decode cX7_nearestHome 68 = .ok (.if_icmp .eq 10, 3) := by decide +kernel
theorem dX7_nearestHome_71 : decode cX7_nearestHome 71 = .ok (.iload 7, 2) := by decide +kernel
theorem dX7_nearestHome_73 : decode cX7_nearestHome 73 = .ok (.iload 4, 2) := by decide +kernel
theorem dX7_nearestHome_75 : decode cX7_nearestHome 75 = .ok (.if_icmp .ge 10, 3) := by decide +kernel
theorem dX7_nearestHome_78 : decode cX7_nearestHome 78 = .ok (.iload 5, 2) := by decide +kernel
theorem dX7_nearestHome_80 : decode cX7_nearestHome 80 = .ok (.istore_n 3, 1) := by decide +kernel
theorem dX7_nearestHome_81 : decode cX7_nearestHome 81 = .ok (.iload 7, 2) := by decide +kernel
theorem dX7_nearestHome_83 : decode cX7_nearestHome 83 = .ok (.istore 4, 2) := by decide +kernel
theorem dX7_nearestHome_85 : decode cX7_nearestHome 85 = .ok (.iinc 5 1, 3) := by decide +kernel
theorem dX7_nearestHome_88 : decode cX7_nearestHome 88 = .ok (.goto (-68), 3) := by decide +kernel
theorem dX7_nearestHome_91 : decode cX7_nearestHome 91 = .ok (.iload_n 3, 1) := by decide +kernel
theorem dX7_nearestHome_92 : decode cX7_nearestHome 92 = .ok (.invokestatic 98, 3) := by decide +kernel
theorem dX7_nearestHome_95 : decode cX7_nearestHome 95 = .ok (.ireturn, 1) := by decide +kernel
set_option maxRecDepth 20000 in
theorem ggX7_writeCatalogue_X4_currentVersion : GoodIn wsX7_writeCatalogue wsX4_currentVersion := goodIn_r _ [11, 12, 13, 53, 54, 55, 56, 57, 58, 59, 60, 61, 62, 63, 64, 65, 66, 67, 68, 69, 70] (by decide +kernel) (by decide +kernel)
set_option maxRecDepth 20000 in
theorem gX7_writeCatalogue_X4_currentVersion : GoodIn wsX7_writeCatalogue (wsV RX7 207 RX4 yX4_currentVersion wsX4_currentVersion) := goodIn_app (goodIn_of _ (by decide +kernel)) ggX7_writeCatalogue_X4_currentVersion
set_option maxRecDepth 20000 in
theorem ggX7_writeCatalogue_X7_putNumber : GoodIn wsX7_writeCatalogue wsX7_putNumber := goodIn_r _ [18, 19, 20, 21, 17, 22, 1, 23, 44, 45, 46, 47, 48, 49, 50, 51, 52] (by decide +kernel) (by decide +kernel)
set_option maxRecDepth 20000 in
theorem gX7_writeCatalogue_X7_putNumber : GoodIn wsX7_writeCatalogue (wsV RX7 393 RX7 yX7_putNumber wsX7_putNumber) := goodIn_app (goodIn_of _ (by decide +kernel)) ggX7_writeCatalogue_X7_putNumber
set_option maxRecDepth 20000 in
theorem ggX7_writeCatalogue_X7_putByte : GoodIn wsX7_writeCatalogue wsX7_putByte := goodIn_r _ [22, 1, 23, 44, 45, 46, 47, 48, 49, 50, 51, 52] (by decide +kernel) (by decide +kernel)
set_option maxRecDepth 20000 in
theorem gX7_writeCatalogue_X7_putByte : GoodIn wsX7_writeCatalogue (wsV RX7 396 RX7 yX7_putByte wsX7_putByte) := goodIn_app (goodIn_of _ (by decide +kernel)) ggX7_writeCatalogue_X7_putByte
set_option maxRecDepth 20000 in
theorem ggX7_writeCatalogue_X4_isReadable : GoodIn wsX7_writeCatalogue wsX4_isReadable := goodIn_r _ [27, 28, 8, 9, 10, 11, 12, 13, 29, 30, 31, 32, 33, 34, 35, 36, 37, 38, 39, 40, 41, 42, 43, 53, 54, 55, 56, 57, 58, 59, 60, 61, 62, 63, 64, 65, 66, 67, 68, 69, 70, 71, 72, 73, 74, 75, 76, 77, 78, 79, 80, 81, 82, 83, 84, 85, 86] (by decide +kernel) (by decide +kernel)
set_option maxRecDepth 20000 in
theorem gX7_writeCatalogue_X4_isReadable : GoodIn wsX7_writeCatalogue (wsV RX7 229 RX4 yX4_isReadable wsX4_isReadable) := goodIn_app (goodIn_of _ (by decide +kernel)) ggX7_writeCatalogue_X4_isReadable
theorem dX7_writeCatalogue_0 : decode cX7_writeCatalogue 0 = .ok (.aload_n 0, 1) := by decide +kernel
theorem dX7_writeCatalogue_1 : decode cX7_writeCatalogue 1 = .ok (.iconst 0, 1) := by decide +kernel
theorem dX7_writeCatalogue_2 : decode cX7_writeCatalogue 2 = .ok (.putfield 390, 3) := by decide +kernel
theorem dX7_writeCatalogue_5 : decode cX7_writeCatalogue 5 = .ok (.iconst 0, 1) := by decide +kernel
theorem dX7_writeCatalogue_6 : decode cX7_writeCatalogue 6 = .ok (.istore_n 1, 1) := by decide +kernel
theorem dX7_writeCatalogue_7 : decode cX7_writeCatalogue 7 = .ok (.iload_n 1, 1) := by decide +kernel
theorem dX7_writeCatalogue_8 : decode cX7_writeCatalogue 8 = .ok (.aload_n 0, 1) := by decide +kernel
theorem dX7_writeCatalogue_9 : decode cX7_writeCatalogue 9 = .ok (.getfield 19, 3) := by decide +kernel
theorem dX7_writeCatalogue_12 : decode cX7_writeCatalogue 12 = .ok (.getfield 70, 3) := by decide +kernel
theorem dX7_writeCatalogue_15 : decode cX7_writeCatalogue 15 = .ok (.if_icmp .ge 88, 3) := by decide +kernel
theorem dX7_writeCatalogue_18 : decode cX7_writeCatalogue 18 = .ok (.aload_n 0, 1) := by decide +kernel
theorem dX7_writeCatalogue_19 : decode cX7_writeCatalogue 19 = .ok (.getfield 19, 3) := by decide +kernel
theorem dX7_writeCatalogue_22 : decode cX7_writeCatalogue 22 = .ok (.iload_n 1, 1) := by decide +kernel
theorem dX7_writeCatalogue_23 : decode cX7_writeCatalogue 23 = .ok (.invokevirtual 207, 3) := by decide +kernel
theorem dX7_writeCatalogue_26 : decode cX7_writeCatalogue 26 = .ok (.astore_n 2, 1) := by decide +kernel
theorem dX7_writeCatalogue_27 : decode cX7_writeCatalogue 27 = .ok (.aload_n 0, 1) := by decide +kernel
theorem dX7_writeCatalogue_28 : decode cX7_writeCatalogue 28 = .ok (.iload_n 1, 1) := by decide +kernel
theorem dX7_writeCatalogue_29 : decode cX7_writeCatalogue 29 = .ok (.invokevirtual 393, 3) := by decide +kernel
theorem dX7_writeCatalogue_32 : decode cX7_writeCatalogue 32 = .ok (.aload_n 0, 1) := by decide +kernel
theorem dX7_writeCatalogue_33 : decode cX7_writeCatalogue 33 = .ok (.bipush 58, 2) := by decide +kernel
theorem dX7_writeCatalogue_35 : decode cX7_writeCatalogue 35 = .ok (.invokevirtual 396, 3) := by decide +kernel
theorem dX7_writeCatalogue_38 : decode cX7_writeCatalogue 38 = .ok (.aload_n 0, 1) := by decide +kernel
theorem dX7_writeCatalogue_39 : decode cX7_writeCatalogue 39 = .ok (.aload_n 2, 1) := by decide +kernel
theorem dX7_writeCatalogue_40 : decode cX7_writeCatalogue 40 = .ok (.getfield 211, 3) := by decide +kernel
theorem dX7_writeCatalogue_43 : decode cX7_writeCatalogue 43 = .ok (.invokevirtual 393, 3) := by decide +kernel
theorem dX7_writeCatalogue_46 : decode cX7_writeCatalogue 46 = .ok (.aload_n 0, 1) := by decide +kernel
theorem dX7_writeCatalogue_47 : decode cX7_writeCatalogue 47 = .ok (.bipush 44, 2) := by decide +kernel
theorem dX7_writeCatalogue_49 : decode cX7_writeCatalogue 49 = .ok (.invokevirtual 396, 3) := by decide +kernel
theorem dX7_writeCatalogue_52 : decode cX7_writeCatalogue 52 = .ok (.aload_n 0, 1) := by decide +kernel
theorem dX7_writeCatalogue_53 : decode cX7_writeCatalogue 53 = .ok (.aload_n 2, 1) := by decide +kernel
theorem dX7_writeCatalogue_54 : decode cX7_writeCatalogue 54 = .ok (.getfield 214, 3) := by decide +kernel
theorem dX7_writeCatalogue_57 : decode cX7_writeCatalogue 57 = .ok (.invokevirtual 393, 3) := by decide +kernel
theorem dX7_writeCatalogue_60 : decode cX7_writeCatalogue 60 = .ok (.aload_n 0, 1) := by decide +kernel
theorem dX7_writeCatalogue_61 : decode cX7_writeCatalogue 61 = .ok (.bipush 44, 2) := by decide +kernel
theorem dX7_writeCatalogue_63 : decode cX7_writeCatalogue 63 = .ok (.invokevirtual 396, 3) := by decide +kernel
theorem dX7_writeCatalogue_66 : decode cX7_writeCatalogue 66 = .ok (.aload_n 0, 1) := by decide +kernel
theorem dX7_writeCatalogue_67 : decode cX7_writeCatalogue 67 = .ok (.aload_n 2, 1) := by decide +kernel
theorem dX7_writeCatalogue_68 : decode cX7_writeCatalogue 68 = .ok (.getfield 217, 3) := by decide +kernel
theorem dX7_writeCatalogue_71 : decode cX7_writeCatalogue 71 = .ok (.invokevirtual 393, 3) := by decide +kernel
theorem dX7_writeCatalogue_74 : decode cX7_writeCatalogue 74 = .ok (.aload_n 0, 1) := by decide +kernel
theorem dX7_writeCatalogue_75 : decode cX7_writeCatalogue 75 = .ok (.getfield 19, 3) := by decide +kernel
theorem dX7_writeCatalogue_78 : decode cX7_writeCatalogue 78 = .ok (.iload_n 1, 1) := by decide +kernel
theorem dX7_writeCatalogue_79 : decode cX7_writeCatalogue 79 = .ok (.invokevirtual 229, 3) := by decide +kernel
theorem dX7_writeCatalogue_82 : decode cX7_writeCatalogue 82 = .ok (.ifCond .eq 9, 3) := by decide +kernel
theorem dX7_writeCatalogue_85 : decode cX7_writeCatalogue 85 = .ok (.aload_n 0, 1) := by decide +kernel
theorem dX7_writeCatalogue_86 : decode cX7_writeCatalogue 86 = .ok (.bipush 42, 2) := by decide +kernel
theorem dX7_writeCatalogue_88 : decode cX7_writeCatalogue 88 = .ok (.invokevirtual 396, 3) := by decide +kernel
theorem dX7_writeCatalogue_91 : decode cX7_writeCatalogue 91 = .ok (.aload_n 0, 1) := by decide +kernel
theorem dX7_writeCatalogue_92 : decode cX7_writeCatalogue 92 = .ok (.bipush 59, 2) := by decide +kernel
theorem dX7_writeCatalogue_94 : decode cX7_writeCatalogue 94 = .ok (.invokevirtual 396, 3) := by decide +kernel
theorem dX7_writeCatalogue_97 : decode cX7_writeCatalogue 97 = .ok (.iinc 1 1, 3) := by decide +kernel
theorem dX7_writeCatalogue_100 : decode cX7_writeCatalogue 100 = .ok (.goto (-93), 3) := by decide +kernel
theorem dX7_writeCatalogue_103 : decode cX7_writeCatalogue 103 = .ok (.aload_n 0, 1) := by decide +kernel
theorem dX7_writeCatalogue_104 : decode cX7_writeCatalogue 104 = .ok (.getfield 390, 3) := by decide +kernel
theorem dX7_writeCatalogue_107 : decode cX7_writeCatalogue 107 = .ok (.ireturn, 1) := by decide +kernel
set_option maxRecDepth 20000 in
theorem ggX7_putNumber_X7_putByte : GoodIn wsX7_putNumber wsX7_putByte := goodIn_r _ [5, 6, 7, 8, 9, 10, 11, 12, 13, 14, 15, 16] (by decide +kernel) (by decide +kernel)
set_option maxRecDepth 20000 in
theorem gX7_putNumber_X7_putByte : GoodIn wsX7_putNumber (wsV RX7 396 RX7 yX7_putByte wsX7_putByte) := goodIn_app (goodIn_of _ (by decide +kernel)) ggX7_putNumber_X7_putByte
theorem dX7_putNumber_0 : decode cX7_putNumber 0 = .ok (.iload_n 1, 1) := by decide +kernel
theorem dX7_putNumber_1 : decode cX7_putNumber 1 = .ok (.bipush 100, 2) := by decide +kernel
theorem dX7_putNumber_3 : decode cX7_putNumber 3 = .ok (.if_icmp .lt 17, 3) := by decide +kernel
theorem dX7_putNumber_6 : decode cX7_putNumber 6 = .ok (.aload_n 0, 1) := by decide +kernel
theorem dX7_putNumber_7 : decode cX7_putNumber 7 = .ok (.bipush 48, 2) := by decide +kernel
theorem dX7_putNumber_9 : decode cX7_putNumber 9 = .ok (.iload_n 1, 1) := by decide +kernel
theorem dX7_putNumber_10 : decode cX7_putNumber 10 = .ok (.bipush 100, 2) := by decide +kernel
theorem dX7_putNumber_12 : decode cX7_putNumber 12 = .ok (.idiv, 1) := by decide +kernel
theorem dX7_putNumber_13 : decode cX7_putNumber 13 = .ok (.bipush 10, 2) := by decide +kernel
theorem dX7_putNumber_15 : decode cX7_putNumber 15 = .ok (.irem, 1) := by decide +kernel
theorem dX7_putNumber_16 : decode cX7_putNumber 16 = .ok (.iadd, 1) := by decide +kernel
theorem dX7_putNumber_17 : decode cX7_putNumber 17 = .ok (.invokevirtual 396, 3) := by decide +kernel
theorem dX7_putNumber_20 : decode cX7_putNumber 20 = .ok (.iload_n 1, 1) := by decide +kernel
theorem dX7_putNumber_21 : decode cX7_putNumber 21 = .ok (.bipush 10, 2) := by decide +kernel
theorem dX7_putNumber_23 : decode cX7_putNumber 23 = .ok (.if_icmp .lt 17, 3) := by decide +kernel
theorem dX7_putNumber_26 : decode cX7_putNumber 26 = .ok (.aload_n 0, 1) := by decide +kernel
theorem dX7_putNumber_27 : decode cX7_putNumber 27 = .ok (.bipush 48, 2) := by decide +kernel
theorem dX7_putNumber_29 : decode cX7_putNumber 29 = .ok (.iload_n 1, 1) := by decide +kernel
theorem dX7_putNumber_30 : decode cX7_putNumber 30 = .ok (.bipush 10, 2) := by decide +kernel
theorem dX7_putNumber_32 : decode cX7_putNumber 32 = .ok (.idiv, 1) := by decide +kernel
theorem dX7_putNumber_33 : decode cX7_putNumber 33 = .ok (.bipush 10, 2) := by decide +kernel
theorem dX7_putNumber_35 : decode cX7_putNumber 35 = .ok (.irem, 1) := by decide +kernel
theorem dX7_putNumber_36 : decode cX7_putNumber 36 = .ok (.iadd, 1) := by decide +kernel
theorem dX7_putNumber_37 : decode cX7_putNumber 37 = .ok (.invokevirtual 396, 3) := by decide +kernel
theorem dX7_putNumber_40 : decode cX7_putNumber 40 = .ok (.aload_n 0, 1) := by decide +kernel
theorem dX7_putNumber_41 : decode cX7_putNumber 41 = .ok (.bipush 48, 2) := by decide +kernel
theorem dX7_putNumber_43 : decode cX7_putNumber 43 = .ok (.iload_n 1, 1) := by decide +kernel
theorem dX7_putNumber_44 : decode cX7_putNumber 44 = .ok (.bipush 10, 2) := by decide +kernel
theorem dX7_putNumber_46 : decode cX7_putNumber 46 = .ok (.irem, 1) := by decide +kernel
theorem dX7_putNumber_47 : decode cX7_putNumber 47 = .ok (.iadd, 1) := by decide +kernel
theorem dX7_putNumber_48 : decode cX7_putNumber 48 = .ok (.invokevirtual 396, 3) := by decide +kernel
theorem dX7_putNumber_51 : decode cX7_putNumber 51 = .ok (.return_, 1) := by decide +kernel
theorem dX7_putByte_0 : decode cX7_putByte 0 = .ok (.aload_n 0, 1) := by decide +kernel
theorem dX7_putByte_1 : decode cX7_putByte 1 = .ok (.getfield 390, 3) := by decide +kernel
theorem dX7_putByte_4 : decode cX7_putByte 4 = .ok (.sipush 280, 3) := by decide +kernel
theorem dX7_putByte_7 : decode cX7_putByte 7 = .ok (.if_icmp .ge 24, 3) := by decide +kernel
theorem dX7_putByte_10 : decode cX7_putByte 10 = .ok (.aload_n 0, 1) := by decide +kernel
theorem dX7_putByte_11 : decode cX7_putByte 11 = .ok (.getfield 33, 3) := by decide +kernel
theorem dX7_putByte_14 : decode cX7_putByte 14 = .ok (.aload_n 0, 1) := by decide +kernel
theorem dX7_putByte_15 : decode cX7_putByte 15 = .ok (.getfield 390, 3) := by decide +kernel
theorem dX7_putByte_18 : decode cX7_putByte 18 = .ok (.iload_n 1, 1) := by decide +kernel
theorem dX7_putByte_19 : decode cX7_putByte 19 = .ok (.i2b, 1) := by decide +kernel
theorem dX7_putByte_20 : decode cX7_putByte 20 = .ok (.bastore, 1) := by decide +kernel
theorem dX7_putByte_21 : decode cX7_putByte 21 = .ok (.aload_n 0, 1) := by decide +kernel
theorem dX7_putByte_22 : decode cX7_putByte 22 = .ok (.dup, 1) := by decide +kernel
theorem dX7_putByte_23 : decode cX7_putByte 23 = .ok (.getfield 390, 3) := by decide +kernel
theorem dX7_putByte_26 : decode cX7_putByte 26 = .ok (.iconst 1, 1) := by decide +kernel
theorem dX7_putByte_27 : decode cX7_putByte 27 = .ok (.iadd, 1) := by decide +kernel
theorem dX7_putByte_28 : decode cX7_putByte 28 = .ok (.putfield 390, 3) := by decide +kernel
theorem dX7_putByte_31 : decode cX7_putByte 31 = .ok (.return_, 1) := by decide +kernel
theorem dX7_outputByte_0 : decode cX7_outputByte 0 = .ok (.iload_n 1, 1) := by decide +kernel
theorem dX7_outputByte_1 : decode cX7_outputByte 1 = .ok (.ifCond .lt 11, 3) := by decide +kernel
theorem dX7_outputByte_4 : decode cX7_outputByte 4 = .ok (.iload_n 1, 1) := by decide +kernel
theorem dX7_outputByte_5 : decode cX7_outputByte 5 = .ok (.aload_n 0, 1) := by decide +kernel
theorem dX7_outputByte_6 : decode cX7_outputByte 6 = .ok (.getfield 390, 3) := by decide +kernel
theorem dX7_outputByte_9 : decode cX7_outputByte 9 = .ok (.if_icmp .lt 8, 3) := by decide +kernel
theorem dX7_outputByte_12 : decode cX7_outputByte 12 = .ok (.ldc 87, 2) := by decide +kernel
theorem dX7_outputByte_14 : decode cX7_outputByte 14 = .ok (.goto 9, 3) := by decide +kernel
theorem dX7_outputByte_17 : decode cX7_outputByte 17 = .ok (.aload_n 0, 1) := by decide +kernel
theorem dX7_outputByte_18 : decode cX7_outputByte 18 = .ok (.getfield 33, 3) := by decide +kernel
theorem dX7_outputByte_21 : decode cX7_outputByte 21 = .ok (.iload_n 1, 1) := by decide +kernel
theorem dX7_outputByte_22 : decode cX7_outputByte 22 = .ok (.baload, 1) := by decide +kernel
theorem dX7_outputByte_23 : decode cX7_outputByte 23 = .ok (.ireturn, 1) := by decide +kernel
set_option maxRecDepth 20000 in
theorem ggX8_init_X8_defaults : GoodIn wsX8_init wsX8_defaults := goodIn_r _ [22] (by decide +kernel) (by decide +kernel)
set_option maxRecDepth 20000 in
theorem gX8_init_X8_defaults : GoodIn wsX8_init (va_wsS RX8 47 yX8_defaults wsX8_defaults) := goodIn_app (goodIn_of _ (by decide +kernel)) ggX8_init_X8_defaults
