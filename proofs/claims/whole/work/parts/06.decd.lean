theorem dX8_whyNotWritten_33 : decode cX8_whyNotWritten 33 = .ok (.aload_n 0, 1) := by decide +kernel
theorem dX8_whyNotWritten_34 : decode cX8_whyNotWritten 34 = .ok (.getfield 7, 3) := by decide +kernel
theorem dX8_whyNotWritten_37 : decode cX8_whyNotWritten 37 = .ok (.bipush 6, 2) := by decide +kernel
theorem dX8_whyNotWritten_39 : decode cX8_whyNotWritten 39 = .ok (.iaload, 1) := by decide +kernel
theorem dX8_whyNotWritten_40 : decode cX8_whyNotWritten 40 = .ok (.ifCond .ne 8, 3) := by decide +kernel
theorem dX8_whyNotWritten_43 : decode cX8_whyNotWritten 43 = .ok (.ldc 177, 2) := by decide +kernel
theorem dX8_whyNotWritten_45 : decode cX8_whyNotWritten 45 = .ok (.goto 21, 3) := by decide +kernel
theorem dX8_whyNotWritten_48 : decode cX8_whyNotWritten 48 = .ok (.aload_n 0, 1) := by decide +kernel
theorem dX8_whyNotWritten_49 : decode cX8_whyNotWritten 49 = .ok (.getfield 7, 3) := by decide +kernel
theorem dX8_whyNotWritten_52 : decode cX8_whyNotWritten 52 = .ok (.iload_n 2, 1) := by decide +kernel
theorem dX8_whyNotWritten_53 : decode cX8_whyNotWritten 53 = .ok (.iload_n 1, 1) := by decide +kernel
theorem dX8_whyNotWritten_54 : decode cX8_whyNotWritten 54 = .ok (.invokestatic 225, 3) := by decide +kernel
theorem dX8_whyNotWritten_57 : decode cX8_whyNotWritten 57 = .ok (.ifCond .eq 7, 3) := by decide +kernel
theorem dX8_whyNotWritten_60 : decode cX8_whyNotWritten 60 = .ok (.iconst 0, 1) := by decide +kernel
theorem dX8_whyNotWritten_61 : decode cX8_whyNotWritten 61 = .ok (.goto 5, 3) := by decide +kernel
theorem dX8_whyNotWritten_64 : decode cX8_whyNotWritten 64 = .ok (.ldc 182, 2) := by decide +kernel
theorem dX8_whyNotWritten_66 : decode cX8_whyNotWritten 66 = .ok (.ireturn, 1) := by decide +kernel
set_option maxRecDepth 20000 in
theorem ggX8_writesOn_X8_mounts : GoodIn wsX8_writesOn wsX8_mounts := goodIn_r _ [6, 7, 8, 9, 5, 10, 11, 12, 13, 14, 1, 15, 16, 17, 18, 19, 20, 21, 22, 23, 24, 25, 26, 27, 28, 29, 30, 31, 32, 33, 34, 35, 36, 37, 38, 39, 40, 41, 51, 52, 53, 54, 55, 56, 57, 58, 59, 60, 61, 62, 63, 64, 65, 66, 67, 68, 69, 70, 71, 72, 73, 74, 75, 76, 77] (by decide +kernel) (by decide +kernel)
set_option maxRecDepth 20000 in
theorem gX8_writesOn_X8_mounts : GoodIn wsX8_writesOn (wsV RX8 126 RX8 yX8_mounts wsX8_mounts) := goodIn_app (goodIn_of _ (by decide +kernel)) ggX8_writesOn_X8_mounts
set_option maxRecDepth 20000 in
theorem ggX8_writesOn_X8_writesVersion : GoodIn wsX8_writesOn wsX8_writesVersion := goodIn_r _ [44, 45, 46, 5, 47, 48, 49, 50] (by decide +kernel) (by decide +kernel)
set_option maxRecDepth 20000 in
theorem gX8_writesOn_X8_writesVersion : GoodIn wsX8_writesOn (va_wsS RX8 244 yX8_writesVersion wsX8_writesVersion) := goodIn_app (goodIn_of _ (by decide +kernel)) ggX8_writesOn_X8_writesVersion
theorem dX8_writesOn_0 : decode cX8_writesOn 0 = .ok (.aload_n 0, 1) := by decide +kernel
theorem dX8_writesOn_1 : decode cX8_writesOn 1 = .ok (.iload_n 3, 1) := by decide +kernel
theorem dX8_writesOn_2 : decode cX8_writesOn 2 = .ok (.invokevirtual 126, 3) := by decide +kernel
theorem dX8_writesOn_5 : decode cX8_writesOn 5 = .ok (.pop, 1) := by decide +kernel
theorem dX8_writesOn_6 : decode cX8_writesOn 6 = .ok (.aload_n 0, 1) := by decide +kernel
theorem dX8_writesOn_7 : decode cX8_writesOn 7 = .ok (.getfield 7, 3) := by decide +kernel
theorem dX8_writesOn_10 : decode cX8_writesOn 10 = .ok (.bipush 12, 2) := by decide +kernel
theorem dX8_writesOn_12 : decode cX8_writesOn 12 = .ok (.dup2, 1) := by decide +kernel
theorem dX8_writesOn_13 : decode cX8_writesOn 13 = .ok (.iaload, 1) := by decide +kernel
theorem dX8_writesOn_14 : decode cX8_writesOn 14 = .ok (.aload_n 0, 1) := by decide +kernel
theorem dX8_writesOn_15 : decode cX8_writesOn 15 = .ok (.getfield 7, 3) := by decide +kernel
theorem dX8_writesOn_18 : decode cX8_writesOn 18 = .ok (.iconst 5, 1) := by decide +kernel
theorem dX8_writesOn_19 : decode cX8_writesOn 19 = .ok (.iaload, 1) := by decide +kernel
theorem dX8_writesOn_20 : decode cX8_writesOn 20 = .ok (.iload_n 2, 1) := by decide +kernel
theorem dX8_writesOn_21 : decode cX8_writesOn 21 = .ok (.imul, 1) := by decide +kernel
theorem dX8_writesOn_22 : decode cX8_writesOn 22 = .ok (.iadd, 1) := by decide +kernel
theorem dX8_writesOn_23 : decode cX8_writesOn 23 = .ok (.iastore, 1) := by decide +kernel
theorem dX8_writesOn_24 : decode cX8_writesOn 24 = .ok (.aload_n 0, 1) := by decide +kernel
theorem dX8_writesOn_25 : decode cX8_writesOn 25 = .ok (.getfield 7, 3) := by decide +kernel
theorem dX8_writesOn_28 : decode cX8_writesOn 28 = .ok (.iload_n 1, 1) := by decide +kernel
theorem dX8_writesOn_29 : decode cX8_writesOn 29 = .ok (.iload_n 3, 1) := by decide +kernel
theorem dX8_writesOn_30 : decode cX8_writesOn 30 = .ok (.iload_n 2, 1) := by decide +kernel
theorem dX8_writesOn_31 : decode cX8_writesOn 31 = .ok (.invokestatic 244, 3) := by decide +kernel
theorem dX8_writesOn_34 : decode cX8_writesOn 34 = .ok (.return_, 1) := by decide +kernel
set_option maxRecDepth 20000 in
theorem ggX8_write_X8_isFile : GoodIn wsX8_write wsX8_isFile := goodIn_r _ [8, 3, 9, 10, 7, 11, 87, 88, 89, 90, 91, 92, 93, 94, 95, 96, 97, 98, 99, 100, 101, 102, 103, 104, 105, 106, 107, 108, 109, 110, 111, 112, 113] (by decide +kernel) (by decide +kernel)
set_option maxRecDepth 20000 in
theorem gX8_write_X8_isFile : GoodIn wsX8_write (wsV RX8 228 RX8 yX8_isFile wsX8_isFile) := goodIn_app (goodIn_of _ (by decide +kernel)) ggX8_write_X8_isFile
set_option maxRecDepth 20000 in
theorem ggX8_write_X8_whyNotWritten : GoodIn wsX8_write wsX8_whyNotWritten := goodIn_r _ [15, 2, 16, 17, 18, 3, 19, 20, 21, 22, 23, 7, 24, 9, 10, 11, 25, 26, 27, 28, 29, 30, 87, 88, 89, 90, 91, 92, 93, 94, 95, 96, 97, 98, 99, 100, 101, 102, 103, 104, 105, 106, 107, 108, 109, 110, 111, 112, 113] (by decide +kernel) (by decide +kernel)
set_option maxRecDepth 20000 in
theorem gX8_write_X8_whyNotWritten : GoodIn wsX8_write (wsV RX8 248 RX8 yX8_whyNotWritten wsX8_whyNotWritten) := goodIn_app (goodIn_of _ (by decide +kernel)) ggX8_write_X8_whyNotWritten
set_option maxRecDepth 20000 in
theorem ggX8_write_X8_remembers : GoodIn wsX8_write wsX8_remembers := goodIn_r _ [34, 35, 36, 3, 87, 88, 89, 90, 91, 92, 93, 94, 95, 96, 97, 98, 99, 100, 101, 102, 103, 104, 105, 106, 107, 108, 109, 110, 111, 112, 113] (by decide +kernel) (by decide +kernel)
set_option maxRecDepth 20000 in
theorem gX8_write_X8_remembers : GoodIn wsX8_write (wsV RX8 237 RX8 yX8_remembers wsX8_remembers) := goodIn_app (goodIn_of _ (by decide +kernel)) ggX8_write_X8_remembers
set_option maxRecDepth 20000 in
theorem ggX8_write_X8_writesOn : GoodIn wsX8_write wsX8_writesOn := goodIn_r _ [40, 3, 41, 42, 43, 7, 44, 45, 46, 47, 48, 49, 50, 51, 52, 53, 54, 55, 56, 57, 58, 59, 60, 61, 62, 63, 64, 65, 66, 67, 68, 69, 70, 71, 72, 73, 74, 75, 76, 77, 78, 79, 80, 81, 82, 28, 29, 30, 9, 10, 11, 87, 88, 89, 90, 91, 92, 93, 94, 95, 96, 97, 98, 99, 100, 101, 102, 103, 104, 105, 106, 107, 108, 109, 110, 111, 112, 113] (by decide +kernel) (by decide +kernel)
set_option maxRecDepth 20000 in
theorem gX8_write_X8_writesOn : GoodIn wsX8_write (wsV RX8 252 RX8 yX8_writesOn wsX8_writesOn) := goodIn_app (goodIn_of _ (by decide +kernel)) ggX8_write_X8_writesOn
set_option maxRecDepth 20000 in
theorem ggX8_write_X8_took : GoodIn wsX8_write wsX8_took := goodIn_r _ [86, 3, 87, 88, 89, 90, 91, 92, 93, 94, 95, 96, 97, 98, 99, 100, 101, 102, 103, 104, 105, 106, 107, 108, 109, 110, 111, 112, 113] (by decide +kernel) (by decide +kernel)
set_option maxRecDepth 20000 in
theorem gX8_write_X8_took : GoodIn wsX8_write (wsV RX8 240 RX8 yX8_took wsX8_took) := goodIn_app (goodIn_of _ (by decide +kernel)) ggX8_write_X8_took
theorem dX8_write_0 : decode cX8_write 0 = .ok (.aload_n 0, 1) := by decide +kernel
theorem dX8_write_1 : decode cX8_write 1 = .ok (.iconst 0, 1) := by decide +kernel
theorem dX8_write_2 : decode cX8_write 2 = .ok (.putfield 51, 3) := by decide +kernel
theorem dX8_write_5 : decode cX8_write 5 = .ok (.aload_n 0, 1) := by decide +kernel
theorem dX8_write_6 : decode cX8_write 6 = .ok (.iload_n 1, 1) := by decide +kernel
theorem dX8_write_7 : decode cX8_write 7 = .ok (.invokevirtual 228, 3) := by decide +kernel
theorem dX8_write_10 : decode cX8_write 10 = .ok (.ifCond .ne 6, 3) := by decide +kernel
theorem dX8_write_13 : decode cX8_write 13 = .ok (.ldc 186, 2) := by decide +kernel
theorem dX8_write_15 : decode cX8_write 15 = .ok (.ireturn, 1) := by decide +kernel
theorem dX8_write_16 : decode cX8_write 16 = .ok (.aload_n 0, 1) := by decide +kernel
theorem dX8_write_17 : decode cX8_write 17 = .ok (.iload_n 2, 1) := by decide +kernel
theorem dX8_write_18 : decode cX8_write 18 = .ok (.iload_n 3, 1) := by decide +kernel
theorem dX8_write_19 : decode cX8_write 19 = .ok (.aload_n 0, 1) := by decide +kernel
theorem dX8_write_20 : decode cX8_write 20 = .ok (.getfield 7, 3) := by decide +kernel
theorem dX8_write_23 : decode cX8_write 23 = .ok (.bipush 10, 2) := by decide +kernel
theorem dX8_write_25 : decode cX8_write 25 = .ok (.iaload, 1) := by decide +kernel
theorem dX8_write_26 : decode cX8_write 26 = .ok (.bipush 40, 2) := by decide +kernel
theorem dX8_write_28 : decode cX8_write 28 = .ok (.if_icmp .ne 7, 3) := by decide +kernel
theorem dX8_write_31 : decode cX8_write 31 = .ok (.iconst 1, 1) := by decide +kernel
theorem dX8_write_32 : decode cX8_write 32 = .ok (.goto 4, 3) := by decide +kernel
theorem dX8_write_35 : decode cX8_write 35 = .ok (.iconst 0, 1) := by decide +kernel
theorem dX8_write_36 : decode cX8_write 36 = .ok (.invokevirtual 248, 3) := by decide +kernel
theorem dX8_write_39 : decode cX8_write 39 = .ok (.istore 4, 2) := by decide +kernel
theorem dX8_write_41 : decode cX8_write 41 = .ok (.iload 4, 2) := by decide +kernel
theorem dX8_write_43 : decode cX8_write 43 = .ok (.ifCond .eq 6, 3) := by decide +kernel
theorem dX8_write_46 : decode cX8_write 46 = .ok (.iload 4, 2) := by decide +kernel
theorem dX8_write_48 : decode cX8_write 48 = .ok (.ireturn, 1) := by decide +kernel
theorem dX8_write_49 : decode cX8_write 49 = .ok (.aload_n 0, 1) := by decide +kernel
theorem dX8_write_50 : decode cX8_write 50 = .ok (.invokevirtual 237, 3) := by decide +kernel
theorem dX8_write_53 : decode cX8_write 53 = .ok (.aload_n 0, 1) := by decide +kernel
theorem dX8_write_54 : decode cX8_write 54 = .ok (.getfield 7, 3) := by decide +kernel
theorem dX8_write_57 : decode cX8_write 57 = .ok (.bipush 12, 2) := by decide +kernel
theorem dX8_write_59 : decode cX8_write 59 = .ok (.iaload, 1) := by decide +kernel
theorem dX8_write_60 : decode cX8_write 60 = .ok (.istore 5, 2) := by decide +kernel
theorem dX8_write_62 : decode cX8_write 62 = .ok (.aload_n 0, 1) := by decide +kernel
theorem dX8_write_63 : decode cX8_write 63 = .ok (.iload_n 1, 1) := by decide +kernel
theorem dX8_write_64 : decode cX8_write 64 = .ok (.iload_n 2, 1) := by decide +kernel
theorem dX8_write_65 : decode cX8_write 65 = .ok (.iload_n 3, 1) := by decide +kernel
theorem dX8_write_66 : decode cX8_write 66 = .ok (.invokevirtual 252, 3) := by decide +kernel
theorem dX8_write_69 : decode cX8_write 69 = .ok (.aload_n 0, 1) := by decide +kernel
theorem dX8_write_70 : decode cX8_write 70 = .ok (.iload 5, 2) := by decide +kernel
theorem dX8_write_72 : decode cX8_write 72 = .ok (.invokevirtual 240, 3) := by decide +kernel
theorem dX8_write_75 : decode cX8_write 75 = .ok (.ireturn, 1) := by decide +kernel
set_option maxRecDepth 20000 in
theorem ggX8_create_X8_whyNotWritten : GoodIn wsX8_create wsX8_whyNotWritten := goodIn_r _ [7, 8, 9, 10, 11, 2, 12, 13, 14, 15, 16, 6, 17, 18, 19, 20, 21, 22, 23, 24, 25, 26, 79, 80, 81, 82, 83, 84, 85, 86, 87, 88, 89, 90, 91, 92, 93, 94, 95, 96, 97, 98, 99, 100, 101, 102, 103, 104, 105] (by decide +kernel) (by decide +kernel)
set_option maxRecDepth 20000 in
theorem gX8_create_X8_whyNotWritten : GoodIn wsX8_create (wsV RX8 248 RX8 yX8_whyNotWritten wsX8_whyNotWritten) := goodIn_app (goodIn_of _ (by decide +kernel)) ggX8_create_X8_whyNotWritten
set_option maxRecDepth 20000 in
theorem ggX8_create_X8_remembers : GoodIn wsX8_create wsX8_remembers := goodIn_r _ [30, 31, 32, 2, 79, 80, 81, 82, 83, 84, 85, 86, 87, 88, 89, 90, 91, 92, 93, 94, 95, 96, 97, 98, 99, 100, 101, 102, 103, 104, 105] (by decide +kernel) (by decide +kernel)
set_option maxRecDepth 20000 in
theorem gX8_create_X8_remembers : GoodIn wsX8_create (wsV RX8 237 RX8 yX8_remembers wsX8_remembers) := goodIn_app (goodIn_of _ (by decide +kernel)) ggX8_create_X8_remembers
set_option maxRecDepth 20000 in
theorem ggX8_create_X8_writesOn : GoodIn wsX8_create wsX8_writesOn := goodIn_r _ [36, 2, 37, 38, 39, 6, 40, 41, 42, 43, 44, 45, 46, 47, 48, 49, 50, 51, 52, 53, 54, 55, 56, 57, 58, 59, 60, 61, 62, 63, 64, 65, 66, 67, 68, 69, 70, 71, 72, 73, 74, 75, 76, 77, 78, 24, 25, 26, 18, 19, 20, 79, 80, 81, 82, 83, 84, 85, 86, 87, 88, 89, 90, 91, 92, 93, 94, 95, 96, 97, 98, 99, 100, 101, 102, 103, 104, 105] (by decide +kernel) (by decide +kernel)
set_option maxRecDepth 20000 in
theorem gX8_create_X8_writesOn : GoodIn wsX8_create (wsV RX8 252 RX8 yX8_writesOn wsX8_writesOn) := goodIn_app (goodIn_of _ (by decide +kernel)) ggX8_create_X8_writesOn
theorem dX8_create_0 : decode cX8_create 0 = .ok (.aload_n 0, 1) := by decide +kernel
theorem dX8_create_1 : decode cX8_create 1 = .ok (.iconst 0, 1) := by decide +kernel
theorem dX8_create_2 : decode cX8_create 2 = .ok (.putfield 51, 3) := by decide +kernel
theorem dX8_create_5 : decode cX8_create 5 = .ok (.aload_n 0, 1) := by decide +kernel
theorem dX8_create_6 : decode cX8_create 6 = .ok (.iload_n 1, 1) := by decide +kernel
theorem dX8_create_7 : decode cX8_create 7 = .ok (.iload_n 2, 1) := by decide +kernel
theorem dX8_create_8 : decode cX8_create 8 = .ok (.aload_n 0, 1) := by decide +kernel
theorem dX8_create_9 : decode cX8_create 9 = .ok (.getfield 7, 3) := by decide +kernel
theorem dX8_create_12 : decode cX8_create 12 = .ok (.bipush 9, 2) := by decide +kernel
theorem dX8_create_14 : decode cX8_create 14 = .ok (.iaload, 1) := by decide +kernel
theorem dX8_create_15 : decode cX8_create 15 = .ok (.bipush 20, 2) := by decide +kernel
theorem dX8_create_17 : decode cX8_create 17 = .ok (.if_icmp .eq 15, 3) := by decide +kernel
theorem dX8_create_20 : decode cX8_create 20 = .ok (.aload_n 0, 1) := by decide +kernel
theorem dX8_create_21 : decode cX8_create 21 = .ok (.getfield 7, 3) := by decide +kernel
theorem dX8_create_24 : decode cX8_create 24 = .ok (.bipush 10, 2) := by decide +kernel
theorem dX8_create_26 : decode cX8_create 26 = .ok (.iaload, 1) := by decide +kernel
theorem dX8_create_27 : decode cX8_create 27 = .ok (.bipush 40, 2) := by decide +kernel
theorem dX8_create_29 : decode cX8_create 29 = .ok (.if_icmp .ne 7, 3) := by decide +kernel
theorem dX8_create_32 : decode cX8_create 32 = .ok (.iconst 1, 1) := by decide +kernel
theorem dX8_create_33 : decode cX8_create 33 = .ok (.goto 4, 3) := by decide +kernel
theorem dX8_create_36 : decode cX8_create 36 = .ok (.iconst 0, 1) := by decide +kernel
theorem dX8_create_37 : decode cX8_create 37 = .ok (.invokevirtual 248, 3) := by decide +kernel
theorem dX8_create_40 : decode cX8_create 40 = .ok (.istore_n 3, 1) := by decide +kernel
theorem dX8_create_41 : decode cX8_create 41 = .ok (.iload_n 3, 1) := by decide +kernel
theorem dX8_create_42 : decode cX8_create 42 = .ok (.ifCond .eq 5, 3) := by decide +kernel
theorem dX8_create_45 : decode cX8_create 45 = .ok (.iload_n 3, 1) := by decide +kernel
theorem dX8_create_46 : decode cX8_create 46 = .ok (.ireturn, 1) := by decide +kernel
theorem dX8_create_47 : decode cX8_create 47 = .ok (.aload_n 0, 1) := by decide +kernel
theorem dX8_create_48 : decode cX8_create 48 = .ok (.invokevirtual 237, 3) := by decide +kernel
theorem dX8_create_51 : decode cX8_create 51 = .ok (.aload_n 0, 1) := by decide +kernel
theorem dX8_create_52 : decode cX8_create 52 = .ok (.getfield 7, 3) := by decide +kernel
theorem dX8_create_55 : decode cX8_create 55 = .ok (.bipush 9, 2) := by decide +kernel
theorem dX8_create_57 : decode cX8_create 57 = .ok (.iaload, 1) := by decide +kernel
theorem dX8_create_58 : decode cX8_create 58 = .ok (.istore 4, 2) := by decide +kernel
theorem dX8_create_60 : decode cX8_create 60 = .ok (.aload_n 0, 1) := by decide +kernel
theorem dX8_create_61 : decode cX8_create 61 = .ok (.getfield 7, 3) := by decide +kernel
theorem dX8_create_64 : decode cX8_create 64 = .ok (.bipush 9, 2) := by decide +kernel
theorem dX8_create_66 : decode cX8_create 66 = .ok (.dup2, 1) := by decide +kernel
theorem dX8_create_67 : decode cX8_create 67 = .ok (.iaload, 1) := by decide +kernel
theorem dX8_create_68 : decode cX8_create 68 = .ok (.iconst 1, 1) := by decide +kernel
theorem dX8_create_69 : decode cX8_create 69 = .ok (.iadd, 1) := by decide +kernel
theorem dX8_create_70 : decode cX8_create 70 = .ok (.iastore, 1) := by decide +kernel
theorem dX8_create_71 : decode cX8_create 71 = .ok (.aload_n 0, 1) := by decide +kernel
theorem dX8_create_72 : decode cX8_create 72 = .ok (.iload 4, 2) := by decide +kernel
theorem dX8_create_74 : decode cX8_create 74 = .ok (.iload_n 1, 1) := by decide +kernel
theorem dX8_create_75 : decode cX8_create 75 = .ok (.iload_n 2, 1) := by decide +kernel
theorem dX8_create_76 : decode cX8_create 76 = .ok (.invokevirtual 252, 3) := by decide +kernel
theorem dX8_create_79 : decode cX8_create 79 = .ok (.iload 4, 2) := by decide +kernel
theorem dX8_create_81 : decode cX8_create 81 = .ok (.ireturn, 1) := by decide +kernel
set_option maxRecDepth 20000 in
theorem ggX8_closeSession_X8_isPlatter : GoodIn wsX8_closeSession wsX8_isPlatter := goodIn_r _ [10, 3, 11, 12, 9, 13, 69, 70, 71, 72, 73, 74, 75, 76, 77, 78, 79, 80, 81, 82, 83, 84, 85, 86, 87, 88, 89, 90, 91, 92, 93, 94, 95] (by decide +kernel) (by decide +kernel)
set_option maxRecDepth 20000 in
theorem gX8_closeSession_X8_isPlatter : GoodIn wsX8_closeSession (wsV RX8 61 RX8 yX8_isPlatter wsX8_isPlatter) := goodIn_app (goodIn_of _ (by decide +kernel)) ggX8_closeSession_X8_isPlatter
set_option maxRecDepth 20000 in
theorem ggX8_closeSession_X8_remembers : GoodIn wsX8_closeSession wsX8_remembers := goodIn_r _ [17, 18, 19, 3, 69, 70, 71, 72, 73, 74, 75, 76, 77, 78, 79, 80, 81, 82, 83, 84, 85, 86, 87, 88, 89, 90, 91, 92, 93, 94, 95] (by decide +kernel) (by decide +kernel)
set_option maxRecDepth 20000 in
theorem gX8_closeSession_X8_remembers : GoodIn wsX8_closeSession (wsV RX8 237 RX8 yX8_remembers wsX8_remembers) := goodIn_app (goodIn_of _ (by decide +kernel)) ggX8_closeSession_X8_remembers
set_option maxRecDepth 20000 in
theorem ggX8_closeSession_X8_mounts : GoodIn wsX8_closeSession wsX8_mounts := goodIn_r _ [23, 24, 25, 26, 9, 27, 28, 29, 30, 31, 3, 32, 33, 34, 35, 36, 37, 38, 39, 40, 41, 42, 43, 44, 45, 46, 47, 48, 49, 50, 51, 52, 53, 54, 55, 56, 57, 58, 69, 70, 71, 72, 73, 74, 75, 76, 77, 78, 79, 80, 81, 82, 83, 84, 85, 86, 87, 88, 89, 90, 91, 92, 93, 94, 95] (by decide +kernel) (by decide +kernel)
set_option maxRecDepth 20000 in
theorem gX8_closeSession_X8_mounts : GoodIn wsX8_closeSession (wsV RX8 126 RX8 yX8_mounts wsX8_mounts) := goodIn_app (goodIn_of _ (by decide +kernel)) ggX8_closeSession_X8_mounts
set_option maxRecDepth 20000 in
theorem ggX8_closeSession_X8_leadOut : GoodIn wsX8_closeSession wsX8_leadOut := goodIn_r _ [61, 62, 63, 64, 65] (by decide +kernel) (by decide +kernel)
set_option maxRecDepth 20000 in
theorem gX8_closeSession_X8_leadOut : GoodIn wsX8_closeSession (va_wsS RX8 75 yX8_leadOut wsX8_leadOut) := goodIn_app (goodIn_of _ (by decide +kernel)) ggX8_closeSession_X8_leadOut
set_option maxRecDepth 20000 in
theorem ggX8_closeSession_X8_closes : GoodIn wsX8_closeSession wsX8_closes := goodIn_r _ [68, 59, 60, 9, 61, 62, 63, 64, 65] (by decide +kernel) (by decide +kernel)
set_option maxRecDepth 20000 in
theorem gX8_closeSession_X8_closes : GoodIn wsX8_closeSession (va_wsS RX8 256 yX8_closes wsX8_closes) := goodIn_app (goodIn_of _ (by decide +kernel)) ggX8_closeSession_X8_closes
theorem dX8_closeSession_0 : decode cX8_closeSession 0 = .ok (.aload_n 0, 1) := by decide +kernel
theorem dX8_closeSession_1 : decode cX8_closeSession 1 = .ok (.iconst 0, 1) := by decide +kernel
theorem dX8_closeSession_2 : decode cX8_closeSession 2 = .ok (.putfield 51, 3) := by decide +kernel
theorem dX8_closeSession_5 : decode cX8_closeSession 5 = .ok (.aload_n 0, 1) := by decide +kernel
theorem dX8_closeSession_6 : decode cX8_closeSession 6 = .ok (.iload_n 1, 1) := by decide +kernel
theorem dX8_closeSession_7 : decode cX8_closeSession 7 = .ok (.invokevirtual 61, 3) := by decide +kernel
theorem dX8_closeSession_10 : decode cX8_closeSession 10 = .ok (.ifCond .ne 6, 3) := by decide +kernel
theorem dX8_closeSession_13 : decode cX8_closeSession 13 = .ok (.ldc 186, 2) := by decide +kernel
theorem dX8_closeSession_15 : decode cX8_closeSession 15 = .ok (.ireturn, 1) := by decide +kernel
theorem dX8_closeSession_16 : decode cX8_closeSession 16 = .ok (.aload_n 0, 1) := by decide +kernel
theorem dX8_closeSession_17 : decode cX8_closeSession 17 = .ok (.getfield 7, 3) := by decide +kernel
theorem dX8_closeSession_20 : decode cX8_closeSession 20 = .ok (.bipush 79, 2) := by decide +kernel
theorem dX8_closeSession_22 : decode cX8_closeSession 22 = .ok (.iload_n 1, 1) := by decide +kernel
theorem dX8_closeSession_23 : decode cX8_closeSession 23 = .ok (.iadd, 1) := by decide +kernel
theorem dX8_closeSession_24 : decode cX8_closeSession 24 = .ok (.iaload, 1) := by decide +kernel
theorem dX8_closeSession_25 : decode cX8_closeSession 25 = .ok (.ifCond .ne 6, 3) := by decide +kernel
theorem dX8_closeSession_28 : decode cX8_closeSession 28 = .ok (.ldc 42, 2) := by decide +kernel
theorem dX8_closeSession_30 : decode cX8_closeSession 30 = .ok (.ireturn, 1) := by decide +kernel
theorem dX8_closeSession_31 : decode cX8_closeSession 31 = .ok (.aload_n 0, 1) := by decide +kernel
theorem dX8_closeSession_32 : decode cX8_closeSession 32 = .ok (.getfield 7, 3) := by decide +kernel
theorem dX8_closeSession_35 : decode cX8_closeSession 35 = .ok (.bipush 6, 2) := by decide +kernel
theorem dX8_closeSession_37 : decode cX8_closeSession 37 = .ok (.iaload, 1) := by decide +kernel
theorem dX8_closeSession_38 : decode cX8_closeSession 38 = .ok (.ifCond .ne 6, 3) := by decide +kernel
theorem dX8_closeSession_41 : decode cX8_closeSession 41 = .ok (.ldc 177, 2) := by decide +kernel
theorem dX8_closeSession_43 : decode cX8_closeSession 43 = .ok (.ireturn, 1) := by decide +kernel
theorem dX8_closeSession_44 : decode cX8_closeSession 44 = .ok (.aload_n 0, 1) := by decide +kernel
theorem dX8_closeSession_45 : decode cX8_closeSession 45 = .ok (.invokevirtual 237, 3) := by decide +kernel
theorem dX8_closeSession_48 : decode cX8_closeSession 48 = .ok (.aload_n 0, 1) := by decide +kernel
theorem dX8_closeSession_49 : decode cX8_closeSession 49 = .ok (.iload_n 1, 1) := by decide +kernel
theorem dX8_closeSession_50 : decode cX8_closeSession 50 = .ok (.invokevirtual 126, 3) := by decide +kernel
theorem dX8_closeSession_53 : decode cX8_closeSession 53 = .ok (.pop, 1) := by decide +kernel
theorem dX8_closeSession_54 : decode cX8_closeSession 54 = .ok (.aload_n 0, 1) := by decide +kernel
theorem dX8_closeSession_55 : decode cX8_closeSession 55 = .ok (.getfield 7, 3) := by decide +kernel
theorem dX8_closeSession_58 : decode cX8_closeSession 58 = .ok (.iload_n 1, 1) := by decide +kernel
theorem dX8_closeSession_59 : decode cX8_closeSession 59 = .ok (.invokestatic 75, 3) := by decide +kernel
theorem dX8_closeSession_62 : decode cX8_closeSession 62 = .ok (.istore_n 2, 1) := by decide +kernel
theorem dX8_closeSession_63 : decode cX8_closeSession 63 = .ok (.aload_n 0, 1) := by decide +kernel
theorem dX8_closeSession_64 : decode cX8_closeSession 64 = .ok (.getfield 7, 3) := by decide +kernel
theorem dX8_closeSession_67 : decode cX8_closeSession 67 = .ok (.bipush 12, 2) := by decide +kernel
theorem dX8_closeSession_69 : decode cX8_closeSession 69 = .ok (.dup2, 1) := by decide +kernel
theorem dX8_closeSession_70 : decode cX8_closeSession 70 = .ok (.iaload, 1) := by decide +kernel
theorem dX8_closeSession_71 : decode cX8_closeSession 71 = .ok (.aload_n 0, 1) := by decide +kernel
theorem dX8_closeSession_72 : decode cX8_closeSession 72 = .ok (.getfield 7, 3) := by decide +kernel
theorem dX8_closeSession_75 : decode cX8_closeSession 75 = .ok (.iconst 5, 1) := by decide +kernel
theorem dX8_closeSession_76 : decode cX8_closeSession 76 = .ok (.iaload, 1) := by decide +kernel
theorem dX8_closeSession_77 : decode cX8_closeSession 77 = .ok (.iload_n 2, 1) := by decide +kernel
theorem dX8_closeSession_78 : decode cX8_closeSession 78 = .ok (.imul, 1) := by decide +kernel
theorem dX8_closeSession_79 : decode cX8_closeSession 79 = .ok (.iadd, 1) := by decide +kernel
theorem dX8_closeSession_80 : decode cX8_closeSession 80 = .ok (.iastore, 1) := by decide +kernel
theorem dX8_closeSession_81 : decode cX8_closeSession 81 = .ok (.aload_n 0, 1) := by decide +kernel
theorem dX8_closeSession_82 : decode cX8_closeSession 82 = .ok (.getfield 7, 3) := by decide +kernel
theorem dX8_closeSession_85 : decode cX8_closeSession 85 = .ok (.iload_n 1, 1) := by decide +kernel
theorem dX8_closeSession_86 : decode cX8_closeSession 86 = .ok (.invokestatic 256, 3) := by decide +kernel
theorem dX8_closeSession_89 : decode cX8_closeSession 89 = .ok (.iload_n 2, 1) := by decide +kernel
theorem dX8_closeSession_90 : decode cX8_closeSession 90 = .ok (.ireturn, 1) := by decide +kernel
set_option maxRecDepth 20000 in
theorem ggX8_markBad_X8_isSector : GoodIn wsX8_markBad wsX8_isSector := goodIn_r _ [10, 3, 11, 12, 13, 9, 14, 15, 16, 17, 33, 34, 35, 36, 37, 38, 39, 40, 41, 42, 43, 44, 45, 46, 47, 48, 49, 50, 51, 52, 53, 54, 55, 56, 57, 58, 59] (by decide +kernel) (by decide +kernel)
set_option maxRecDepth 20000 in
theorem gX8_markBad_X8_isSector : GoodIn wsX8_markBad (wsV RX8 209 RX8 yX8_isSector wsX8_isSector) := goodIn_app (goodIn_of _ (by decide +kernel)) ggX8_markBad_X8_isSector
set_option maxRecDepth 20000 in
theorem ggX8_markBad_X8_isBad : GoodIn wsX8_markBad wsX8_isBad := goodIn_r _ [20] (by decide +kernel) (by decide +kernel)
set_option maxRecDepth 20000 in
theorem gX8_markBad_X8_isBad : GoodIn wsX8_markBad (va_wsS RX8 212 yX8_isBad wsX8_isBad) := goodIn_app (goodIn_of _ (by decide +kernel)) ggX8_markBad_X8_isBad
set_option maxRecDepth 20000 in
theorem ggX8_markBad_X8_remembers : GoodIn wsX8_markBad wsX8_remembers := goodIn_r _ [24, 25, 26, 3, 33, 34, 35, 36, 37, 38, 39, 40, 41, 42, 43, 44, 45, 46, 47, 48, 49, 50, 51, 52, 53, 54, 55, 56, 57, 58, 59] (by decide +kernel) (by decide +kernel)
set_option maxRecDepth 20000 in
theorem gX8_markBad_X8_remembers : GoodIn wsX8_markBad (wsV RX8 237 RX8 yX8_remembers wsX8_remembers) := goodIn_app (goodIn_of _ (by decide +kernel)) ggX8_markBad_X8_remembers
set_option maxRecDepth 20000 in
theorem ggX8_markBad_X8_marks : GoodIn wsX8_markBad wsX8_marks := goodIn_r _ [29, 30, 31, 9, 32, 15, 16, 17] (by decide +kernel) (by decide +kernel)
set_option maxRecDepth 20000 in
theorem gX8_markBad_X8_marks : GoodIn wsX8_markBad (va_wsS RX8 261 yX8_marks wsX8_marks) := goodIn_app (goodIn_of _ (by decide +kernel)) ggX8_markBad_X8_marks
theorem dX8_markBad_0 : decode cX8_markBad 0 = .ok (.aload_n 0, 1) := by decide +kernel
theorem dX8_markBad_1 : decode cX8_markBad 1 = .ok (.iconst 0, 1) := by decide +kernel
theorem dX8_markBad_2 : decode cX8_markBad 2 = .ok (.putfield 51, 3) := by decide +kernel
theorem dX8_markBad_5 : decode cX8_markBad 5 = .ok (.aload_n 0, 1) := by decide +kernel
theorem dX8_markBad_6 : decode cX8_markBad 6 = .ok (.iload_n 1, 1) := by decide +kernel
theorem dX8_markBad_7 : decode cX8_markBad 7 = .ok (.iload_n 2, 1) := by decide +kernel
theorem dX8_markBad_8 : decode cX8_markBad 8 = .ok (.invokevirtual 209, 3) := by decide +kernel
theorem dX8_markBad_11 : decode cX8_markBad 11 = .ok (.ifCond .ne 6, 3) := by decide +kernel
theorem dX8_markBad_14 : decode cX8_markBad 14 = .ok (.ldc 186, 2) := by decide +kernel
theorem dX8_markBad_16 : decode cX8_markBad 16 = .ok (.ireturn, 1) := by decide +kernel
theorem dX8_markBad_17 : decode cX8_markBad 17 = .ok (.aload_n 0, 1) := by decide +kernel
theorem dX8_markBad_18 : decode cX8_markBad 18 = .ok (.getfield 7, 3) := by decide +kernel
theorem dX8_markBad_21 : decode cX8_markBad 21 = .ok (.iload_n 1, 1) := by decide +kernel
theorem dX8_markBad_22 : decode cX8_markBad 22 = .ok (.iload_n 2, 1) := by decide +kernel
theorem dX8_markBad_23 : decode cX8_markBad 23 = .ok (.invokestatic 212, 3) := by decide +kernel
theorem dX8_markBad_26 : decode cX8_markBad 26 = .ok (.ifCond .eq 7, 3) := by decide +kernel
theorem dX8_markBad_29 : decode cX8_markBad 29 = .ok (.ldc_w 260, 3) := by decide +kernel
theorem dX8_markBad_32 : decode cX8_markBad 32 = .ok (.ireturn, 1) := by decide +kernel
theorem dX8_markBad_33 : decode cX8_markBad 33 = .ok (.aload_n 0, 1) := by decide +kernel
theorem dX8_markBad_34 : decode cX8_markBad 34 = .ok (.getfield 7, 3) := by decide +kernel
theorem dX8_markBad_37 : decode cX8_markBad 37 = .ok (.bipush 8, 2) := by decide +kernel
theorem dX8_markBad_39 : decode cX8_markBad 39 = .ok (.iaload, 1) := by decide +kernel
theorem dX8_markBad_40 : decode cX8_markBad 40 = .ok (.bipush 20, 2) := by decide +kernel
theorem dX8_markBad_42 : decode cX8_markBad 42 = .ok (.if_icmp .ne 6, 3) := by decide +kernel
theorem dX8_markBad_45 : decode cX8_markBad 45 = .ok (.ldc 243, 2) := by decide +kernel
theorem dX8_markBad_47 : decode cX8_markBad 47 = .ok (.ireturn, 1) := by decide +kernel
theorem dX8_markBad_48 : decode cX8_markBad 48 = .ok (.aload_n 0, 1) := by decide +kernel
theorem dX8_markBad_49 : decode cX8_markBad 49 = .ok (.invokevirtual 237, 3) := by decide +kernel
theorem dX8_markBad_52 : decode cX8_markBad 52 = .ok (.aload_n 0, 1) := by decide +kernel
theorem dX8_markBad_53 : decode cX8_markBad 53 = .ok (.getfield 7, 3) := by decide +kernel
theorem dX8_markBad_56 : decode cX8_markBad 56 = .ok (.iload_n 1, 1) := by decide +kernel
theorem dX8_markBad_57 : decode cX8_markBad 57 = .ok (.iload_n 2, 1) := by decide +kernel
theorem dX8_markBad_58 : decode cX8_markBad 58 = .ok (.invokestatic 261, 3) := by decide +kernel
theorem dX8_markBad_61 : decode cX8_markBad 61 = .ok (.iconst 0, 1) := by decide +kernel
theorem dX8_markBad_62 : decode cX8_markBad 62 = .ok (.istore_n 3, 1) := by decide +kernel
theorem dX8_markBad_63 : decode cX8_markBad 63 = .ok (.iconst 0, 1) := by decide +kernel
theorem dX8_markBad_64 : decode cX8_markBad 64 = .ok (.istore 4, 2) := by decide +kernel
theorem dX8_markBad_66 : decode cX8_markBad 66 = .ok (.iload 4, 2) := by decide +kernel
theorem dX8_markBad_68 : decode cX8_markBad 68 = .ok (.aload_n 0, 1) := by decide +kernel
theorem dX8_markBad_69 : decode cX8_markBad 69 = .ok (.getfield 7, 3) := by decide +kernel
theorem dX8_markBad_72 : decode cX8_markBad 72 = .ok (.bipush 10, 2) := by decide +kernel
theorem dX8_markBad_74 : decode cX8_markBad 74 = .ok (.iaload, 1) := by decide +kernel
theorem dX8_markBad_75 : decode cX8_markBad 75 = .ok (.if_icmp .ge 23, 3) := by decide +kernel
theorem dX8_markBad_78 : decode cX8_markBad 78 = .ok (.iload_n 3, 1) := by decide +kernel
theorem dX8_markBad_79 : decode cX8_markBad 79 = .ok (.aload_n 0, 1) := by decide +kernel
theorem dX8_markBad_80 : decode cX8_markBad 80 = .ok (.getfield 7, 3) := by decide +kernel
theorem dX8_markBad_83 : decode cX8_markBad 83 = .ok (.sipush 549, 3) := by decide +kernel
theorem dX8_markBad_86 : decode cX8_markBad 86 = .ok (.iload 4, 2) := by decide +kernel
theorem dX8_markBad_88 : decode cX8_markBad 88 = .ok (.iadd, 1) := by decide +kernel
theorem dX8_markBad_89 : decode cX8_markBad 89 = .ok (.iaload, 1) := by decide +kernel
theorem dX8_markBad_90 : decode cX8_markBad 90 = .ok (.iadd, 1) := by decide +kernel
theorem dX8_markBad_91 : decode cX8_markBad 91 = .ok (.istore_n 3, 1) := by decide +kernel
theorem dX8_markBad_92 : decode cX8_markBad 92 = .ok (.iinc 4 1, 3) := by decide +kernel
theorem dX8_markBad_95 : decode cX8_markBad 95 = .ok (.goto (-29), 3) := by decide +kernel
theorem dX8_markBad_98 : decode cX8_markBad 98 = .ok (.iload_n 3, 1) := by decide +kernel
theorem dX8_markBad_99 : decode cX8_markBad 99 = .ok (.ireturn, 1) := by decide +kernel
theorem dX8_homeAt_0 : decode cX8_homeAt 0 = .ok (.iconst 0, 1) := by decide +kernel
theorem dX8_homeAt_1 : decode cX8_homeAt 1 = .ok (.istore_n 2, 1) := by decide +kernel
theorem dX8_homeAt_2 : decode cX8_homeAt 2 = .ok (.iload_n 2, 1) := by decide +kernel
theorem dX8_homeAt_3 : decode cX8_homeAt 3 = .ok (.aload_n 0, 1) := by decide +kernel
theorem dX8_homeAt_4 : decode cX8_homeAt 4 = .ok (.bipush 7, 2) := by decide +kernel
theorem dX8_homeAt_6 : decode cX8_homeAt 6 = .ok (.iaload, 1) := by decide +kernel
theorem dX8_homeAt_7 : decode cX8_homeAt 7 = .ok (.if_icmp .ge 21, 3) := by decide +kernel
theorem dX8_homeAt_10 : decode cX8_homeAt 10 = .ok (.aload_n 0, 1) := by decide +kernel
theorem dX8_homeAt_11 : decode cX8_homeAt 11 = .ok (.bipush 29, 2) := by decide +kernel
theorem dX8_homeAt_13 : decode cX8_homeAt 13 = .ok (.iload_n 2, 1) := by decide +kernel
theorem dX8_homeAt_14 : decode cX8_homeAt 14 = .ok (.iadd, 1) := by decide +kernel
theorem dX8_homeAt_15 : decode cX8_homeAt 15 = .ok (.iaload, 1) := by decide +kernel
theorem dX8_homeAt_16 : decode cX8_homeAt 16 = .ok (.iload_n 1, 1) := by decide +kernel
theorem dX8_homeAt_17 : decode cX8_homeAt 17 = .ok (.if_icmp .ne 5, 3) := by decide +kernel
theorem dX8_homeAt_20 : decode cX8_homeAt 20 = .ok (.iload_n 2, 1) := by decide +kernel
theorem dX8_homeAt_21 : decode cX8_homeAt 21 = .ok (.ireturn, 1) := by decide +kernel
theorem dX8_homeAt_22 : decode cX8_homeAt 22 = .ok (.iinc 2 1, 3) := by decide +kernel
theorem dX8_homeAt_25 : decode cX8_homeAt 25 = .ok (.goto (-23), 3) := by decide +kernel
theorem dX8_homeAt_28 : decode cX8_homeAt 28 = .ok (.iconst (-1), 1) := by decide +kernel
theorem dX8_homeAt_29 : decode cX8_homeAt 29 = .ok (.ireturn, 1) := by decide +kernel
set_option maxRecDepth 20000 in
theorem ggX8_moveHome_X8_isPlatter : GoodIn wsX8_moveHome wsX8_isPlatter := goodIn_r _ [11, 3, 12, 13, 10, 14, 32, 33, 34, 35, 36, 37, 38, 39, 40, 41, 42, 43, 44, 45, 46, 47, 48, 49, 50, 51, 52, 53, 54, 55, 56, 57, 58] (by decide +kernel) (by decide +kernel)
set_option maxRecDepth 20000 in
theorem gX8_moveHome_X8_isPlatter : GoodIn wsX8_moveHome (wsV RX8 61 RX8 yX8_isPlatter wsX8_isPlatter) := goodIn_app (goodIn_of _ (by decide +kernel)) ggX8_moveHome_X8_isPlatter
set_option maxRecDepth 20000 in
theorem ggX8_moveHome_X8_isSlot : GoodIn wsX8_moveHome wsX8_isSlot := goodIn_r _ [18, 3, 12, 13, 10, 14, 32, 33, 34, 35, 36, 37, 38, 39, 40, 41, 42, 43, 44, 45, 46, 47, 48, 49, 50, 51, 52, 53, 54, 55, 56, 57, 58] (by decide +kernel) (by decide +kernel)
set_option maxRecDepth 20000 in
theorem gX8_moveHome_X8_isSlot : GoodIn wsX8_moveHome (wsV RX8 187 RX8 yX8_isSlot wsX8_isSlot) := goodIn_app (goodIn_of _ (by decide +kernel)) ggX8_moveHome_X8_isSlot
set_option maxRecDepth 20000 in
theorem ggX8_moveHome_X8_inDrive : GoodIn wsX8_moveHome wsX8_inDrive := goodIn_r _ [22, 3, 32, 33, 34, 35, 36, 37, 38, 39, 40, 41, 42, 43, 44, 45, 46, 47, 48, 49, 50, 51, 52, 53, 54, 55, 56, 57, 58] (by decide +kernel) (by decide +kernel)
set_option maxRecDepth 20000 in
theorem gX8_moveHome_X8_inDrive : GoodIn wsX8_moveHome (wsV RX8 109 RX8 yX8_inDrive wsX8_inDrive) := goodIn_app (goodIn_of _ (by decide +kernel)) ggX8_moveHome_X8_inDrive
set_option maxRecDepth 20000 in
theorem ggX8_moveHome_X8_homeAt : GoodIn wsX8_moveHome wsX8_homeAt := goodIn_r _ [25] (by decide +kernel) (by decide +kernel)
set_option maxRecDepth 20000 in
theorem gX8_moveHome_X8_homeAt : GoodIn wsX8_moveHome (va_wsS RX8 265 yX8_homeAt wsX8_homeAt) := goodIn_app (goodIn_of _ (by decide +kernel)) ggX8_moveHome_X8_homeAt
set_option maxRecDepth 20000 in
theorem ggX8_moveHome_X8_remembers : GoodIn wsX8_moveHome wsX8_remembers := goodIn_r _ [29, 30, 31, 3, 32, 33, 34, 35, 36, 37, 38, 39, 40, 41, 42, 43, 44, 45, 46, 47, 48, 49, 50, 51, 52, 53, 54, 55, 56, 57, 58] (by decide +kernel) (by decide +kernel)
set_option maxRecDepth 20000 in
theorem gX8_moveHome_X8_remembers : GoodIn wsX8_moveHome (wsV RX8 237 RX8 yX8_remembers wsX8_remembers) := goodIn_app (goodIn_of _ (by decide +kernel)) ggX8_moveHome_X8_remembers
theorem dX8_moveHome_0 : decode cX8_moveHome 0 = .ok (.aload_n 0, 1) := by decide +kernel
theorem dX8_moveHome_1 : decode cX8_moveHome 1 = .ok (.iconst 0, 1) := by decide +kernel
theorem dX8_moveHome_2 : decode cX8_moveHome 2 = .ok (.putfield 51, 3) := by decide +kernel
theorem dX8_moveHome_5 : decode cX8_moveHome 5 = .ok (.aload_n 0, 1) := by decide +kernel
theorem dX8_moveHome_6 : decode cX8_moveHome 6 = .ok (.iload_n 1, 1) := by decide +kernel
theorem dX8_moveHome_7 : decode cX8_moveHome 7 = .ok (.invokevirtual 61, 3) := by decide +kernel
theorem dX8_moveHome_10 : decode cX8_moveHome 10 = .ok (.ifCond .eq 11, 3) := by decide +kernel
theorem dX8_moveHome_13 : decode cX8_moveHome 13 = .ok (.aload_n 0, 1) := by decide +kernel
theorem dX8_moveHome_14 : decode cX8_moveHome 14 = .ok (.iload_n 2, 1) := by decide +kernel
theorem dX8_moveHome_15 : decode cX8_moveHome 15 = .ok (.invokevirtual 187, 3) := by decide +kernel
theorem dX8_moveHome_18 : decode cX8_moveHome 18 = .ok (.ifCond .ne 6, 3) := by decide +kernel
theorem dX8_moveHome_21 : decode cX8_moveHome 21 = .ok (.ldc 186, 2) := by decide +kernel
theorem dX8_moveHome_23 : decode cX8_moveHome 23 = .ok (.ireturn, 1) := by decide +kernel
theorem dX8_moveHome_24 : decode cX8_moveHome 24 = .ok (.aload_n 0, 1) := by decide +kernel
theorem dX8_moveHome_25 : decode cX8_moveHome 25 = .ok (.getfield 7, 3) := by decide +kernel
theorem dX8_moveHome_28 : decode cX8_moveHome 28 = .ok (.bipush 29, 2) := by decide +kernel
theorem dX8_moveHome_30 : decode cX8_moveHome 30 = .ok (.iload_n 1, 1) := by decide +kernel
theorem dX8_moveHome_31 : decode cX8_moveHome 31 = .ok (.iadd, 1) := by decide +kernel
theorem dX8_moveHome_32 : decode cX8_moveHome 32 = .ok (.iaload, 1) := by decide +kernel
theorem dX8_moveHome_33 : decode cX8_moveHome 33 = .ok (.iload_n 2, 1) := by decide +kernel
theorem dX8_moveHome_34 : decode cX8_moveHome 34 = .ok (.if_icmp .ne 7, 3) := by decide +kernel
theorem dX8_moveHome_37 : decode cX8_moveHome 37 = .ok (.ldc_w 260, 3) := by decide +kernel
theorem dX8_moveHome_40 : decode cX8_moveHome 40 = .ok (.ireturn, 1) := by decide +kernel
theorem dX8_moveHome_41 : decode cX8_moveHome 41 = .ok (.aload_n 0, 1) := by decide +kernel
theorem dX8_moveHome_42 : decode cX8_moveHome 42 = .ok (.iload_n 1, 1) := by decide +kernel
theorem dX8_moveHome_43 : decode cX8_moveHome 43 = .ok (.invokevirtual 109, 3) := by decide +kernel
theorem dX8_moveHome_46 : decode cX8_moveHome 46 = .ok (.iconst (-1), 1) := by decide +kernel
theorem dX8_moveHome_47 : decode cX8_moveHome 47 = .ok (.if_icmp .eq 6, 3) := by decide +kernel
theorem dX8_moveHome_50 : decode cX8_moveHome 50 = .ok (.ldc 42, 2) := by decide +kernel
theorem dX8_moveHome_52 : decode cX8_moveHome 52 = .ok (.ireturn, 1) := by decide +kernel
theorem dX8_moveHome_53 : decode cX8_moveHome 53 = .ok (.aload_n 0, 1) := by decide +kernel
theorem dX8_moveHome_54 : decode cX8_moveHome 54 = .ok (.getfield 7, 3) := by decide +kernel
theorem dX8_moveHome_57 : decode cX8_moveHome 57 = .ok (.iload_n 2, 1) := by decide +kernel
theorem dX8_moveHome_58 : decode cX8_moveHome 58 = .ok (.invokestatic 265, 3) := by decide +kernel
theorem dX8_moveHome_61 : decode cX8_moveHome 61 = .ok (.iconst (-1), 1) := by decide +kernel
theorem dX8_moveHome_62 : decode cX8_moveHome 62 = .ok (.if_icmp .eq 6, 3) := by decide +kernel
theorem dX8_moveHome_65 : decode cX8_moveHome 65 = .ok (.ldc 243, 2) := by decide +kernel
theorem dX8_moveHome_67 : decode cX8_moveHome 67 = .ok (.ireturn, 1) := by decide +kernel
theorem dX8_moveHome_68 : decode cX8_moveHome 68 = .ok (.aload_n 0, 1) := by decide +kernel
theorem dX8_moveHome_69 : decode cX8_moveHome 69 = .ok (.invokevirtual 237, 3) := by decide +kernel
theorem dX8_moveHome_72 : decode cX8_moveHome 72 = .ok (.aload_n 0, 1) := by decide +kernel
theorem dX8_moveHome_73 : decode cX8_moveHome 73 = .ok (.getfield 7, 3) := by decide +kernel
theorem dX8_moveHome_76 : decode cX8_moveHome 76 = .ok (.bipush 29, 2) := by decide +kernel
theorem dX8_moveHome_78 : decode cX8_moveHome 78 = .ok (.iload_n 1, 1) := by decide +kernel
theorem dX8_moveHome_79 : decode cX8_moveHome 79 = .ok (.iadd, 1) := by decide +kernel
theorem dX8_moveHome_80 : decode cX8_moveHome 80 = .ok (.iaload, 1) := by decide +kernel
theorem dX8_moveHome_81 : decode cX8_moveHome 81 = .ok (.istore_n 3, 1) := by decide +kernel
theorem dX8_moveHome_82 : decode cX8_moveHome 82 = .ok (.aload_n 0, 1) := by decide +kernel
theorem dX8_moveHome_83 : decode cX8_moveHome 83 = .ok (.getfield 7, 3) := by decide +kernel
theorem dX8_moveHome_86 : decode cX8_moveHome 86 = .ok (.bipush 29, 2) := by decide +kernel
theorem dX8_moveHome_88 : decode cX8_moveHome 88 = .ok (.iload_n 1, 1) := by decide +kernel
theorem dX8_moveHome_89 : decode cX8_moveHome 89 = .ok (.iadd, 1) := by decide +kernel
theorem dX8_moveHome_90 : decode cX8_moveHome 90 = .ok (.iload_n 2, 1) := by decide +kernel
theorem dX8_moveHome_91 : decode cX8_moveHome 91 = .ok (.iastore, 1) := by decide +kernel
theorem dX8_moveHome_92 : decode cX8_moveHome 92 = .ok (.iload_n 3, 1) := by decide +kernel
theorem dX8_moveHome_93 : decode cX8_moveHome 93 = .ok (.ireturn, 1) := by decide +kernel
set_option maxRecDepth 20000 in
theorem ggX8_setTimes_X8_isIn : GoodIn wsX8_setTimes wsX8_isIn := goodIn_r _ [9] (by decide +kernel) (by decide +kernel)
set_option maxRecDepth 20000 in
theorem gX8_setTimes_X8_isIn : GoodIn wsX8_setTimes (va_wsS RX8 57 yX8_isIn wsX8_isIn) := goodIn_app (goodIn_of _ (by decide +kernel)) ggX8_setTimes_X8_isIn
set_option maxRecDepth 20000 in
theorem ggX8_setTimes_X8_remembers : GoodIn wsX8_setTimes wsX8_remembers := goodIn_r _ [13, 14, 15, 4, 16, 17, 18, 19, 20, 21, 22, 23, 24, 25, 26, 27, 28, 29, 30, 31, 32, 33, 34, 35, 36, 37, 38, 39, 40, 41, 42] (by decide +kernel) (by decide +kernel)
set_option maxRecDepth 20000 in
theorem gX8_setTimes_X8_remembers : GoodIn wsX8_setTimes (wsV RX8 237 RX8 yX8_remembers wsX8_remembers) := goodIn_app (goodIn_of _ (by decide +kernel)) ggX8_setTimes_X8_remembers
theorem dX8_setTimes_0 : decode cX8_setTimes 0 = .ok (.aload_n 0, 1) := by decide +kernel
theorem dX8_setTimes_1 : decode cX8_setTimes 1 = .ok (.iconst 0, 1) := by decide +kernel
theorem dX8_setTimes_2 : decode cX8_setTimes 2 = .ok (.putfield 51, 3) := by decide +kernel
theorem dX8_setTimes_5 : decode cX8_setTimes 5 = .ok (.iload_n 1, 1) := by decide +kernel
theorem dX8_setTimes_6 : decode cX8_setTimes 6 = .ok (.i2l, 1) := by decide +kernel
theorem dX8_setTimes_7 : decode cX8_setTimes 7 = .ok (.lconst 0, 1) := by decide +kernel
theorem dX8_setTimes_8 : decode cX8_setTimes 8 = .ok (.ldc2_w 268, 3) := by decide +kernel
theorem dX8_setTimes_11 : decode cX8_setTimes 11 = .ok (.invokestatic 57, 3) := by decide +kernel
theorem dX8_setTimes_14 : decode cX8_setTimes 14 = .ok (.ifCond .eq 53, 3) := by decide +kernel
theorem dX8_setTimes_17 : decode cX8_setTimes 17 = .ok (.iload_n 2, 1) := by decide +kernel
theorem dX8_setTimes_18 : decode cX8_setTimes 18 = .ok (.i2l, 1) := by decide +kernel
theorem dX8_setTimes_19 : decode cX8_setTimes 19 = .ok (.lconst 0, 1) := by decide +kernel
theorem dX8_setTimes_20 : decode cX8_setTimes 20 = .ok (.ldc2_w 268, 3) := by decide +kernel
theorem dX8_setTimes_23 : decode cX8_setTimes 23 = .ok (.invokestatic 57, 3) := by decide +kernel
theorem dX8_setTimes_26 : decode cX8_setTimes 26 = .ok (.ifCond .eq 41, 3) := by decide +kernel
theorem dX8_setTimes_29 : decode cX8_setTimes 29 = .ok (.iload_n 3, 1) := by decide +kernel
theorem dX8_setTimes_30 : decode cX8_setTimes 30 = .ok (.i2l, 1) := by decide +kernel
theorem dX8_setTimes_31 : decode cX8_setTimes 31 = .ok (.lconst 0, 1) := by decide +kernel
theorem dX8_setTimes_32 : decode cX8_setTimes 32 = .ok (.ldc2_w 268, 3) := by decide +kernel
theorem dX8_setTimes_35 : decode cX8_setTimes 35 = .ok (.invokestatic 57, 3) := by decide +kernel
theorem dX8_setTimes_38 : decode cX8_setTimes 38 = .ok (.ifCond .eq 29, 3) := by decide +kernel
theorem dX8_setTimes_41 : decode cX8_setTimes 41 = .ok (.iload 4, 2) := by decide +kernel
theorem dX8_setTimes_43 : decode cX8_setTimes 43 = .ok (.i2l, 1) := by decide +kernel
theorem dX8_setTimes_44 : decode cX8_setTimes 44 = .ok (.lconst 0, 1) := by decide +kernel
theorem dX8_setTimes_45 : decode cX8_setTimes 45 = .ok (.ldc2_w 268, 3) := by decide +kernel
theorem dX8_setTimes_48 : decode cX8_setTimes 48 = .ok (.invokestatic 57, 3) := by decide +kernel
theorem dX8_setTimes_51 : decode cX8_setTimes 51 = .ok (.ifCond .eq 16, 3) := by decide +kernel
theorem dX8_setTimes_54 : decode cX8_setTimes 54 = .ok (.iload 5, 2) := by decide +kernel
theorem dX8_setTimes_56 : decode cX8_setTimes 56 = .ok (.i2l, 1) := by decide +kernel
theorem dX8_setTimes_57 : decode cX8_setTimes 57 = .ok (.lconst 0, 1) := by decide +kernel
theorem dX8_setTimes_58 : decode cX8_setTimes 58 = .ok (.ldc2_w 268, 3) := by decide +kernel
theorem dX8_setTimes_61 : decode cX8_setTimes 61 = .ok (.invokestatic 57, 3) := by decide +kernel
theorem dX8_setTimes_64 : decode cX8_setTimes 64 = .ok (.ifCond .ne 6, 3) := by decide +kernel
theorem dX8_setTimes_67 : decode cX8_setTimes 67 = .ok (.ldc 224, 2) := by decide +kernel
theorem dX8_setTimes_69 : decode cX8_setTimes 69 = .ok (.ireturn, 1) := by decide +kernel
theorem dX8_setTimes_70 : decode cX8_setTimes 70 = .ok (.aload_n 0, 1) := by decide +kernel
theorem dX8_setTimes_71 : decode cX8_setTimes 71 = .ok (.getfield 7, 3) := by decide +kernel
theorem dX8_setTimes_74 : decode cX8_setTimes 74 = .ok (.iconst 1, 1) := by decide +kernel
theorem dX8_setTimes_75 : decode cX8_setTimes 75 = .ok (.iaload, 1) := by decide +kernel
theorem dX8_setTimes_76 : decode cX8_setTimes 76 = .ok (.iload_n 1, 1) := by decide +kernel
theorem dX8_setTimes_77 : decode cX8_setTimes 77 = .ok (.if_icmp .ne 49, 3) := by decide +kernel
theorem dX8_setTimes_80 : decode cX8_setTimes 80 = .ok (.aload_n 0, 1) := by decide +kernel
theorem dX8_setTimes_81 : decode cX8_setTimes 81 = .ok (.getfield 7, 3) := by decide +kernel
theorem dX8_setTimes_84 : decode cX8_setTimes 84 = .ok (.iconst 2, 1) := by decide +kernel
theorem dX8_setTimes_85 : decode cX8_setTimes 85 = .ok (.iaload, 1) := by decide +kernel
theorem dX8_setTimes_86 : decode cX8_setTimes 86 = .ok (.iload_n 2, 1) := by decide +kernel
theorem dX8_setTimes_87 : decode cX8_setTimes 87 = .ok (.if_icmp .ne 39, 3) := by decide +kernel
theorem dX8_setTimes_90 : decode cX8_setTimes 90 = .ok (.aload_n 0, 1) := by decide +kernel
theorem dX8_setTimes_91 : decode cX8_setTimes 91 = .ok (.getfield 7, 3) := by decide +kernel
theorem dX8_setTimes_94 : decode cX8_setTimes 94 = .ok (.iconst 3, 1) := by decide +kernel
theorem dX8_setTimes_95 : decode cX8_setTimes 95 = .ok (.iaload, 1) := by decide +kernel
theorem dX8_setTimes_96 : decode cX8_setTimes 96 = .ok (.iload_n 3, 1) := by decide +kernel
theorem dX8_setTimes_97 : decode cX8_setTimes 97 = .ok (.if_icmp .ne 29, 3) := by decide +kernel
theorem dX8_setTimes_100 : decode cX8_setTimes 100 = .ok (.aload_n 0, 1) := by decide +kernel
theorem dX8_setTimes_101 : decode cX8_setTimes 101 = .ok (.getfield 7, 3) := by decide +kernel
theorem dX8_setTimes_104 : decode cX8_setTimes 104 = .ok (.iconst 4, 1) := by decide +kernel
theorem dX8_setTimes_105 : decode cX8_setTimes 105 = .ok (.iaload, 1) := by decide +kernel
theorem dX8_setTimes_106 : decode cX8_setTimes 106 = .ok (.iload 4, 2) := by decide +kernel
theorem dX8_setTimes_108 : decode cX8_setTimes 108 = .ok (.if_icmp .ne 18, 3) := by decide +kernel
theorem dX8_setTimes_111 : decode cX8_setTimes 111 = .ok (.aload_n 0, 1) := by decide +kernel
theorem dX8_setTimes_112 : decode cX8_setTimes 112 = .ok (.getfield 7, 3) := by decide +kernel
theorem dX8_setTimes_115 : decode cX8_setTimes 115 = .ok (.iconst 5, 1) := by decide +kernel
theorem dX8_setTimes_116 : decode cX8_setTimes 116 = .ok (.iaload, 1) := by decide +kernel
theorem dX8_setTimes_117 : decode cX8_setTimes 117 = .ok (.iload 5, 2) := by decide +kernel
theorem dX8_setTimes_119 : decode cX8_setTimes 119 = .ok (.if_icmp .ne 7, 3) := by decide +kernel
theorem dX8_setTimes_122 : decode cX8_setTimes 122 = .ok (.ldc_w 260, 3) := by decide +kernel
theorem dX8_setTimes_125 : decode cX8_setTimes 125 = .ok (.ireturn, 1) := by decide +kernel
theorem dX8_setTimes_126 : decode cX8_setTimes 126 = .ok (.aload_n 0, 1) := by decide +kernel
theorem dX8_setTimes_127 : decode cX8_setTimes 127 = .ok (.invokevirtual 237, 3) := by decide +kernel
theorem dX8_setTimes_130 : decode cX8_setTimes 130 = .ok (.aload_n 0, 1) := by decide +kernel
theorem dX8_setTimes_131 : decode cX8_setTimes 131 = .ok (.getfield 7, 3) := by decide +kernel
theorem dX8_setTimes_134 : decode cX8_setTimes 134 = .ok (.iconst 1, 1) := by decide +kernel
theorem dX8_setTimes_135 : decode cX8_setTimes 135 = .ok (.iaload, 1) := by decide +kernel
theorem dX8_setTimes_136 : decode cX8_setTimes 136 = .ok (.aload_n 0, 1) := by decide +kernel
theorem dX8_setTimes_137 : decode cX8_setTimes 137 = .ok (.getfield 7, 3) := by decide +kernel
theorem dX8_setTimes_140 : decode cX8_setTimes 140 = .ok (.iconst 2, 1) := by decide +kernel
theorem dX8_setTimes_141 : decode cX8_setTimes 141 = .ok (.iaload, 1) := by decide +kernel
theorem dX8_setTimes_142 : decode cX8_setTimes 142 = .ok (.iadd, 1) := by decide +kernel
theorem dX8_setTimes_143 : decode cX8_setTimes 143 = .ok (.aload_n 0, 1) := by decide +kernel
theorem dX8_setTimes_144 : decode cX8_setTimes 144 = .ok (.getfield 7, 3) := by decide +kernel
theorem dX8_setTimes_147 : decode cX8_setTimes 147 = .ok (.iconst 3, 1) := by decide +kernel
theorem dX8_setTimes_148 : decode cX8_setTimes 148 = .ok (.iaload, 1) := by decide +kernel
theorem dX8_setTimes_149 : decode cX8_setTimes 149 = .ok (.iadd, 1) := by decide +kernel
theorem dX8_setTimes_150 : decode cX8_setTimes 150 = .ok (.aload_n 0, 1) := by decide +kernel
theorem dX8_setTimes_151 : decode cX8_setTimes 151 = .ok (.getfield 7, 3) := by decide +kernel
theorem dX8_setTimes_154 : decode cX8_setTimes 154 = .ok (.iconst 4, 1) := by decide +kernel
theorem dX8_setTimes_155 : decode cX8_setTimes 155 = .ok (.iaload, 1) := by decide +kernel
theorem dX8_setTimes_156 : decode cX8_setTimes 156 = .ok (.iadd, 1) := by decide +kernel
theorem dX8_setTimes_157 : decode cX8_setTimes 157 = .ok (.aload_n 0, 1) := by decide +kernel
theorem dX8_setTimes_158 : decode cX8_setTimes 158 = .ok (.getfield 7, 3) := by decide +kernel
theorem dX8_setTimes_161 : decode cX8_setTimes 161 = .ok (.iconst 5, 1) := by decide +kernel
theorem dX8_setTimes_162 : decode cX8_setTimes 162 = .ok (.iaload, 1) := by decide +kernel
theorem dX8_setTimes_163 : decode cX8_setTimes 163 = .ok (.iadd, 1) := by decide +kernel
theorem dX8_setTimes_164 : decode cX8_setTimes 164 = .ok (.istore 6, 2) := by decide +kernel
theorem dX8_setTimes_166 : decode cX8_setTimes 166 = .ok (.aload_n 0, 1) := by decide +kernel
theorem dX8_setTimes_167 : decode cX8_setTimes 167 = .ok (.getfield 7, 3) := by decide +kernel
theorem dX8_setTimes_170 : decode cX8_setTimes 170 = .ok (.iconst 1, 1) := by decide +kernel
theorem dX8_setTimes_171 : decode cX8_setTimes 171 = .ok (.iload_n 1, 1) := by decide +kernel
theorem dX8_setTimes_172 : decode cX8_setTimes 172 = .ok (.iastore, 1) := by decide +kernel
theorem dX8_setTimes_173 : decode cX8_setTimes 173 = .ok (.aload_n 0, 1) := by decide +kernel
theorem dX8_setTimes_174 : decode cX8_setTimes 174 = .ok (.getfield 7, 3) := by decide +kernel
theorem dX8_setTimes_177 : decode cX8_setTimes 177 = .ok (.iconst 2, 1) := by decide +kernel
theorem dX8_setTimes_178 : decode cX8_setTimes 178 = .ok (.iload_n 2, 1) := by decide +kernel
theorem dX8_setTimes_179 : decode cX8_setTimes 179 = .ok (.iastore, 1) := by decide +kernel
theorem dX8_setTimes_180 : decode cX8_setTimes 180 = .ok (.aload_n 0, 1) := by decide +kernel
theorem dX8_setTimes_181 : decode cX8_setTimes 181 = .ok (.getfield 7, 3) := by decide +kernel
theorem dX8_setTimes_184 : decode cX8_setTimes 184 = .ok (.iconst 3, 1) := by decide +kernel
theorem dX8_setTimes_185 : decode cX8_setTimes 185 = .ok (.iload_n 3, 1) := by decide +kernel
theorem dX8_setTimes_186 : decode cX8_setTimes 186 = .ok (.iastore, 1) := by decide +kernel
theorem dX8_setTimes_187 : decode cX8_setTimes 187 = .ok (.aload_n 0, 1) := by decide +kernel
theorem dX8_setTimes_188 : decode cX8_setTimes 188 = .ok (.getfield 7, 3) := by decide +kernel
theorem dX8_setTimes_191 : decode cX8_setTimes 191 = .ok (.iconst 4, 1) := by decide +kernel
theorem dX8_setTimes_192 : decode cX8_setTimes 192 = .ok (.iload 4, 2) := by decide +kernel
theorem dX8_setTimes_194 : decode cX8_setTimes 194 = .ok (.iastore, 1) := by decide +kernel
theorem dX8_setTimes_195 : decode cX8_setTimes 195 = .ok (.aload_n 0, 1) := by decide +kernel
theorem dX8_setTimes_196 : decode cX8_setTimes 196 = .ok (.getfield 7, 3) := by decide +kernel
theorem dX8_setTimes_199 : decode cX8_setTimes 199 = .ok (.iconst 5, 1) := by decide +kernel
theorem dX8_setTimes_200 : decode cX8_setTimes 200 = .ok (.iload 5, 2) := by decide +kernel
theorem dX8_setTimes_202 : decode cX8_setTimes 202 = .ok (.iastore, 1) := by decide +kernel
theorem dX8_setTimes_203 : decode cX8_setTimes 203 = .ok (.iload 6, 2) := by decide +kernel
theorem dX8_setTimes_205 : decode cX8_setTimes 205 = .ok (.ireturn, 1) := by decide +kernel
set_option maxRecDepth 20000 in
theorem ggX8_request_X8_isFile : GoodIn wsX8_request wsX8_isFile := goodIn_r _ [10, 4, 11, 12, 9, 13, 36, 37, 38, 39, 40, 41, 42, 43, 44, 45, 46, 47, 48, 49, 50, 51, 52, 53, 54, 55, 56, 57, 58, 59, 60, 61, 62] (by decide +kernel) (by decide +kernel)
set_option maxRecDepth 20000 in
theorem gX8_request_X8_isFile : GoodIn wsX8_request (wsV RX8 228 RX8 yX8_isFile wsX8_isFile) := goodIn_app (goodIn_of _ (by decide +kernel)) ggX8_request_X8_isFile
set_option maxRecDepth 20000 in
theorem ggX8_request_X8_isReadable : GoodIn wsX8_request wsX8_isReadable := goodIn_r _ [17, 18, 19, 20, 9, 21, 4, 22, 23, 24, 25, 26, 27, 28, 29, 36, 37, 38, 39, 40, 41, 42, 43, 44, 45, 46, 47, 48, 49, 50, 51, 52, 53, 54, 55, 56, 57, 58, 59, 60, 61, 62] (by decide +kernel) (by decide +kernel)
set_option maxRecDepth 20000 in
theorem gX8_request_X8_isReadable : GoodIn wsX8_request (wsV RX8 174 RX8 yX8_isReadable wsX8_isReadable) := goodIn_app (goodIn_of _ (by decide +kernel)) ggX8_request_X8_isReadable
set_option maxRecDepth 20000 in
theorem ggX8_request_X8_remembers : GoodIn wsX8_request wsX8_remembers := goodIn_r _ [33, 34, 35, 4, 36, 37, 38, 39, 40, 41, 42, 43, 44, 45, 46, 47, 48, 49, 50, 51, 52, 53, 54, 55, 56, 57, 58, 59, 60, 61, 62] (by decide +kernel) (by decide +kernel)
set_option maxRecDepth 20000 in
theorem gX8_request_X8_remembers : GoodIn wsX8_request (wsV RX8 237 RX8 yX8_remembers wsX8_remembers) := goodIn_app (goodIn_of _ (by decide +kernel)) ggX8_request_X8_remembers
theorem dX8_request_0 : decode cX8_request 0 = .ok (.aload_n 0, 1) := by decide +kernel
theorem dX8_request_1 : decode cX8_request 1 = .ok (.iconst 0, 1) := by decide +kernel
theorem dX8_request_2 : decode cX8_request 2 = .ok (.putfield 51, 3) := by decide +kernel
theorem dX8_request_5 : decode cX8_request 5 = .ok (.aload_n 0, 1) := by decide +kernel
theorem dX8_request_6 : decode cX8_request 6 = .ok (.iload_n 1, 1) := by decide +kernel
theorem dX8_request_7 : decode cX8_request 7 = .ok (.invokevirtual 228, 3) := by decide +kernel
theorem dX8_request_10 : decode cX8_request 10 = .ok (.ifCond .ne 6, 3) := by decide +kernel
theorem dX8_request_13 : decode cX8_request 13 = .ok (.ldc 186, 2) := by decide +kernel
theorem dX8_request_15 : decode cX8_request 15 = .ok (.ireturn, 1) := by decide +kernel
theorem dX8_request_16 : decode cX8_request 16 = .ok (.aload_n 0, 1) := by decide +kernel
theorem dX8_request_17 : decode cX8_request 17 = .ok (.iload_n 1, 1) := by decide +kernel
theorem dX8_request_18 : decode cX8_request 18 = .ok (.invokevirtual 174, 3) := by decide +kernel
theorem dX8_request_21 : decode cX8_request 21 = .ok (.ifCond .ne 6, 3) := by decide +kernel
theorem dX8_request_24 : decode cX8_request 24 = .ok (.ldc 182, 2) := by decide +kernel
theorem dX8_request_26 : decode cX8_request 26 = .ok (.ireturn, 1) := by decide +kernel
theorem dX8_request_27 : decode cX8_request 27 = .ok (.aload_n 0, 1) := by decide +kernel
theorem dX8_request_28 : decode cX8_request 28 = .ok (.getfield 7, 3) := by decide +kernel
theorem dX8_request_31 : decode cX8_request 31 = .ok (.bipush 16, 2) := by decide +kernel
theorem dX8_request_33 : decode cX8_request 33 = .ok (.iaload, 1) := by decide +kernel
theorem dX8_request_34 : decode cX8_request 34 = .ok (.bipush 16, 2) := by decide +kernel
theorem dX8_request_36 : decode cX8_request 36 = .ok (.if_icmp .ne 6, 3) := by decide +kernel
theorem dX8_request_39 : decode cX8_request 39 = .ok (.ldc 243, 2) := by decide +kernel
theorem dX8_request_41 : decode cX8_request 41 = .ok (.ireturn, 1) := by decide +kernel
theorem dX8_request_42 : decode cX8_request 42 = .ok (.aload_n 0, 1) := by decide +kernel
theorem dX8_request_43 : decode cX8_request 43 = .ok (.invokevirtual 237, 3) := by decide +kernel
theorem dX8_request_46 : decode cX8_request 46 = .ok (.aload_n 0, 1) := by decide +kernel
theorem dX8_request_47 : decode cX8_request 47 = .ok (.getfield 7, 3) := by decide +kernel
theorem dX8_request_50 : decode cX8_request 50 = .ok (.sipush 589, 3) := by decide +kernel
theorem dX8_request_53 : decode cX8_request 53 = .ok (.aload_n 0, 1) := by decide +kernel
theorem dX8_request_54 : decode cX8_request 54 = .ok (.getfield 7, 3) := by decide +kernel
theorem dX8_request_57 : decode cX8_request 57 = .ok (.bipush 16, 2) := by decide +kernel
theorem dX8_request_59 : decode cX8_request 59 = .ok (.iaload, 1) := by decide +kernel
theorem dX8_request_60 : decode cX8_request 60 = .ok (.iadd, 1) := by decide +kernel
theorem dX8_request_61 : decode cX8_request 61 = .ok (.iload_n 1, 1) := by decide +kernel
theorem dX8_request_62 : decode cX8_request 62 = .ok (.iastore, 1) := by decide +kernel
theorem dX8_request_63 : decode cX8_request 63 = .ok (.aload_n 0, 1) := by decide +kernel
theorem dX8_request_64 : decode cX8_request 64 = .ok (.getfield 7, 3) := by decide +kernel
theorem dX8_request_67 : decode cX8_request 67 = .ok (.bipush 16, 2) := by decide +kernel
theorem dX8_request_69 : decode cX8_request 69 = .ok (.dup2, 1) := by decide +kernel
theorem dX8_request_70 : decode cX8_request 70 = .ok (.iaload, 1) := by decide +kernel
theorem dX8_request_71 : decode cX8_request 71 = .ok (.iconst 1, 1) := by decide +kernel
theorem dX8_request_72 : decode cX8_request 72 = .ok (.iadd, 1) := by decide +kernel
theorem dX8_request_73 : decode cX8_request 73 = .ok (.iastore, 1) := by decide +kernel
theorem dX8_request_74 : decode cX8_request 74 = .ok (.aload_n 0, 1) := by decide +kernel
theorem dX8_request_75 : decode cX8_request 75 = .ok (.getfield 7, 3) := by decide +kernel
theorem dX8_request_78 : decode cX8_request 78 = .ok (.bipush 16, 2) := by decide +kernel
theorem dX8_request_80 : decode cX8_request 80 = .ok (.iaload, 1) := by decide +kernel
theorem dX8_request_81 : decode cX8_request 81 = .ok (.ireturn, 1) := by decide +kernel
theorem dX8_drops_0 : decode cX8_drops 0 = .ok (.aload_n 0, 1) := by decide +kernel
theorem dX8_drops_1 : decode cX8_drops 1 = .ok (.getfield 7, 3) := by decide +kernel
theorem dX8_drops_4 : decode cX8_drops 4 = .ok (.bipush 16, 2) := by decide +kernel
theorem dX8_drops_6 : decode cX8_drops 6 = .ok (.dup2, 1) := by decide +kernel
theorem dX8_drops_7 : decode cX8_drops 7 = .ok (.iaload, 1) := by decide +kernel
theorem dX8_drops_8 : decode cX8_drops 8 = .ok (.iconst 1, 1) := by decide +kernel
theorem dX8_drops_9 : decode cX8_drops 9 = .ok (.isub, 1) := by decide +kernel
theorem dX8_drops_10 : decode cX8_drops 10 = .ok (.iastore, 1) := by decide +kernel
theorem dX8_drops_11 : decode cX8_drops 11 = .ok (.iload_n 1, 1) := by decide +kernel
theorem dX8_drops_12 : decode cX8_drops 12 = .ok (.istore_n 2, 1) := by decide +kernel
theorem dX8_drops_13 : decode cX8_drops 13 = .ok (.iload_n 2, 1) := by decide +kernel
theorem dX8_drops_14 : decode cX8_drops 14 = .ok (.aload_n 0, 1) := by decide +kernel
theorem dX8_drops_15 : decode cX8_drops 15 = .ok (.getfield 7, 3) := by decide +kernel
theorem dX8_drops_18 : decode cX8_drops 18 = .ok (.bipush 16, 2) := by decide +kernel
theorem dX8_drops_20 : decode cX8_drops 20 = .ok (.iaload, 1) := by decide +kernel
theorem dX8_drops_21 : decode cX8_drops 21 = .ok (.if_icmp .ge 31, 3) := by decide +kernel
theorem dX8_drops_24 : decode cX8_drops 24 = .ok (.aload_n 0, 1) := by decide +kernel
theorem dX8_drops_25 : decode cX8_drops 25 = .ok (.getfield 7, 3) := by decide +kernel
theorem dX8_drops_28 : decode cX8_drops 28 = .ok (.sipush 589, 3) := by decide +kernel
theorem dX8_drops_31 : decode cX8_drops 31 = .ok (.iload_n 2, 1) := by decide +kernel
theorem dX8_drops_32 : decode cX8_drops 32 = .ok (.iadd, 1) := by decide +kernel
theorem dX8_drops_33 : decode cX8_drops 33 = .ok (.aload_n 0, 1) := by decide +kernel
theorem dX8_drops_34 : decode cX8_drops 34 = .ok (.getfield 7, 3) := by decide +kernel
theorem dX8_drops_37 : decode cX8_drops 37 = .ok (.sipush 589, 3) := by decide +kernel
theorem dX8_drops_40 : decode cX8_drops 40 = .ok (.iload_n 2, 1) := by decide +kernel
theorem dX8_drops_41 : decode cX8_drops 41 = .ok (.iadd, 1) := by decide +kernel
theorem dX8_drops_42 : decode cX8_drops 42 = .ok (.iconst 1, 1) := by decide +kernel
theorem dX8_drops_43 : decode cX8_drops 43 = .ok (.iadd, 1) := by decide +kernel
theorem dX8_drops_44 : decode cX8_drops 44 = .ok (.iaload, 1) := by decide +kernel
theorem dX8_drops_45 : decode cX8_drops 45 = .ok (.iastore, 1) := by decide +kernel
theorem dX8_drops_46 : decode cX8_drops 46 = .ok (.iinc 2 1, 3) := by decide +kernel
theorem dX8_drops_49 : decode cX8_drops 49 = .ok (.goto (-36), 3) := by decide +kernel
theorem dX8_drops_52 : decode cX8_drops 52 = .ok (.return_, 1) := by decide +kernel
set_option maxRecDepth 20000 in
theorem ggX8_dropRequest_X8_isRequest : GoodIn wsX8_dropRequest wsX8_isRequest := goodIn_r _ [8, 3, 9, 10, 7, 11, 22, 23, 24, 25, 26, 27, 28, 29, 30, 31, 32, 33, 34, 35, 36, 37, 38, 39, 40, 41, 42, 43, 44, 45, 46, 47, 48] (by decide +kernel) (by decide +kernel)
set_option maxRecDepth 20000 in
theorem gX8_dropRequest_X8_isRequest : GoodIn wsX8_dropRequest (wsV RX8 270 RX8 yX8_isRequest wsX8_isRequest) := goodIn_app (goodIn_of _ (by decide +kernel)) ggX8_dropRequest_X8_isRequest
set_option maxRecDepth 20000 in
theorem ggX8_dropRequest_X8_remembers : GoodIn wsX8_dropRequest wsX8_remembers := goodIn_r _ [15, 16, 17, 3, 22, 23, 24, 25, 26, 27, 28, 29, 30, 31, 32, 33, 34, 35, 36, 37, 38, 39, 40, 41, 42, 43, 44, 45, 46, 47, 48] (by decide +kernel) (by decide +kernel)
set_option maxRecDepth 20000 in
theorem gX8_dropRequest_X8_remembers : GoodIn wsX8_dropRequest (wsV RX8 237 RX8 yX8_remembers wsX8_remembers) := goodIn_app (goodIn_of _ (by decide +kernel)) ggX8_dropRequest_X8_remembers
set_option maxRecDepth 20000 in
theorem ggX8_dropRequest_X8_drops : GoodIn wsX8_dropRequest wsX8_drops := goodIn_r _ [21, 3, 22, 23, 24, 25, 26, 27, 28, 29, 30, 31, 32, 33, 34, 35, 36, 37, 38, 39, 40, 41, 42, 43, 44, 45, 46, 47, 48] (by decide +kernel) (by decide +kernel)
set_option maxRecDepth 20000 in
theorem gX8_dropRequest_X8_drops : GoodIn wsX8_dropRequest (wsV RX8 273 RX8 yX8_drops wsX8_drops) := goodIn_app (goodIn_of _ (by decide +kernel)) ggX8_dropRequest_X8_drops
theorem dX8_dropRequest_0 : decode cX8_dropRequest 0 = .ok (.aload_n 0, 1) := by decide +kernel
theorem dX8_dropRequest_1 : decode cX8_dropRequest 1 = .ok (.iconst 0, 1) := by decide +kernel
theorem dX8_dropRequest_2 : decode cX8_dropRequest 2 = .ok (.putfield 51, 3) := by decide +kernel
theorem dX8_dropRequest_5 : decode cX8_dropRequest 5 = .ok (.aload_n 0, 1) := by decide +kernel
theorem dX8_dropRequest_6 : decode cX8_dropRequest 6 = .ok (.iload_n 1, 1) := by decide +kernel
theorem dX8_dropRequest_7 : decode cX8_dropRequest 7 = .ok (.invokevirtual 270, 3) := by decide +kernel
theorem dX8_dropRequest_10 : decode cX8_dropRequest 10 = .ok (.ifCond .ne 6, 3) := by decide +kernel
theorem dX8_dropRequest_13 : decode cX8_dropRequest 13 = .ok (.ldc 186, 2) := by decide +kernel
theorem dX8_dropRequest_15 : decode cX8_dropRequest 15 = .ok (.ireturn, 1) := by decide +kernel
theorem dX8_dropRequest_16 : decode cX8_dropRequest 16 = .ok (.aload_n 0, 1) := by decide +kernel
theorem dX8_dropRequest_17 : decode cX8_dropRequest 17 = .ok (.invokevirtual 237, 3) := by decide +kernel
theorem dX8_dropRequest_20 : decode cX8_dropRequest 20 = .ok (.aload_n 0, 1) := by decide +kernel
theorem dX8_dropRequest_21 : decode cX8_dropRequest 21 = .ok (.getfield 7, 3) := by decide +kernel
theorem dX8_dropRequest_24 : decode cX8_dropRequest 24 = .ok (.sipush 589, 3) := by decide +kernel
theorem dX8_dropRequest_27 : decode cX8_dropRequest 27 = .ok (.iload_n 1, 1) := by decide +kernel
theorem dX8_dropRequest_28 : decode cX8_dropRequest 28 = .ok (.iadd, 1) := by decide +kernel
theorem dX8_dropRequest_29 : decode cX8_dropRequest 29 = .ok (.iaload, 1) := by decide +kernel
theorem dX8_dropRequest_30 : decode cX8_dropRequest 30 = .ok (.istore_n 2, 1) := by decide +kernel
theorem dX8_dropRequest_31 : decode cX8_dropRequest 31 = .ok (.aload_n 0, 1) := by decide +kernel
theorem dX8_dropRequest_32 : decode cX8_dropRequest 32 = .ok (.iload_n 1, 1) := by decide +kernel
theorem dX8_dropRequest_33 : decode cX8_dropRequest 33 = .ok (.invokevirtual 273, 3) := by decide +kernel
theorem dX8_dropRequest_36 : decode cX8_dropRequest 36 = .ok (.iload_n 2, 1) := by decide +kernel
theorem dX8_dropRequest_37 : decode cX8_dropRequest 37 = .ok (.ireturn, 1) := by decide +kernel
set_option maxRecDepth 20000 in
theorem ggX8_serveBatch_X8_whyNotServed : GoodIn wsX8_serveBatch wsX8_whyNotServed := goodIn_r _ [7, 2, 8, 9, 10, 11, 12, 13, 6, 14, 15, 16, 17, 18, 19, 20, 21, 22, 23, 24, 25, 26, 27, 28, 29, 30, 125, 126, 127, 128, 129, 130, 131, 132, 133, 134, 135, 136, 137, 138, 139, 140, 141, 142, 143, 144, 145, 146, 147, 148, 149, 150, 151] (by decide +kernel) (by decide +kernel)
set_option maxRecDepth 20000 in
theorem gX8_serveBatch_X8_whyNotServed : GoodIn wsX8_serveBatch (wsV RX8 276 RX8 yX8_whyNotServed wsX8_whyNotServed) := goodIn_app (goodIn_of _ (by decide +kernel)) ggX8_serveBatch_X8_whyNotServed
set_option maxRecDepth 20000 in
theorem ggX8_serveBatch_X8_remembers : GoodIn wsX8_serveBatch wsX8_remembers := goodIn_r _ [34, 35, 36, 2, 125, 126, 127, 128, 129, 130, 131, 132, 133, 134, 135, 136, 137, 138, 139, 140, 141, 142, 143, 144, 145, 146, 147, 148, 149, 150, 151] (by decide +kernel) (by decide +kernel)
set_option maxRecDepth 20000 in
theorem gX8_serveBatch_X8_remembers : GoodIn wsX8_serveBatch (wsV RX8 237 RX8 yX8_remembers wsX8_remembers) := goodIn_app (goodIn_of _ (by decide +kernel)) ggX8_serveBatch_X8_remembers
set_option maxRecDepth 20000 in
theorem ggX8_serveBatch_X8_serves : GoodIn wsX8_serveBatch wsX8_serves := goodIn_r _ [40, 2, 41, 42, 43, 44, 45, 46, 6, 47, 48, 49, 50, 51, 19, 20, 21, 22, 52, 53, 54, 55, 56, 57, 58, 59, 60, 61, 62, 63, 64, 65, 66, 67, 68, 69, 70, 71, 72, 73, 74, 75, 76, 77, 78, 79, 80, 81, 82, 83, 84, 85, 86, 87, 88, 89, 90, 91, 92, 93, 94, 95, 96, 97, 98, 99, 100, 101, 102, 103, 104, 105, 106, 107, 108, 109, 110, 111, 112, 113, 114, 115, 116, 117, 118, 119, 120, 125, 126, 127, 128, 129, 130, 131, 132, 133, 134, 135, 136, 137, 138, 139, 140, 141, 142, 143, 144, 145, 146, 147, 148, 149, 150, 151] (by decide +kernel) (by decide +kernel)
set_option maxRecDepth 20000 in
theorem gX8_serveBatch_X8_serves : GoodIn wsX8_serveBatch (wsV RX8 183 RX8 yX8_serves wsX8_serves) := goodIn_app (goodIn_of _ (by decide +kernel)) ggX8_serveBatch_X8_serves
set_option maxRecDepth 20000 in
theorem ggX8_serveBatch_X8_took : GoodIn wsX8_serveBatch wsX8_took := goodIn_r _ [124, 2, 125, 126, 127, 128, 129, 130, 131, 132, 133, 134, 135, 136, 137, 138, 139, 140, 141, 142, 143, 144, 145, 146, 147, 148, 149, 150, 151] (by decide +kernel) (by decide +kernel)
set_option maxRecDepth 20000 in
theorem gX8_serveBatch_X8_took : GoodIn wsX8_serveBatch (wsV RX8 240 RX8 yX8_took wsX8_took) := goodIn_app (goodIn_of _ (by decide +kernel)) ggX8_serveBatch_X8_took
theorem dX8_serveBatch_0 : decode cX8_serveBatch 0 = .ok (.aload_n 0, 1) := by decide +kernel
theorem dX8_serveBatch_1 : decode cX8_serveBatch 1 = .ok (.iconst 0, 1) := by decide +kernel
theorem dX8_serveBatch_2 : decode cX8_serveBatch 2 = .ok (.putfield 51, 3) := by decide +kernel
theorem dX8_serveBatch_5 : decode cX8_serveBatch 5 = .ok (.aload_n 0, 1) := by decide +kernel
theorem dX8_serveBatch_6 : decode cX8_serveBatch 6 = .ok (.iconst 1, 1) := by decide +kernel
theorem dX8_serveBatch_7 : decode cX8_serveBatch 7 = .ok (.invokevirtual 276, 3) := by decide +kernel
theorem dX8_serveBatch_10 : decode cX8_serveBatch 10 = .ok (.istore_n 1, 1) := by decide +kernel
theorem dX8_serveBatch_11 : decode cX8_serveBatch 11 = .ok (.iload_n 1, 1) := by decide +kernel
theorem dX8_serveBatch_12 : decode cX8_serveBatch 12 = .ok (.ifCond .eq 5, 3) := by decide +kernel
theorem dX8_serveBatch_15 : decode cX8_serveBatch 15 = .ok (.iload_n 1, 1) := by decide +kernel
theorem dX8_serveBatch_16 : decode cX8_serveBatch 16 = .ok (.ireturn, 1) := by decide +kernel
theorem dX8_serveBatch_17 : decode cX8_serveBatch 17 = .ok (.aload_n 0, 1) := by decide +kernel
theorem dX8_serveBatch_18 : decode cX8_serveBatch 18 = .ok (.invokevirtual 237, 3) := by decide +kernel
theorem dX8_serveBatch_21 : decode cX8_serveBatch 21 = .ok (.aload_n 0, 1) := by decide +kernel
theorem dX8_serveBatch_22 : decode cX8_serveBatch 22 = .ok (.getfield 7, 3) := by decide +kernel
theorem dX8_serveBatch_25 : decode cX8_serveBatch 25 = .ok (.bipush 12, 2) := by decide +kernel
theorem dX8_serveBatch_27 : decode cX8_serveBatch 27 = .ok (.iaload, 1) := by decide +kernel
theorem dX8_serveBatch_28 : decode cX8_serveBatch 28 = .ok (.istore_n 2, 1) := by decide +kernel
theorem dX8_serveBatch_29 : decode cX8_serveBatch 29 = .ok (.aload_n 0, 1) := by decide +kernel
theorem dX8_serveBatch_30 : decode cX8_serveBatch 30 = .ok (.invokevirtual 183, 3) := by decide +kernel
theorem dX8_serveBatch_33 : decode cX8_serveBatch 33 = .ok (.aload_n 0, 1) := by decide +kernel
theorem dX8_serveBatch_34 : decode cX8_serveBatch 34 = .ok (.iload_n 2, 1) := by decide +kernel
theorem dX8_serveBatch_35 : decode cX8_serveBatch 35 = .ok (.invokevirtual 240, 3) := by decide +kernel
theorem dX8_serveBatch_38 : decode cX8_serveBatch 38 = .ok (.ireturn, 1) := by decide +kernel
theorem dX8_undo_0 : decode cX8_undo 0 = .ok (.aload_n 0, 1) := by decide +kernel
theorem dX8_undo_1 : decode cX8_undo 1 = .ok (.iconst 0, 1) := by decide +kernel
theorem dX8_undo_2 : decode cX8_undo 2 = .ok (.putfield 51, 3) := by decide +kernel
theorem dX8_undo_5 : decode cX8_undo 5 = .ok (.aload_n 0, 1) := by decide +kernel
theorem dX8_undo_6 : decode cX8_undo 6 = .ok (.getfield 54, 3) := by decide +kernel
theorem dX8_undo_9 : decode cX8_undo 9 = .ok (.ifCond .ne 6, 3) := by decide +kernel
theorem dX8_undo_12 : decode cX8_undo 12 = .ok (.ldc 42, 2) := by decide +kernel
theorem dX8_undo_14 : decode cX8_undo 14 = .ok (.ireturn, 1) := by decide +kernel
theorem dX8_undo_15 : decode cX8_undo 15 = .ok (.aload_n 0, 1) := by decide +kernel
theorem dX8_undo_16 : decode cX8_undo 16 = .ok (.dup, 1) := by decide +kernel
theorem dX8_undo_17 : decode cX8_undo 17 = .ok (.getfield 54, 3) := by decide +kernel
theorem dX8_undo_20 : decode cX8_undo 20 = .ok (.iconst 1, 1) := by decide +kernel
theorem dX8_undo_21 : decode cX8_undo 21 = .ok (.isub, 1) := by decide +kernel
theorem dX8_undo_22 : decode cX8_undo 22 = .ok (.putfield 54, 3) := by decide +kernel
theorem dX8_undo_25 : decode cX8_undo 25 = .ok (.iconst 0, 1) := by decide +kernel
theorem dX8_undo_26 : decode cX8_undo 26 = .ok (.istore_n 1, 1) := by decide +kernel
theorem dX8_undo_27 : decode cX8_undo 27 = .ok (.iload_n 1, 1) := by decide +kernel
theorem dX8_undo_28 : decode cX8_undo 28 = .ok (.sipush 605, 3) := by decide +kernel
theorem dX8_undo_31 : decode cX8_undo 31 = .ok (.if_icmp .ge 30, 3) := by decide +kernel
theorem dX8_undo_34 : decode cX8_undo 34 = .ok (.aload_n 0, 1) := by decide +kernel
theorem dX8_undo_35 : decode cX8_undo 35 = .ok (.getfield 7, 3) := by decide +kernel
theorem dX8_undo_38 : decode cX8_undo 38 = .ok (.iload_n 1, 1) := by decide +kernel
theorem dX8_undo_39 : decode cX8_undo 39 = .ok (.aload_n 0, 1) := by decide +kernel
theorem dX8_undo_40 : decode cX8_undo 40 = .ok (.getfield 19, 3) := by decide +kernel
theorem dX8_undo_43 : decode cX8_undo 43 = .ok (.sipush 605, 3) := by decide +kernel
theorem dX8_undo_46 : decode cX8_undo 46 = .ok (.aload_n 0, 1) := by decide +kernel
theorem dX8_undo_47 : decode cX8_undo 47 = .ok (.getfield 54, 3) := by decide +kernel
theorem dX8_undo_50 : decode cX8_undo 50 = .ok (.imul, 1) := by decide +kernel
theorem dX8_undo_51 : decode cX8_undo 51 = .ok (.iload_n 1, 1) := by decide +kernel
theorem dX8_undo_52 : decode cX8_undo 52 = .ok (.iadd, 1) := by decide +kernel
theorem dX8_undo_53 : decode cX8_undo 53 = .ok (.iaload, 1) := by decide +kernel
theorem dX8_undo_54 : decode cX8_undo 54 = .ok (.iastore, 1) := by decide +kernel
theorem dX8_undo_55 : decode cX8_undo 55 = .ok (.iinc 1 1, 3) := by decide +kernel
theorem dX8_undo_58 : decode cX8_undo 58 = .ok (.goto (-31), 3) := by decide +kernel
theorem dX8_undo_61 : decode cX8_undo 61 = .ok (.aload_n 0, 1) := by decide +kernel
theorem dX8_undo_62 : decode cX8_undo 62 = .ok (.getfield 54, 3) := by decide +kernel
theorem dX8_undo_65 : decode cX8_undo 65 = .ok (.ireturn, 1) := by decide +kernel
set_option maxRecDepth 20000 in
theorem ggX8_requestedFile_X8_isRequest : GoodIn wsX8_requestedFile wsX8_isRequest := goodIn_r _ [8, 2, 9, 10, 7, 11, 12, 13, 14, 15, 16, 17, 18, 19, 20, 21, 22, 23, 24, 25, 26, 27, 28, 29, 30, 31, 32, 33, 34, 35, 36, 37, 38] (by decide +kernel) (by decide +kernel)
set_option maxRecDepth 20000 in
theorem gX8_requestedFile_X8_isRequest : GoodIn wsX8_requestedFile (wsV RX8 270 RX8 yX8_isRequest wsX8_isRequest) := goodIn_app (goodIn_of _ (by decide +kernel)) ggX8_requestedFile_X8_isRequest
theorem dX8_requestedFile_0 : decode cX8_requestedFile 0 = .ok (.aload_n 0, 1) := by decide +kernel
theorem dX8_requestedFile_1 : decode cX8_requestedFile 1 = .ok (.iconst 0, 1) := by decide +kernel
theorem dX8_requestedFile_2 : decode cX8_requestedFile 2 = .ok (.putfield 51, 3) := by decide +kernel
theorem dX8_requestedFile_5 : decode cX8_requestedFile 5 = .ok (.aload_n 0, 1) := by decide +kernel
theorem dX8_requestedFile_6 : decode cX8_requestedFile 6 = .ok (.iload_n 1, 1) := by decide +kernel
theorem dX8_requestedFile_7 : decode cX8_requestedFile 7 = .ok (.invokevirtual 270, 3) := by decide +kernel
theorem dX8_requestedFile_10 : decode cX8_requestedFile 10 = .ok (.ifCond .eq 16, 3) := by decide +kernel
theorem dX8_requestedFile_13 : decode cX8_requestedFile 13 = .ok (.aload_n 0, 1) := by decide +kernel
theorem dX8_requestedFile_14 : decode cX8_requestedFile 14 = .ok (.getfield 7, 3) := by decide +kernel
theorem dX8_requestedFile_17 : decode cX8_requestedFile 17 = .ok (.sipush 589, 3) := by decide +kernel
theorem dX8_requestedFile_20 : decode cX8_requestedFile 20 = .ok (.iload_n 1, 1) := by decide +kernel
theorem dX8_requestedFile_21 : decode cX8_requestedFile 21 = .ok (.iadd, 1) := by decide +kernel
theorem dX8_requestedFile_22 : decode cX8_requestedFile 22 = .ok (.iaload, 1) := by decide +kernel
theorem dX8_requestedFile_23 : decode cX8_requestedFile 23 = .ok (.goto 5, 3) := by decide +kernel
theorem dX8_requestedFile_26 : decode cX8_requestedFile 26 = .ok (.ldc 186, 2) := by decide +kernel
theorem dX8_requestedFile_28 : decode cX8_requestedFile 28 = .ok (.ireturn, 1) := by decide +kernel
set_option maxRecDepth 20000 in
theorem ggX8_batchTime_X8_whyNotServed : GoodIn wsX8_batchTime wsX8_whyNotServed := goodIn_r _ [6, 7, 8, 9, 10, 11, 12, 13, 5, 14, 15, 16, 17, 18, 19, 20, 21, 22, 23, 24, 25, 26, 27, 28, 29, 30, 132, 133, 134, 135, 136, 137, 138, 139, 140, 141, 142, 143, 144, 145, 146, 147, 148, 149, 150, 151, 152, 153, 154, 155, 156, 157, 158] (by decide +kernel) (by decide +kernel)
set_option maxRecDepth 20000 in
theorem gX8_batchTime_X8_whyNotServed : GoodIn wsX8_batchTime (wsV RX8 276 RX8 yX8_whyNotServed wsX8_whyNotServed) := goodIn_app (goodIn_of _ (by decide +kernel)) ggX8_batchTime_X8_whyNotServed
set_option maxRecDepth 20000 in
theorem ggX8_batchTime_X8_servingTime : GoodIn wsX8_batchTime wsX8_servingTime := goodIn_r _ [34, 35, 36, 37, 5, 38, 7, 39, 40, 41, 42, 43, 44, 45, 46, 47, 48, 49, 50, 51, 52, 53, 54, 55, 56, 57, 58, 19, 20, 21, 22, 59, 60, 61, 62, 63, 64, 65, 66, 67, 68, 69, 70, 71, 72, 73, 74, 75, 76, 77, 78, 79, 80, 81, 82, 83, 84, 85, 86, 87, 88, 89, 90, 91, 92, 93, 94, 95, 96, 97, 98, 99, 100, 101, 102, 103, 104, 105, 106, 107, 108, 109, 110, 111, 112, 113, 114, 115, 116, 117, 118, 119, 120, 121, 122, 123, 124, 125, 126, 127, 128, 129, 130, 131, 132, 133, 134, 135, 136, 137, 138, 139, 140, 141, 142, 143, 144, 145, 146, 147, 148, 149, 150, 151, 152, 153, 154, 155, 156, 157, 158] (by decide +kernel) (by decide +kernel)
set_option maxRecDepth 20000 in
theorem gX8_batchTime_X8_servingTime : GoodIn wsX8_batchTime (wsV RX8 279 RX8 yX8_servingTime wsX8_servingTime) := goodIn_app (goodIn_of _ (by decide +kernel)) ggX8_batchTime_X8_servingTime
theorem dX8_batchTime_0 : decode cX8_batchTime 0 = .ok (.aload_n 0, 1) := by decide +kernel
theorem dX8_batchTime_1 : decode cX8_batchTime 1 = .ok (.iconst 0, 1) := by decide +kernel
theorem dX8_batchTime_2 : decode cX8_batchTime 2 = .ok (.putfield 51, 3) := by decide +kernel
theorem dX8_batchTime_5 : decode cX8_batchTime 5 = .ok (.aload_n 0, 1) := by decide +kernel
theorem dX8_batchTime_6 : decode cX8_batchTime 6 = .ok (.iconst 1, 1) := by decide +kernel
theorem dX8_batchTime_7 : decode cX8_batchTime 7 = .ok (.invokevirtual 276, 3) := by decide +kernel
theorem dX8_batchTime_10 : decode cX8_batchTime 10 = .ok (.istore_n 1, 1) := by decide +kernel
theorem dX8_batchTime_11 : decode cX8_batchTime 11 = .ok (.iload_n 1, 1) := by decide +kernel
theorem dX8_batchTime_12 : decode cX8_batchTime 12 = .ok (.ifCond .eq 7, 3) := by decide +kernel
theorem dX8_batchTime_15 : decode cX8_batchTime 15 = .ok (.iload_n 1, 1) := by decide +kernel
theorem dX8_batchTime_16 : decode cX8_batchTime 16 = .ok (.goto 7, 3) := by decide +kernel
theorem dX8_batchTime_19 : decode cX8_batchTime 19 = .ok (.aload_n 0, 1) := by decide +kernel
theorem dX8_batchTime_20 : decode cX8_batchTime 20 = .ok (.invokevirtual 279, 3) := by decide +kernel
theorem dX8_batchTime_23 : decode cX8_batchTime 23 = .ok (.ireturn, 1) := by decide +kernel
set_option maxRecDepth 20000 in
theorem ggX8_batchExchanges_X8_whyNotServed : GoodIn wsX8_batchExchanges wsX8_whyNotServed := goodIn_r _ [7, 8, 9, 10, 11, 12, 13, 14, 6, 15, 16, 17, 18, 19, 20, 21, 22, 23, 24, 25, 26, 27, 28, 29, 30, 31, 45, 46, 47, 48, 49, 50, 51, 52, 53, 54, 55, 56, 57, 58, 59, 60, 61, 62, 63, 64, 65, 66, 67, 68, 69, 70, 71] (by decide +kernel) (by decide +kernel)
set_option maxRecDepth 20000 in
theorem gX8_batchExchanges_X8_whyNotServed : GoodIn wsX8_batchExchanges (wsV RX8 276 RX8 yX8_whyNotServed wsX8_whyNotServed) := goodIn_app (goodIn_of _ (by decide +kernel)) ggX8_batchExchanges_X8_whyNotServed
set_option maxRecDepth 20000 in
theorem ggX8_batchExchanges_X8_findsWanted : GoodIn wsX8_batchExchanges wsX8_findsWanted := goodIn_r _ [35, 2, 8, 36, 37, 38, 39, 6, 40, 20, 21, 22, 23, 41, 42, 43, 44, 45, 46, 47, 48, 49, 50, 51, 52, 53, 54, 55, 56, 57, 58, 59, 60, 61, 62, 63, 64, 65, 66, 67, 68, 69, 70, 71] (by decide +kernel) (by decide +kernel)
set_option maxRecDepth 20000 in
theorem gX8_batchExchanges_X8_findsWanted : GoodIn wsX8_batchExchanges (wsV RX8 165 RX8 yX8_findsWanted wsX8_findsWanted) := goodIn_app (goodIn_of _ (by decide +kernel)) ggX8_batchExchanges_X8_findsWanted
theorem dX8_batchExchanges_0 : decode cX8_batchExchanges 0 = .ok (.aload_n 0, 1) := by decide +kernel
theorem dX8_batchExchanges_1 : decode cX8_batchExchanges 1 = .ok (.iconst 0, 1) := by decide +kernel
theorem dX8_batchExchanges_2 : decode cX8_batchExchanges 2 = .ok (.putfield 51, 3) := by decide +kernel
theorem dX8_batchExchanges_5 : decode cX8_batchExchanges 5 = .ok (.aload_n 0, 1) := by decide +kernel
theorem dX8_batchExchanges_6 : decode cX8_batchExchanges 6 = .ok (.iconst 1, 1) := by decide +kernel
theorem dX8_batchExchanges_7 : decode cX8_batchExchanges 7 = .ok (.invokevirtual 276, 3) := by decide +kernel
theorem dX8_batchExchanges_10 : decode cX8_batchExchanges 10 = .ok (.istore_n 1, 1) := by decide +kernel
theorem dX8_batchExchanges_11 : decode cX8_batchExchanges 11 = .ok (.iload_n 1, 1) := by decide +kernel
theorem dX8_batchExchanges_12 : decode cX8_batchExchanges 12 = .ok (.ifCond .eq 5, 3) := by decide +kernel
theorem dX8_batchExchanges_15 : decode cX8_batchExchanges 15 = .ok (.iload_n 1, 1) := by decide +kernel
theorem dX8_batchExchanges_16 : decode cX8_batchExchanges 16 = .ok (.ireturn, 1) := by decide +kernel
theorem dX8_batchExchanges_17 : decode cX8_batchExchanges 17 = .ok (.aload_n 0, 1) := by decide +kernel
theorem dX8_batchExchanges_18 : decode cX8_batchExchanges 18 = .ok (.invokevirtual 165, 3) := by decide +kernel
theorem dX8_batchExchanges_21 : decode cX8_batchExchanges 21 = .ok (.aload_n 0, 1) := by decide +kernel
theorem dX8_batchExchanges_22 : decode cX8_batchExchanges 22 = .ok (.getfield 145, 3) := by decide +kernel
theorem dX8_batchExchanges_25 : decode cX8_batchExchanges 25 = .ok (.ireturn, 1) := by decide +kernel
set_option maxRecDepth 20000 in
theorem ggX8_batchPlatter_X8_whyNotServed : GoodIn wsX8_batchPlatter wsX8_whyNotServed := goodIn_r _ [10, 11, 12, 13, 14, 15, 16, 17, 9, 18, 19, 20, 21, 22, 23, 24, 25, 26, 27, 28, 29, 30, 31, 32, 33, 34, 136, 137, 138, 139, 140, 141, 142, 143, 144, 145, 146, 147, 148, 149, 150, 151, 152, 153, 154, 155, 156, 157, 158, 159, 160, 161, 162] (by decide +kernel) (by decide +kernel)
set_option maxRecDepth 20000 in
theorem gX8_batchPlatter_X8_whyNotServed : GoodIn wsX8_batchPlatter (wsV RX8 276 RX8 yX8_whyNotServed wsX8_whyNotServed) := goodIn_app (goodIn_of _ (by decide +kernel)) ggX8_batchPlatter_X8_whyNotServed
set_option maxRecDepth 20000 in
theorem ggX8_batchPlatter_X8_servingTime : GoodIn wsX8_batchPlatter wsX8_servingTime := goodIn_r _ [38, 39, 40, 41, 9, 42, 11, 43, 44, 45, 46, 47, 48, 49, 50, 51, 2, 3, 4, 52, 53, 54, 55, 56, 57, 58, 59, 23, 24, 25, 26, 60, 61, 62, 63, 64, 65, 66, 67, 68, 69, 70, 71, 72, 73, 74, 75, 76, 77, 78, 79, 80, 81, 82, 83, 84, 85, 86, 87, 88, 89, 90, 91, 92, 93, 94, 95, 96, 97, 98, 99, 100, 101, 102, 103, 104, 105, 106, 107, 108, 109, 110, 111, 112, 113, 114, 115, 116, 117, 118, 119, 120, 121, 122, 123, 124, 125, 126, 127, 128, 129, 130, 131, 132, 136, 137, 138, 139, 140, 141, 142, 143, 144, 145, 146, 147, 148, 149, 150, 151, 152, 153, 154, 155, 156, 157, 158, 159, 160, 161, 162] (by decide +kernel) (by decide +kernel)
set_option maxRecDepth 20000 in
theorem gX8_batchPlatter_X8_servingTime : GoodIn wsX8_batchPlatter (wsV RX8 279 RX8 yX8_servingTime wsX8_servingTime) := goodIn_app (goodIn_of _ (by decide +kernel)) ggX8_batchPlatter_X8_servingTime
set_option maxRecDepth 20000 in
theorem ggX8_batchPlatter_X8_isIn : GoodIn wsX8_batchPlatter wsX8_isIn := goodIn_r _ [135] (by decide +kernel) (by decide +kernel)
set_option maxRecDepth 20000 in
theorem gX8_batchPlatter_X8_isIn : GoodIn wsX8_batchPlatter (va_wsS RX8 57 yX8_isIn wsX8_isIn) := goodIn_app (goodIn_of _ (by decide +kernel)) ggX8_batchPlatter_X8_isIn
theorem dX8_batchPlatter_0 : decode cX8_batchPlatter 0 = .ok (.aload_n 0, 1) := by decide +kernel
theorem dX8_batchPlatter_1 : decode cX8_batchPlatter 1 = .ok (.iconst 0, 1) := by decide +kernel
theorem dX8_batchPlatter_2 : decode cX8_batchPlatter 2 = .ok (.putfield 51, 3) := by decide +kernel
theorem dX8_batchPlatter_5 : decode cX8_batchPlatter 5 = .ok (.aload_n 0, 1) := by decide +kernel
theorem dX8_batchPlatter_6 : decode cX8_batchPlatter 6 = .ok (.iconst 1, 1) := by decide +kernel
theorem dX8_batchPlatter_7 : decode cX8_batchPlatter 7 = .ok (.invokevirtual 276, 3) := by decide +kernel
theorem dX8_batchPlatter_10 : decode cX8_batchPlatter 10 = .ok (.istore_n 2, 1) := by decide +kernel
theorem dX8_batchPlatter_11 : decode cX8_batchPlatter 11 = .ok (.iload_n 2, 1) := by decide +kernel
theorem dX8_batchPlatter_12 : decode cX8_batchPlatter 12 = .ok (.ifCond .eq 5, 3) := by decide +kernel
theorem dX8_batchPlatter_15 : decode cX8_batchPlatter 15 = .ok (.iload_n 2, 1) := by decide +kernel
theorem dX8_batchPlatter_16 : decode cX8_batchPlatter 16 = .ok (.ireturn, 1) := by decide +kernel
theorem dX8_batchPlatter_17 : decode cX8_batchPlatter 17 = .ok (.aload_n 0, 1) := by decide +kernel
theorem dX8_batchPlatter_18 : decode cX8_batchPlatter 18 = .ok (.invokevirtual 279, 3) := by decide +kernel
theorem dX8_batchPlatter_21 : decode cX8_batchPlatter 21 = .ok (.pop, 1) := by decide +kernel
theorem dX8_batchPlatter_22 : decode cX8_batchPlatter 22 = .ok (.iload_n 1, 1) := by decide +kernel
theorem dX8_batchPlatter_23 : decode cX8_batchPlatter 23 = .ok (.i2l, 1) := by decide +kernel
theorem dX8_batchPlatter_24 : decode cX8_batchPlatter 24 = .ok (.lconst 0, 1) := by decide +kernel
theorem dX8_batchPlatter_25 : decode cX8_batchPlatter 25 = .ok (.aload_n 0, 1) := by decide +kernel
theorem dX8_batchPlatter_26 : decode cX8_batchPlatter 26 = .ok (.getfield 145, 3) := by decide +kernel
theorem dX8_batchPlatter_29 : decode cX8_batchPlatter 29 = .ok (.iconst 1, 1) := by decide +kernel
theorem dX8_batchPlatter_30 : decode cX8_batchPlatter 30 = .ok (.isub, 1) := by decide +kernel
theorem dX8_batchPlatter_31 : decode cX8_batchPlatter 31 = .ok (.i2l, 1) := by decide +kernel
theorem dX8_batchPlatter_32 : decode cX8_batchPlatter 32 = .ok (.invokestatic 57, 3) := by decide +kernel
theorem dX8_batchPlatter_35 : decode cX8_batchPlatter 35 = .ok (.ifCond .eq 17, 3) := by decide +kernel
theorem dX8_batchPlatter_38 : decode cX8_batchPlatter 38 = .ok (.aload_n 0, 1) := by decide +kernel
theorem dX8_batchPlatter_39 : decode cX8_batchPlatter 39 = .ok (.getfield 22, 3) := by decide +kernel
theorem dX8_batchPlatter_42 : decode cX8_batchPlatter 42 = .ok (.aload_n 0, 1) := by decide +kernel
theorem dX8_batchPlatter_43 : decode cX8_batchPlatter 43 = .ok (.getfield 25, 3) := by decide +kernel
theorem dX8_batchPlatter_46 : decode cX8_batchPlatter 46 = .ok (.iload_n 1, 1) := by decide +kernel
theorem dX8_batchPlatter_47 : decode cX8_batchPlatter 47 = .ok (.iaload, 1) := by decide +kernel
theorem dX8_batchPlatter_48 : decode cX8_batchPlatter 48 = .ok (.iaload, 1) := by decide +kernel
theorem dX8_batchPlatter_49 : decode cX8_batchPlatter 49 = .ok (.goto 5, 3) := by decide +kernel
theorem dX8_batchPlatter_52 : decode cX8_batchPlatter 52 = .ok (.ldc 186, 2) := by decide +kernel
theorem dX8_batchPlatter_54 : decode cX8_batchPlatter 54 = .ok (.ireturn, 1) := by decide +kernel
set_option maxRecDepth 20000 in
theorem ggX8_oneByOneTime_X8_whyNotServed : GoodIn wsX8_oneByOneTime wsX8_whyNotServed := goodIn_r _ [7, 2, 8, 9, 10, 11, 12, 13, 6, 14, 15, 16, 17, 18, 19, 20, 21, 22, 23, 24, 25, 26, 27, 28, 29, 30, 91, 92, 93, 94, 95, 96, 97, 98, 99, 100, 101, 102, 103, 104, 105, 106, 107, 108, 109, 110, 111, 112, 113, 114, 115, 116, 117] (by decide +kernel) (by decide +kernel)
set_option maxRecDepth 20000 in
theorem gX8_oneByOneTime_X8_whyNotServed : GoodIn wsX8_oneByOneTime (wsV RX8 276 RX8 yX8_whyNotServed wsX8_whyNotServed) := goodIn_app (goodIn_of _ (by decide +kernel)) ggX8_oneByOneTime_X8_whyNotServed
set_option maxRecDepth 20000 in
theorem ggX8_oneByOneTime_X8_tries : GoodIn wsX8_oneByOneTime wsX8_tries := goodIn_r _ [34, 2, 35, 36, 37, 38, 6, 39, 91, 92, 93, 94, 95, 96, 97, 98, 99, 100, 101, 102, 103, 104, 105, 106, 107, 108, 109, 110, 111, 112, 113, 114, 115, 116, 117] (by decide +kernel) (by decide +kernel)
set_option maxRecDepth 20000 in
theorem gX8_oneByOneTime_X8_tries : GoodIn wsX8_oneByOneTime (wsV RX8 136 RX8 yX8_tries wsX8_tries) := goodIn_app (goodIn_of _ (by decide +kernel)) ggX8_oneByOneTime_X8_tries
set_option maxRecDepth 20000 in
theorem ggX8_oneByOneTime_X8_reads : GoodIn wsX8_oneByOneTime wsX8_reads := goodIn_r _ [43, 2, 44, 45, 46, 6, 47, 19, 20, 21, 22, 48, 49, 50, 51, 52, 53, 54, 55, 56, 57, 58, 59, 60, 61, 62, 63, 64, 65, 66, 67, 68, 69, 70, 71, 72, 73, 74, 75, 76, 77, 78, 79, 80, 81, 82, 83, 84, 85, 86, 91, 92, 93, 94, 95, 96, 97, 98, 99, 100, 101, 102, 103, 104, 105, 106, 107, 108, 109, 110, 111, 112, 113, 114, 115, 116, 117] (by decide +kernel) (by decide +kernel)
set_option maxRecDepth 20000 in
theorem gX8_oneByOneTime_X8_reads : GoodIn wsX8_oneByOneTime (wsV RX8 162 RX8 yX8_reads wsX8_reads) := goodIn_app (goodIn_of _ (by decide +kernel)) ggX8_oneByOneTime_X8_reads
set_option maxRecDepth 20000 in
theorem ggX8_oneByOneTime_X8_takesBack : GoodIn wsX8_oneByOneTime wsX8_takesBack := goodIn_r _ [90, 2, 36, 35, 37, 38, 6, 39, 91, 92, 93, 94, 95, 96, 97, 98, 99, 100, 101, 102, 103, 104, 105, 106, 107, 108, 109, 110, 111, 112, 113, 114, 115, 116, 117] (by decide +kernel) (by decide +kernel)
set_option maxRecDepth 20000 in
theorem gX8_oneByOneTime_X8_takesBack : GoodIn wsX8_oneByOneTime (wsV RX8 139 RX8 yX8_takesBack wsX8_takesBack) := goodIn_app (goodIn_of _ (by decide +kernel)) ggX8_oneByOneTime_X8_takesBack
theorem dX8_oneByOneTime_0 : decode cX8_oneByOneTime 0 = .ok (.aload_n 0, 1) := by decide +kernel
theorem dX8_oneByOneTime_1 : decode cX8_oneByOneTime 1 = .ok (.iconst 0, 1) := by decide +kernel
theorem dX8_oneByOneTime_2 : decode cX8_oneByOneTime 2 = .ok (.putfield 51, 3) := by decide +kernel
theorem dX8_oneByOneTime_5 : decode cX8_oneByOneTime 5 = .ok (.aload_n 0, 1) := by decide +kernel
theorem dX8_oneByOneTime_6 : decode cX8_oneByOneTime 6 = .ok (.iconst 1, 1) := by decide +kernel
theorem dX8_oneByOneTime_7 : decode cX8_oneByOneTime 7 = .ok (.invokevirtual 276, 3) := by decide +kernel
theorem dX8_oneByOneTime_10 : decode cX8_oneByOneTime 10 = .ok (.istore_n 1, 1) := by decide +kernel
theorem dX8_oneByOneTime_11 : decode cX8_oneByOneTime 11 = .ok (.iload_n 1, 1) := by decide +kernel
theorem dX8_oneByOneTime_12 : decode cX8_oneByOneTime 12 = .ok (.ifCond .eq 5, 3) := by decide +kernel
theorem dX8_oneByOneTime_15 : decode cX8_oneByOneTime 15 = .ok (.iload_n 1, 1) := by decide +kernel
theorem dX8_oneByOneTime_16 : decode cX8_oneByOneTime 16 = .ok (.ireturn, 1) := by decide +kernel
theorem dX8_oneByOneTime_17 : decode cX8_oneByOneTime 17 = .ok (.aload_n 0, 1) := by decide +kernel
theorem dX8_oneByOneTime_18 : decode cX8_oneByOneTime 18 = .ok (.invokevirtual 136, 3) := by decide +kernel
theorem dX8_oneByOneTime_21 : decode cX8_oneByOneTime 21 = .ok (.iconst 0, 1) := by decide +kernel
theorem dX8_oneByOneTime_22 : decode cX8_oneByOneTime 22 = .ok (.istore_n 2, 1) := by decide +kernel
theorem dX8_oneByOneTime_23 : decode cX8_oneByOneTime 23 = .ok (.iload_n 2, 1) := by decide +kernel
theorem dX8_oneByOneTime_24 : decode cX8_oneByOneTime 24 = .ok (.aload_n 0, 1) := by decide +kernel
theorem dX8_oneByOneTime_25 : decode cX8_oneByOneTime 25 = .ok (.getfield 7, 3) := by decide +kernel
theorem dX8_oneByOneTime_28 : decode cX8_oneByOneTime 28 = .ok (.bipush 16, 2) := by decide +kernel
theorem dX8_oneByOneTime_30 : decode cX8_oneByOneTime 30 = .ok (.iaload, 1) := by decide +kernel
theorem dX8_oneByOneTime_31 : decode cX8_oneByOneTime 31 = .ok (.if_icmp .ge 23, 3) := by decide +kernel
theorem dX8_oneByOneTime_34 : decode cX8_oneByOneTime 34 = .ok (.aload_n 0, 1) := by decide +kernel
theorem dX8_oneByOneTime_35 : decode cX8_oneByOneTime 35 = .ok (.aload_n 0, 1) := by decide +kernel
theorem dX8_oneByOneTime_36 : decode cX8_oneByOneTime 36 = .ok (.getfield 7, 3) := by decide +kernel
theorem dX8_oneByOneTime_39 : decode cX8_oneByOneTime 39 = .ok (.sipush 589, 3) := by decide +kernel
theorem dX8_oneByOneTime_42 : decode cX8_oneByOneTime 42 = .ok (.iload_n 2, 1) := by decide +kernel
theorem dX8_oneByOneTime_43 : decode cX8_oneByOneTime 43 = .ok (.iadd, 1) := by decide +kernel
theorem dX8_oneByOneTime_44 : decode cX8_oneByOneTime 44 = .ok (.iaload, 1) := by decide +kernel
theorem dX8_oneByOneTime_45 : decode cX8_oneByOneTime 45 = .ok (.invokevirtual 162, 3) := by decide +kernel
theorem dX8_oneByOneTime_48 : decode cX8_oneByOneTime 48 = .ok (.iinc 2 1, 3) := by decide +kernel
theorem dX8_oneByOneTime_51 : decode cX8_oneByOneTime 51 = .ok (.goto (-28), 3) := by decide +kernel
theorem dX8_oneByOneTime_54 : decode cX8_oneByOneTime 54 = .ok (.aload_n 0, 1) := by decide +kernel
theorem dX8_oneByOneTime_55 : decode cX8_oneByOneTime 55 = .ok (.invokevirtual 139, 3) := by decide +kernel
theorem dX8_oneByOneTime_58 : decode cX8_oneByOneTime 58 = .ok (.ireturn, 1) := by decide +kernel
set_option maxRecDepth 20000 in
theorem ggX8_leastTimeWithoutOne_X8_whyNotServed : GoodIn wsX8_leastTimeWithoutOne wsX8_whyNotServed := goodIn_r _ [8, 3, 9, 10, 11, 12, 13, 14, 7, 15, 16, 17, 18, 19, 20, 21, 22, 23, 24, 25, 26, 27, 28, 29, 30, 31, 132, 133, 134, 135, 136, 137, 138, 139, 140, 141, 142, 143, 144, 145, 146, 147, 148, 149, 150, 151, 152, 153, 154, 155, 156, 157, 158] (by decide +kernel) (by decide +kernel)
set_option maxRecDepth 20000 in
theorem gX8_leastTimeWithoutOne_X8_whyNotServed : GoodIn wsX8_leastTimeWithoutOne (wsV RX8 276 RX8 yX8_whyNotServed wsX8_whyNotServed) := goodIn_app (goodIn_of _ (by decide +kernel)) ggX8_leastTimeWithoutOne_X8_whyNotServed
set_option maxRecDepth 20000 in
theorem ggX8_leastTimeWithoutOne_X8_tries : GoodIn wsX8_leastTimeWithoutOne wsX8_tries := goodIn_r _ [35, 3, 36, 37, 38, 39, 7, 40, 132, 133, 134, 135, 136, 137, 138, 139, 140, 141, 142, 143, 144, 145, 146, 147, 148, 149, 150, 151, 152, 153, 154, 155, 156, 157, 158] (by decide +kernel) (by decide +kernel)
set_option maxRecDepth 20000 in
theorem gX8_leastTimeWithoutOne_X8_tries : GoodIn wsX8_leastTimeWithoutOne (wsV RX8 136 RX8 yX8_tries wsX8_tries) := goodIn_app (goodIn_of _ (by decide +kernel)) ggX8_leastTimeWithoutOne_X8_tries
set_option maxRecDepth 20000 in
theorem ggX8_leastTimeWithoutOne_X8_drops : GoodIn wsX8_leastTimeWithoutOne wsX8_drops := goodIn_r _ [44, 3, 132, 133, 134, 135, 136, 137, 138, 139, 140, 141, 142, 143, 144, 145, 146, 147, 148, 149, 150, 151, 152, 153, 154, 155, 156, 157, 158] (by decide +kernel) (by decide +kernel)
set_option maxRecDepth 20000 in
theorem gX8_leastTimeWithoutOne_X8_drops : GoodIn wsX8_leastTimeWithoutOne (wsV RX8 273 RX8 yX8_drops wsX8_drops) := goodIn_app (goodIn_of _ (by decide +kernel)) ggX8_leastTimeWithoutOne_X8_drops
set_option maxRecDepth 20000 in
theorem ggX8_leastTimeWithoutOne_X8_serves : GoodIn wsX8_leastTimeWithoutOne wsX8_serves := goodIn_r _ [48, 3, 49, 50, 51, 52, 53, 54, 7, 55, 56, 57, 58, 59, 20, 21, 22, 23, 60, 61, 62, 63, 64, 65, 66, 67, 68, 69, 70, 71, 72, 73, 74, 75, 76, 77, 78, 79, 80, 81, 82, 83, 84, 85, 86, 87, 88, 89, 90, 91, 92, 93, 94, 95, 96, 97, 98, 99, 100, 101, 102, 103, 104, 105, 106, 107, 108, 109, 110, 2, 111, 112, 113, 114, 115, 116, 117, 118, 119, 120, 121, 122, 123, 124, 125, 126, 127, 132, 133, 134, 135, 136, 137, 138, 139, 140, 141, 142, 143, 144, 145, 146, 147, 148, 149, 150, 151, 152, 153, 154, 155, 156, 157, 158] (by decide +kernel) (by decide +kernel)
set_option maxRecDepth 20000 in
theorem gX8_leastTimeWithoutOne_X8_serves : GoodIn wsX8_leastTimeWithoutOne (wsV RX8 183 RX8 yX8_serves wsX8_serves) := goodIn_app (goodIn_of _ (by decide +kernel)) ggX8_leastTimeWithoutOne_X8_serves
set_option maxRecDepth 20000 in
theorem ggX8_leastTimeWithoutOne_X8_takesBack : GoodIn wsX8_leastTimeWithoutOne wsX8_takesBack := goodIn_r _ [131, 3, 37, 36, 38, 39, 7, 40, 132, 133, 134, 135, 136, 137, 138, 139, 140, 141, 142, 143, 144, 145, 146, 147, 148, 149, 150, 151, 152, 153, 154, 155, 156, 157, 158] (by decide +kernel) (by decide +kernel)
set_option maxRecDepth 20000 in
theorem gX8_leastTimeWithoutOne_X8_takesBack : GoodIn wsX8_leastTimeWithoutOne (wsV RX8 139 RX8 yX8_takesBack wsX8_takesBack) := goodIn_app (goodIn_of _ (by decide +kernel)) ggX8_leastTimeWithoutOne_X8_takesBack
theorem dX8_leastTimeWithoutOne_0 : decode cX8_leastTimeWithoutOne 0 = .ok (.aload_n 0, 1) := by decide +kernel
theorem dX8_leastTimeWithoutOne_1 : decode cX8_leastTimeWithoutOne 1 = .ok (.iconst 0, 1) := by decide +kernel
theorem dX8_leastTimeWithoutOne_2 : decode cX8_leastTimeWithoutOne 2 = .ok (.putfield 51, 3) := by decide +kernel
theorem dX8_leastTimeWithoutOne_5 : decode cX8_leastTimeWithoutOne 5 = .ok (.aload_n 0, 1) := by decide +kernel
theorem dX8_leastTimeWithoutOne_6 : decode cX8_leastTimeWithoutOne 6 = .ok (.iconst 2, 1) := by decide +kernel
theorem dX8_leastTimeWithoutOne_7 : decode cX8_leastTimeWithoutOne 7 = .ok (.invokevirtual 276, 3) := by decide +kernel
theorem dX8_leastTimeWithoutOne_10 : decode cX8_leastTimeWithoutOne 10 = .ok (.istore_n 1, 1) := by decide +kernel
theorem dX8_leastTimeWithoutOne_11 : decode cX8_leastTimeWithoutOne 11 = .ok (.iload_n 1, 1) := by decide +kernel
theorem dX8_leastTimeWithoutOne_12 : decode cX8_leastTimeWithoutOne 12 = .ok (.ifCond .eq 5, 3) := by decide +kernel
theorem dX8_leastTimeWithoutOne_15 : decode cX8_leastTimeWithoutOne 15 = .ok (.iload_n 1, 1) := by decide +kernel
theorem dX8_leastTimeWithoutOne_16 : decode cX8_leastTimeWithoutOne 16 = .ok (.ireturn, 1) := by decide +kernel
theorem dX8_leastTimeWithoutOne_17 : decode cX8_leastTimeWithoutOne 17 = .ok (.ldc 151, 2) := by decide +kernel
theorem dX8_leastTimeWithoutOne_19 : decode cX8_leastTimeWithoutOne 19 = .ok (.istore_n 2, 1) := by decide +kernel
theorem dX8_leastTimeWithoutOne_20 : decode cX8_leastTimeWithoutOne 20 = .ok (.iconst 0, 1) := by decide +kernel
theorem dX8_leastTimeWithoutOne_21 : decode cX8_leastTimeWithoutOne 21 = .ok (.istore_n 3, 1) := by decide +kernel
theorem dX8_leastTimeWithoutOne_22 : decode cX8_leastTimeWithoutOne 22 = .ok (.iload_n 3, 1) := by decide +kernel
theorem dX8_leastTimeWithoutOne_23 : decode cX8_leastTimeWithoutOne 23 = .ok (.aload_n 0, 1) := by decide +kernel
theorem dX8_leastTimeWithoutOne_24 : decode cX8_leastTimeWithoutOne 24 = .ok (.getfield 7, 3) := by decide +kernel
theorem dX8_leastTimeWithoutOne_27 : decode cX8_leastTimeWithoutOne 27 = .ok (.bipush 16, 2) := by decide +kernel
theorem dX8_leastTimeWithoutOne_29 : decode cX8_leastTimeWithoutOne 29 = .ok (.iaload, 1) := by decide +kernel
theorem dX8_leastTimeWithoutOne_30 : decode cX8_leastTimeWithoutOne 30 = .ok (.if_icmp .ge 41, 3) := by decide +kernel
theorem dX8_leastTimeWithoutOne_33 : decode cX8_leastTimeWithoutOne 33 = .ok (.aload_n 0, 1) := by decide +kernel
theorem dX8_leastTimeWithoutOne_34 : decode cX8_leastTimeWithoutOne 34 = .ok (.invokevirtual 136, 3) := by decide +kernel
theorem dX8_leastTimeWithoutOne_37 : decode cX8_leastTimeWithoutOne 37 = .ok (.aload_n 0, 1) := by decide +kernel
theorem dX8_leastTimeWithoutOne_38 : decode cX8_leastTimeWithoutOne 38 = .ok (.iload_n 3, 1) := by decide +kernel
theorem dX8_leastTimeWithoutOne_39 : decode cX8_leastTimeWithoutOne 39 = .ok (.invokevirtual 273, 3) := by decide +kernel
theorem dX8_leastTimeWithoutOne_42 : decode cX8_leastTimeWithoutOne 42 = .ok (.aload_n 0, 1) := by decide +kernel
theorem dX8_leastTimeWithoutOne_43 : decode cX8_leastTimeWithoutOne 43 = .ok (.invokevirtual 183, 3) := by decide +kernel
theorem dX8_leastTimeWithoutOne_46 : decode cX8_leastTimeWithoutOne 46 = .ok (.aload_n 0, 1) := by decide +kernel
theorem dX8_leastTimeWithoutOne_47 : decode cX8_leastTimeWithoutOne 47 = .ok (.invokevirtual 139, 3) := by decide +kernel
theorem dX8_leastTimeWithoutOne_50 : decode cX8_leastTimeWithoutOne 50 = .ok (.istore 4, 2) := by decide +kernel
theorem dX8_leastTimeWithoutOne_52 : decode cX8_leastTimeWithoutOne 52 = .ok (.iload 4, 2) := by decide +kernel
theorem dX8_leastTimeWithoutOne_54 : decode cX8_leastTimeWithoutOne 54 = .ok (.iload_n 2, 1) := by decide +kernel
theorem dX8_leastTimeWithoutOne_55 : decode cX8_leastTimeWithoutOne 55 = .ok (.if_icmp .ge 8, 3) := by decide +kernel
theorem dX8_leastTimeWithoutOne_58 : decode cX8_leastTimeWithoutOne 58 = .ok (.iload 4, 2) := by decide +kernel
theorem dX8_leastTimeWithoutOne_60 : decode cX8_leastTimeWithoutOne 60 = .ok (.goto 4, 3) := by decide +kernel
theorem dX8_leastTimeWithoutOne_63 : decode cX8_leastTimeWithoutOne 63 = .ok (.iload_n 2, 1) := by decide +kernel
theorem dX8_leastTimeWithoutOne_64 : decode cX8_leastTimeWithoutOne 64 = .ok (.istore_n 2, 1) := by decide +kernel
theorem dX8_leastTimeWithoutOne_65 : decode cX8_leastTimeWithoutOne 65 = .ok (.iinc 3 1, 3) := by decide +kernel
theorem dX8_leastTimeWithoutOne_68 : decode cX8_leastTimeWithoutOne 68 = .ok (.goto (-46), 3) := by decide +kernel
theorem dX8_leastTimeWithoutOne_71 : decode cX8_leastTimeWithoutOne 71 = .ok (.iload_n 2, 1) := by decide +kernel
theorem dX8_leastTimeWithoutOne_72 : decode cX8_leastTimeWithoutOne 72 = .ok (.ireturn, 1) := by decide +kernel
set_option maxRecDepth 20000 in
theorem ggX8_nearest_X8_far : GoodIn wsX8_nearest wsX8_far := goodIn_r _ [10] (by decide +kernel) (by decide +kernel)
set_option maxRecDepth 20000 in
theorem gX8_nearest_X8_far : GoodIn wsX8_nearest (va_wsS RX8 93 yX8_far wsX8_far) := goodIn_app (goodIn_of _ (by decide +kernel)) ggX8_nearest_X8_far
theorem dX8_nearest_0 : decode cX8_nearest 0 = .ok (.ldc 151, 2) := by decide +kernel
theorem dX8_nearest_2 : decode cX8_nearest 2 = .ok (.istore_n 2, 1) := by decide +kernel
theorem dX8_nearest_3 : decode cX8_nearest 3 = .ok (.iconst 0, 1) := by decide +kernel
theorem dX8_nearest_4 : decode cX8_nearest 4 = .ok (.istore_n 3, 1) := by decide +kernel
theorem dX8_nearest_5 : decode cX8_nearest 5 = .ok (.iload_n 3, 1) := by decide +kernel
theorem dX8_nearest_6 : decode cX8_nearest 6 = .ok (.aload_n 0, 1) := by decide +kernel
theorem dX8_nearest_7 : decode cX8_nearest 7 = .ok (.getfield 7, 3) := by decide +kernel
theorem dX8_nearest_10 : decode cX8_nearest 10 = .ok (.bipush 6, 2) := by decide +kernel
theorem dX8_nearest_12 : decode cX8_nearest 12 = .ok (.iaload, 1) := by decide +kernel
theorem dX8_nearest_13 : decode cX8_nearest 13 = .ok (.if_icmp .ge 27, 3) := by decide +kernel
theorem dX8_nearest_16 : decode cX8_nearest 16 = .ok (.iload_n 2, 1) := by decide +kernel
theorem dX8_nearest_17 : decode cX8_nearest 17 = .ok (.iload_n 1, 1) := by decide +kernel
theorem dX8_nearest_18 : decode cX8_nearest 18 = .ok (.aload_n 0, 1) := by decide +kernel
theorem dX8_nearest_19 : decode cX8_nearest 19 = .ok (.getfield 7, 3) := by decide +kernel
theorem dX8_nearest_22 : decode cX8_nearest 22 = .ok (.bipush 17, 2) := by decide +kernel
theorem dX8_nearest_24 : decode cX8_nearest 24 = .ok (.iload_n 3, 1) := by decide +kernel
theorem dX8_nearest_25 : decode cX8_nearest 25 = .ok (.iadd, 1) := by decide +kernel
theorem dX8_nearest_26 : decode cX8_nearest 26 = .ok (.iaload, 1) := by decide +kernel
theorem dX8_nearest_27 : decode cX8_nearest 27 = .ok (.invokestatic 93, 3) := by decide +kernel
theorem dX8_nearest_30 : decode cX8_nearest 30 = .ok (.invokestatic 69, 3) := by decide +kernel
theorem dX8_nearest_33 : decode cX8_nearest 33 = .ok (.istore_n 2, 1) := by decide +kernel
theorem dX8_nearest_34 : decode cX8_nearest 34 = .ok (.iinc 3 1, 3) := by decide +kernel
theorem dX8_nearest_37 : decode cX8_nearest 37 = .ok (.goto (-32), 3) := by decide +kernel
theorem dX8_nearest_40 : decode cX8_nearest 40 = .ok (.iload_n 2, 1) := by decide +kernel
theorem dX8_nearest_41 : decode cX8_nearest 41 = .ok (.ireturn, 1) := by decide +kernel
set_option maxRecDepth 20000 in
theorem ggX8_nearestHome_X8_isPlatter : GoodIn wsX8_nearestHome wsX8_isPlatter := goodIn_r _ [9, 3, 10, 11, 8, 12, 28, 29, 30, 31, 32, 33, 34, 35, 36, 37, 38, 39, 40, 41, 42, 43, 44, 45, 46, 47, 48, 49, 50, 51, 52, 53, 54] (by decide +kernel) (by decide +kernel)
set_option maxRecDepth 20000 in
theorem gX8_nearestHome_X8_isPlatter : GoodIn wsX8_nearestHome (wsV RX8 61 RX8 yX8_isPlatter wsX8_isPlatter) := goodIn_app (goodIn_of _ (by decide +kernel)) ggX8_nearestHome_X8_isPlatter
set_option maxRecDepth 20000 in
theorem ggX8_nearestHome_X8_homeAt : GoodIn wsX8_nearestHome wsX8_homeAt := goodIn_r _ [15] (by decide +kernel) (by decide +kernel)
set_option maxRecDepth 20000 in
theorem gX8_nearestHome_X8_homeAt : GoodIn wsX8_nearestHome (va_wsS RX8 265 yX8_homeAt wsX8_homeAt) := goodIn_app (goodIn_of _ (by decide +kernel)) ggX8_nearestHome_X8_homeAt
set_option maxRecDepth 20000 in
theorem ggX8_nearestHome_X8_nearest : GoodIn wsX8_nearestHome wsX8_nearest := goodIn_r _ [19, 20, 3, 21, 22, 23, 24, 25, 26, 8, 27, 28, 29, 30, 31, 32, 33, 34, 35, 36, 37, 38, 39, 40, 41, 42, 43, 44, 45, 46, 47, 48, 49, 50, 51, 52, 53, 54] (by decide +kernel) (by decide +kernel)
set_option maxRecDepth 20000 in
theorem gX8_nearestHome_X8_nearest : GoodIn wsX8_nearestHome (wsV RX8 282 RX8 yX8_nearest wsX8_nearest) := goodIn_app (goodIn_of _ (by decide +kernel)) ggX8_nearestHome_X8_nearest
theorem dX8_nearestHome_0 : decode cX8_nearestHome 0 = .ok (.aload_n 0, 1) := by decide +kernel
theorem dX8_nearestHome_1 : decode cX8_nearestHome 1 = .ok (.iconst 0, 1) := by decide +kernel
theorem dX8_nearestHome_2 : decode cX8_nearestHome 2 = .ok (.putfield 51, 3) := by decide +kernel
theorem dX8_nearestHome_5 : decode cX8_nearestHome 5 = .ok (.aload_n 0, 1) := by decide +kernel
theorem dX8_nearestHome_6 : decode cX8_nearestHome 6 = .ok (.iload_n 1, 1) := by decide +kernel
theorem dX8_nearestHome_7 : decode cX8_nearestHome 7 = .ok (.invokevirtual 61, 3) := by decide +kernel
theorem dX8_nearestHome_10 : decode cX8_nearestHome 10 = .ok (.ifCond .ne 6, 3) := by decide +kernel
theorem dX8_nearestHome_13 : decode cX8_nearestHome 13 = .ok (.ldc 186, 2) := by decide +kernel
theorem dX8_nearestHome_15 : decode cX8_nearestHome 15 = .ok (.ireturn, 1) := by decide +kernel
theorem dX8_nearestHome_16 : decode cX8_nearestHome 16 = .ok (.aload_n 0, 1) := by decide +kernel
theorem dX8_nearestHome_17 : decode cX8_nearestHome 17 = .ok (.getfield 7, 3) := by decide +kernel
theorem dX8_nearestHome_20 : decode cX8_nearestHome 20 = .ok (.bipush 6, 2) := by decide +kernel
theorem dX8_nearestHome_22 : decode cX8_nearestHome 22 = .ok (.iaload, 1) := by decide +kernel
theorem dX8_nearestHome_23 : decode cX8_nearestHome 23 = .ok (.ifCond .ne 6, 3) := by decide +kernel
theorem dX8_nearestHome_26 : decode cX8_nearestHome 26 = .ok (.ldc 177, 2) := by decide +kernel
theorem dX8_nearestHome_28 : decode cX8_nearestHome 28 = .ok (.ireturn, 1) := by decide +kernel
theorem dX8_nearestHome_29 : decode cX8_nearestHome 29 = .ok (.iconst (-1), 1) := by decide +kernel
theorem dX8_nearestHome_30 : decode cX8_nearestHome 30 = .ok (.istore_n 2, 1) := by decide +kernel
theorem dX8_nearestHome_31 : decode cX8_nearestHome 31 = .ok (.iconst 0, 1) := by decide +kernel
theorem dX8_nearestHome_32 : decode cX8_nearestHome 32 = .ok (.istore_n 3, 1) := by decide +kernel
theorem dX8_nearestHome_33 : decode cX8_nearestHome 33 = .ok (.iload_n 3, 1) := by decide +kernel
theorem dX8_nearestHome_34 : decode cX8_nearestHome 34 = .ok (.aload_n 0, 1) := by decide +kernel
theorem dX8_nearestHome_35 : decode cX8_nearestHome 35 = .ok (.getfield 7, 3) := by decide +kernel
theorem dX8_nearestHome_38 : decode cX8_nearestHome 38 = .ok (.iconst 0, 1) := by decide +kernel
theorem dX8_nearestHome_39 : decode cX8_nearestHome 39 = .ok (.iaload, 1) := by decide +kernel
theorem dX8_nearestHome_40 : decode cX8_nearestHome 40 = .ok (.if_icmp .ge 54, 3) := by decide +kernel
theorem dX8_nearestHome_43 : decode cX8_nearestHome 43 = .ok (.aload_n 0, 1) := by decide +kernel
theorem dX8_nearestHome_44 : decode cX8_nearestHome 44 = .ok (.getfield 7, 3) := by decide +kernel
theorem dX8_nearestHome_47 : decode cX8_nearestHome 47 = .ok (.iload_n 3, 1) := by decide +kernel
theorem dX8_nearestHome_48 : decode cX8_nearestHome 48 = .ok (.invokestatic 265, 3) := by decide +kernel
theorem dX8_nearestHome_51 : decode cX8_nearestHome 51 = .ok (.istore 4, 2) := by decide +kernel
theorem dX8_nearestHome_53 : decode cX8_nearestHome 53 = .ok (.iload 4, 2) := by decide +kernel
theorem dX8_nearestHome_55 : decode cX8_nearestHome 55 = .ok (.iconst (-1), 1) := by decide +kernel
theorem dX8_nearestHome_56 : decode cX8_nearestHome 56 = .ok (.if_icmp .eq 12, 3) := by decide +kernel
theorem dX8_nearestHome_59 : decode cX8_nearestHome 59 = .ok (.iload 4, 2) := by decide +kernel
theorem dX8_nearestHome_61 : decode cX8_nearestHome 61 = .ok (.iload_n 1, 1) := by decide +kernel
theorem dX8_nearestHome_62 : decode cX8_nearestHome 62 = .ok (.if_icmp .eq 6, 3) := by decide +kernel
theorem dX8_nearestHome_65 : decode cX8_nearestHome 65 = .ok (.goto 23, 3) := by decide +kernel
theorem dX8_nearestHome_68 : decode cX8_nearestHome 68 = .ok (.iload_n 2, 1) := by decide +kernel
theorem dX8_nearestHome_69 : decode cX8_nearestHome 69 = .ok (.iconst (-1), 1) := by decide +kernel
theorem dX8_nearestHome_70 : decode cX8_nearestHome 70 = .ok (.if_icmp .eq 16, 3) := by decide +kernel
theorem dX8_nearestHome_73 : decode cX8_nearestHome 73 = .ok (.aload_n 0, 1) := by decide +kernel
theorem dX8_nearestHome_74 : decode cX8_nearestHome 74 = .ok (.iload_n 3, 1) := by decide +kernel
theorem dX8_nearestHome_75 : decode cX8_nearestHome 75 = .ok (.invokevirtual 282, 3) := by decide +kernel
theorem dX8_nearestHome_78 : decode cX8_nearestHome 78 = .ok (.aload_n 0, 1) := by decide +kernel
theorem dX8_nearestHome_79 : decode cX8_nearestHome 79 = .ok (.iload_n 2, 1) := by decide +kernel
theorem dX8_nearestHome_80 : decode cX8_nearestHome 80 = .ok (.invokevirtual 282, 3) := by decide +kernel
theorem dX8_nearestHome_83 : decode cX8_nearestHome 83 = .ok (.if_icmp .ge 5, 3) := by decide +kernel
theorem dX8_nearestHome_86 : decode cX8_nearestHome 86 = .ok (.iload_n 3, 1) := by decide +kernel
theorem dX8_nearestHome_87 : decode cX8_nearestHome 87 = .ok (.istore_n 2, 1) := by decide +kernel
theorem dX8_nearestHome_88 : decode cX8_nearestHome 88 = .ok (.iinc 3 1, 3) := by decide +kernel
theorem dX8_nearestHome_91 : decode cX8_nearestHome 91 = .ok (.goto (-58), 3) := by decide +kernel
theorem dX8_nearestHome_94 : decode cX8_nearestHome 94 = .ok (.iload_n 2, 1) := by decide +kernel
theorem dX8_nearestHome_95 : decode cX8_nearestHome 95 = .ok (.ireturn, 1) := by decide +kernel
theorem dX8_puts_0 : decode cX8_puts 0 = .ok (.aload_n 0, 1) := by decide +kernel
theorem dX8_puts_1 : decode cX8_puts 1 = .ok (.getfield 31, 3) := by decide +kernel
theorem dX8_puts_4 : decode cX8_puts 4 = .ok (.aload_n 0, 1) := by decide +kernel
theorem dX8_puts_5 : decode cX8_puts 5 = .ok (.getfield 285, 3) := by decide +kernel
theorem dX8_puts_8 : decode cX8_puts 8 = .ok (.iload_n 1, 1) := by decide +kernel
theorem dX8_puts_9 : decode cX8_puts 9 = .ok (.i2b, 1) := by decide +kernel
theorem dX8_puts_10 : decode cX8_puts 10 = .ok (.bastore, 1) := by decide +kernel
theorem dX8_puts_11 : decode cX8_puts 11 = .ok (.aload_n 0, 1) := by decide +kernel
theorem dX8_puts_12 : decode cX8_puts 12 = .ok (.dup, 1) := by decide +kernel
theorem dX8_puts_13 : decode cX8_puts 13 = .ok (.getfield 285, 3) := by decide +kernel
theorem dX8_puts_16 : decode cX8_puts 16 = .ok (.iconst 1, 1) := by decide +kernel
theorem dX8_puts_17 : decode cX8_puts 17 = .ok (.iadd, 1) := by decide +kernel
theorem dX8_puts_18 : decode cX8_puts 18 = .ok (.putfield 285, 3) := by decide +kernel
theorem dX8_puts_21 : decode cX8_puts 21 = .ok (.return_, 1) := by decide +kernel
set_option maxRecDepth 20000 in
theorem ggX8_digits_X8_puts : GoodIn wsX8_digits wsX8_puts := goodIn_r _ [5, 6, 7, 8, 9, 10, 11, 12, 13, 14, 15, 16, 17, 18, 19, 20, 21, 22, 23, 24, 25, 26, 27, 28, 29, 30, 31, 32, 33, 34] (by decide +kernel) (by decide +kernel)
set_option maxRecDepth 20000 in
theorem gX8_digits_X8_puts : GoodIn wsX8_digits (wsV RX8 288 RX8 yX8_puts wsX8_puts) := goodIn_app (goodIn_of _ (by decide +kernel)) ggX8_digits_X8_puts
theorem dX8_digits_0 : decode cX8_digits 0 = .ok (.iconst 1, 1) := by decide +kernel
theorem dX8_digits_1 : decode cX8_digits 1 = .ok (.istore_n 2, 1) := by decide +kernel
theorem dX8_digits_2 : decode cX8_digits 2 = .ok (.iload_n 1, 1) := by decide +kernel
theorem dX8_digits_3 : decode cX8_digits 3 = .ok (.iload_n 2, 1) := by decide +kernel
theorem dX8_digits_4 : decode cX8_digits 4 = .ok (.idiv, 1) := by decide +kernel
theorem dX8_digits_5 : decode cX8_digits 5 = .ok (.bipush 9, 2) := by decide +kernel
theorem dX8_digits_7 : decode cX8_digits 7 = .ok (.if_icmp .le 11, 3) := by decide +kernel
theorem dX8_digits_10 : decode cX8_digits 10 = .ok (.iload_n 2, 1) := by decide +kernel
theorem dX8_digits_11 : decode cX8_digits 11 = .ok (.bipush 10, 2) := by decide +kernel
theorem dX8_digits_13 : decode cX8_digits 13 = .ok (.imul, 1) := by decide +kernel
theorem dX8_digits_14 : decode cX8_digits 14 = .ok (.istore_n 2, 1) := by decide +kernel
theorem dX8_digits_15 : decode cX8_digits 15 = .ok (.goto (-13), 3) := by decide +kernel
theorem dX8_digits_18 : decode cX8_digits 18 = .ok (.iload_n 2, 1) := by decide +kernel
theorem dX8_digits_19 : decode cX8_digits 19 = .ok (.istore_n 3, 1) := by decide +kernel
theorem dX8_digits_20 : decode cX8_digits 20 = .ok (.iload_n 3, 1) := by decide +kernel
theorem dX8_digits_21 : decode cX8_digits 21 = .ok (.ifCond .le 24, 3) := by decide +kernel
theorem dX8_digits_24 : decode cX8_digits 24 = .ok (.aload_n 0, 1) := by decide +kernel
theorem dX8_digits_25 : decode cX8_digits 25 = .ok (.bipush 48, 2) := by decide +kernel
theorem dX8_digits_27 : decode cX8_digits 27 = .ok (.iload_n 1, 1) := by decide +kernel
theorem dX8_digits_28 : decode cX8_digits 28 = .ok (.iload_n 3, 1) := by decide +kernel
theorem dX8_digits_29 : decode cX8_digits 29 = .ok (.idiv, 1) := by decide +kernel
theorem dX8_digits_30 : decode cX8_digits 30 = .ok (.bipush 10, 2) := by decide +kernel
theorem dX8_digits_32 : decode cX8_digits 32 = .ok (.irem, 1) := by decide +kernel
theorem dX8_digits_33 : decode cX8_digits 33 = .ok (.iadd, 1) := by decide +kernel
theorem dX8_digits_34 : decode cX8_digits 34 = .ok (.invokevirtual 288, 3) := by decide +kernel
theorem dX8_digits_37 : decode cX8_digits 37 = .ok (.iload_n 3, 1) := by decide +kernel
theorem dX8_digits_38 : decode cX8_digits 38 = .ok (.bipush 10, 2) := by decide +kernel
theorem dX8_digits_40 : decode cX8_digits 40 = .ok (.idiv, 1) := by decide +kernel
theorem dX8_digits_41 : decode cX8_digits 41 = .ok (.istore_n 3, 1) := by decide +kernel
theorem dX8_digits_42 : decode cX8_digits 42 = .ok (.goto (-22), 3) := by decide +kernel
theorem dX8_digits_45 : decode cX8_digits 45 = .ok (.return_, 1) := by decide +kernel
set_option maxRecDepth 20000 in
theorem ggX8_writeCatalogue_X8_digits : GoodIn wsX8_writeCatalogue wsX8_digits := goodIn_r _ [8, 9, 10, 11, 7, 12, 13, 2, 34, 35, 36, 37, 38, 39, 40, 41, 42, 43, 44, 45, 46, 47, 48, 49, 50, 51, 52, 53, 54, 55, 56, 57, 58, 59, 60] (by decide +kernel) (by decide +kernel)
set_option maxRecDepth 20000 in
theorem gX8_writeCatalogue_X8_digits : GoodIn wsX8_writeCatalogue (wsV RX8 291 RX8 yX8_digits wsX8_digits) := goodIn_app (goodIn_of _ (by decide +kernel)) ggX8_writeCatalogue_X8_digits
set_option maxRecDepth 20000 in
theorem ggX8_writeCatalogue_X8_puts : GoodIn wsX8_writeCatalogue wsX8_puts := goodIn_r _ [12, 13, 2, 34, 35, 36, 37, 38, 39, 40, 41, 42, 43, 44, 45, 46, 47, 48, 49, 50, 51, 52, 53, 54, 55, 56, 57, 58, 59, 60] (by decide +kernel) (by decide +kernel)
set_option maxRecDepth 20000 in
theorem gX8_writeCatalogue_X8_puts : GoodIn wsX8_writeCatalogue (wsV RX8 288 RX8 yX8_puts wsX8_puts) := goodIn_app (goodIn_of _ (by decide +kernel)) ggX8_writeCatalogue_X8_puts
set_option maxRecDepth 20000 in
theorem ggX8_writeCatalogue_X8_platterOf : GoodIn wsX8_writeCatalogue wsX8_platterOf := goodIn_r _ [17, 3, 18, 19, 20, 7, 21, 34, 35, 36, 37, 38, 39, 40, 41, 42, 43, 44, 45, 46, 47, 48, 49, 50, 51, 52, 53, 54, 55, 56, 57, 58, 59, 60] (by decide +kernel) (by decide +kernel)
set_option maxRecDepth 20000 in
theorem gX8_writeCatalogue_X8_platterOf : GoodIn wsX8_writeCatalogue (wsV RX8 123 RX8 yX8_platterOf wsX8_platterOf) := goodIn_app (goodIn_of _ (by decide +kernel)) ggX8_writeCatalogue_X8_platterOf
set_option maxRecDepth 20000 in
theorem ggX8_writeCatalogue_X8_version : GoodIn wsX8_writeCatalogue wsX8_version := goodIn_r _ [21, 3, 34, 35, 36, 37, 38, 39, 40, 41, 42, 43, 44, 45, 46, 47, 48, 49, 50, 51, 52, 53, 54, 55, 56, 57, 58, 59, 60] (by decide +kernel) (by decide +kernel)
set_option maxRecDepth 20000 in
theorem gX8_writeCatalogue_X8_version : GoodIn wsX8_writeCatalogue (wsV RX8 86 RX8 yX8_version wsX8_version) := goodIn_app (goodIn_of _ (by decide +kernel)) ggX8_writeCatalogue_X8_version
set_option maxRecDepth 20000 in
theorem ggX8_writeCatalogue_X8_isReadable : GoodIn wsX8_writeCatalogue wsX8_isReadable := goodIn_r _ [25, 18, 19, 20, 7, 21, 3, 26, 27, 28, 29, 30, 31, 32, 33, 34, 35, 36, 37, 38, 39, 40, 41, 42, 43, 44, 45, 46, 47, 48, 49, 50, 51, 52, 53, 54, 55, 56, 57, 58, 59, 60] (by decide +kernel) (by decide +kernel)
set_option maxRecDepth 20000 in
theorem gX8_writeCatalogue_X8_isReadable : GoodIn wsX8_writeCatalogue (wsV RX8 174 RX8 yX8_isReadable wsX8_isReadable) := goodIn_app (goodIn_of _ (by decide +kernel)) ggX8_writeCatalogue_X8_isReadable
theorem dX8_writeCatalogue_0 : decode cX8_writeCatalogue 0 = .ok (.aload_n 0, 1) := by decide +kernel
theorem dX8_writeCatalogue_1 : decode cX8_writeCatalogue 1 = .ok (.iconst 0, 1) := by decide +kernel
theorem dX8_writeCatalogue_2 : decode cX8_writeCatalogue 2 = .ok (.putfield 51, 3) := by decide +kernel
theorem dX8_writeCatalogue_5 : decode cX8_writeCatalogue 5 = .ok (.aload_n 0, 1) := by decide +kernel
theorem dX8_writeCatalogue_6 : decode cX8_writeCatalogue 6 = .ok (.iconst 0, 1) := by decide +kernel
theorem dX8_writeCatalogue_7 : decode cX8_writeCatalogue 7 = .ok (.putfield 285, 3) := by decide +kernel
theorem dX8_writeCatalogue_10 : decode cX8_writeCatalogue 10 = .ok (.iconst 0, 1) := by decide +kernel
theorem dX8_writeCatalogue_11 : decode cX8_writeCatalogue 11 = .ok (.istore_n 1, 1) := by decide +kernel
theorem dX8_writeCatalogue_12 : decode cX8_writeCatalogue 12 = .ok (.iload_n 1, 1) := by decide +kernel
theorem dX8_writeCatalogue_13 : decode cX8_writeCatalogue 13 = .ok (.aload_n 0, 1) := by decide +kernel
theorem dX8_writeCatalogue_14 : decode cX8_writeCatalogue 14 = .ok (.getfield 7, 3) := by decide +kernel
theorem dX8_writeCatalogue_17 : decode cX8_writeCatalogue 17 = .ok (.bipush 9, 2) := by decide +kernel
theorem dX8_writeCatalogue_19 : decode cX8_writeCatalogue 19 = .ok (.iaload, 1) := by decide +kernel
theorem dX8_writeCatalogue_20 : decode cX8_writeCatalogue 20 = .ok (.if_icmp .ge 97, 3) := by decide +kernel
theorem dX8_writeCatalogue_23 : decode cX8_writeCatalogue 23 = .ok (.aload_n 0, 1) := by decide +kernel
theorem dX8_writeCatalogue_24 : decode cX8_writeCatalogue 24 = .ok (.iload_n 1, 1) := by decide +kernel
theorem dX8_writeCatalogue_25 : decode cX8_writeCatalogue 25 = .ok (.invokevirtual 291, 3) := by decide +kernel
theorem dX8_writeCatalogue_28 : decode cX8_writeCatalogue 28 = .ok (.aload_n 0, 1) := by decide +kernel
theorem dX8_writeCatalogue_29 : decode cX8_writeCatalogue 29 = .ok (.bipush 58, 2) := by decide +kernel
theorem dX8_writeCatalogue_31 : decode cX8_writeCatalogue 31 = .ok (.invokevirtual 288, 3) := by decide +kernel
theorem dX8_writeCatalogue_34 : decode cX8_writeCatalogue 34 = .ok (.aload_n 0, 1) := by decide +kernel
theorem dX8_writeCatalogue_35 : decode cX8_writeCatalogue 35 = .ok (.aload_n 0, 1) := by decide +kernel
theorem dX8_writeCatalogue_36 : decode cX8_writeCatalogue 36 = .ok (.iload_n 1, 1) := by decide +kernel
theorem dX8_writeCatalogue_37 : decode cX8_writeCatalogue 37 = .ok (.invokevirtual 123, 3) := by decide +kernel
theorem dX8_writeCatalogue_40 : decode cX8_writeCatalogue 40 = .ok (.invokevirtual 291, 3) := by decide +kernel
theorem dX8_writeCatalogue_43 : decode cX8_writeCatalogue 43 = .ok (.aload_n 0, 1) := by decide +kernel
theorem dX8_writeCatalogue_44 : decode cX8_writeCatalogue 44 = .ok (.bipush 44, 2) := by decide +kernel
theorem dX8_writeCatalogue_46 : decode cX8_writeCatalogue 46 = .ok (.invokevirtual 288, 3) := by decide +kernel
theorem dX8_writeCatalogue_49 : decode cX8_writeCatalogue 49 = .ok (.aload_n 0, 1) := by decide +kernel
theorem dX8_writeCatalogue_50 : decode cX8_writeCatalogue 50 = .ok (.aload_n 0, 1) := by decide +kernel
theorem dX8_writeCatalogue_51 : decode cX8_writeCatalogue 51 = .ok (.getfield 7, 3) := by decide +kernel
theorem dX8_writeCatalogue_54 : decode cX8_writeCatalogue 54 = .ok (.sipush 389, 3) := by decide +kernel
theorem dX8_writeCatalogue_57 : decode cX8_writeCatalogue 57 = .ok (.aload_n 0, 1) := by decide +kernel
theorem dX8_writeCatalogue_58 : decode cX8_writeCatalogue 58 = .ok (.iload_n 1, 1) := by decide +kernel
theorem dX8_writeCatalogue_59 : decode cX8_writeCatalogue 59 = .ok (.invokevirtual 86, 3) := by decide +kernel
theorem dX8_writeCatalogue_62 : decode cX8_writeCatalogue 62 = .ok (.iadd, 1) := by decide +kernel
theorem dX8_writeCatalogue_63 : decode cX8_writeCatalogue 63 = .ok (.iaload, 1) := by decide +kernel
theorem dX8_writeCatalogue_64 : decode cX8_writeCatalogue 64 = .ok (.invokevirtual 291, 3) := by decide +kernel
theorem dX8_writeCatalogue_67 : decode cX8_writeCatalogue 67 = .ok (.aload_n 0, 1) := by decide +kernel
theorem dX8_writeCatalogue_68 : decode cX8_writeCatalogue 68 = .ok (.bipush 44, 2) := by decide +kernel
theorem dX8_writeCatalogue_70 : decode cX8_writeCatalogue 70 = .ok (.invokevirtual 288, 3) := by decide +kernel
theorem dX8_writeCatalogue_73 : decode cX8_writeCatalogue 73 = .ok (.aload_n 0, 1) := by decide +kernel
theorem dX8_writeCatalogue_74 : decode cX8_writeCatalogue 74 = .ok (.aload_n 0, 1) := by decide +kernel
theorem dX8_writeCatalogue_75 : decode cX8_writeCatalogue 75 = .ok (.getfield 7, 3) := by decide +kernel
theorem dX8_writeCatalogue_78 : decode cX8_writeCatalogue 78 = .ok (.sipush 429, 3) := by decide +kernel
theorem dX8_writeCatalogue_81 : decode cX8_writeCatalogue 81 = .ok (.aload_n 0, 1) := by decide +kernel
theorem dX8_writeCatalogue_82 : decode cX8_writeCatalogue 82 = .ok (.iload_n 1, 1) := by decide +kernel
theorem dX8_writeCatalogue_83 : decode cX8_writeCatalogue 83 = .ok (.invokevirtual 86, 3) := by decide +kernel
theorem dX8_writeCatalogue_86 : decode cX8_writeCatalogue 86 = .ok (.iadd, 1) := by decide +kernel
theorem dX8_writeCatalogue_87 : decode cX8_writeCatalogue 87 = .ok (.iaload, 1) := by decide +kernel
theorem dX8_writeCatalogue_88 : decode cX8_writeCatalogue 88 = .ok (.invokevirtual 291, 3) := by decide +kernel
theorem dX8_writeCatalogue_91 : decode cX8_writeCatalogue 91 = .ok (.aload_n 0, 1) := by decide +kernel
theorem dX8_writeCatalogue_92 : decode cX8_writeCatalogue 92 = .ok (.iload_n 1, 1) := by decide +kernel
theorem dX8_writeCatalogue_93 : decode cX8_writeCatalogue 93 = .ok (.invokevirtual 174, 3) := by decide +kernel
theorem dX8_writeCatalogue_96 : decode cX8_writeCatalogue 96 = .ok (.ifCond .eq 9, 3) := by decide +kernel
theorem dX8_writeCatalogue_99 : decode cX8_writeCatalogue 99 = .ok (.aload_n 0, 1) := by decide +kernel
theorem dX8_writeCatalogue_100 : decode cX8_writeCatalogue 100 = .ok (.bipush 42, 2) := by decide +kernel
theorem dX8_writeCatalogue_102 : decode cX8_writeCatalogue 102 = .ok (.invokevirtual 288, 3) := by decide +kernel
theorem dX8_writeCatalogue_105 : decode cX8_writeCatalogue 105 = .ok (.aload_n 0, 1) := by decide +kernel
theorem dX8_writeCatalogue_106 : decode cX8_writeCatalogue 106 = .ok (.bipush 59, 2) := by decide +kernel
theorem dX8_writeCatalogue_108 : decode cX8_writeCatalogue 108 = .ok (.invokevirtual 288, 3) := by decide +kernel
theorem dX8_writeCatalogue_111 : decode cX8_writeCatalogue 111 = .ok (.iinc 1 1, 3) := by decide +kernel
theorem dX8_writeCatalogue_114 : decode cX8_writeCatalogue 114 = .ok (.goto (-102), 3) := by decide +kernel
theorem dX8_writeCatalogue_117 : decode cX8_writeCatalogue 117 = .ok (.aload_n 0, 1) := by decide +kernel
theorem dX8_writeCatalogue_118 : decode cX8_writeCatalogue 118 = .ok (.getfield 285, 3) := by decide +kernel
theorem dX8_writeCatalogue_121 : decode cX8_writeCatalogue 121 = .ok (.ireturn, 1) := by decide +kernel
set_option maxRecDepth 20000 in
theorem ggX8_outputByte_X8_isIn : GoodIn wsX8_outputByte wsX8_isIn := goodIn_r _ [8] (by decide +kernel) (by decide +kernel)
set_option maxRecDepth 20000 in
theorem gX8_outputByte_X8_isIn : GoodIn wsX8_outputByte (va_wsS RX8 57 yX8_isIn wsX8_isIn) := goodIn_app (goodIn_of _ (by decide +kernel)) ggX8_outputByte_X8_isIn
theorem dX8_outputByte_0 : decode cX8_outputByte 0 = .ok (.aload_n 0, 1) := by decide +kernel
theorem dX8_outputByte_1 : decode cX8_outputByte 1 = .ok (.iconst 0, 1) := by decide +kernel
theorem dX8_outputByte_2 : decode cX8_outputByte 2 = .ok (.putfield 51, 3) := by decide +kernel
theorem dX8_outputByte_5 : decode cX8_outputByte 5 = .ok (.iload_n 1, 1) := by decide +kernel
theorem dX8_outputByte_6 : decode cX8_outputByte 6 = .ok (.i2l, 1) := by decide +kernel
theorem dX8_outputByte_7 : decode cX8_outputByte 7 = .ok (.lconst 0, 1) := by decide +kernel
theorem dX8_outputByte_8 : decode cX8_outputByte 8 = .ok (.aload_n 0, 1) := by decide +kernel
theorem dX8_outputByte_9 : decode cX8_outputByte 9 = .ok (.getfield 285, 3) := by decide +kernel
theorem dX8_outputByte_12 : decode cX8_outputByte 12 = .ok (.iconst 1, 1) := by decide +kernel
theorem dX8_outputByte_13 : decode cX8_outputByte 13 = .ok (.isub, 1) := by decide +kernel
theorem dX8_outputByte_14 : decode cX8_outputByte 14 = .ok (.i2l, 1) := by decide +kernel
theorem dX8_outputByte_15 : decode cX8_outputByte 15 = .ok (.invokestatic 57, 3) := by decide +kernel
theorem dX8_outputByte_18 : decode cX8_outputByte 18 = .ok (.ifCond .eq 12, 3) := by decide +kernel
theorem dX8_outputByte_21 : decode cX8_outputByte 21 = .ok (.aload_n 0, 1) := by decide +kernel
theorem dX8_outputByte_22 : decode cX8_outputByte 22 = .ok (.getfield 31, 3) := by decide +kernel
theorem dX8_outputByte_25 : decode cX8_outputByte 25 = .ok (.iload_n 1, 1) := by decide +kernel
theorem dX8_outputByte_26 : decode cX8_outputByte 26 = .ok (.baload, 1) := by decide +kernel
theorem dX8_outputByte_27 : decode cX8_outputByte 27 = .ok (.goto 5, 3) := by decide +kernel
theorem dX8_outputByte_30 : decode cX8_outputByte 30 = .ok (.ldc 186, 2) := by decide +kernel
theorem dX8_outputByte_32 : decode cX8_outputByte 32 = .ok (.ireturn, 1) := by decide +kernel
theorem dX8_feeds_0 : decode cX8_feeds 0 = .ok (.bipush 24, 2) := by decide +kernel
theorem dX8_feeds_2 : decode cX8_feeds 2 = .ok (.istore_n 2, 1) := by decide +kernel
theorem dX8_feeds_3 : decode cX8_feeds 3 = .ok (.iload_n 2, 1) := by decide +kernel
theorem dX8_feeds_4 : decode cX8_feeds 4 = .ok (.ifCond .lt 32, 3) := by decide +kernel
theorem dX8_feeds_7 : decode cX8_feeds 7 = .ok (.aload_n 0, 1) := by decide +kernel
theorem dX8_feeds_8 : decode cX8_feeds 8 = .ok (.getfield 35, 3) := by decide +kernel
theorem dX8_feeds_11 : decode cX8_feeds 11 = .ok (.aload_n 0, 1) := by decide +kernel
theorem dX8_feeds_12 : decode cX8_feeds 12 = .ok (.getfield 294, 3) := by decide +kernel
theorem dX8_feeds_15 : decode cX8_feeds 15 = .ok (.iload_n 1, 1) := by decide +kernel
theorem dX8_feeds_16 : decode cX8_feeds 16 = .ok (.iload_n 2, 1) := by decide +kernel
theorem dX8_feeds_17 : decode cX8_feeds 17 = .ok (.ishr, 1) := by decide +kernel
theorem dX8_feeds_18 : decode cX8_feeds 18 = .ok (.i2b, 1) := by decide +kernel
theorem dX8_feeds_19 : decode cX8_feeds 19 = .ok (.bastore, 1) := by decide +kernel
theorem dX8_feeds_20 : decode cX8_feeds 20 = .ok (.aload_n 0, 1) := by decide +kernel
theorem dX8_feeds_21 : decode cX8_feeds 21 = .ok (.dup, 1) := by decide +kernel
theorem dX8_feeds_22 : decode cX8_feeds 22 = .ok (.getfield 294, 3) := by decide +kernel
theorem dX8_feeds_25 : decode cX8_feeds 25 = .ok (.iconst 1, 1) := by decide +kernel
theorem dX8_feeds_26 : decode cX8_feeds 26 = .ok (.iadd, 1) := by decide +kernel
theorem dX8_feeds_27 : decode cX8_feeds 27 = .ok (.putfield 294, 3) := by decide +kernel
theorem dX8_feeds_30 : decode cX8_feeds 30 = .ok (.iinc 2 (-8), 3) := by decide +kernel
theorem dX8_feeds_33 : decode cX8_feeds 33 = .ok (.goto (-30), 3) := by decide +kernel
theorem dX8_feeds_36 : decode cX8_feeds 36 = .ok (.return_, 1) := by decide +kernel
set_option maxRecDepth 20000 in
theorem ggX8_feed_X8_feeds : GoodIn wsX8_feed wsX8_feeds := goodIn_r _ [8, 9, 2, 10, 11, 12, 13, 14, 15, 16, 17, 18, 19, 20, 21, 22, 23, 24, 25, 26, 27, 28, 29, 30, 31, 32, 33, 34, 35, 36] (by decide +kernel) (by decide +kernel)
set_option maxRecDepth 20000 in
theorem gX8_feed_X8_feeds : GoodIn wsX8_feed (wsV RX8 297 RX8 yX8_feeds wsX8_feeds) := goodIn_app (goodIn_of _ (by decide +kernel)) ggX8_feed_X8_feeds
theorem dX8_feed_0 : decode cX8_feed 0 = .ok (.aload_n 0, 1) := by decide +kernel
theorem dX8_feed_1 : decode cX8_feed 1 = .ok (.iconst 0, 1) := by decide +kernel
theorem dX8_feed_2 : decode cX8_feed 2 = .ok (.putfield 51, 3) := by decide +kernel
theorem dX8_feed_5 : decode cX8_feed 5 = .ok (.aload_n 0, 1) := by decide +kernel
theorem dX8_feed_6 : decode cX8_feed 6 = .ok (.getfield 294, 3) := by decide +kernel
theorem dX8_feed_9 : decode cX8_feed 9 = .ok (.bipush 20, 2) := by decide +kernel
theorem dX8_feed_11 : decode cX8_feed 11 = .ok (.iadd, 1) := by decide +kernel
theorem dX8_feed_12 : decode cX8_feed 12 = .ok (.sipush 900, 3) := by decide +kernel
theorem dX8_feed_15 : decode cX8_feed 15 = .ok (.if_icmp .le 6, 3) := by decide +kernel
theorem dX8_feed_18 : decode cX8_feed 18 = .ok (.ldc 243, 2) := by decide +kernel
theorem dX8_feed_20 : decode cX8_feed 20 = .ok (.ireturn, 1) := by decide +kernel
theorem dX8_feed_21 : decode cX8_feed 21 = .ok (.aload_n 0, 1) := by decide +kernel
theorem dX8_feed_22 : decode cX8_feed 22 = .ok (.iload_n 1, 1) := by decide +kernel
theorem dX8_feed_23 : decode cX8_feed 23 = .ok (.invokevirtual 297, 3) := by decide +kernel
theorem dX8_feed_26 : decode cX8_feed 26 = .ok (.aload_n 0, 1) := by decide +kernel
theorem dX8_feed_27 : decode cX8_feed 27 = .ok (.iload_n 2, 1) := by decide +kernel
theorem dX8_feed_28 : decode cX8_feed 28 = .ok (.invokevirtual 297, 3) := by decide +kernel
theorem dX8_feed_31 : decode cX8_feed 31 = .ok (.aload_n 0, 1) := by decide +kernel
theorem dX8_feed_32 : decode cX8_feed 32 = .ok (.iload_n 3, 1) := by decide +kernel
theorem dX8_feed_33 : decode cX8_feed 33 = .ok (.invokevirtual 297, 3) := by decide +kernel
theorem dX8_feed_36 : decode cX8_feed 36 = .ok (.aload_n 0, 1) := by decide +kernel
theorem dX8_feed_37 : decode cX8_feed 37 = .ok (.iload 4, 2) := by decide +kernel
theorem dX8_feed_39 : decode cX8_feed 39 = .ok (.invokevirtual 297, 3) := by decide +kernel
theorem dX8_feed_42 : decode cX8_feed 42 = .ok (.aload_n 0, 1) := by decide +kernel
theorem dX8_feed_43 : decode cX8_feed 43 = .ok (.iload 5, 2) := by decide +kernel
theorem dX8_feed_45 : decode cX8_feed 45 = .ok (.invokevirtual 297, 3) := by decide +kernel
theorem dX8_feed_48 : decode cX8_feed 48 = .ok (.aload_n 0, 1) := by decide +kernel
theorem dX8_feed_49 : decode cX8_feed 49 = .ok (.getfield 294, 3) := by decide +kernel
theorem dX8_feed_52 : decode cX8_feed 52 = .ok (.ireturn, 1) := by decide +kernel
set_option maxRecDepth 20000 in
theorem ggX8_isOf_X8_isIn : GoodIn wsX8_isOf wsX8_isIn := goodIn_r _ [6] (by decide +kernel) (by decide +kernel)
set_option maxRecDepth 20000 in
theorem gX8_isOf_X8_isIn : GoodIn wsX8_isOf (va_wsS RX8 57 yX8_isIn wsX8_isIn) := goodIn_app (goodIn_of _ (by decide +kernel)) ggX8_isOf_X8_isIn
theorem dX8_isOf_0 : decode cX8_isOf 0 = .ok (.iload_n 1, 1) := by decide +kernel
theorem dX8_isOf_1 : decode cX8_isOf 1 = .ok (.aload_n 0, 1) := by decide +kernel
theorem dX8_isOf_2 : decode cX8_isOf 2 = .ok (.getfield 300, 3) := by decide +kernel
theorem dX8_isOf_5 : decode cX8_isOf 5 = .ok (.if_icmp .ge 24, 3) := by decide +kernel
theorem dX8_isOf_8 : decode cX8_isOf 8 = .ok (.aload_n 0, 1) := by decide +kernel
theorem dX8_isOf_9 : decode cX8_isOf 9 = .ok (.getfield 35, 3) := by decide +kernel
theorem dX8_isOf_12 : decode cX8_isOf 12 = .ok (.iload_n 1, 1) := by decide +kernel
theorem dX8_isOf_13 : decode cX8_isOf 13 = .ok (.baload, 1) := by decide +kernel
theorem dX8_isOf_14 : decode cX8_isOf 14 = .ok (.i2l, 1) := by decide +kernel
theorem dX8_isOf_15 : decode cX8_isOf 15 = .ok (.iload_n 2, 1) := by decide +kernel
theorem dX8_isOf_16 : decode cX8_isOf 16 = .ok (.i2l, 1) := by decide +kernel
theorem dX8_isOf_17 : decode cX8_isOf 17 = .ok (.iload_n 3, 1) := by decide +kernel
theorem dX8_isOf_18 : decode cX8_isOf 18 = .ok (.i2l, 1) := by decide +kernel
theorem dX8_isOf_19 : decode cX8_isOf 19 = .ok (.invokestatic 57, 3) := by decide +kernel
theorem dX8_isOf_22 : decode cX8_isOf 22 = .ok (.ifCond .eq 7, 3) := by decide +kernel
theorem dX8_isOf_25 : decode cX8_isOf 25 = .ok (.iconst 1, 1) := by decide +kernel
theorem dX8_isOf_26 : decode cX8_isOf 26 = .ok (.goto 4, 3) := by decide +kernel
theorem dX8_isOf_29 : decode cX8_isOf 29 = .ok (.iconst 0, 1) := by decide +kernel
theorem dX8_isOf_30 : decode cX8_isOf 30 = .ok (.ireturn, 1) := by decide +kernel
set_option maxRecDepth 20000 in
theorem ggX8_next_X8_isOf : GoodIn wsX8_next wsX8_isOf := goodIn_r _ [14, 3, 4, 15, 16, 13, 17, 18, 19, 20, 21, 22, 23, 24, 25, 26, 27, 28, 29, 30, 31, 32, 33, 34, 35, 36, 37, 38, 39, 40, 41, 42, 43, 44] (by decide +kernel) (by decide +kernel)
set_option maxRecDepth 20000 in
theorem gX8_next_X8_isOf : GoodIn wsX8_next (wsV RX8 309 RX8 yX8_isOf wsX8_isOf) := goodIn_app (goodIn_of _ (by decide +kernel)) ggX8_next_X8_isOf
theorem dX8_next_0 : decode cX8_next 0 = .ok (.aload_n 0, 1) := by decide +kernel
theorem dX8_next_1 : decode cX8_next 1 = .ok (.aload_n 0, 1) := by decide +kernel
theorem dX8_next_2 : decode cX8_next 2 = .ok (.getfield 303, 3) := by decide +kernel
theorem dX8_next_5 : decode cX8_next 5 = .ok (.putfield 306, 3) := by decide +kernel
theorem dX8_next_8 : decode cX8_next 8 = .ok (.aload_n 0, 1) := by decide +kernel
theorem dX8_next_9 : decode cX8_next 9 = .ok (.aload_n 0, 1) := by decide +kernel
theorem dX8_next_10 : decode cX8_next 10 = .ok (.getfield 306, 3) := by decide +kernel
theorem dX8_next_13 : decode cX8_next 13 = .ok (.bipush 32, 2) := by decide +kernel
theorem dX8_next_15 : decode cX8_next 15 = .ok (.bipush 32, 2) := by decide +kernel
theorem dX8_next_17 : decode cX8_next 17 = .ok (.invokevirtual 309, 3) := by decide +kernel
theorem dX8_next_20 : decode cX8_next 20 = .ok (.ifCond .ne 18, 3) := by decide +kernel
theorem dX8_next_23 : decode cX8_next 23 = .ok (.aload_n 0, 1) := by decide +kernel
theorem dX8_next_24 : decode cX8_next 24 = .ok (.aload_n 0, 1) := by decide +kernel
theorem dX8_next_25 : decode cX8_next 25 = .ok (.getfield 306, 3) := by decide +kernel
theorem dX8_next_28 : decode cX8_next 28 = .ok (.bipush 10, 2) := by decide +kernel
theorem dX8_next_30 : decode cX8_next 30 = .ok (.bipush 10, 2) := by decide +kernel
theorem dX8_next_32 : decode cX8_next 32 = .ok (.invokevirtual 309, 3) := by decide +kernel
theorem dX8_next_35 : decode cX8_next 35 = .ok (.ifCond .eq 16, 3) := by decide +kernel
theorem dX8_next_38 : decode cX8_next 38 = .ok (.aload_n 0, 1) := by decide +kernel
theorem dX8_next_39 : decode cX8_next 39 = .ok (.dup, 1) := by decide +kernel
theorem dX8_next_40 : decode cX8_next 40 = .ok (.getfield 306, 3) := by decide +kernel
theorem dX8_next_43 : decode cX8_next 43 = .ok (.iconst 1, 1) := by decide +kernel
theorem dX8_next_44 : decode cX8_next 44 = .ok (.iadd, 1) := by decide +kernel
theorem dX8_next_45 : decode cX8_next 45 = .ok (.putfield 306, 3) := by decide +kernel
theorem dX8_next_48 : decode cX8_next 48 = .ok (.goto (-40), 3) := by decide +kernel
theorem dX8_next_51 : decode cX8_next 51 = .ok (.aload_n 0, 1) := by decide +kernel
theorem dX8_next_52 : decode cX8_next 52 = .ok (.aload_n 0, 1) := by decide +kernel
theorem dX8_next_53 : decode cX8_next 53 = .ok (.getfield 306, 3) := by decide +kernel
theorem dX8_next_56 : decode cX8_next 56 = .ok (.iconst 1, 1) := by decide +kernel
theorem dX8_next_57 : decode cX8_next 57 = .ok (.iadd, 1) := by decide +kernel
theorem dX8_next_58 : decode cX8_next 58 = .ok (.putfield 303, 3) := by decide +kernel
theorem dX8_next_61 : decode cX8_next 61 = .ok (.aload_n 0, 1) := by decide +kernel
theorem dX8_next_62 : decode cX8_next 62 = .ok (.aload_n 0, 1) := by decide +kernel
theorem dX8_next_63 : decode cX8_next 63 = .ok (.getfield 306, 3) := by decide +kernel
theorem dX8_next_66 : decode cX8_next 66 = .ok (.aload_n 0, 1) := by decide +kernel
theorem dX8_next_67 : decode cX8_next 67 = .ok (.getfield 300, 3) := by decide +kernel
theorem dX8_next_70 : decode cX8_next 70 = .ok (.if_icmp .lt 7, 3) := by decide +kernel
theorem dX8_next_73 : decode cX8_next 73 = .ok (.iconst 0, 1) := by decide +kernel
theorem dX8_next_74 : decode cX8_next 74 = .ok (.goto 22, 3) := by decide +kernel
theorem dX8_next_77 : decode cX8_next 77 = .ok (.aload_n 0, 1) := by decide +kernel
theorem dX8_next_78 : decode cX8_next 78 = .ok (.getfield 35, 3) := by decide +kernel
theorem dX8_next_81 : decode cX8_next 81 = .ok (.aload_n 0, 1) := by decide +kernel
theorem dX8_next_82 : decode cX8_next 82 = .ok (.getfield 306, 3) := by decide +kernel
theorem dX8_next_85 : decode cX8_next 85 = .ok (.baload, 1) := by decide +kernel
theorem dX8_next_86 : decode cX8_next 86 = .ok (.bipush 59, 2) := by decide +kernel
theorem dX8_next_88 : decode cX8_next 88 = .ok (.if_icmp .ne 7, 3) := by decide +kernel
theorem dX8_next_91 : decode cX8_next 91 = .ok (.iconst 3, 1) := by decide +kernel
theorem dX8_next_92 : decode cX8_next 92 = .ok (.goto 4, 3) := by decide +kernel
theorem dX8_next_95 : decode cX8_next 95 = .ok (.iconst 4, 1) := by decide +kernel
theorem dX8_next_96 : decode cX8_next 96 = .ok (.putfield 313, 3) := by decide +kernel
theorem dX8_next_99 : decode cX8_next 99 = .ok (.aload_n 0, 1) := by decide +kernel
theorem dX8_next_100 : decode cX8_next 100 = .ok (.aload_n 0, 1) := by decide +kernel
theorem dX8_next_101 : decode cX8_next 101 = .ok (.getfield 306, 3) := by decide +kernel
theorem dX8_next_104 : decode cX8_next 104 = .ok (.bipush 97, 2) := by decide +kernel
theorem dX8_next_106 : decode cX8_next 106 = .ok (.bipush 122, 2) := by decide +kernel
theorem dX8_next_108 : decode cX8_next 108 = .ok (.invokevirtual 309, 3) := by decide +kernel
theorem dX8_next_111 : decode cX8_next 111 = .ok (.ifCond .eq 115, 3) := by decide +kernel
theorem dX8_next_114 : decode cX8_next 114 = .ok (.aload_n 0, 1) := by decide +kernel
theorem dX8_next_115 : decode cX8_next 115 = .ok (.lconst 0, 1) := by decide +kernel
theorem dX8_next_116 : decode cX8_next 116 = .ok (.putfield 316, 3) := by decide +kernel
theorem dX8_next_119 : decode cX8_next 119 = .ok (.aload_n 0, 1) := by decide +kernel
theorem dX8_next_120 : decode cX8_next 120 = .ok (.aload_n 0, 1) := by decide +kernel
theorem dX8_next_121 : decode cX8_next 121 = .ok (.getfield 306, 3) := by decide +kernel
theorem dX8_next_124 : decode cX8_next 124 = .ok (.putfield 303, 3) := by decide +kernel
theorem dX8_next_127 : decode cX8_next 127 = .ok (.aload_n 0, 1) := by decide +kernel
theorem dX8_next_128 : decode cX8_next 128 = .ok (.aload_n 0, 1) := by decide +kernel
theorem dX8_next_129 : decode cX8_next 129 = .ok (.getfield 303, 3) := by decide +kernel
theorem dX8_next_132 : decode cX8_next 132 = .ok (.bipush 97, 2) := by decide +kernel
theorem dX8_next_134 : decode cX8_next 134 = .ok (.bipush 122, 2) := by decide +kernel
theorem dX8_next_136 : decode cX8_next 136 = .ok (.invokevirtual 309, 3) := by decide +kernel
theorem dX8_next_139 : decode cX8_next 139 = .ok (.ifCond .eq 61, 3) := by decide +kernel
theorem dX8_next_142 : decode cX8_next 142 = .ok (.aload_n 0, 1) := by decide +kernel
theorem dX8_next_143 : decode cX8_next 143 = .ok (.aload_n 0, 1) := by decide +kernel
theorem dX8_next_144 : decode cX8_next 144 = .ok (.getfield 303, 3) := by decide +kernel
theorem dX8_next_147 : decode cX8_next 147 = .ok (.aload_n 0, 1) := by decide +kernel
theorem dX8_next_148 : decode cX8_next 148 = .ok (.getfield 306, 3) := by decide +kernel
theorem dX8_next_151 : decode cX8_next 151 = .ok (.isub, 1) := by decide +kernel
theorem dX8_next_152 : decode cX8_next 152 = .ok (.bipush 8, 2) := by decide +kernel
theorem dX8_next_154 : decode cX8_next 154 = .ok (.if_icmp .ge 29, 3) := by decide +kernel
theorem dX8_next_157 : decode cX8_next 157 = .ok (.ldc2_w 320, 3) := by decide +kernel
theorem dX8_next_160 : decode cX8_next 160 = .ok (.aload_n 0, 1) := by decide +kernel
theorem dX8_next_161 : decode cX8_next 161 = .ok (.getfield 316, 3) := by decide +kernel
theorem dX8_next_164 : decode cX8_next 164 = .ok (.lmul, 1) := by decide +kernel
theorem dX8_next_165 : decode cX8_next 165 = .ok (.aload_n 0, 1) := by decide +kernel
theorem dX8_next_166 : decode cX8_next 166 = .ok (.getfield 35, 3) := by decide +kernel
theorem dX8_next_169 : decode cX8_next 169 = .ok (.aload_n 0, 1) := by decide +kernel
theorem dX8_next_170 : decode cX8_next 170 = .ok (.getfield 303, 3) := by decide +kernel
theorem dX8_next_173 : decode cX8_next 173 = .ok (.baload, 1) := by decide +kernel
theorem dX8_next_174 : decode cX8_next 174 = .ok (.i2l, 1) := by decide +kernel
theorem dX8_next_175 : decode cX8_next 175 = .ok (.ladd, 1) := by decide +kernel
theorem dX8_next_176 : decode cX8_next 176 = .ok (.ldc2_w 322, 3) := by decide +kernel
theorem dX8_next_179 : decode cX8_next 179 = .ok (.lsub, 1) := by decide +kernel
theorem dX8_next_180 : decode cX8_next 180 = .ok (.goto 4, 3) := by decide +kernel
theorem dX8_next_183 : decode cX8_next 183 = .ok (.lconst 0, 1) := by decide +kernel
theorem dX8_next_184 : decode cX8_next 184 = .ok (.putfield 316, 3) := by decide +kernel
theorem dX8_next_187 : decode cX8_next 187 = .ok (.aload_n 0, 1) := by decide +kernel
theorem dX8_next_188 : decode cX8_next 188 = .ok (.dup, 1) := by decide +kernel
theorem dX8_next_189 : decode cX8_next 189 = .ok (.getfield 303, 3) := by decide +kernel
theorem dX8_next_192 : decode cX8_next 192 = .ok (.iconst 1, 1) := by decide +kernel
theorem dX8_next_193 : decode cX8_next 193 = .ok (.iadd, 1) := by decide +kernel
theorem dX8_next_194 : decode cX8_next 194 = .ok (.putfield 303, 3) := by decide +kernel
theorem dX8_next_197 : decode cX8_next 197 = .ok (.goto (-70), 3) := by decide +kernel
theorem dX8_next_200 : decode cX8_next 200 = .ok (.aload_n 0, 1) := by decide +kernel
theorem dX8_next_201 : decode cX8_next 201 = .ok (.aload_n 0, 1) := by decide +kernel
theorem dX8_next_202 : decode cX8_next 202 = .ok (.getfield 303, 3) := by decide +kernel
theorem dX8_next_205 : decode cX8_next 205 = .ok (.aload_n 0, 1) := by decide +kernel
theorem dX8_next_206 : decode cX8_next 206 = .ok (.getfield 306, 3) := by decide +kernel
theorem dX8_next_209 : decode cX8_next 209 = .ok (.isub, 1) := by decide +kernel
theorem dX8_next_210 : decode cX8_next 210 = .ok (.bipush 8, 2) := by decide +kernel
theorem dX8_next_212 : decode cX8_next 212 = .ok (.if_icmp .le 7, 3) := by decide +kernel
theorem dX8_next_215 : decode cX8_next 215 = .ok (.iconst 4, 1) := by decide +kernel
theorem dX8_next_216 : decode cX8_next 216 = .ok (.goto 4, 3) := by decide +kernel
theorem dX8_next_219 : decode cX8_next 219 = .ok (.iconst 1, 1) := by decide +kernel
theorem dX8_next_220 : decode cX8_next 220 = .ok (.putfield 313, 3) := by decide +kernel
theorem dX8_next_223 : decode cX8_next 223 = .ok (.goto 125, 3) := by decide +kernel
theorem dX8_next_226 : decode cX8_next 226 = .ok (.aload_n 0, 1) := by decide +kernel
theorem dX8_next_227 : decode cX8_next 227 = .ok (.aload_n 0, 1) := by decide +kernel
theorem dX8_next_228 : decode cX8_next 228 = .ok (.getfield 306, 3) := by decide +kernel
theorem dX8_next_231 : decode cX8_next 231 = .ok (.bipush 48, 2) := by decide +kernel
theorem dX8_next_233 : decode cX8_next 233 = .ok (.bipush 57, 2) := by decide +kernel
theorem dX8_next_235 : decode cX8_next 235 = .ok (.invokevirtual 309, 3) := by decide +kernel
theorem dX8_next_238 : decode cX8_next 238 = .ok (.ifCond .eq 110, 3) := by decide +kernel
theorem dX8_next_241 : decode cX8_next 241 = .ok (.aload_n 0, 1) := by decide +kernel
theorem dX8_next_242 : decode cX8_next 242 = .ok (.iconst 0, 1) := by decide +kernel
theorem dX8_next_243 : decode cX8_next 243 = .ok (.putfield 324, 3) := by decide +kernel
theorem dX8_next_246 : decode cX8_next 246 = .ok (.aload_n 0, 1) := by decide +kernel
theorem dX8_next_247 : decode cX8_next 247 = .ok (.aload_n 0, 1) := by decide +kernel
theorem dX8_next_248 : decode cX8_next 248 = .ok (.getfield 306, 3) := by decide +kernel
theorem dX8_next_251 : decode cX8_next 251 = .ok (.putfield 303, 3) := by decide +kernel
theorem dX8_next_254 : decode cX8_next 254 = .ok (.aload_n 0, 1) := by decide +kernel
theorem dX8_next_255 : decode cX8_next 255 = .ok (.aload_n 0, 1) := by decide +kernel
theorem dX8_next_256 : decode cX8_next 256 = .ok (.getfield 303, 3) := by decide +kernel
theorem dX8_next_259 : decode cX8_next 259 = .ok (.bipush 48, 2) := by decide +kernel
theorem dX8_next_261 : decode cX8_next 261 = .ok (.bipush 57, 2) := by decide +kernel
theorem dX8_next_263 : decode cX8_next 263 = .ok (.invokevirtual 309, 3) := by decide +kernel
theorem dX8_next_266 : decode cX8_next 266 = .ok (.ifCond .eq 60, 3) := by decide +kernel
theorem dX8_next_269 : decode cX8_next 269 = .ok (.aload_n 0, 1) := by decide +kernel
theorem dX8_next_270 : decode cX8_next 270 = .ok (.aload_n 0, 1) := by decide +kernel
theorem dX8_next_271 : decode cX8_next 271 = .ok (.getfield 303, 3) := by decide +kernel
theorem dX8_next_274 : decode cX8_next 274 = .ok (.aload_n 0, 1) := by decide +kernel
theorem dX8_next_275 : decode cX8_next 275 = .ok (.getfield 306, 3) := by decide +kernel
theorem dX8_next_278 : decode cX8_next 278 = .ok (.isub, 1) := by decide +kernel
theorem dX8_next_279 : decode cX8_next 279 = .ok (.iconst 5, 1) := by decide +kernel
theorem dX8_next_280 : decode cX8_next 280 = .ok (.if_icmp .ge 26, 3) := by decide +kernel
theorem dX8_next_283 : decode cX8_next 283 = .ok (.bipush 10, 2) := by decide +kernel
theorem dX8_next_285 : decode cX8_next 285 = .ok (.aload_n 0, 1) := by decide +kernel
theorem dX8_next_286 : decode cX8_next 286 = .ok (.getfield 324, 3) := by decide +kernel
theorem dX8_next_289 : decode cX8_next 289 = .ok (.imul, 1) := by decide +kernel
theorem dX8_next_290 : decode cX8_next 290 = .ok (.aload_n 0, 1) := by decide +kernel
theorem dX8_next_291 : decode cX8_next 291 = .ok (.getfield 35, 3) := by decide +kernel
theorem dX8_next_294 : decode cX8_next 294 = .ok (.aload_n 0, 1) := by decide +kernel
theorem dX8_next_295 : decode cX8_next 295 = .ok (.getfield 303, 3) := by decide +kernel
theorem dX8_next_298 : decode cX8_next 298 = .ok (.baload, 1) := by decide +kernel
theorem dX8_next_299 : decode cX8_next 299 = .ok (.iadd, 1) := by decide +kernel
theorem dX8_next_300 : decode cX8_next 300 = .ok (.bipush 48, 2) := by decide +kernel
theorem dX8_next_302 : decode cX8_next 302 = .ok (.isub, 1) := by decide +kernel
theorem dX8_next_303 : decode cX8_next 303 = .ok (.goto 7, 3) := by decide +kernel
theorem dX8_next_306 : decode cX8_next 306 = .ok (.aload_n 0, 1) := by decide +kernel
theorem dX8_next_307 : decode cX8_next 307 = .ok (.getfield 324, 3) := by decide +kernel
theorem dX8_next_310 : decode cX8_next 310 = .ok (.putfield 324, 3) := by decide +kernel
theorem dX8_next_313 : decode cX8_next 313 = .ok (.aload_n 0, 1) := by decide +kernel
theorem dX8_next_314 : decode cX8_next 314 = .ok (.dup, 1) := by decide +kernel
theorem dX8_next_315 : decode cX8_next 315 = .ok (.getfield 303, 3) := by decide +kernel
theorem dX8_next_318 : decode cX8_next 318 = .ok (.iconst 1, 1) := by decide +kernel
theorem dX8_next_319 : decode cX8_next 319 = .ok (.iadd, 1) := by decide +kernel
theorem dX8_next_320 : decode cX8_next 320 = .ok (.putfield 303, 3) := by decide +kernel
theorem dX8_next_323 : decode cX8_next 323 = .ok (.goto (-69), 3) := by decide +kernel
theorem dX8_next_326 : decode cX8_next 326 = .ok (.aload_n 0, 1) := by decide +kernel
theorem dX8_next_327 : decode cX8_next 327 = .ok (.aload_n 0, 1) := by decide +kernel
theorem dX8_next_328 : decode cX8_next 328 = .ok (.getfield 303, 3) := by decide +kernel
theorem dX8_next_331 : decode cX8_next 331 = .ok (.aload_n 0, 1) := by decide +kernel
theorem dX8_next_332 : decode cX8_next 332 = .ok (.getfield 306, 3) := by decide +kernel
theorem dX8_next_335 : decode cX8_next 335 = .ok (.isub, 1) := by decide +kernel
theorem dX8_next_336 : decode cX8_next 336 = .ok (.iconst 5, 1) := by decide +kernel
theorem dX8_next_337 : decode cX8_next 337 = .ok (.if_icmp .le 7, 3) := by decide +kernel
theorem dX8_next_340 : decode cX8_next 340 = .ok (.iconst 4, 1) := by decide +kernel
theorem dX8_next_341 : decode cX8_next 341 = .ok (.goto 4, 3) := by decide +kernel
theorem dX8_next_344 : decode cX8_next 344 = .ok (.iconst 2, 1) := by decide +kernel
theorem dX8_next_345 : decode cX8_next 345 = .ok (.putfield 313, 3) := by decide +kernel
theorem dX8_next_348 : decode cX8_next 348 = .ok (.return_, 1) := by decide +kernel
theorem dX8_good_0 : decode cX8_good 0 = .ok (.aload_n 0, 1) := by decide +kernel
theorem dX8_good_1 : decode cX8_good 1 = .ok (.getfield 327, 3) := by decide +kernel
theorem dX8_good_4 : decode cX8_good 4 = .ok (.ifCond .ne 7, 3) := by decide +kernel
theorem dX8_good_7 : decode cX8_good 7 = .ok (.iconst 1, 1) := by decide +kernel
theorem dX8_good_8 : decode cX8_good 8 = .ok (.goto 4, 3) := by decide +kernel
theorem dX8_good_11 : decode cX8_good 11 = .ok (.iconst 0, 1) := by decide +kernel
theorem dX8_good_12 : decode cX8_good 12 = .ok (.ireturn, 1) := by decide +kernel
theorem dX8_must_0 : decode cX8_must 0 = .ok (.iload_n 1, 1) := by decide +kernel
theorem dX8_must_1 : decode cX8_must 1 = .ok (.ifCond .ne 10, 3) := by decide +kernel
theorem dX8_must_4 : decode cX8_must 4 = .ok (.aload_n 0, 1) := by decide +kernel
theorem dX8_must_5 : decode cX8_must 5 = .ok (.getfield 327, 3) := by decide +kernel
theorem dX8_must_8 : decode cX8_must 8 = .ok (.ifCond .le 4, 3) := by decide +kernel
theorem dX8_must_11 : decode cX8_must 11 = .ok (.return_, 1) := by decide +kernel
theorem dX8_must_12 : decode cX8_must 12 = .ok (.aload_n 0, 1) := by decide +kernel
theorem dX8_must_13 : decode cX8_must 13 = .ok (.iload_n 2, 1) := by decide +kernel
theorem dX8_must_14 : decode cX8_must 14 = .ok (.iconst 2, 1) := by decide +kernel
theorem dX8_must_15 : decode cX8_must 15 = .ok (.if_icmp .ne 15, 3) := by decide +kernel
theorem dX8_must_18 : decode cX8_must 18 = .ok (.aload_n 0, 1) := by decide +kernel
theorem dX8_must_19 : decode cX8_must 19 = .ok (.getfield 313, 3) := by decide +kernel
theorem dX8_must_22 : decode cX8_must 22 = .ok (.iconst 4, 1) := by decide +kernel
theorem dX8_must_23 : decode cX8_must 23 = .ok (.if_icmp .ne 7, 3) := by decide +kernel
theorem dX8_must_26 : decode cX8_must 26 = .ok (.iconst 1, 1) := by decide +kernel
theorem dX8_must_27 : decode cX8_must 27 = .ok (.goto 4, 3) := by decide +kernel
theorem dX8_must_30 : decode cX8_must 30 = .ok (.iload_n 2, 1) := by decide +kernel
theorem dX8_must_31 : decode cX8_must 31 = .ok (.putfield 327, 3) := by decide +kernel
theorem dX8_must_34 : decode cX8_must 34 = .ok (.aload_n 0, 1) := by decide +kernel
theorem dX8_must_35 : decode cX8_must 35 = .ok (.aload_n 0, 1) := by decide +kernel
theorem dX8_must_36 : decode cX8_must 36 = .ok (.getfield 306, 3) := by decide +kernel
theorem dX8_must_39 : decode cX8_must 39 = .ok (.putfield 330, 3) := by decide +kernel
theorem dX8_must_42 : decode cX8_must 42 = .ok (.return_, 1) := by decide +kernel
set_option maxRecDepth 20000 in
theorem ggX8_goesOn_X8_good : GoodIn wsX8_goesOn wsX8_good := goodIn_r _ [5, 6, 27, 28, 29, 30, 31, 32, 33, 34, 35, 36, 37, 38, 39, 40, 41, 42, 43, 44, 45, 46, 47, 48, 49, 50, 51, 52, 53] (by decide +kernel) (by decide +kernel)
set_option maxRecDepth 20000 in
theorem gX8_goesOn_X8_good : GoodIn wsX8_goesOn (wsV RX8 333 RX8 yX8_good wsX8_good) := goodIn_app (goodIn_of _ (by decide +kernel)) ggX8_goesOn_X8_good
set_option maxRecDepth 20000 in
theorem ggX8_goesOn_X8_next : GoodIn wsX8_goesOn wsX8_next := goodIn_r _ [10, 11, 12, 13, 14, 15, 16, 17, 18, 19, 20, 21, 22, 4, 23, 24, 25, 26, 27, 28, 29, 30, 31, 32, 33, 34, 35, 36, 37, 38, 39, 40, 41, 42, 43, 44, 45, 46, 47, 48, 49, 50, 51, 52, 53] (by decide +kernel) (by decide +kernel)
set_option maxRecDepth 20000 in
theorem gX8_goesOn_X8_next : GoodIn wsX8_goesOn (wsV RX8 336 RX8 yX8_next wsX8_next) := goodIn_app (goodIn_of _ (by decide +kernel)) ggX8_goesOn_X8_next
theorem dX8_goesOn_0 : decode cX8_goesOn 0 = .ok (.aload_n 0, 1) := by decide +kernel
theorem dX8_goesOn_1 : decode cX8_goesOn 1 = .ok (.invokevirtual 333, 3) := by decide +kernel
theorem dX8_goesOn_4 : decode cX8_goesOn 4 = .ok (.ifCond .eq 7, 3) := by decide +kernel
theorem dX8_goesOn_7 : decode cX8_goesOn 7 = .ok (.aload_n 0, 1) := by decide +kernel
theorem dX8_goesOn_8 : decode cX8_goesOn 8 = .ok (.invokevirtual 336, 3) := by decide +kernel
theorem dX8_goesOn_11 : decode cX8_goesOn 11 = .ok (.return_, 1) := by decide +kernel
set_option maxRecDepth 20000 in
theorem ggX8_isWord_X8_good : GoodIn wsX8_isWord wsX8_good := goodIn_r _ [7, 8, 9, 10, 11, 12, 13, 14, 15, 16, 17, 18, 19, 20, 21, 22, 23, 24, 25, 26, 27, 28, 29, 30, 31, 32, 33, 34, 35] (by decide +kernel) (by decide +kernel)
set_option maxRecDepth 20000 in
theorem gX8_isWord_X8_good : GoodIn wsX8_isWord (wsV RX8 333 RX8 yX8_good wsX8_good) := goodIn_app (goodIn_of _ (by decide +kernel)) ggX8_isWord_X8_good
theorem dX8_isWord_0 : decode cX8_isWord 0 = .ok (.aload_n 0, 1) := by decide +kernel
theorem dX8_isWord_1 : decode cX8_isWord 1 = .ok (.invokevirtual 333, 3) := by decide +kernel
theorem dX8_isWord_4 : decode cX8_isWord 4 = .ok (.ifCond .eq 24, 3) := by decide +kernel
theorem dX8_isWord_7 : decode cX8_isWord 7 = .ok (.aload_n 0, 1) := by decide +kernel
theorem dX8_isWord_8 : decode cX8_isWord 8 = .ok (.getfield 313, 3) := by decide +kernel
theorem dX8_isWord_11 : decode cX8_isWord 11 = .ok (.iconst 1, 1) := by decide +kernel
theorem dX8_isWord_12 : decode cX8_isWord 12 = .ok (.if_icmp .ne 16, 3) := by decide +kernel
theorem dX8_isWord_15 : decode cX8_isWord 15 = .ok (.aload_n 0, 1) := by decide +kernel
theorem dX8_isWord_16 : decode cX8_isWord 16 = .ok (.getfield 316, 3) := by decide +kernel
theorem dX8_isWord_19 : decode cX8_isWord 19 = .ok (.lload_n 1, 1) := by decide +kernel
theorem dX8_isWord_20 : decode cX8_isWord 20 = .ok (.lcmp, 1) := by decide +kernel
theorem dX8_isWord_21 : decode cX8_isWord 21 = .ok (.ifCond .ne 7, 3) := by decide +kernel
theorem dX8_isWord_24 : decode cX8_isWord 24 = .ok (.iconst 1, 1) := by decide +kernel
theorem dX8_isWord_25 : decode cX8_isWord 25 = .ok (.goto 4, 3) := by decide +kernel
theorem dX8_isWord_28 : decode cX8_isWord 28 = .ok (.iconst 0, 1) := by decide +kernel
theorem dX8_isWord_29 : decode cX8_isWord 29 = .ok (.ireturn, 1) := by decide +kernel
set_option maxRecDepth 20000 in
theorem ggX8_isReserved_X8_isWord : GoodIn wsX8_isReserved wsX8_isWord := goodIn_r _ [12, 13, 14, 15, 16, 17, 11, 18, 19, 20, 21, 22, 23, 24, 25, 26, 27, 28, 29, 30, 31, 32, 33, 34, 35, 36, 37, 38, 39, 40, 41, 42, 43, 44, 45, 46] (by decide +kernel) (by decide +kernel)
set_option maxRecDepth 20000 in
theorem gX8_isReserved_X8_isWord : GoodIn wsX8_isReserved (wsV RX8 341 RX8 yX8_isWord wsX8_isWord) := goodIn_app (goodIn_of _ (by decide +kernel)) ggX8_isReserved_X8_isWord
theorem dX8_isReserved_0 : decode cX8_isReserved 0 = .ok (.aload_n 0, 1) := by decide +kernel
theorem dX8_isReserved_1 : decode cX8_isReserved 1 = .ok (.ldc2_w 339, 3) := by decide +kernel
theorem dX8_isReserved_4 : decode cX8_isReserved 4 = .ok (.invokevirtual 341, 3) := by decide +kernel
theorem dX8_isReserved_7 : decode cX8_isReserved 7 = .ok (.ifCond .ne 63, 3) := by decide +kernel
theorem dX8_isReserved_10 : decode cX8_isReserved 10 = .ok (.aload_n 0, 1) := by decide +kernel
theorem dX8_isReserved_11 : decode cX8_isReserved 11 = .ok (.ldc2_w 345, 3) := by decide +kernel
theorem dX8_isReserved_14 : decode cX8_isReserved 14 = .ok (.invokevirtual 341, 3) := by decide +kernel
theorem dX8_isReserved_17 : decode cX8_isReserved 17 = .ok (.ifCond .ne 53, 3) := by decide +kernel
theorem dX8_isReserved_20 : decode cX8_isReserved 20 = .ok (.aload_n 0, 1) := by decide +kernel
theorem dX8_isReserved_21 : decode cX8_isReserved 21 = .ok (.ldc2_w 347, 3) := by decide +kernel
theorem dX8_isReserved_24 : decode cX8_isReserved 24 = .ok (.invokevirtual 341, 3) := by decide +kernel
theorem dX8_isReserved_27 : decode cX8_isReserved 27 = .ok (.ifCond .ne 43, 3) := by decide +kernel
theorem dX8_isReserved_30 : decode cX8_isReserved 30 = .ok (.aload_n 0, 1) := by decide +kernel
theorem dX8_isReserved_31 : decode cX8_isReserved 31 = .ok (.ldc2_w 349, 3) := by decide +kernel
theorem dX8_isReserved_34 : decode cX8_isReserved 34 = .ok (.invokevirtual 341, 3) := by decide +kernel
theorem dX8_isReserved_37 : decode cX8_isReserved 37 = .ok (.ifCond .ne 33, 3) := by decide +kernel
theorem dX8_isReserved_40 : decode cX8_isReserved 40 = .ok (.aload_n 0, 1) := by decide +kernel
theorem dX8_isReserved_41 : decode cX8_isReserved 41 = .ok (.ldc2_w 351, 3) := by decide +kernel
theorem dX8_isReserved_44 : decode cX8_isReserved 44 = .ok (.invokevirtual 341, 3) := by decide +kernel
theorem dX8_isReserved_47 : decode cX8_isReserved 47 = .ok (.ifCond .ne 23, 3) := by decide +kernel
theorem dX8_isReserved_50 : decode cX8_isReserved 50 = .ok (.aload_n 0, 1) := by decide +kernel
theorem dX8_isReserved_51 : decode cX8_isReserved 51 = .ok (.ldc2_w 353, 3) := by decide +kernel
theorem dX8_isReserved_54 : decode cX8_isReserved 54 = .ok (.invokevirtual 341, 3) := by decide +kernel
theorem dX8_isReserved_57 : decode cX8_isReserved 57 = .ok (.ifCond .ne 13, 3) := by decide +kernel
theorem dX8_isReserved_60 : decode cX8_isReserved 60 = .ok (.aload_n 0, 1) := by decide +kernel
theorem dX8_isReserved_61 : decode cX8_isReserved 61 = .ok (.ldc2_w 355, 3) := by decide +kernel
theorem dX8_isReserved_64 : decode cX8_isReserved 64 = .ok (.invokevirtual 341, 3) := by decide +kernel
theorem dX8_isReserved_67 : decode cX8_isReserved 67 = .ok (.ifCond .eq 7, 3) := by decide +kernel
theorem dX8_isReserved_70 : decode cX8_isReserved 70 = .ok (.iconst 1, 1) := by decide +kernel
theorem dX8_isReserved_71 : decode cX8_isReserved 71 = .ok (.goto 4, 3) := by decide +kernel
theorem dX8_isReserved_74 : decode cX8_isReserved 74 = .ok (.iconst 0, 1) := by decide +kernel
theorem dX8_isReserved_75 : decode cX8_isReserved 75 = .ok (.ireturn, 1) := by decide +kernel
set_option maxRecDepth 20000 in
theorem ggX8_sees_X8_must : GoodIn wsX8_sees wsX8_must := goodIn_r _ [7, 8, 1, 9, 10, 18, 19, 20, 21, 22, 23, 24, 25, 26, 27, 28, 29, 30, 31, 32, 33, 34, 35, 36, 37, 38, 39, 40, 41, 42, 43, 44] (by decide +kernel) (by decide +kernel)
set_option maxRecDepth 20000 in
theorem gX8_sees_X8_must : GoodIn wsX8_sees (wsV RX8 357 RX8 yX8_must wsX8_must) := goodIn_app (goodIn_of _ (by decide +kernel)) ggX8_sees_X8_must
set_option maxRecDepth 20000 in
theorem ggX8_sees_X8_isIn : GoodIn wsX8_sees wsX8_isIn := goodIn_r _ [13] (by decide +kernel) (by decide +kernel)
set_option maxRecDepth 20000 in
theorem gX8_sees_X8_isIn : GoodIn wsX8_sees (va_wsS RX8 57 yX8_isIn wsX8_isIn) := goodIn_app (goodIn_of _ (by decide +kernel)) ggX8_sees_X8_isIn
set_option maxRecDepth 20000 in
theorem ggX8_sees_X8_good : GoodIn wsX8_sees wsX8_good := goodIn_r _ [17, 8, 18, 19, 20, 21, 22, 23, 24, 25, 26, 27, 28, 29, 30, 31, 32, 33, 34, 35, 36, 37, 38, 39, 40, 41, 42, 43, 44] (by decide +kernel) (by decide +kernel)
set_option maxRecDepth 20000 in
theorem gX8_sees_X8_good : GoodIn wsX8_sees (wsV RX8 333 RX8 yX8_good wsX8_good) := goodIn_app (goodIn_of _ (by decide +kernel)) ggX8_sees_X8_good
theorem dX8_sees_0 : decode cX8_sees 0 = .ok (.aload_n 0, 1) := by decide +kernel
theorem dX8_sees_1 : decode cX8_sees 1 = .ok (.aload_n 0, 1) := by decide +kernel
theorem dX8_sees_2 : decode cX8_sees 2 = .ok (.getfield 313, 3) := by decide +kernel
theorem dX8_sees_5 : decode cX8_sees 5 = .ok (.iconst 2, 1) := by decide +kernel
theorem dX8_sees_6 : decode cX8_sees 6 = .ok (.if_icmp .ne 7, 3) := by decide +kernel
theorem dX8_sees_9 : decode cX8_sees 9 = .ok (.iconst 1, 1) := by decide +kernel
theorem dX8_sees_10 : decode cX8_sees 10 = .ok (.goto 4, 3) := by decide +kernel
theorem dX8_sees_13 : decode cX8_sees 13 = .ok (.iconst 0, 1) := by decide +kernel
theorem dX8_sees_14 : decode cX8_sees 14 = .ok (.iconst 2, 1) := by decide +kernel
theorem dX8_sees_15 : decode cX8_sees 15 = .ok (.invokevirtual 357, 3) := by decide +kernel
theorem dX8_sees_18 : decode cX8_sees 18 = .ok (.aload_n 0, 1) := by decide +kernel
theorem dX8_sees_19 : decode cX8_sees 19 = .ok (.aload_n 0, 1) := by decide +kernel
theorem dX8_sees_20 : decode cX8_sees 20 = .ok (.getfield 324, 3) := by decide +kernel
theorem dX8_sees_23 : decode cX8_sees 23 = .ok (.i2l, 1) := by decide +kernel
theorem dX8_sees_24 : decode cX8_sees 24 = .ok (.iload_n 1, 1) := by decide +kernel
theorem dX8_sees_25 : decode cX8_sees 25 = .ok (.i2l, 1) := by decide +kernel
theorem dX8_sees_26 : decode cX8_sees 26 = .ok (.iload_n 2, 1) := by decide +kernel
theorem dX8_sees_27 : decode cX8_sees 27 = .ok (.i2l, 1) := by decide +kernel
theorem dX8_sees_28 : decode cX8_sees 28 = .ok (.invokestatic 57, 3) := by decide +kernel
theorem dX8_sees_31 : decode cX8_sees 31 = .ok (.iconst 3, 1) := by decide +kernel
theorem dX8_sees_32 : decode cX8_sees 32 = .ok (.invokevirtual 357, 3) := by decide +kernel
theorem dX8_sees_35 : decode cX8_sees 35 = .ok (.aload_n 0, 1) := by decide +kernel
theorem dX8_sees_36 : decode cX8_sees 36 = .ok (.invokevirtual 333, 3) := by decide +kernel
theorem dX8_sees_39 : decode cX8_sees 39 = .ok (.ifCond .eq 10, 3) := by decide +kernel
theorem dX8_sees_42 : decode cX8_sees 42 = .ok (.aload_n 0, 1) := by decide +kernel
theorem dX8_sees_43 : decode cX8_sees 43 = .ok (.getfield 324, 3) := by decide +kernel
theorem dX8_sees_46 : decode cX8_sees 46 = .ok (.goto 4, 3) := by decide +kernel
theorem dX8_sees_49 : decode cX8_sees 49 = .ok (.iconst 0, 1) := by decide +kernel
theorem dX8_sees_50 : decode cX8_sees 50 = .ok (.ireturn, 1) := by decide +kernel
set_option maxRecDepth 20000 in
theorem ggX8_takes_X8_sees : GoodIn wsX8_takes wsX8_sees := goodIn_r _ [5, 6, 7, 8, 9, 10, 4, 11, 12, 13, 14, 15, 16, 17, 18, 19, 20, 21, 40, 41, 42, 43, 44, 45, 46, 47, 48, 49, 50, 51, 52, 53, 54, 55, 56, 57, 58, 59, 60, 61, 62, 63, 64, 65, 66] (by decide +kernel) (by decide +kernel)
set_option maxRecDepth 20000 in
theorem gX8_takes_X8_sees : GoodIn wsX8_takes (wsV RX8 361 RX8 yX8_sees wsX8_sees) := goodIn_app (goodIn_of _ (by decide +kernel)) ggX8_takes_X8_sees
set_option maxRecDepth 20000 in
theorem ggX8_takes_X8_goesOn : GoodIn wsX8_takes wsX8_goesOn := goodIn_r _ [25, 18, 19, 20, 4, 21, 12, 26, 27, 28, 29, 30, 13, 31, 32, 6, 33, 34, 35, 7, 36, 37, 38, 39, 15, 16, 17, 40, 41, 42, 43, 44, 45, 46, 47, 48, 49, 50, 51, 52, 53, 54, 55, 56, 57, 58, 59, 60, 61, 62, 63, 64, 65, 66] (by decide +kernel) (by decide +kernel)
set_option maxRecDepth 20000 in
theorem gX8_takes_X8_goesOn : GoodIn wsX8_takes (wsV RX8 364 RX8 yX8_goesOn wsX8_goesOn) := goodIn_app (goodIn_of _ (by decide +kernel)) ggX8_takes_X8_goesOn
theorem dX8_takes_0 : decode cX8_takes 0 = .ok (.aload_n 0, 1) := by decide +kernel
theorem dX8_takes_1 : decode cX8_takes 1 = .ok (.iload_n 1, 1) := by decide +kernel
theorem dX8_takes_2 : decode cX8_takes 2 = .ok (.iload_n 2, 1) := by decide +kernel
theorem dX8_takes_3 : decode cX8_takes 3 = .ok (.invokevirtual 361, 3) := by decide +kernel
theorem dX8_takes_6 : decode cX8_takes 6 = .ok (.istore_n 3, 1) := by decide +kernel
theorem dX8_takes_7 : decode cX8_takes 7 = .ok (.aload_n 0, 1) := by decide +kernel
theorem dX8_takes_8 : decode cX8_takes 8 = .ok (.invokevirtual 364, 3) := by decide +kernel
theorem dX8_takes_11 : decode cX8_takes 11 = .ok (.iload_n 3, 1) := by decide +kernel
theorem dX8_takes_12 : decode cX8_takes 12 = .ok (.ireturn, 1) := by decide +kernel
set_option maxRecDepth 20000 in
theorem ggX8_slotsLine_X8_must : GoodIn wsX8_slotsLine wsX8_must := goodIn_r _ [7, 8, 9, 10, 11, 46, 47, 48, 49, 50, 51, 52, 53, 54, 55, 56, 57, 58, 59, 60, 61, 62, 63, 64, 65, 66, 67, 68, 69, 70, 71, 72] (by decide +kernel) (by decide +kernel)
set_option maxRecDepth 20000 in
theorem gX8_slotsLine_X8_must : GoodIn wsX8_slotsLine (wsV RX8 357 RX8 yX8_must wsX8_must) := goodIn_app (goodIn_of _ (by decide +kernel)) ggX8_slotsLine_X8_must
set_option maxRecDepth 20000 in
theorem ggX8_slotsLine_X8_goesOn : GoodIn wsX8_slotsLine wsX8_goesOn := goodIn_r _ [15, 16, 17, 18, 6, 19, 8, 20, 21, 22, 23, 24, 10, 25, 26, 9, 27, 28, 29, 30, 31, 32, 33, 34, 35, 36, 37, 46, 47, 48, 49, 50, 51, 52, 53, 54, 55, 56, 57, 58, 59, 60, 61, 62, 63, 64, 65, 66, 67, 68, 69, 70, 71, 72] (by decide +kernel) (by decide +kernel)
set_option maxRecDepth 20000 in
theorem gX8_slotsLine_X8_goesOn : GoodIn wsX8_slotsLine (wsV RX8 364 RX8 yX8_goesOn wsX8_goesOn) := goodIn_app (goodIn_of _ (by decide +kernel)) ggX8_slotsLine_X8_goesOn
set_option maxRecDepth 20000 in
theorem ggX8_slotsLine_X8_takes : GoodIn wsX8_slotsLine wsX8_takes := goodIn_r _ [41, 42, 43, 44, 6, 45, 9, 30, 3, 4, 5, 7, 8, 10, 11, 35, 36, 37, 16, 17, 18, 19, 12, 13, 14, 15, 20, 21, 22, 23, 24, 25, 26, 27, 28, 29, 31, 32, 33, 34, 46, 47, 48, 49, 50, 51, 52, 53, 54, 55, 56, 57, 58, 59, 60, 61, 62, 63, 64, 65, 66, 67, 68, 69, 70, 71, 72] (by decide +kernel) (by decide +kernel)
set_option maxRecDepth 20000 in
theorem gX8_slotsLine_X8_takes : GoodIn wsX8_slotsLine (wsV RX8 370 RX8 yX8_takes wsX8_takes) := goodIn_app (goodIn_of _ (by decide +kernel)) ggX8_slotsLine_X8_takes
theorem dX8_slotsLine_0 : decode cX8_slotsLine 0 = .ok (.aload_n 0, 1) := by decide +kernel
theorem dX8_slotsLine_1 : decode cX8_slotsLine 1 = .ok (.aload_n 0, 1) := by decide +kernel
theorem dX8_slotsLine_2 : decode cX8_slotsLine 2 = .ok (.getfield 367, 3) := by decide +kernel
theorem dX8_slotsLine_5 : decode cX8_slotsLine 5 = .ok (.ifCond .ne 7, 3) := by decide +kernel
theorem dX8_slotsLine_8 : decode cX8_slotsLine 8 = .ok (.iconst 1, 1) := by decide +kernel
theorem dX8_slotsLine_9 : decode cX8_slotsLine 9 = .ok (.goto 4, 3) := by decide +kernel
theorem dX8_slotsLine_12 : decode cX8_slotsLine 12 = .ok (.iconst 0, 1) := by decide +kernel
theorem dX8_slotsLine_13 : decode cX8_slotsLine 13 = .ok (.iconst 5, 1) := by decide +kernel
theorem dX8_slotsLine_14 : decode cX8_slotsLine 14 = .ok (.invokevirtual 357, 3) := by decide +kernel
theorem dX8_slotsLine_17 : decode cX8_slotsLine 17 = .ok (.aload_n 0, 1) := by decide +kernel
theorem dX8_slotsLine_18 : decode cX8_slotsLine 18 = .ok (.invokevirtual 364, 3) := by decide +kernel
theorem dX8_slotsLine_21 : decode cX8_slotsLine 21 = .ok (.aload_n 0, 1) := by decide +kernel
theorem dX8_slotsLine_22 : decode cX8_slotsLine 22 = .ok (.getfield 13, 3) := by decide +kernel
theorem dX8_slotsLine_25 : decode cX8_slotsLine 25 = .ok (.iconst 0, 1) := by decide +kernel
theorem dX8_slotsLine_26 : decode cX8_slotsLine 26 = .ok (.aload_n 0, 1) := by decide +kernel
theorem dX8_slotsLine_27 : decode cX8_slotsLine 27 = .ok (.iconst 4, 1) := by decide +kernel
theorem dX8_slotsLine_28 : decode cX8_slotsLine 28 = .ok (.bipush 24, 2) := by decide +kernel
theorem dX8_slotsLine_30 : decode cX8_slotsLine 30 = .ok (.invokevirtual 370, 3) := by decide +kernel
theorem dX8_slotsLine_33 : decode cX8_slotsLine 33 = .ok (.iastore, 1) := by decide +kernel
theorem dX8_slotsLine_34 : decode cX8_slotsLine 34 = .ok (.return_, 1) := by decide +kernel
set_option maxRecDepth 20000 in
theorem ggX8_driveLine_X8_must : GoodIn wsX8_driveLine wsX8_must := goodIn_r _ [6, 7, 8, 9, 10, 45, 46, 47, 48, 49, 50, 51, 52, 53, 54, 55, 56, 57, 58, 59, 60, 61, 62, 63, 64, 65, 66, 67, 68, 69, 70, 71] (by decide +kernel) (by decide +kernel)
set_option maxRecDepth 20000 in
theorem gX8_driveLine_X8_must : GoodIn wsX8_driveLine (wsV RX8 357 RX8 yX8_must wsX8_must) := goodIn_app (goodIn_of _ (by decide +kernel)) ggX8_driveLine_X8_must
set_option maxRecDepth 20000 in
theorem ggX8_driveLine_X8_goesOn : GoodIn wsX8_driveLine wsX8_goesOn := goodIn_r _ [14, 15, 16, 17, 5, 18, 7, 19, 20, 21, 22, 23, 9, 24, 25, 8, 26, 27, 28, 29, 30, 31, 32, 33, 34, 35, 36, 45, 46, 47, 48, 49, 50, 51, 52, 53, 54, 55, 56, 57, 58, 59, 60, 61, 62, 63, 64, 65, 66, 67, 68, 69, 70, 71] (by decide +kernel) (by decide +kernel)
set_option maxRecDepth 20000 in
theorem gX8_driveLine_X8_goesOn : GoodIn wsX8_driveLine (wsV RX8 364 RX8 yX8_goesOn wsX8_goesOn) := goodIn_app (goodIn_of _ (by decide +kernel)) ggX8_driveLine_X8_goesOn
set_option maxRecDepth 20000 in
theorem ggX8_driveLine_X8_takes : GoodIn wsX8_driveLine wsX8_takes := goodIn_r _ [40, 41, 42, 43, 5, 44, 8, 29, 2, 3, 4, 6, 7, 9, 10, 34, 35, 36, 15, 16, 17, 18, 11, 12, 13, 14, 19, 20, 21, 22, 23, 24, 25, 26, 27, 28, 30, 31, 32, 33, 45, 46, 47, 48, 49, 50, 51, 52, 53, 54, 55, 56, 57, 58, 59, 60, 61, 62, 63, 64, 65, 66, 67, 68, 69, 70, 71] (by decide +kernel) (by decide +kernel)
set_option maxRecDepth 20000 in
theorem gX8_driveLine_X8_takes : GoodIn wsX8_driveLine (wsV RX8 370 RX8 yX8_takes wsX8_takes) := goodIn_app (goodIn_of _ (by decide +kernel)) ggX8_driveLine_X8_takes
set_option maxRecDepth 20000 in
theorem ggX8_driveLine_X8_good : GoodIn wsX8_driveLine wsX8_good := goodIn_r _ [18, 7, 45, 46, 47, 48, 49, 50, 51, 52, 53, 54, 55, 56, 57, 58, 59, 60, 61, 62, 63, 64, 65, 66, 67, 68, 69, 70, 71] (by decide +kernel) (by decide +kernel)
set_option maxRecDepth 20000 in
theorem gX8_driveLine_X8_good : GoodIn wsX8_driveLine (wsV RX8 333 RX8 yX8_good wsX8_good) := goodIn_app (goodIn_of _ (by decide +kernel)) ggX8_driveLine_X8_good
theorem dX8_driveLine_0 : decode cX8_driveLine 0 = .ok (.aload_n 0, 1) := by decide +kernel
theorem dX8_driveLine_1 : decode cX8_driveLine 1 = .ok (.aload_n 0, 1) := by decide +kernel
theorem dX8_driveLine_2 : decode cX8_driveLine 2 = .ok (.getfield 13, 3) := by decide +kernel
theorem dX8_driveLine_5 : decode cX8_driveLine 5 = .ok (.bipush 6, 2) := by decide +kernel
theorem dX8_driveLine_7 : decode cX8_driveLine 7 = .ok (.iaload, 1) := by decide +kernel
theorem dX8_driveLine_8 : decode cX8_driveLine 8 = .ok (.iconst 4, 1) := by decide +kernel
theorem dX8_driveLine_9 : decode cX8_driveLine 9 = .ok (.if_icmp .ge 7, 3) := by decide +kernel
theorem dX8_driveLine_12 : decode cX8_driveLine 12 = .ok (.iconst 1, 1) := by decide +kernel
theorem dX8_driveLine_13 : decode cX8_driveLine 13 = .ok (.goto 4, 3) := by decide +kernel
theorem dX8_driveLine_16 : decode cX8_driveLine 16 = .ok (.iconst 0, 1) := by decide +kernel
theorem dX8_driveLine_17 : decode cX8_driveLine 17 = .ok (.iconst 5, 1) := by decide +kernel
theorem dX8_driveLine_18 : decode cX8_driveLine 18 = .ok (.invokevirtual 357, 3) := by decide +kernel
theorem dX8_driveLine_21 : decode cX8_driveLine 21 = .ok (.aload_n 0, 1) := by decide +kernel
theorem dX8_driveLine_22 : decode cX8_driveLine 22 = .ok (.invokevirtual 364, 3) := by decide +kernel
theorem dX8_driveLine_25 : decode cX8_driveLine 25 = .ok (.aload_n 0, 1) := by decide +kernel
theorem dX8_driveLine_26 : decode cX8_driveLine 26 = .ok (.iconst 0, 1) := by decide +kernel
theorem dX8_driveLine_27 : decode cX8_driveLine 27 = .ok (.aload_n 0, 1) := by decide +kernel
theorem dX8_driveLine_28 : decode cX8_driveLine 28 = .ok (.getfield 13, 3) := by decide +kernel
theorem dX8_driveLine_31 : decode cX8_driveLine 31 = .ok (.iconst 0, 1) := by decide +kernel
theorem dX8_driveLine_32 : decode cX8_driveLine 32 = .ok (.iaload, 1) := by decide +kernel
theorem dX8_driveLine_33 : decode cX8_driveLine 33 = .ok (.iconst 1, 1) := by decide +kernel
theorem dX8_driveLine_34 : decode cX8_driveLine 34 = .ok (.isub, 1) := by decide +kernel
theorem dX8_driveLine_35 : decode cX8_driveLine 35 = .ok (.invokevirtual 370, 3) := by decide +kernel
theorem dX8_driveLine_38 : decode cX8_driveLine 38 = .ok (.istore_n 1, 1) := by decide +kernel
theorem dX8_driveLine_39 : decode cX8_driveLine 39 = .ok (.aload_n 0, 1) := by decide +kernel
theorem dX8_driveLine_40 : decode cX8_driveLine 40 = .ok (.invokevirtual 333, 3) := by decide +kernel
theorem dX8_driveLine_43 : decode cX8_driveLine 43 = .ok (.ifCond .ne 4, 3) := by decide +kernel
theorem dX8_driveLine_46 : decode cX8_driveLine 46 = .ok (.return_, 1) := by decide +kernel
theorem dX8_driveLine_47 : decode cX8_driveLine 47 = .ok (.aload_n 0, 1) := by decide +kernel
theorem dX8_driveLine_48 : decode cX8_driveLine 48 = .ok (.getfield 13, 3) := by decide +kernel
theorem dX8_driveLine_51 : decode cX8_driveLine 51 = .ok (.bipush 17, 2) := by decide +kernel
theorem dX8_driveLine_53 : decode cX8_driveLine 53 = .ok (.aload_n 0, 1) := by decide +kernel
theorem dX8_driveLine_54 : decode cX8_driveLine 54 = .ok (.getfield 13, 3) := by decide +kernel
theorem dX8_driveLine_57 : decode cX8_driveLine 57 = .ok (.bipush 6, 2) := by decide +kernel
theorem dX8_driveLine_59 : decode cX8_driveLine 59 = .ok (.iaload, 1) := by decide +kernel
theorem dX8_driveLine_60 : decode cX8_driveLine 60 = .ok (.iadd, 1) := by decide +kernel
theorem dX8_driveLine_61 : decode cX8_driveLine 61 = .ok (.iload_n 1, 1) := by decide +kernel
theorem dX8_driveLine_62 : decode cX8_driveLine 62 = .ok (.iastore, 1) := by decide +kernel
theorem dX8_driveLine_63 : decode cX8_driveLine 63 = .ok (.aload_n 0, 1) := by decide +kernel
theorem dX8_driveLine_64 : decode cX8_driveLine 64 = .ok (.getfield 13, 3) := by decide +kernel
theorem dX8_driveLine_67 : decode cX8_driveLine 67 = .ok (.bipush 6, 2) := by decide +kernel
theorem dX8_driveLine_69 : decode cX8_driveLine 69 = .ok (.dup2, 1) := by decide +kernel
theorem dX8_driveLine_70 : decode cX8_driveLine 70 = .ok (.iaload, 1) := by decide +kernel
theorem dX8_driveLine_71 : decode cX8_driveLine 71 = .ok (.iconst 1, 1) := by decide +kernel
theorem dX8_driveLine_72 : decode cX8_driveLine 72 = .ok (.iadd, 1) := by decide +kernel
theorem dX8_driveLine_73 : decode cX8_driveLine 73 = .ok (.iastore, 1) := by decide +kernel
theorem dX8_driveLine_74 : decode cX8_driveLine 74 = .ok (.return_, 1) := by decide +kernel
set_option maxRecDepth 20000 in
theorem ggX8_timeLine_X8_goesOn : GoodIn wsX8_timeLine wsX8_goesOn := goodIn_r _ [6, 7, 8, 9, 5, 10, 11, 12, 13, 14, 15, 16, 17, 18, 19, 20, 21, 22, 23, 24, 25, 26, 27, 28, 29, 30, 31, 45, 46, 47, 48, 49, 50, 51, 52, 53, 54, 55, 56, 57, 58, 59, 60, 61, 62, 63, 64, 65, 66, 67, 68, 69, 70, 71] (by decide +kernel) (by decide +kernel)
set_option maxRecDepth 20000 in
theorem gX8_timeLine_X8_goesOn : GoodIn wsX8_timeLine (wsV RX8 364 RX8 yX8_goesOn wsX8_goesOn) := goodIn_app (goodIn_of _ (by decide +kernel)) ggX8_timeLine_X8_goesOn
set_option maxRecDepth 20000 in
theorem ggX8_timeLine_X8_takes : GoodIn wsX8_timeLine wsX8_takes := goodIn_r _ [35, 36, 37, 38, 5, 39, 20, 24, 40, 41, 42, 43, 11, 17, 44, 29, 30, 31, 7, 8, 9, 10, 2, 3, 4, 6, 12, 13, 14, 15, 16, 18, 19, 21, 22, 23, 25, 26, 27, 28, 45, 46, 47, 48, 49, 50, 51, 52, 53, 54, 55, 56, 57, 58, 59, 60, 61, 62, 63, 64, 65, 66, 67, 68, 69, 70, 71] (by decide +kernel) (by decide +kernel)
set_option maxRecDepth 20000 in
theorem gX8_timeLine_X8_takes : GoodIn wsX8_timeLine (wsV RX8 370 RX8 yX8_takes wsX8_takes) := goodIn_app (goodIn_of _ (by decide +kernel)) ggX8_timeLine_X8_takes
theorem dX8_timeLine_0 : decode cX8_timeLine 0 = .ok (.aload_n 0, 1) := by decide +kernel
theorem dX8_timeLine_1 : decode cX8_timeLine 1 = .ok (.invokevirtual 364, 3) := by decide +kernel
theorem dX8_timeLine_4 : decode cX8_timeLine 4 = .ok (.iconst 0, 1) := by decide +kernel
theorem dX8_timeLine_5 : decode cX8_timeLine 5 = .ok (.istore_n 1, 1) := by decide +kernel
theorem dX8_timeLine_6 : decode cX8_timeLine 6 = .ok (.iload_n 1, 1) := by decide +kernel
theorem dX8_timeLine_7 : decode cX8_timeLine 7 = .ok (.iconst 5, 1) := by decide +kernel
theorem dX8_timeLine_8 : decode cX8_timeLine 8 = .ok (.if_icmp .ge 24, 3) := by decide +kernel
theorem dX8_timeLine_11 : decode cX8_timeLine 11 = .ok (.aload_n 0, 1) := by decide +kernel
theorem dX8_timeLine_12 : decode cX8_timeLine 12 = .ok (.getfield 13, 3) := by decide +kernel
theorem dX8_timeLine_15 : decode cX8_timeLine 15 = .ok (.iconst 1, 1) := by decide +kernel
theorem dX8_timeLine_16 : decode cX8_timeLine 16 = .ok (.iload_n 1, 1) := by decide +kernel
theorem dX8_timeLine_17 : decode cX8_timeLine 17 = .ok (.iadd, 1) := by decide +kernel
theorem dX8_timeLine_18 : decode cX8_timeLine 18 = .ok (.aload_n 0, 1) := by decide +kernel
theorem dX8_timeLine_19 : decode cX8_timeLine 19 = .ok (.iconst 0, 1) := by decide +kernel
theorem dX8_timeLine_20 : decode cX8_timeLine 20 = .ok (.bipush 99, 2) := by decide +kernel
theorem dX8_timeLine_22 : decode cX8_timeLine 22 = .ok (.invokevirtual 370, 3) := by decide +kernel
theorem dX8_timeLine_25 : decode cX8_timeLine 25 = .ok (.iastore, 1) := by decide +kernel
theorem dX8_timeLine_26 : decode cX8_timeLine 26 = .ok (.iinc 1 1, 3) := by decide +kernel
theorem dX8_timeLine_29 : decode cX8_timeLine 29 = .ok (.goto (-23), 3) := by decide +kernel
theorem dX8_timeLine_32 : decode cX8_timeLine 32 = .ok (.return_, 1) := by decide +kernel
set_option maxRecDepth 20000 in
theorem ggX8_platterLine_X8_must : GoodIn wsX8_platterLine wsX8_must := goodIn_r _ [6, 7, 8, 9, 10, 48, 49, 50, 51, 52, 53, 54, 55, 56, 57, 58, 59, 60, 61, 62, 63, 64, 65, 66, 67, 68, 69, 70, 71, 72, 73, 74] (by decide +kernel) (by decide +kernel)
set_option maxRecDepth 20000 in
theorem gX8_platterLine_X8_must : GoodIn wsX8_platterLine (wsV RX8 357 RX8 yX8_must wsX8_must) := goodIn_app (goodIn_of _ (by decide +kernel)) ggX8_platterLine_X8_must
set_option maxRecDepth 20000 in
theorem ggX8_platterLine_X8_goesOn : GoodIn wsX8_platterLine wsX8_goesOn := goodIn_r _ [14, 15, 16, 17, 5, 18, 7, 19, 20, 21, 22, 23, 9, 24, 25, 8, 26, 27, 28, 29, 30, 31, 32, 33, 34, 35, 36, 48, 49, 50, 51, 52, 53, 54, 55, 56, 57, 58, 59, 60, 61, 62, 63, 64, 65, 66, 67, 68, 69, 70, 71, 72, 73, 74] (by decide +kernel) (by decide +kernel)
set_option maxRecDepth 20000 in
theorem gX8_platterLine_X8_goesOn : GoodIn wsX8_platterLine (wsV RX8 364 RX8 yX8_goesOn wsX8_goesOn) := goodIn_app (goodIn_of _ (by decide +kernel)) ggX8_platterLine_X8_goesOn
set_option maxRecDepth 20000 in
theorem ggX8_platterLine_X8_sees : GoodIn wsX8_platterLine wsX8_sees := goodIn_r _ [40, 8, 29, 2, 3, 4, 5, 6, 7, 9, 10, 34, 35, 36, 15, 16, 17, 18, 48, 49, 50, 51, 52, 53, 54, 55, 56, 57, 58, 59, 60, 61, 62, 63, 64, 65, 66, 67, 68, 69, 70, 71, 72, 73, 74] (by decide +kernel) (by decide +kernel)
set_option maxRecDepth 20000 in
theorem gX8_platterLine_X8_sees : GoodIn wsX8_platterLine (wsV RX8 361 RX8 yX8_sees wsX8_sees) := goodIn_app (goodIn_of _ (by decide +kernel)) ggX8_platterLine_X8_sees
set_option maxRecDepth 20000 in
theorem ggX8_platterLine_X8_homeAt : GoodIn wsX8_platterLine wsX8_homeAt := goodIn_r _ [43] (by decide +kernel) (by decide +kernel)
set_option maxRecDepth 20000 in
theorem gX8_platterLine_X8_homeAt : GoodIn wsX8_platterLine (va_wsS RX8 265 yX8_homeAt wsX8_homeAt) := goodIn_app (goodIn_of _ (by decide +kernel)) ggX8_platterLine_X8_homeAt
set_option maxRecDepth 20000 in
theorem ggX8_platterLine_X8_takes : GoodIn wsX8_platterLine wsX8_takes := goodIn_r _ [47, 37, 38, 39, 5, 40, 8, 29, 2, 3, 4, 6, 7, 9, 10, 34, 35, 36, 15, 16, 17, 18, 11, 12, 13, 14, 19, 20, 21, 22, 23, 24, 25, 26, 27, 28, 30, 31, 32, 33, 48, 49, 50, 51, 52, 53, 54, 55, 56, 57, 58, 59, 60, 61, 62, 63, 64, 65, 66, 67, 68, 69, 70, 71, 72, 73, 74] (by decide +kernel) (by decide +kernel)
set_option maxRecDepth 20000 in
theorem gX8_platterLine_X8_takes : GoodIn wsX8_platterLine (wsV RX8 370 RX8 yX8_takes wsX8_takes) := goodIn_app (goodIn_of _ (by decide +kernel)) ggX8_platterLine_X8_takes
set_option maxRecDepth 20000 in
theorem ggX8_platterLine_X8_good : GoodIn wsX8_platterLine wsX8_good := goodIn_r _ [18, 7, 48, 49, 50, 51, 52, 53, 54, 55, 56, 57, 58, 59, 60, 61, 62, 63, 64, 65, 66, 67, 68, 69, 70, 71, 72, 73, 74] (by decide +kernel) (by decide +kernel)
set_option maxRecDepth 20000 in
theorem gX8_platterLine_X8_good : GoodIn wsX8_platterLine (wsV RX8 333 RX8 yX8_good wsX8_good) := goodIn_app (goodIn_of _ (by decide +kernel)) ggX8_platterLine_X8_good
theorem dX8_platterLine_0 : decode cX8_platterLine 0 = .ok (.aload_n 0, 1) := by decide +kernel
theorem dX8_platterLine_1 : decode cX8_platterLine 1 = .ok (.aload_n 0, 1) := by decide +kernel
theorem dX8_platterLine_2 : decode cX8_platterLine 2 = .ok (.getfield 13, 3) := by decide +kernel
theorem dX8_platterLine_5 : decode cX8_platterLine 5 = .ok (.bipush 7, 2) := by decide +kernel
theorem dX8_platterLine_7 : decode cX8_platterLine 7 = .ok (.iaload, 1) := by decide +kernel
theorem dX8_platterLine_8 : decode cX8_platterLine 8 = .ok (.bipush 10, 2) := by decide +kernel
theorem dX8_platterLine_10 : decode cX8_platterLine 10 = .ok (.if_icmp .ge 7, 3) := by decide +kernel
theorem dX8_platterLine_13 : decode cX8_platterLine 13 = .ok (.iconst 1, 1) := by decide +kernel
theorem dX8_platterLine_14 : decode cX8_platterLine 14 = .ok (.goto 4, 3) := by decide +kernel
theorem dX8_platterLine_17 : decode cX8_platterLine 17 = .ok (.iconst 0, 1) := by decide +kernel
theorem dX8_platterLine_18 : decode cX8_platterLine 18 = .ok (.iconst 5, 1) := by decide +kernel
theorem dX8_platterLine_19 : decode cX8_platterLine 19 = .ok (.invokevirtual 357, 3) := by decide +kernel
theorem dX8_platterLine_22 : decode cX8_platterLine 22 = .ok (.aload_n 0, 1) := by decide +kernel
theorem dX8_platterLine_23 : decode cX8_platterLine 23 = .ok (.invokevirtual 364, 3) := by decide +kernel
theorem dX8_platterLine_26 : decode cX8_platterLine 26 = .ok (.aload_n 0, 1) := by decide +kernel
theorem dX8_platterLine_27 : decode cX8_platterLine 27 = .ok (.iconst 0, 1) := by decide +kernel
theorem dX8_platterLine_28 : decode cX8_platterLine 28 = .ok (.aload_n 0, 1) := by decide +kernel
theorem dX8_platterLine_29 : decode cX8_platterLine 29 = .ok (.getfield 13, 3) := by decide +kernel
theorem dX8_platterLine_32 : decode cX8_platterLine 32 = .ok (.iconst 0, 1) := by decide +kernel
theorem dX8_platterLine_33 : decode cX8_platterLine 33 = .ok (.iaload, 1) := by decide +kernel
theorem dX8_platterLine_34 : decode cX8_platterLine 34 = .ok (.iconst 1, 1) := by decide +kernel
theorem dX8_platterLine_35 : decode cX8_platterLine 35 = .ok (.isub, 1) := by decide +kernel
theorem dX8_platterLine_36 : decode cX8_platterLine 36 = .ok (.invokevirtual 361, 3) := by decide +kernel
theorem dX8_platterLine_39 : decode cX8_platterLine 39 = .ok (.istore_n 1, 1) := by decide +kernel
theorem dX8_platterLine_40 : decode cX8_platterLine 40 = .ok (.aload_n 0, 1) := by decide +kernel
theorem dX8_platterLine_41 : decode cX8_platterLine 41 = .ok (.aload_n 0, 1) := by decide +kernel
theorem dX8_platterLine_42 : decode cX8_platterLine 42 = .ok (.getfield 13, 3) := by decide +kernel
theorem dX8_platterLine_45 : decode cX8_platterLine 45 = .ok (.iload_n 1, 1) := by decide +kernel
theorem dX8_platterLine_46 : decode cX8_platterLine 46 = .ok (.invokestatic 265, 3) := by decide +kernel
theorem dX8_platterLine_49 : decode cX8_platterLine 49 = .ok (.iconst (-1), 1) := by decide +kernel
theorem dX8_platterLine_50 : decode cX8_platterLine 50 = .ok (.if_icmp .ne 7, 3) := by decide +kernel
theorem dX8_platterLine_53 : decode cX8_platterLine 53 = .ok (.iconst 1, 1) := by decide +kernel
theorem dX8_platterLine_54 : decode cX8_platterLine 54 = .ok (.goto 4, 3) := by decide +kernel
theorem dX8_platterLine_57 : decode cX8_platterLine 57 = .ok (.iconst 0, 1) := by decide +kernel
theorem dX8_platterLine_58 : decode cX8_platterLine 58 = .ok (.iconst 4, 1) := by decide +kernel
theorem dX8_platterLine_59 : decode cX8_platterLine 59 = .ok (.invokevirtual 357, 3) := by decide +kernel
theorem dX8_platterLine_62 : decode cX8_platterLine 62 = .ok (.aload_n 0, 1) := by decide +kernel
theorem dX8_platterLine_63 : decode cX8_platterLine 63 = .ok (.invokevirtual 364, 3) := by decide +kernel
theorem dX8_platterLine_66 : decode cX8_platterLine 66 = .ok (.aload_n 0, 1) := by decide +kernel
theorem dX8_platterLine_67 : decode cX8_platterLine 67 = .ok (.bipush 10, 2) := by decide +kernel
theorem dX8_platterLine_69 : decode cX8_platterLine 69 = .ok (.sipush 300, 3) := by decide +kernel
theorem dX8_platterLine_72 : decode cX8_platterLine 72 = .ok (.invokevirtual 370, 3) := by decide +kernel
theorem dX8_platterLine_75 : decode cX8_platterLine 75 = .ok (.istore_n 2, 1) := by decide +kernel
theorem dX8_platterLine_76 : decode cX8_platterLine 76 = .ok (.aload_n 0, 1) := by decide +kernel
theorem dX8_platterLine_77 : decode cX8_platterLine 77 = .ok (.iconst 0, 1) := by decide +kernel
theorem dX8_platterLine_78 : decode cX8_platterLine 78 = .ok (.bipush 9, 2) := by decide +kernel
theorem dX8_platterLine_80 : decode cX8_platterLine 80 = .ok (.invokevirtual 370, 3) := by decide +kernel
theorem dX8_platterLine_83 : decode cX8_platterLine 83 = .ok (.istore_n 3, 1) := by decide +kernel
theorem dX8_platterLine_84 : decode cX8_platterLine 84 = .ok (.aload_n 0, 1) := by decide +kernel
theorem dX8_platterLine_85 : decode cX8_platterLine 85 = .ok (.invokevirtual 333, 3) := by decide +kernel
theorem dX8_platterLine_88 : decode cX8_platterLine 88 = .ok (.ifCond .ne 4, 3) := by decide +kernel
theorem dX8_platterLine_91 : decode cX8_platterLine 91 = .ok (.return_, 1) := by decide +kernel
theorem dX8_platterLine_92 : decode cX8_platterLine 92 = .ok (.aload_n 0, 1) := by decide +kernel
theorem dX8_platterLine_93 : decode cX8_platterLine 93 = .ok (.getfield 13, 3) := by decide +kernel
theorem dX8_platterLine_96 : decode cX8_platterLine 96 = .ok (.bipush 7, 2) := by decide +kernel
theorem dX8_platterLine_98 : decode cX8_platterLine 98 = .ok (.iaload, 1) := by decide +kernel
theorem dX8_platterLine_99 : decode cX8_platterLine 99 = .ok (.istore 4, 2) := by decide +kernel
theorem dX8_platterLine_101 : decode cX8_platterLine 101 = .ok (.aload_n 0, 1) := by decide +kernel
theorem dX8_platterLine_102 : decode cX8_platterLine 102 = .ok (.getfield 13, 3) := by decide +kernel
theorem dX8_platterLine_105 : decode cX8_platterLine 105 = .ok (.bipush 7, 2) := by decide +kernel
theorem dX8_platterLine_107 : decode cX8_platterLine 107 = .ok (.dup2, 1) := by decide +kernel
theorem dX8_platterLine_108 : decode cX8_platterLine 108 = .ok (.iaload, 1) := by decide +kernel
theorem dX8_platterLine_109 : decode cX8_platterLine 109 = .ok (.iconst 1, 1) := by decide +kernel
theorem dX8_platterLine_110 : decode cX8_platterLine 110 = .ok (.iadd, 1) := by decide +kernel
theorem dX8_platterLine_111 : decode cX8_platterLine 111 = .ok (.iastore, 1) := by decide +kernel
theorem dX8_platterLine_112 : decode cX8_platterLine 112 = .ok (.aload_n 0, 1) := by decide +kernel
theorem dX8_platterLine_113 : decode cX8_platterLine 113 = .ok (.getfield 13, 3) := by decide +kernel
theorem dX8_platterLine_116 : decode cX8_platterLine 116 = .ok (.bipush 29, 2) := by decide +kernel
theorem dX8_platterLine_118 : decode cX8_platterLine 118 = .ok (.iload 4, 2) := by decide +kernel
theorem dX8_platterLine_120 : decode cX8_platterLine 120 = .ok (.iadd, 1) := by decide +kernel
theorem dX8_platterLine_121 : decode cX8_platterLine 121 = .ok (.iload_n 1, 1) := by decide +kernel
theorem dX8_platterLine_122 : decode cX8_platterLine 122 = .ok (.iastore, 1) := by decide +kernel
theorem dX8_platterLine_123 : decode cX8_platterLine 123 = .ok (.aload_n 0, 1) := by decide +kernel
theorem dX8_platterLine_124 : decode cX8_platterLine 124 = .ok (.getfield 13, 3) := by decide +kernel
theorem dX8_platterLine_127 : decode cX8_platterLine 127 = .ok (.bipush 39, 2) := by decide +kernel
theorem dX8_platterLine_129 : decode cX8_platterLine 129 = .ok (.iload 4, 2) := by decide +kernel
theorem dX8_platterLine_131 : decode cX8_platterLine 131 = .ok (.iadd, 1) := by decide +kernel
theorem dX8_platterLine_132 : decode cX8_platterLine 132 = .ok (.iload_n 2, 1) := by decide +kernel
theorem dX8_platterLine_133 : decode cX8_platterLine 133 = .ok (.iastore, 1) := by decide +kernel
theorem dX8_platterLine_134 : decode cX8_platterLine 134 = .ok (.aload_n 0, 1) := by decide +kernel
theorem dX8_platterLine_135 : decode cX8_platterLine 135 = .ok (.getfield 13, 3) := by decide +kernel
theorem dX8_platterLine_138 : decode cX8_platterLine 138 = .ok (.bipush 49, 2) := by decide +kernel
theorem dX8_platterLine_140 : decode cX8_platterLine 140 = .ok (.iload 4, 2) := by decide +kernel
theorem dX8_platterLine_142 : decode cX8_platterLine 142 = .ok (.iadd, 1) := by decide +kernel
theorem dX8_platterLine_143 : decode cX8_platterLine 143 = .ok (.iload_n 3, 1) := by decide +kernel
theorem dX8_platterLine_144 : decode cX8_platterLine 144 = .ok (.iastore, 1) := by decide +kernel
theorem dX8_platterLine_145 : decode cX8_platterLine 145 = .ok (.return_, 1) := by decide +kernel
set_option maxRecDepth 20000 in
theorem ggX8_badLine_X8_must : GoodIn wsX8_badLine wsX8_must := goodIn_r _ [6, 7, 8, 9, 10, 54, 55, 56, 57, 58, 59, 60, 61, 62, 63, 64, 65, 66, 67, 68, 69, 70, 71, 72, 73, 74, 75, 76, 77, 78, 79, 80] (by decide +kernel) (by decide +kernel)
set_option maxRecDepth 20000 in
theorem gX8_badLine_X8_must : GoodIn wsX8_badLine (wsV RX8 357 RX8 yX8_must wsX8_must) := goodIn_app (goodIn_of _ (by decide +kernel)) ggX8_badLine_X8_must
set_option maxRecDepth 20000 in
theorem ggX8_badLine_X8_goesOn : GoodIn wsX8_badLine wsX8_goesOn := goodIn_r _ [14, 15, 16, 17, 5, 18, 7, 19, 20, 21, 22, 23, 9, 24, 25, 8, 26, 27, 28, 29, 30, 31, 32, 33, 34, 35, 36, 54, 55, 56, 57, 58, 59, 60, 61, 62, 63, 64, 65, 66, 67, 68, 69, 70, 71, 72, 73, 74, 75, 76, 77, 78, 79, 80] (by decide +kernel) (by decide +kernel)
set_option maxRecDepth 20000 in
theorem gX8_badLine_X8_goesOn : GoodIn wsX8_badLine (wsV RX8 364 RX8 yX8_goesOn wsX8_goesOn) := goodIn_app (goodIn_of _ (by decide +kernel)) ggX8_badLine_X8_goesOn
set_option maxRecDepth 20000 in
theorem ggX8_badLine_X8_takes : GoodIn wsX8_badLine wsX8_takes := goodIn_r _ [40, 41, 42, 43, 5, 44, 8, 29, 2, 3, 4, 6, 7, 9, 10, 34, 35, 36, 15, 16, 17, 18, 11, 12, 13, 14, 19, 20, 21, 22, 23, 24, 25, 26, 27, 28, 30, 31, 32, 33, 54, 55, 56, 57, 58, 59, 60, 61, 62, 63, 64, 65, 66, 67, 68, 69, 70, 71, 72, 73, 74, 75, 76, 77, 78, 79, 80] (by decide +kernel) (by decide +kernel)
set_option maxRecDepth 20000 in
theorem gX8_badLine_X8_takes : GoodIn wsX8_badLine (wsV RX8 370 RX8 yX8_takes wsX8_takes) := goodIn_app (goodIn_of _ (by decide +kernel)) ggX8_badLine_X8_takes
set_option maxRecDepth 20000 in
theorem ggX8_badLine_X8_good : GoodIn wsX8_badLine wsX8_good := goodIn_r _ [18, 7, 54, 55, 56, 57, 58, 59, 60, 61, 62, 63, 64, 65, 66, 67, 68, 69, 70, 71, 72, 73, 74, 75, 76, 77, 78, 79, 80] (by decide +kernel) (by decide +kernel)
set_option maxRecDepth 20000 in
theorem gX8_badLine_X8_good : GoodIn wsX8_badLine (wsV RX8 333 RX8 yX8_good wsX8_good) := goodIn_app (goodIn_of _ (by decide +kernel)) ggX8_badLine_X8_good
set_option maxRecDepth 20000 in
theorem ggX8_badLine_X8_sees : GoodIn wsX8_badLine wsX8_sees := goodIn_r _ [44, 8, 29, 2, 3, 4, 5, 6, 7, 9, 10, 34, 35, 36, 15, 16, 17, 18, 54, 55, 56, 57, 58, 59, 60, 61, 62, 63, 64, 65, 66, 67, 68, 69, 70, 71, 72, 73, 74, 75, 76, 77, 78, 79, 80] (by decide +kernel) (by decide +kernel)
set_option maxRecDepth 20000 in
theorem gX8_badLine_X8_sees : GoodIn wsX8_badLine (wsV RX8 361 RX8 yX8_sees wsX8_sees) := goodIn_app (goodIn_of _ (by decide +kernel)) ggX8_badLine_X8_sees
set_option maxRecDepth 20000 in
theorem ggX8_badLine_X8_isBad : GoodIn wsX8_badLine wsX8_isBad := goodIn_r _ [47] (by decide +kernel) (by decide +kernel)
set_option maxRecDepth 20000 in
theorem gX8_badLine_X8_isBad : GoodIn wsX8_badLine (va_wsS RX8 212 yX8_isBad wsX8_isBad) := goodIn_app (goodIn_of _ (by decide +kernel)) ggX8_badLine_X8_isBad
set_option maxRecDepth 20000 in
theorem ggX8_badLine_X8_marks : GoodIn wsX8_badLine wsX8_marks := goodIn_r _ [50, 51, 52, 5, 53, 34, 35, 36] (by decide +kernel) (by decide +kernel)
set_option maxRecDepth 20000 in
theorem gX8_badLine_X8_marks : GoodIn wsX8_badLine (va_wsS RX8 261 yX8_marks wsX8_marks) := goodIn_app (goodIn_of _ (by decide +kernel)) ggX8_badLine_X8_marks
theorem dX8_badLine_0 : decode cX8_badLine 0 = .ok (.aload_n 0, 1) := by decide +kernel
theorem dX8_badLine_1 : decode cX8_badLine 1 = .ok (.aload_n 0, 1) := by decide +kernel
theorem dX8_badLine_2 : decode cX8_badLine 2 = .ok (.getfield 13, 3) := by decide +kernel
theorem dX8_badLine_5 : decode cX8_badLine 5 = .ok (.bipush 8, 2) := by decide +kernel
theorem dX8_badLine_7 : decode cX8_badLine 7 = .ok (.iaload, 1) := by decide +kernel
theorem dX8_badLine_8 : decode cX8_badLine 8 = .ok (.bipush 20, 2) := by decide +kernel
theorem dX8_badLine_10 : decode cX8_badLine 10 = .ok (.if_icmp .ge 7, 3) := by decide +kernel
theorem dX8_badLine_13 : decode cX8_badLine 13 = .ok (.iconst 1, 1) := by decide +kernel
theorem dX8_badLine_14 : decode cX8_badLine 14 = .ok (.goto 4, 3) := by decide +kernel
theorem dX8_badLine_17 : decode cX8_badLine 17 = .ok (.iconst 0, 1) := by decide +kernel
theorem dX8_badLine_18 : decode cX8_badLine 18 = .ok (.iconst 5, 1) := by decide +kernel
theorem dX8_badLine_19 : decode cX8_badLine 19 = .ok (.invokevirtual 357, 3) := by decide +kernel
theorem dX8_badLine_22 : decode cX8_badLine 22 = .ok (.aload_n 0, 1) := by decide +kernel
theorem dX8_badLine_23 : decode cX8_badLine 23 = .ok (.invokevirtual 364, 3) := by decide +kernel
theorem dX8_badLine_26 : decode cX8_badLine 26 = .ok (.aload_n 0, 1) := by decide +kernel
theorem dX8_badLine_27 : decode cX8_badLine 27 = .ok (.iconst 0, 1) := by decide +kernel
theorem dX8_badLine_28 : decode cX8_badLine 28 = .ok (.aload_n 0, 1) := by decide +kernel
theorem dX8_badLine_29 : decode cX8_badLine 29 = .ok (.getfield 13, 3) := by decide +kernel
theorem dX8_badLine_32 : decode cX8_badLine 32 = .ok (.bipush 7, 2) := by decide +kernel
theorem dX8_badLine_34 : decode cX8_badLine 34 = .ok (.iaload, 1) := by decide +kernel
theorem dX8_badLine_35 : decode cX8_badLine 35 = .ok (.iconst 1, 1) := by decide +kernel
theorem dX8_badLine_36 : decode cX8_badLine 36 = .ok (.isub, 1) := by decide +kernel
theorem dX8_badLine_37 : decode cX8_badLine 37 = .ok (.invokevirtual 370, 3) := by decide +kernel
theorem dX8_badLine_40 : decode cX8_badLine 40 = .ok (.istore_n 1, 1) := by decide +kernel
theorem dX8_badLine_41 : decode cX8_badLine 41 = .ok (.aload_n 0, 1) := by decide +kernel
theorem dX8_badLine_42 : decode cX8_badLine 42 = .ok (.iconst 0, 1) := by decide +kernel
theorem dX8_badLine_43 : decode cX8_badLine 43 = .ok (.aload_n 0, 1) := by decide +kernel
theorem dX8_badLine_44 : decode cX8_badLine 44 = .ok (.invokevirtual 333, 3) := by decide +kernel
theorem dX8_badLine_47 : decode cX8_badLine 47 = .ok (.ifCond .eq 17, 3) := by decide +kernel
theorem dX8_badLine_50 : decode cX8_badLine 50 = .ok (.aload_n 0, 1) := by decide +kernel
theorem dX8_badLine_51 : decode cX8_badLine 51 = .ok (.getfield 13, 3) := by decide +kernel
theorem dX8_badLine_54 : decode cX8_badLine 54 = .ok (.bipush 39, 2) := by decide +kernel
theorem dX8_badLine_56 : decode cX8_badLine 56 = .ok (.iload_n 1, 1) := by decide +kernel
theorem dX8_badLine_57 : decode cX8_badLine 57 = .ok (.iadd, 1) := by decide +kernel
theorem dX8_badLine_58 : decode cX8_badLine 58 = .ok (.iaload, 1) := by decide +kernel
theorem dX8_badLine_59 : decode cX8_badLine 59 = .ok (.iconst 1, 1) := by decide +kernel
theorem dX8_badLine_60 : decode cX8_badLine 60 = .ok (.isub, 1) := by decide +kernel
theorem dX8_badLine_61 : decode cX8_badLine 61 = .ok (.goto 4, 3) := by decide +kernel
theorem dX8_badLine_64 : decode cX8_badLine 64 = .ok (.iconst 0, 1) := by decide +kernel
theorem dX8_badLine_65 : decode cX8_badLine 65 = .ok (.invokevirtual 361, 3) := by decide +kernel
theorem dX8_badLine_68 : decode cX8_badLine 68 = .ok (.istore_n 2, 1) := by decide +kernel
theorem dX8_badLine_69 : decode cX8_badLine 69 = .ok (.aload_n 0, 1) := by decide +kernel
theorem dX8_badLine_70 : decode cX8_badLine 70 = .ok (.aload_n 0, 1) := by decide +kernel
theorem dX8_badLine_71 : decode cX8_badLine 71 = .ok (.invokevirtual 333, 3) := by decide +kernel
theorem dX8_badLine_74 : decode cX8_badLine 74 = .ok (.ifCond .eq 19, 3) := by decide +kernel
theorem dX8_badLine_77 : decode cX8_badLine 77 = .ok (.aload_n 0, 1) := by decide +kernel
theorem dX8_badLine_78 : decode cX8_badLine 78 = .ok (.getfield 13, 3) := by decide +kernel
theorem dX8_badLine_81 : decode cX8_badLine 81 = .ok (.iload_n 1, 1) := by decide +kernel
theorem dX8_badLine_82 : decode cX8_badLine 82 = .ok (.iload_n 2, 1) := by decide +kernel
theorem dX8_badLine_83 : decode cX8_badLine 83 = .ok (.invokestatic 212, 3) := by decide +kernel
theorem dX8_badLine_86 : decode cX8_badLine 86 = .ok (.ifCond .ne 7, 3) := by decide +kernel
theorem dX8_badLine_89 : decode cX8_badLine 89 = .ok (.iconst 1, 1) := by decide +kernel
theorem dX8_badLine_90 : decode cX8_badLine 90 = .ok (.goto 4, 3) := by decide +kernel
theorem dX8_badLine_93 : decode cX8_badLine 93 = .ok (.iconst 0, 1) := by decide +kernel
theorem dX8_badLine_94 : decode cX8_badLine 94 = .ok (.iconst 4, 1) := by decide +kernel
theorem dX8_badLine_95 : decode cX8_badLine 95 = .ok (.invokevirtual 357, 3) := by decide +kernel
theorem dX8_badLine_98 : decode cX8_badLine 98 = .ok (.aload_n 0, 1) := by decide +kernel
theorem dX8_badLine_99 : decode cX8_badLine 99 = .ok (.invokevirtual 333, 3) := by decide +kernel
theorem dX8_badLine_102 : decode cX8_badLine 102 = .ok (.ifCond .eq 12, 3) := by decide +kernel
theorem dX8_badLine_105 : decode cX8_badLine 105 = .ok (.aload_n 0, 1) := by decide +kernel
theorem dX8_badLine_106 : decode cX8_badLine 106 = .ok (.getfield 13, 3) := by decide +kernel
theorem dX8_badLine_109 : decode cX8_badLine 109 = .ok (.iload_n 1, 1) := by decide +kernel
theorem dX8_badLine_110 : decode cX8_badLine 110 = .ok (.iload_n 2, 1) := by decide +kernel
theorem dX8_badLine_111 : decode cX8_badLine 111 = .ok (.invokestatic 261, 3) := by decide +kernel
theorem dX8_badLine_114 : decode cX8_badLine 114 = .ok (.aload_n 0, 1) := by decide +kernel
theorem dX8_badLine_115 : decode cX8_badLine 115 = .ok (.invokevirtual 364, 3) := by decide +kernel
theorem dX8_badLine_118 : decode cX8_badLine 118 = .ok (.return_, 1) := by decide +kernel
set_option maxRecDepth 20000 in
theorem ggX8_fileLine_X8_must : GoodIn wsX8_fileLine wsX8_must := goodIn_r _ [9, 10, 2, 11, 12, 70, 71, 72, 73, 74, 75, 76, 77, 78, 79, 80, 81, 82, 83, 84, 85, 86, 87, 88, 89, 90, 91, 92, 93, 94, 95, 96] (by decide +kernel) (by decide +kernel)
set_option maxRecDepth 20000 in
theorem gX8_fileLine_X8_must : GoodIn wsX8_fileLine (wsV RX8 357 RX8 yX8_must wsX8_must) := goodIn_app (goodIn_of _ (by decide +kernel)) ggX8_fileLine_X8_must
set_option maxRecDepth 20000 in
theorem ggX8_fileLine_X8_goesOn : GoodIn wsX8_fileLine wsX8_goesOn := goodIn_r _ [16, 17, 18, 19, 8, 20, 10, 21, 22, 23, 24, 25, 11, 26, 27, 2, 4, 28, 29, 30, 31, 32, 33, 34, 35, 36, 37, 70, 71, 72, 73, 74, 75, 76, 77, 78, 79, 80, 81, 82, 83, 84, 85, 86, 87, 88, 89, 90, 91, 92, 93, 94, 95, 96] (by decide +kernel) (by decide +kernel)
set_option maxRecDepth 20000 in
theorem gX8_fileLine_X8_goesOn : GoodIn wsX8_fileLine (wsV RX8 364 RX8 yX8_goesOn wsX8_goesOn) := goodIn_app (goodIn_of _ (by decide +kernel)) ggX8_fileLine_X8_goesOn
set_option maxRecDepth 20000 in
theorem ggX8_fileLine_X8_isReserved : GoodIn wsX8_fileLine wsX8_isReserved := goodIn_r _ [41, 42, 43, 44, 45, 46, 47, 48, 49, 50, 51, 8, 52, 2, 4, 17, 18, 19, 20, 10, 70, 71, 72, 73, 74, 75, 76, 77, 78, 79, 80, 81, 82, 83, 84, 85, 86, 87, 88, 89, 90, 91, 92, 93, 94, 95, 96] (by decide +kernel) (by decide +kernel)
set_option maxRecDepth 20000 in
theorem gX8_fileLine_X8_isReserved : GoodIn wsX8_fileLine (wsV RX8 373 RX8 yX8_isReserved wsX8_isReserved) := goodIn_app (goodIn_of _ (by decide +kernel)) ggX8_fileLine_X8_isReserved
set_option maxRecDepth 20000 in
theorem ggX8_fileLine_X8_good : GoodIn wsX8_fileLine wsX8_good := goodIn_r _ [20, 10, 70, 71, 72, 73, 74, 75, 76, 77, 78, 79, 80, 81, 82, 83, 84, 85, 86, 87, 88, 89, 90, 91, 92, 93, 94, 95, 96] (by decide +kernel) (by decide +kernel)
set_option maxRecDepth 20000 in
theorem gX8_fileLine_X8_good : GoodIn wsX8_fileLine (wsV RX8 333 RX8 yX8_good wsX8_good) := goodIn_app (goodIn_of _ (by decide +kernel)) ggX8_fileLine_X8_good
set_option maxRecDepth 20000 in
theorem ggX8_fileLine_X8_takes : GoodIn wsX8_fileLine wsX8_takes := goodIn_r _ [56, 57, 58, 59, 8, 60, 2, 30, 5, 6, 7, 9, 10, 11, 12, 35, 36, 37, 17, 18, 19, 20, 13, 14, 15, 16, 21, 22, 23, 24, 25, 26, 27, 4, 28, 29, 31, 32, 33, 34, 70, 71, 72, 73, 74, 75, 76, 77, 78, 79, 80, 81, 82, 83, 84, 85, 86, 87, 88, 89, 90, 91, 92, 93, 94, 95, 96] (by decide +kernel) (by decide +kernel)
set_option maxRecDepth 20000 in
theorem gX8_fileLine_X8_takes : GoodIn wsX8_fileLine (wsV RX8 370 RX8 yX8_takes wsX8_takes) := goodIn_app (goodIn_of _ (by decide +kernel)) ggX8_fileLine_X8_takes
set_option maxRecDepth 20000 in
theorem ggX8_fileLine_X8_sees : GoodIn wsX8_fileLine wsX8_sees := goodIn_r _ [60, 2, 30, 5, 6, 7, 8, 9, 10, 11, 12, 35, 36, 37, 17, 18, 19, 20, 70, 71, 72, 73, 74, 75, 76, 77, 78, 79, 80, 81, 82, 83, 84, 85, 86, 87, 88, 89, 90, 91, 92, 93, 94, 95, 96] (by decide +kernel) (by decide +kernel)
set_option maxRecDepth 20000 in
theorem gX8_fileLine_X8_sees : GoodIn wsX8_fileLine (wsV RX8 361 RX8 yX8_sees wsX8_sees) := goodIn_app (goodIn_of _ (by decide +kernel)) ggX8_fileLine_X8_sees
set_option maxRecDepth 20000 in
theorem ggX8_fileLine_X8_canWrite : GoodIn wsX8_fileLine wsX8_canWrite := goodIn_r _ [63, 64, 65, 8, 66, 35, 36, 37] (by decide +kernel) (by decide +kernel)
set_option maxRecDepth 20000 in
theorem gX8_fileLine_X8_canWrite : GoodIn wsX8_fileLine (va_wsS RX8 225 yX8_canWrite wsX8_canWrite) := goodIn_app (goodIn_of _ (by decide +kernel)) ggX8_fileLine_X8_canWrite
set_option maxRecDepth 20000 in
theorem ggX8_fileLine_X8_writesVersion : GoodIn wsX8_fileLine wsX8_writesVersion := goodIn_r _ [69, 64, 65, 8, 66, 35, 36, 37] (by decide +kernel) (by decide +kernel)
set_option maxRecDepth 20000 in
theorem gX8_fileLine_X8_writesVersion : GoodIn wsX8_fileLine (va_wsS RX8 244 yX8_writesVersion wsX8_writesVersion) := goodIn_app (goodIn_of _ (by decide +kernel)) ggX8_fileLine_X8_writesVersion
theorem dX8_fileLine_0 : decode cX8_fileLine 0 = .ok (.aload_n 0, 1) := by decide +kernel
theorem dX8_fileLine_1 : decode cX8_fileLine 1 = .ok (.aload_n 0, 1) := by decide +kernel
theorem dX8_fileLine_2 : decode cX8_fileLine 2 = .ok (.getfield 13, 3) := by decide +kernel
theorem dX8_fileLine_5 : decode cX8_fileLine 5 = .ok (.bipush 9, 2) := by decide +kernel
theorem dX8_fileLine_7 : decode cX8_fileLine 7 = .ok (.iaload, 1) := by decide +kernel
theorem dX8_fileLine_8 : decode cX8_fileLine 8 = .ok (.bipush 20, 2) := by decide +kernel
theorem dX8_fileLine_10 : decode cX8_fileLine 10 = .ok (.if_icmp .ge 7, 3) := by decide +kernel
theorem dX8_fileLine_13 : decode cX8_fileLine 13 = .ok (.iconst 1, 1) := by decide +kernel
theorem dX8_fileLine_14 : decode cX8_fileLine 14 = .ok (.goto 4, 3) := by decide +kernel
theorem dX8_fileLine_17 : decode cX8_fileLine 17 = .ok (.iconst 0, 1) := by decide +kernel
theorem dX8_fileLine_18 : decode cX8_fileLine 18 = .ok (.iconst 5, 1) := by decide +kernel
theorem dX8_fileLine_19 : decode cX8_fileLine 19 = .ok (.invokevirtual 357, 3) := by decide +kernel
theorem dX8_fileLine_22 : decode cX8_fileLine 22 = .ok (.aload_n 0, 1) := by decide +kernel
theorem dX8_fileLine_23 : decode cX8_fileLine 23 = .ok (.invokevirtual 364, 3) := by decide +kernel
theorem dX8_fileLine_26 : decode cX8_fileLine 26 = .ok (.aload_n 0, 1) := by decide +kernel
theorem dX8_fileLine_27 : decode cX8_fileLine 27 = .ok (.aload_n 0, 1) := by decide +kernel
theorem dX8_fileLine_28 : decode cX8_fileLine 28 = .ok (.getfield 313, 3) := by decide +kernel
theorem dX8_fileLine_31 : decode cX8_fileLine 31 = .ok (.iconst 1, 1) := by decide +kernel
theorem dX8_fileLine_32 : decode cX8_fileLine 32 = .ok (.if_icmp .ne 14, 3) := by decide +kernel
theorem dX8_fileLine_35 : decode cX8_fileLine 35 = .ok (.aload_n 0, 1) := by decide +kernel
theorem dX8_fileLine_36 : decode cX8_fileLine 36 = .ok (.invokevirtual 373, 3) := by decide +kernel
theorem dX8_fileLine_39 : decode cX8_fileLine 39 = .ok (.ifCond .ne 7, 3) := by decide +kernel
theorem dX8_fileLine_42 : decode cX8_fileLine 42 = .ok (.iconst 1, 1) := by decide +kernel
theorem dX8_fileLine_43 : decode cX8_fileLine 43 = .ok (.goto 4, 3) := by decide +kernel
theorem dX8_fileLine_46 : decode cX8_fileLine 46 = .ok (.iconst 0, 1) := by decide +kernel
theorem dX8_fileLine_47 : decode cX8_fileLine 47 = .ok (.iconst 2, 1) := by decide +kernel
theorem dX8_fileLine_48 : decode cX8_fileLine 48 = .ok (.invokevirtual 357, 3) := by decide +kernel
theorem dX8_fileLine_51 : decode cX8_fileLine 51 = .ok (.iconst 0, 1) := by decide +kernel
theorem dX8_fileLine_52 : decode cX8_fileLine 52 = .ok (.istore_n 1, 1) := by decide +kernel
theorem dX8_fileLine_53 : decode cX8_fileLine 53 = .ok (.iload_n 1, 1) := by decide +kernel
theorem dX8_fileLine_54 : decode cX8_fileLine 54 = .ok (.aload_n 0, 1) := by decide +kernel
theorem dX8_fileLine_55 : decode cX8_fileLine 55 = .ok (.getfield 13, 3) := by decide +kernel
theorem dX8_fileLine_58 : decode cX8_fileLine 58 = .ok (.bipush 9, 2) := by decide +kernel
theorem dX8_fileLine_60 : decode cX8_fileLine 60 = .ok (.iaload, 1) := by decide +kernel
theorem dX8_fileLine_61 : decode cX8_fileLine 61 = .ok (.if_icmp .ge 40, 3) := by decide +kernel
theorem dX8_fileLine_64 : decode cX8_fileLine 64 = .ok (.aload_n 0, 1) := by decide +kernel
theorem dX8_fileLine_65 : decode cX8_fileLine 65 = .ok (.invokevirtual 333, 3) := by decide +kernel
theorem dX8_fileLine_68 : decode cX8_fileLine 68 = .ok (.ifCond .eq 33, 3) := by decide +kernel
theorem dX8_fileLine_71 : decode cX8_fileLine 71 = .ok (.aload_n 0, 1) := by decide +kernel
theorem dX8_fileLine_72 : decode cX8_fileLine 72 = .ok (.aload_n 0, 1) := by decide +kernel
theorem dX8_fileLine_73 : decode cX8_fileLine 73 = .ok (.getfield 38, 3) := by decide +kernel
theorem dX8_fileLine_76 : decode cX8_fileLine 76 = .ok (.iload_n 1, 1) := by decide +kernel
theorem dX8_fileLine_77 : decode cX8_fileLine 77 = .ok (.laload, 1) := by decide +kernel
theorem dX8_fileLine_78 : decode cX8_fileLine 78 = .ok (.aload_n 0, 1) := by decide +kernel
theorem dX8_fileLine_79 : decode cX8_fileLine 79 = .ok (.getfield 316, 3) := by decide +kernel
theorem dX8_fileLine_82 : decode cX8_fileLine 82 = .ok (.lcmp, 1) := by decide +kernel
theorem dX8_fileLine_83 : decode cX8_fileLine 83 = .ok (.ifCond .eq 7, 3) := by decide +kernel
theorem dX8_fileLine_86 : decode cX8_fileLine 86 = .ok (.iconst 1, 1) := by decide +kernel
theorem dX8_fileLine_87 : decode cX8_fileLine 87 = .ok (.goto 4, 3) := by decide +kernel
theorem dX8_fileLine_90 : decode cX8_fileLine 90 = .ok (.iconst 0, 1) := by decide +kernel
theorem dX8_fileLine_91 : decode cX8_fileLine 91 = .ok (.iconst 4, 1) := by decide +kernel
theorem dX8_fileLine_92 : decode cX8_fileLine 92 = .ok (.invokevirtual 357, 3) := by decide +kernel
theorem dX8_fileLine_95 : decode cX8_fileLine 95 = .ok (.iinc 1 1, 3) := by decide +kernel
theorem dX8_fileLine_98 : decode cX8_fileLine 98 = .ok (.goto (-45), 3) := by decide +kernel
theorem dX8_fileLine_101 : decode cX8_fileLine 101 = .ok (.aload_n 0, 1) := by decide +kernel
theorem dX8_fileLine_102 : decode cX8_fileLine 102 = .ok (.getfield 316, 3) := by decide +kernel
theorem dX8_fileLine_105 : decode cX8_fileLine 105 = .ok (.lstore_n 1, 1) := by decide +kernel
theorem dX8_fileLine_106 : decode cX8_fileLine 106 = .ok (.aload_n 0, 1) := by decide +kernel
theorem dX8_fileLine_107 : decode cX8_fileLine 107 = .ok (.invokevirtual 364, 3) := by decide +kernel
theorem dX8_fileLine_110 : decode cX8_fileLine 110 = .ok (.aload_n 0, 1) := by decide +kernel
theorem dX8_fileLine_111 : decode cX8_fileLine 111 = .ok (.iconst 1, 1) := by decide +kernel
theorem dX8_fileLine_112 : decode cX8_fileLine 112 = .ok (.sipush 300, 3) := by decide +kernel
theorem dX8_fileLine_115 : decode cX8_fileLine 115 = .ok (.invokevirtual 370, 3) := by decide +kernel
theorem dX8_fileLine_118 : decode cX8_fileLine 118 = .ok (.istore_n 3, 1) := by decide +kernel
theorem dX8_fileLine_119 : decode cX8_fileLine 119 = .ok (.aload_n 0, 1) := by decide +kernel
theorem dX8_fileLine_120 : decode cX8_fileLine 120 = .ok (.iconst 0, 1) := by decide +kernel
theorem dX8_fileLine_121 : decode cX8_fileLine 121 = .ok (.aload_n 0, 1) := by decide +kernel
theorem dX8_fileLine_122 : decode cX8_fileLine 122 = .ok (.getfield 13, 3) := by decide +kernel
theorem dX8_fileLine_125 : decode cX8_fileLine 125 = .ok (.bipush 7, 2) := by decide +kernel
theorem dX8_fileLine_127 : decode cX8_fileLine 127 = .ok (.iaload, 1) := by decide +kernel
theorem dX8_fileLine_128 : decode cX8_fileLine 128 = .ok (.iconst 1, 1) := by decide +kernel
theorem dX8_fileLine_129 : decode cX8_fileLine 129 = .ok (.isub, 1) := by decide +kernel
theorem dX8_fileLine_130 : decode cX8_fileLine 130 = .ok (.invokevirtual 361, 3) := by decide +kernel
theorem dX8_fileLine_133 : decode cX8_fileLine 133 = .ok (.istore 4, 2) := by decide +kernel
theorem dX8_fileLine_135 : decode cX8_fileLine 135 = .ok (.aload_n 0, 1) := by decide +kernel
theorem dX8_fileLine_136 : decode cX8_fileLine 136 = .ok (.aload_n 0, 1) := by decide +kernel
theorem dX8_fileLine_137 : decode cX8_fileLine 137 = .ok (.invokevirtual 333, 3) := by decide +kernel
theorem dX8_fileLine_140 : decode cX8_fileLine 140 = .ok (.ifCond .eq 20, 3) := by decide +kernel
theorem dX8_fileLine_143 : decode cX8_fileLine 143 = .ok (.aload_n 0, 1) := by decide +kernel
theorem dX8_fileLine_144 : decode cX8_fileLine 144 = .ok (.getfield 13, 3) := by decide +kernel
theorem dX8_fileLine_147 : decode cX8_fileLine 147 = .ok (.iload 4, 2) := by decide +kernel
theorem dX8_fileLine_149 : decode cX8_fileLine 149 = .ok (.iload_n 3, 1) := by decide +kernel
theorem dX8_fileLine_150 : decode cX8_fileLine 150 = .ok (.invokestatic 225, 3) := by decide +kernel
theorem dX8_fileLine_153 : decode cX8_fileLine 153 = .ok (.ifCond .eq 7, 3) := by decide +kernel
theorem dX8_fileLine_156 : decode cX8_fileLine 156 = .ok (.iconst 1, 1) := by decide +kernel
theorem dX8_fileLine_157 : decode cX8_fileLine 157 = .ok (.goto 4, 3) := by decide +kernel
theorem dX8_fileLine_160 : decode cX8_fileLine 160 = .ok (.iconst 0, 1) := by decide +kernel
theorem dX8_fileLine_161 : decode cX8_fileLine 161 = .ok (.bipush 6, 2) := by decide +kernel
theorem dX8_fileLine_163 : decode cX8_fileLine 163 = .ok (.invokevirtual 357, 3) := by decide +kernel
theorem dX8_fileLine_166 : decode cX8_fileLine 166 = .ok (.aload_n 0, 1) := by decide +kernel
theorem dX8_fileLine_167 : decode cX8_fileLine 167 = .ok (.invokevirtual 333, 3) := by decide +kernel
theorem dX8_fileLine_170 : decode cX8_fileLine 170 = .ok (.ifCond .eq 46, 3) := by decide +kernel
theorem dX8_fileLine_173 : decode cX8_fileLine 173 = .ok (.aload_n 0, 1) := by decide +kernel
theorem dX8_fileLine_174 : decode cX8_fileLine 174 = .ok (.getfield 38, 3) := by decide +kernel
theorem dX8_fileLine_177 : decode cX8_fileLine 177 = .ok (.aload_n 0, 1) := by decide +kernel
theorem dX8_fileLine_178 : decode cX8_fileLine 178 = .ok (.getfield 13, 3) := by decide +kernel
theorem dX8_fileLine_181 : decode cX8_fileLine 181 = .ok (.bipush 9, 2) := by decide +kernel
theorem dX8_fileLine_183 : decode cX8_fileLine 183 = .ok (.iaload, 1) := by decide +kernel
theorem dX8_fileLine_184 : decode cX8_fileLine 184 = .ok (.lload_n 1, 1) := by decide +kernel
theorem dX8_fileLine_185 : decode cX8_fileLine 185 = .ok (.lastore, 1) := by decide +kernel
theorem dX8_fileLine_186 : decode cX8_fileLine 186 = .ok (.aload_n 0, 1) := by decide +kernel
theorem dX8_fileLine_187 : decode cX8_fileLine 187 = .ok (.getfield 13, 3) := by decide +kernel
theorem dX8_fileLine_190 : decode cX8_fileLine 190 = .ok (.bipush 9, 2) := by decide +kernel
theorem dX8_fileLine_192 : decode cX8_fileLine 192 = .ok (.dup2, 1) := by decide +kernel
theorem dX8_fileLine_193 : decode cX8_fileLine 193 = .ok (.iaload, 1) := by decide +kernel
theorem dX8_fileLine_194 : decode cX8_fileLine 194 = .ok (.iconst 1, 1) := by decide +kernel
theorem dX8_fileLine_195 : decode cX8_fileLine 195 = .ok (.iadd, 1) := by decide +kernel
theorem dX8_fileLine_196 : decode cX8_fileLine 196 = .ok (.iastore, 1) := by decide +kernel
theorem dX8_fileLine_197 : decode cX8_fileLine 197 = .ok (.aload_n 0, 1) := by decide +kernel
theorem dX8_fileLine_198 : decode cX8_fileLine 198 = .ok (.getfield 13, 3) := by decide +kernel
theorem dX8_fileLine_201 : decode cX8_fileLine 201 = .ok (.aload_n 0, 1) := by decide +kernel
theorem dX8_fileLine_202 : decode cX8_fileLine 202 = .ok (.getfield 13, 3) := by decide +kernel
theorem dX8_fileLine_205 : decode cX8_fileLine 205 = .ok (.bipush 9, 2) := by decide +kernel
theorem dX8_fileLine_207 : decode cX8_fileLine 207 = .ok (.iaload, 1) := by decide +kernel
theorem dX8_fileLine_208 : decode cX8_fileLine 208 = .ok (.iconst 1, 1) := by decide +kernel
theorem dX8_fileLine_209 : decode cX8_fileLine 209 = .ok (.isub, 1) := by decide +kernel
theorem dX8_fileLine_210 : decode cX8_fileLine 210 = .ok (.iload 4, 2) := by decide +kernel
theorem dX8_fileLine_212 : decode cX8_fileLine 212 = .ok (.iload_n 3, 1) := by decide +kernel
theorem dX8_fileLine_213 : decode cX8_fileLine 213 = .ok (.invokestatic 244, 3) := by decide +kernel
theorem dX8_fileLine_216 : decode cX8_fileLine 216 = .ok (.aload_n 0, 1) := by decide +kernel
theorem dX8_fileLine_217 : decode cX8_fileLine 217 = .ok (.invokevirtual 364, 3) := by decide +kernel
theorem dX8_fileLine_220 : decode cX8_fileLine 220 = .ok (.return_, 1) := by decide +kernel
set_option maxRecDepth 20000 in
theorem ggX8_closeLine_X8_goesOn : GoodIn wsX8_closeLine wsX8_goesOn := goodIn_r _ [6, 7, 8, 9, 5, 10, 11, 12, 13, 14, 15, 16, 17, 18, 19, 20, 21, 22, 23, 24, 25, 26, 27, 28, 29, 30, 31, 51, 52, 53, 54, 55, 56, 57, 58, 59, 60, 61, 62, 63, 64, 65, 66, 67, 68, 69, 70, 71, 72, 73, 74, 75, 76, 77] (by decide +kernel) (by decide +kernel)
set_option maxRecDepth 20000 in
theorem gX8_closeLine_X8_goesOn : GoodIn wsX8_closeLine (wsV RX8 364 RX8 yX8_goesOn wsX8_goesOn) := goodIn_app (goodIn_of _ (by decide +kernel)) ggX8_closeLine_X8_goesOn
set_option maxRecDepth 20000 in
theorem ggX8_closeLine_X8_sees : GoodIn wsX8_closeLine wsX8_sees := goodIn_r _ [35, 20, 24, 36, 37, 38, 5, 39, 11, 17, 40, 29, 30, 31, 7, 8, 9, 10, 51, 52, 53, 54, 55, 56, 57, 58, 59, 60, 61, 62, 63, 64, 65, 66, 67, 68, 69, 70, 71, 72, 73, 74, 75, 76, 77] (by decide +kernel) (by decide +kernel)
set_option maxRecDepth 20000 in
theorem gX8_closeLine_X8_sees : GoodIn wsX8_closeLine (wsV RX8 361 RX8 yX8_sees wsX8_sees) := goodIn_app (goodIn_of _ (by decide +kernel)) ggX8_closeLine_X8_sees
set_option maxRecDepth 20000 in
theorem ggX8_closeLine_X8_good : GoodIn wsX8_closeLine wsX8_good := goodIn_r _ [10, 11, 51, 52, 53, 54, 55, 56, 57, 58, 59, 60, 61, 62, 63, 64, 65, 66, 67, 68, 69, 70, 71, 72, 73, 74, 75, 76, 77] (by decide +kernel) (by decide +kernel)
set_option maxRecDepth 20000 in
theorem gX8_closeLine_X8_good : GoodIn wsX8_closeLine (wsV RX8 333 RX8 yX8_good wsX8_good) := goodIn_app (goodIn_of _ (by decide +kernel)) ggX8_closeLine_X8_good
set_option maxRecDepth 20000 in
theorem ggX8_closeLine_X8_must : GoodIn wsX8_closeLine wsX8_must := goodIn_r _ [39, 11, 20, 17, 40, 51, 52, 53, 54, 55, 56, 57, 58, 59, 60, 61, 62, 63, 64, 65, 66, 67, 68, 69, 70, 71, 72, 73, 74, 75, 76, 77] (by decide +kernel) (by decide +kernel)
set_option maxRecDepth 20000 in
theorem gX8_closeLine_X8_must : GoodIn wsX8_closeLine (wsV RX8 357 RX8 yX8_must wsX8_must) := goodIn_app (goodIn_of _ (by decide +kernel)) ggX8_closeLine_X8_must
set_option maxRecDepth 20000 in
theorem ggX8_closeLine_X8_closes : GoodIn wsX8_closeLine wsX8_closes := goodIn_r _ [43, 44, 45, 5, 46, 47, 48, 49, 50] (by decide +kernel) (by decide +kernel)
set_option maxRecDepth 20000 in
theorem gX8_closeLine_X8_closes : GoodIn wsX8_closeLine (va_wsS RX8 256 yX8_closes wsX8_closes) := goodIn_app (goodIn_of _ (by decide +kernel)) ggX8_closeLine_X8_closes
theorem dX8_closeLine_0 : decode cX8_closeLine 0 = .ok (.aload_n 0, 1) := by decide +kernel
theorem dX8_closeLine_1 : decode cX8_closeLine 1 = .ok (.invokevirtual 364, 3) := by decide +kernel
theorem dX8_closeLine_4 : decode cX8_closeLine 4 = .ok (.aload_n 0, 1) := by decide +kernel
theorem dX8_closeLine_5 : decode cX8_closeLine 5 = .ok (.iconst 0, 1) := by decide +kernel
theorem dX8_closeLine_6 : decode cX8_closeLine 6 = .ok (.aload_n 0, 1) := by decide +kernel
theorem dX8_closeLine_7 : decode cX8_closeLine 7 = .ok (.getfield 13, 3) := by decide +kernel
theorem dX8_closeLine_10 : decode cX8_closeLine 10 = .ok (.bipush 7, 2) := by decide +kernel
theorem dX8_closeLine_12 : decode cX8_closeLine 12 = .ok (.iaload, 1) := by decide +kernel
theorem dX8_closeLine_13 : decode cX8_closeLine 13 = .ok (.iconst 1, 1) := by decide +kernel
theorem dX8_closeLine_14 : decode cX8_closeLine 14 = .ok (.isub, 1) := by decide +kernel
theorem dX8_closeLine_15 : decode cX8_closeLine 15 = .ok (.invokevirtual 361, 3) := by decide +kernel
theorem dX8_closeLine_18 : decode cX8_closeLine 18 = .ok (.istore_n 1, 1) := by decide +kernel
theorem dX8_closeLine_19 : decode cX8_closeLine 19 = .ok (.aload_n 0, 1) := by decide +kernel
theorem dX8_closeLine_20 : decode cX8_closeLine 20 = .ok (.aload_n 0, 1) := by decide +kernel
theorem dX8_closeLine_21 : decode cX8_closeLine 21 = .ok (.invokevirtual 333, 3) := by decide +kernel
theorem dX8_closeLine_24 : decode cX8_closeLine 24 = .ok (.ifCond .eq 20, 3) := by decide +kernel
theorem dX8_closeLine_27 : decode cX8_closeLine 27 = .ok (.aload_n 0, 1) := by decide +kernel
theorem dX8_closeLine_28 : decode cX8_closeLine 28 = .ok (.getfield 13, 3) := by decide +kernel
theorem dX8_closeLine_31 : decode cX8_closeLine 31 = .ok (.bipush 79, 2) := by decide +kernel
theorem dX8_closeLine_33 : decode cX8_closeLine 33 = .ok (.iload_n 1, 1) := by decide +kernel
theorem dX8_closeLine_34 : decode cX8_closeLine 34 = .ok (.iadd, 1) := by decide +kernel
theorem dX8_closeLine_35 : decode cX8_closeLine 35 = .ok (.iaload, 1) := by decide +kernel
theorem dX8_closeLine_36 : decode cX8_closeLine 36 = .ok (.iconst 1, 1) := by decide +kernel
theorem dX8_closeLine_37 : decode cX8_closeLine 37 = .ok (.if_icmp .ne 7, 3) := by decide +kernel
theorem dX8_closeLine_40 : decode cX8_closeLine 40 = .ok (.iconst 1, 1) := by decide +kernel
theorem dX8_closeLine_41 : decode cX8_closeLine 41 = .ok (.goto 4, 3) := by decide +kernel
theorem dX8_closeLine_44 : decode cX8_closeLine 44 = .ok (.iconst 0, 1) := by decide +kernel
theorem dX8_closeLine_45 : decode cX8_closeLine 45 = .ok (.bipush 6, 2) := by decide +kernel
theorem dX8_closeLine_47 : decode cX8_closeLine 47 = .ok (.invokevirtual 357, 3) := by decide +kernel
theorem dX8_closeLine_50 : decode cX8_closeLine 50 = .ok (.aload_n 0, 1) := by decide +kernel
theorem dX8_closeLine_51 : decode cX8_closeLine 51 = .ok (.invokevirtual 333, 3) := by decide +kernel
theorem dX8_closeLine_54 : decode cX8_closeLine 54 = .ok (.ifCond .eq 11, 3) := by decide +kernel
theorem dX8_closeLine_57 : decode cX8_closeLine 57 = .ok (.aload_n 0, 1) := by decide +kernel
theorem dX8_closeLine_58 : decode cX8_closeLine 58 = .ok (.getfield 13, 3) := by decide +kernel
theorem dX8_closeLine_61 : decode cX8_closeLine 61 = .ok (.iload_n 1, 1) := by decide +kernel
theorem dX8_closeLine_62 : decode cX8_closeLine 62 = .ok (.invokestatic 256, 3) := by decide +kernel
theorem dX8_closeLine_65 : decode cX8_closeLine 65 = .ok (.aload_n 0, 1) := by decide +kernel
theorem dX8_closeLine_66 : decode cX8_closeLine 66 = .ok (.invokevirtual 364, 3) := by decide +kernel
theorem dX8_closeLine_69 : decode cX8_closeLine 69 = .ok (.return_, 1) := by decide +kernel
set_option maxRecDepth 20000 in
theorem ggX8_line_X8_isWord : GoodIn wsX8_line wsX8_isWord := goodIn_r _ [13, 14, 15, 16, 17, 18, 12, 19, 20, 121, 122, 123, 124, 125, 126, 127, 128, 129, 130, 131, 132, 133, 134, 135, 136, 137, 138, 139, 140, 141, 142, 143, 144, 145, 146, 147] (by decide +kernel) (by decide +kernel)
set_option maxRecDepth 20000 in
theorem gX8_line_X8_isWord : GoodIn wsX8_line (wsV RX8 341 RX8 yX8_isWord wsX8_isWord) := goodIn_app (goodIn_of _ (by decide +kernel)) ggX8_line_X8_isWord
set_option maxRecDepth 20000 in
theorem ggX8_line_X8_slotsLine : GoodIn wsX8_line wsX8_slotsLine := goodIn_r _ [24, 8, 25, 26, 27, 28, 12, 29, 20, 14, 30, 31, 32, 33, 34, 35, 16, 17, 18, 19, 36, 37, 38, 39, 40, 41, 42, 15, 43, 44, 45, 46, 47, 48, 49, 50, 51, 52, 53, 54, 55, 56, 57, 58, 59, 60, 121, 122, 123, 124, 125, 126, 127, 128, 129, 130, 131, 132, 133, 134, 135, 136, 137, 138, 139, 140, 141, 142, 143, 144, 145, 146, 147] (by decide +kernel) (by decide +kernel)
set_option maxRecDepth 20000 in
theorem gX8_line_X8_slotsLine : GoodIn wsX8_line (wsV RX8 376 RX8 yX8_slotsLine wsX8_slotsLine) := goodIn_app (goodIn_of _ (by decide +kernel)) ggX8_line_X8_slotsLine
set_option maxRecDepth 20000 in
theorem ggX8_line_X8_driveLine : GoodIn wsX8_line wsX8_driveLine := goodIn_r _ [64, 25, 26, 27, 28, 12, 29, 20, 14, 30, 31, 32, 33, 34, 35, 16, 17, 18, 19, 36, 37, 38, 39, 40, 41, 42, 15, 43, 44, 45, 46, 47, 48, 49, 50, 51, 52, 53, 54, 55, 56, 57, 58, 59, 60, 121, 122, 123, 124, 125, 126, 127, 128, 129, 130, 131, 132, 133, 134, 135, 136, 137, 138, 139, 140, 141, 142, 143, 144, 145, 146, 147] (by decide +kernel) (by decide +kernel)
set_option maxRecDepth 20000 in
theorem gX8_line_X8_driveLine : GoodIn wsX8_line (wsV RX8 379 RX8 yX8_driveLine wsX8_driveLine) := goodIn_app (goodIn_of _ (by decide +kernel)) ggX8_line_X8_driveLine
set_option maxRecDepth 20000 in
theorem ggX8_line_X8_timeLine : GoodIn wsX8_line wsX8_timeLine := goodIn_r _ [68, 25, 32, 33, 34, 12, 35, 16, 17, 18, 19, 20, 36, 37, 38, 39, 40, 30, 41, 42, 14, 15, 43, 44, 45, 46, 47, 48, 49, 50, 51, 52, 53, 54, 55, 56, 57, 58, 59, 60, 26, 27, 28, 29, 31, 121, 122, 123, 124, 125, 126, 127, 128, 129, 130, 131, 132, 133, 134, 135, 136, 137, 138, 139, 140, 141, 142, 143, 144, 145, 146, 147] (by decide +kernel) (by decide +kernel)
set_option maxRecDepth 20000 in
theorem gX8_line_X8_timeLine : GoodIn wsX8_line (wsV RX8 382 RX8 yX8_timeLine wsX8_timeLine) := goodIn_app (goodIn_of _ (by decide +kernel)) ggX8_line_X8_timeLine
set_option maxRecDepth 20000 in
theorem ggX8_line_X8_platterLine : GoodIn wsX8_line wsX8_platterLine := goodIn_r _ [72, 25, 26, 27, 28, 12, 29, 20, 14, 30, 31, 32, 33, 34, 35, 16, 17, 18, 19, 36, 37, 38, 39, 40, 41, 42, 15, 43, 44, 45, 46, 47, 48, 49, 50, 51, 52, 57, 58, 59, 60, 73, 74, 75, 53, 54, 55, 56, 121, 122, 123, 124, 125, 126, 127, 128, 129, 130, 131, 132, 133, 134, 135, 136, 137, 138, 139, 140, 141, 142, 143, 144, 145, 146, 147] (by decide +kernel) (by decide +kernel)
set_option maxRecDepth 20000 in
theorem gX8_line_X8_platterLine : GoodIn wsX8_line (wsV RX8 385 RX8 yX8_platterLine wsX8_platterLine) := goodIn_app (goodIn_of _ (by decide +kernel)) ggX8_line_X8_platterLine
set_option maxRecDepth 20000 in
theorem ggX8_line_X8_badLine : GoodIn wsX8_line wsX8_badLine := goodIn_r _ [79, 25, 26, 27, 28, 12, 29, 20, 14, 30, 31, 32, 33, 34, 35, 16, 17, 18, 19, 36, 37, 38, 39, 40, 41, 42, 15, 43, 44, 45, 46, 47, 48, 49, 50, 51, 52, 53, 54, 55, 56, 57, 58, 59, 60, 80, 81, 82, 83, 84, 85, 86, 87, 88, 121, 122, 123, 124, 125, 126, 127, 128, 129, 130, 131, 132, 133, 134, 135, 136, 137, 138, 139, 140, 141, 142, 143, 144, 145, 146, 147] (by decide +kernel) (by decide +kernel)
set_option maxRecDepth 20000 in
theorem gX8_line_X8_badLine : GoodIn wsX8_line (wsV RX8 388 RX8 yX8_badLine wsX8_badLine) := goodIn_app (goodIn_of _ (by decide +kernel)) ggX8_line_X8_badLine
set_option maxRecDepth 20000 in
theorem ggX8_line_X8_fileLine : GoodIn wsX8_line wsX8_fileLine := goodIn_r _ [92, 25, 14, 93, 15, 26, 27, 28, 12, 29, 20, 30, 31, 32, 33, 34, 35, 16, 17, 18, 19, 36, 37, 38, 39, 40, 41, 42, 43, 44, 45, 46, 47, 48, 49, 50, 51, 52, 94, 95, 96, 97, 1, 2, 3, 4, 5, 6, 7, 9, 10, 11, 13, 53, 54, 55, 56, 57, 58, 59, 60, 98, 99, 100, 101, 102, 103, 104, 105, 106, 121, 122, 123, 124, 125, 126, 127, 128, 129, 130, 131, 132, 133, 134, 135, 136, 137, 138, 139, 140, 141, 142, 143, 144, 145, 146, 147] (by decide +kernel) (by decide +kernel)
set_option maxRecDepth 20000 in
theorem gX8_line_X8_fileLine : GoodIn wsX8_line (wsV RX8 391 RX8 yX8_fileLine wsX8_fileLine) := goodIn_app (goodIn_of _ (by decide +kernel)) ggX8_line_X8_fileLine
set_option maxRecDepth 20000 in
theorem ggX8_line_X8_must : GoodIn wsX8_line wsX8_must := goodIn_r _ [29, 20, 14, 30, 31, 121, 122, 123, 124, 125, 126, 127, 128, 129, 130, 131, 132, 133, 134, 135, 136, 137, 138, 139, 140, 141, 142, 143, 144, 145, 146, 147] (by decide +kernel) (by decide +kernel)
set_option maxRecDepth 20000 in
theorem gX8_line_X8_must : GoodIn wsX8_line (wsV RX8 357 RX8 yX8_must wsX8_must) := goodIn_app (goodIn_of _ (by decide +kernel)) ggX8_line_X8_must
set_option maxRecDepth 20000 in
theorem ggX8_line_X8_good : GoodIn wsX8_line wsX8_good := goodIn_r _ [19, 20, 121, 122, 123, 124, 125, 126, 127, 128, 129, 130, 131, 132, 133, 134, 135, 136, 137, 138, 139, 140, 141, 142, 143, 144, 145, 146, 147] (by decide +kernel) (by decide +kernel)
set_option maxRecDepth 20000 in
theorem gX8_line_X8_good : GoodIn wsX8_line (wsV RX8 333 RX8 yX8_good wsX8_good) := goodIn_app (goodIn_of _ (by decide +kernel)) ggX8_line_X8_good
set_option maxRecDepth 20000 in
theorem ggX8_line_X8_closeLine : GoodIn wsX8_line wsX8_closeLine := goodIn_r _ [110, 25, 32, 33, 34, 12, 35, 16, 17, 18, 19, 20, 36, 37, 38, 39, 40, 30, 41, 42, 14, 15, 43, 44, 45, 46, 47, 48, 49, 50, 51, 52, 57, 58, 59, 60, 26, 27, 28, 29, 31, 111, 112, 113, 114, 115, 116, 117, 118, 119, 120, 121, 122, 123, 124, 125, 126, 127, 128, 129, 130, 131, 132, 133, 134, 135, 136, 137, 138, 139, 140, 141, 142, 143, 144, 145, 146, 147] (by decide +kernel) (by decide +kernel)
set_option maxRecDepth 20000 in
theorem gX8_line_X8_closeLine : GoodIn wsX8_line (wsV RX8 394 RX8 yX8_closeLine wsX8_closeLine) := goodIn_app (goodIn_of _ (by decide +kernel)) ggX8_line_X8_closeLine
theorem dX8_line_0 : decode cX8_line 0 = .ok (.aload_n 0, 1) := by decide +kernel
theorem dX8_line_1 : decode cX8_line 1 = .ok (.ldc2_w 339, 3) := by decide +kernel
theorem dX8_line_4 : decode cX8_line 4 = .ok (.invokevirtual 341, 3) := by decide +kernel
theorem dX8_line_7 : decode cX8_line 7 = .ok (.ifCond .eq 10, 3) := by decide +kernel
theorem dX8_line_10 : decode cX8_line 10 = .ok (.aload_n 0, 1) := by decide +kernel
theorem dX8_line_11 : decode cX8_line 11 = .ok (.invokevirtual 376, 3) := by decide +kernel
theorem dX8_line_14 : decode cX8_line 14 = .ok (.goto 111, 3) := by decide +kernel
theorem dX8_line_17 : decode cX8_line 17 = .ok (.aload_n 0, 1) := by decide +kernel
theorem dX8_line_18 : decode cX8_line 18 = .ok (.ldc2_w 345, 3) := by decide +kernel
theorem dX8_line_21 : decode cX8_line 21 = .ok (.invokevirtual 341, 3) := by decide +kernel
theorem dX8_line_24 : decode cX8_line 24 = .ok (.ifCond .eq 10, 3) := by decide +kernel
theorem dX8_line_27 : decode cX8_line 27 = .ok (.aload_n 0, 1) := by decide +kernel
theorem dX8_line_28 : decode cX8_line 28 = .ok (.invokevirtual 379, 3) := by decide +kernel
theorem dX8_line_31 : decode cX8_line 31 = .ok (.goto 94, 3) := by decide +kernel
theorem dX8_line_34 : decode cX8_line 34 = .ok (.aload_n 0, 1) := by decide +kernel
theorem dX8_line_35 : decode cX8_line 35 = .ok (.ldc2_w 347, 3) := by decide +kernel
theorem dX8_line_38 : decode cX8_line 38 = .ok (.invokevirtual 341, 3) := by decide +kernel
theorem dX8_line_41 : decode cX8_line 41 = .ok (.ifCond .eq 10, 3) := by decide +kernel
theorem dX8_line_44 : decode cX8_line 44 = .ok (.aload_n 0, 1) := by decide +kernel
theorem dX8_line_45 : decode cX8_line 45 = .ok (.invokevirtual 382, 3) := by decide +kernel
theorem dX8_line_48 : decode cX8_line 48 = .ok (.goto 77, 3) := by decide +kernel
theorem dX8_line_51 : decode cX8_line 51 = .ok (.aload_n 0, 1) := by decide +kernel
theorem dX8_line_52 : decode cX8_line 52 = .ok (.ldc2_w 349, 3) := by decide +kernel
theorem dX8_line_55 : decode cX8_line 55 = .ok (.invokevirtual 341, 3) := by decide +kernel
theorem dX8_line_58 : decode cX8_line 58 = .ok (.ifCond .eq 10, 3) := by decide +kernel
theorem dX8_line_61 : decode cX8_line 61 = .ok (.aload_n 0, 1) := by decide +kernel
theorem dX8_line_62 : decode cX8_line 62 = .ok (.invokevirtual 385, 3) := by decide +kernel
theorem dX8_line_65 : decode cX8_line 65 = .ok (.goto 60, 3) := by decide +kernel
theorem dX8_line_68 : decode cX8_line 68 = .ok (.aload_n 0, 1) := by decide +kernel
theorem dX8_line_69 : decode cX8_line 69 = .ok (.ldc2_w 351, 3) := by decide +kernel
theorem dX8_line_72 : decode cX8_line 72 = .ok (.invokevirtual 341, 3) := by decide +kernel
theorem dX8_line_75 : decode cX8_line 75 = .ok (.ifCond .eq 10, 3) := by decide +kernel
theorem dX8_line_78 : decode cX8_line 78 = .ok (.aload_n 0, 1) := by decide +kernel
theorem dX8_line_79 : decode cX8_line 79 = .ok (.invokevirtual 388, 3) := by decide +kernel
theorem dX8_line_82 : decode cX8_line 82 = .ok (.goto 43, 3) := by decide +kernel
theorem dX8_line_85 : decode cX8_line 85 = .ok (.aload_n 0, 1) := by decide +kernel
theorem dX8_line_86 : decode cX8_line 86 = .ok (.ldc2_w 353, 3) := by decide +kernel
theorem dX8_line_89 : decode cX8_line 89 = .ok (.invokevirtual 341, 3) := by decide +kernel
theorem dX8_line_92 : decode cX8_line 92 = .ok (.ifCond .eq 10, 3) := by decide +kernel
theorem dX8_line_95 : decode cX8_line 95 = .ok (.aload_n 0, 1) := by decide +kernel
theorem dX8_line_96 : decode cX8_line 96 = .ok (.invokevirtual 391, 3) := by decide +kernel
theorem dX8_line_99 : decode cX8_line 99 = .ok (.goto 26, 3) := by decide +kernel
theorem dX8_line_102 : decode cX8_line 102 = .ok (.aload_n 0, 1) := by decide +kernel
theorem dX8_line_103 : decode cX8_line 103 = .ok (.aload_n 0, 1) := by decide +kernel
theorem dX8_line_104 : decode cX8_line 104 = .ok (.ldc2_w 355, 3) := by decide +kernel
theorem dX8_line_107 : decode cX8_line 107 = .ok (.invokevirtual 341, 3) := by decide +kernel
theorem dX8_line_110 : decode cX8_line 110 = .ok (.iconst 2, 1) := by decide +kernel
theorem dX8_line_111 : decode cX8_line 111 = .ok (.invokevirtual 357, 3) := by decide +kernel
theorem dX8_line_114 : decode cX8_line 114 = .ok (.aload_n 0, 1) := by decide +kernel
theorem dX8_line_115 : decode cX8_line 115 = .ok (.invokevirtual 333, 3) := by decide +kernel
theorem dX8_line_118 : decode cX8_line 118 = .ok (.ifCond .eq 7, 3) := by decide +kernel
theorem dX8_line_121 : decode cX8_line 121 = .ok (.aload_n 0, 1) := by decide +kernel
theorem dX8_line_122 : decode cX8_line 122 = .ok (.invokevirtual 394, 3) := by decide +kernel
theorem dX8_line_125 : decode cX8_line 125 = .ok (.aload_n 0, 1) := by decide +kernel
theorem dX8_line_126 : decode cX8_line 126 = .ok (.dup, 1) := by decide +kernel
theorem dX8_line_127 : decode cX8_line 127 = .ok (.getfield 367, 3) := by decide +kernel
theorem dX8_line_130 : decode cX8_line 130 = .ok (.iconst 1, 1) := by decide +kernel
theorem dX8_line_131 : decode cX8_line 131 = .ok (.iadd, 1) := by decide +kernel
theorem dX8_line_132 : decode cX8_line 132 = .ok (.putfield 367, 3) := by decide +kernel
theorem dX8_line_135 : decode cX8_line 135 = .ok (.return_, 1) := by decide +kernel
set_option maxRecDepth 20000 in
theorem ggX8_load_X8_isIn : GoodIn wsX8_load wsX8_isIn := goodIn_r _ [20] (by decide +kernel) (by decide +kernel)
set_option maxRecDepth 20000 in
theorem gX8_load_X8_isIn : GoodIn wsX8_load (va_wsS RX8 57 yX8_isIn wsX8_isIn) := goodIn_app (goodIn_of _ (by decide +kernel)) ggX8_load_X8_isIn
set_option maxRecDepth 20000 in
theorem ggX8_load_X8_defaults : GoodIn wsX8_load wsX8_defaults := goodIn_r _ [23] (by decide +kernel) (by decide +kernel)
set_option maxRecDepth 20000 in
theorem gX8_load_X8_defaults : GoodIn wsX8_load (va_wsS RX8 47 yX8_defaults wsX8_defaults) := goodIn_app (goodIn_of _ (by decide +kernel)) ggX8_load_X8_defaults
set_option maxRecDepth 20000 in
theorem ggX8_load_X8_next : GoodIn wsX8_load wsX8_next := goodIn_r _ [27, 5, 28, 4, 29, 9, 30, 31, 32, 33, 34, 35, 36, 19, 37, 17, 18, 20, 140, 141, 142, 143, 144, 145, 146, 147, 148, 149, 150, 151, 152, 153, 154, 155, 156, 157, 158, 159, 160, 161, 162, 163, 164, 165, 166] (by decide +kernel) (by decide +kernel)
set_option maxRecDepth 20000 in
theorem gX8_load_X8_next : GoodIn wsX8_load (wsV RX8 336 RX8 yX8_next wsX8_next) := goodIn_app (goodIn_of _ (by decide +kernel)) ggX8_load_X8_next
set_option maxRecDepth 20000 in
theorem ggX8_load_X8_good : GoodIn wsX8_load wsX8_good := goodIn_r _ [41, 6, 140, 141, 142, 143, 144, 145, 146, 147, 148, 149, 150, 151, 152, 153, 154, 155, 156, 157, 158, 159, 160, 161, 162, 163, 164, 165, 166] (by decide +kernel) (by decide +kernel)
set_option maxRecDepth 20000 in
theorem gX8_load_X8_good : GoodIn wsX8_load (wsV RX8 333 RX8 yX8_good wsX8_good) := goodIn_app (goodIn_of _ (by decide +kernel)) ggX8_load_X8_good
set_option maxRecDepth 20000 in
theorem ggX8_load_X8_line : GoodIn wsX8_load wsX8_line := goodIn_r _ [45, 46, 47, 48, 49, 50, 51, 52, 7, 53, 54, 55, 19, 56, 9, 30, 38, 39, 40, 41, 6, 57, 58, 59, 60, 8, 61, 62, 63, 64, 28, 11, 65, 66, 67, 68, 24, 25, 26, 27, 5, 4, 29, 31, 32, 33, 34, 35, 36, 37, 17, 18, 20, 69, 70, 71, 72, 73, 74, 75, 76, 77, 78, 79, 80, 81, 82, 83, 84, 85, 86, 87, 88, 89, 90, 91, 92, 93, 94, 95, 96, 97, 98, 99, 100, 101, 102, 103, 104, 105, 106, 107, 108, 109, 110, 111, 112, 113, 114, 115, 116, 117, 118, 119, 120, 121, 122, 123, 124, 125, 126, 127, 128, 129, 130, 131, 132, 133, 134, 135, 136, 140, 141, 142, 143, 144, 145, 146, 147, 148, 149, 150, 151, 152, 153, 154, 155, 156, 157, 158, 159, 160, 161, 162, 163, 164, 165, 166] (by decide +kernel) (by decide +kernel)
set_option maxRecDepth 20000 in
theorem gX8_load_X8_line : GoodIn wsX8_load (wsV RX8 397 RX8 yX8_line wsX8_line) := goodIn_app (goodIn_of _ (by decide +kernel)) ggX8_load_X8_line
set_option maxRecDepth 20000 in
theorem ggX8_load_X8_must : GoodIn wsX8_load wsX8_must := goodIn_r _ [64, 6, 9, 28, 11, 140, 141, 142, 143, 144, 145, 146, 147, 148, 149, 150, 151, 152, 153, 154, 155, 156, 157, 158, 159, 160, 161, 162, 163, 164, 165, 166] (by decide +kernel) (by decide +kernel)
set_option maxRecDepth 20000 in
theorem gX8_load_X8_must : GoodIn wsX8_load (wsV RX8 357 RX8 yX8_must wsX8_must) := goodIn_app (goodIn_of _ (by decide +kernel)) ggX8_load_X8_must
set_option maxRecDepth 20000 in
theorem ggX8_load_X8_goesOn : GoodIn wsX8_load wsX8_goesOn := goodIn_r _ [68, 38, 39, 40, 19, 41, 6, 24, 25, 26, 27, 5, 28, 4, 29, 9, 30, 31, 32, 33, 34, 35, 36, 37, 17, 18, 20, 140, 141, 142, 143, 144, 145, 146, 147, 148, 149, 150, 151, 152, 153, 154, 155, 156, 157, 158, 159, 160, 161, 162, 163, 164, 165, 166] (by decide +kernel) (by decide +kernel)
set_option maxRecDepth 20000 in
theorem gX8_load_X8_goesOn : GoodIn wsX8_load (wsV RX8 364 RX8 yX8_goesOn wsX8_goesOn) := goodIn_app (goodIn_of _ (by decide +kernel)) ggX8_load_X8_goesOn
set_option maxRecDepth 20000 in
theorem ggX8_load_X8_copies : GoodIn wsX8_load wsX8_copies := goodIn_r _ [139] (by decide +kernel) (by decide +kernel)
set_option maxRecDepth 20000 in
theorem gX8_load_X8_copies : GoodIn wsX8_load (va_wsS RX8 129 yX8_copies wsX8_copies) := goodIn_app (goodIn_of _ (by decide +kernel)) ggX8_load_X8_copies
theorem dX8_load_0 : decode cX8_load 0 = .ok (.aload_n 0, 1) := by decide +kernel
theorem dX8_load_1 : decode cX8_load 1 = .ok (.iconst 0, 1) := by decide +kernel
theorem dX8_load_2 : decode cX8_load 2 = .ok (.putfield 51, 3) := by decide +kernel
theorem dX8_load_5 : decode cX8_load 5 = .ok (.iload_n 1, 1) := by decide +kernel
theorem dX8_load_6 : decode cX8_load 6 = .ok (.i2l, 1) := by decide +kernel
theorem dX8_load_7 : decode cX8_load 7 = .ok (.lconst 0, 1) := by decide +kernel
theorem dX8_load_8 : decode cX8_load 8 = .ok (.aload_n 0, 1) := by decide +kernel
theorem dX8_load_9 : decode cX8_load 9 = .ok (.getfield 294, 3) := by decide +kernel
theorem dX8_load_12 : decode cX8_load 12 = .ok (.i2l, 1) := by decide +kernel
theorem dX8_load_13 : decode cX8_load 13 = .ok (.invokestatic 57, 3) := by decide +kernel
theorem dX8_load_16 : decode cX8_load 16 = .ok (.ifCond .ne 6, 3) := by decide +kernel
theorem dX8_load_19 : decode cX8_load 19 = .ok (.ldc 224, 2) := by decide +kernel
theorem dX8_load_21 : decode cX8_load 21 = .ok (.ireturn, 1) := by decide +kernel
theorem dX8_load_22 : decode cX8_load 22 = .ok (.aload_n 0, 1) := by decide +kernel
theorem dX8_load_23 : decode cX8_load 23 = .ok (.iload_n 1, 1) := by decide +kernel
theorem dX8_load_24 : decode cX8_load 24 = .ok (.putfield 300, 3) := by decide +kernel
theorem dX8_load_27 : decode cX8_load 27 = .ok (.aload_n 0, 1) := by decide +kernel
theorem dX8_load_28 : decode cX8_load 28 = .ok (.iconst 0, 1) := by decide +kernel
theorem dX8_load_29 : decode cX8_load 29 = .ok (.putfield 303, 3) := by decide +kernel
theorem dX8_load_32 : decode cX8_load 32 = .ok (.aload_n 0, 1) := by decide +kernel
theorem dX8_load_33 : decode cX8_load 33 = .ok (.iconst 0, 1) := by decide +kernel
theorem dX8_load_34 : decode cX8_load 34 = .ok (.putfield 327, 3) := by decide +kernel
theorem dX8_load_37 : decode cX8_load 37 = .ok (.aload_n 0, 1) := by decide +kernel
theorem dX8_load_38 : decode cX8_load 38 = .ok (.iconst 0, 1) := by decide +kernel
theorem dX8_load_39 : decode cX8_load 39 = .ok (.putfield 367, 3) := by decide +kernel
theorem dX8_load_42 : decode cX8_load 42 = .ok (.aload_n 0, 1) := by decide +kernel
theorem dX8_load_43 : decode cX8_load 43 = .ok (.getfield 13, 3) := by decide +kernel
theorem dX8_load_46 : decode cX8_load 46 = .ok (.invokestatic 47, 3) := by decide +kernel
theorem dX8_load_49 : decode cX8_load 49 = .ok (.aload_n 0, 1) := by decide +kernel
theorem dX8_load_50 : decode cX8_load 50 = .ok (.invokevirtual 336, 3) := by decide +kernel
theorem dX8_load_53 : decode cX8_load 53 = .ok (.aload_n 0, 1) := by decide +kernel
theorem dX8_load_54 : decode cX8_load 54 = .ok (.invokevirtual 333, 3) := by decide +kernel
theorem dX8_load_57 : decode cX8_load 57 = .ok (.ifCond .eq 39, 3) := by decide +kernel
theorem dX8_load_60 : decode cX8_load 60 = .ok (.aload_n 0, 1) := by decide +kernel
theorem dX8_load_61 : decode cX8_load 61 = .ok (.getfield 313, 3) := by decide +kernel
theorem dX8_load_64 : decode cX8_load 64 = .ok (.ifCond .eq 32, 3) := by decide +kernel
theorem dX8_load_67 : decode cX8_load 67 = .ok (.aload_n 0, 1) := by decide +kernel
theorem dX8_load_68 : decode cX8_load 68 = .ok (.invokevirtual 397, 3) := by decide +kernel
theorem dX8_load_71 : decode cX8_load 71 = .ok (.aload_n 0, 1) := by decide +kernel
theorem dX8_load_72 : decode cX8_load 72 = .ok (.aload_n 0, 1) := by decide +kernel
theorem dX8_load_73 : decode cX8_load 73 = .ok (.getfield 313, 3) := by decide +kernel
theorem dX8_load_76 : decode cX8_load 76 = .ok (.iconst 3, 1) := by decide +kernel
theorem dX8_load_77 : decode cX8_load 77 = .ok (.if_icmp .ne 7, 3) := by decide +kernel
theorem dX8_load_80 : decode cX8_load 80 = .ok (.iconst 1, 1) := by decide +kernel
theorem dX8_load_81 : decode cX8_load 81 = .ok (.goto 4, 3) := by decide +kernel
theorem dX8_load_84 : decode cX8_load 84 = .ok (.iconst 0, 1) := by decide +kernel
theorem dX8_load_85 : decode cX8_load 85 = .ok (.iconst 2, 1) := by decide +kernel
theorem dX8_load_86 : decode cX8_load 86 = .ok (.invokevirtual 357, 3) := by decide +kernel
theorem dX8_load_89 : decode cX8_load 89 = .ok (.aload_n 0, 1) := by decide +kernel
theorem dX8_load_90 : decode cX8_load 90 = .ok (.invokevirtual 364, 3) := by decide +kernel
theorem dX8_load_93 : decode cX8_load 93 = .ok (.goto (-40), 3) := by decide +kernel
theorem dX8_load_96 : decode cX8_load 96 = .ok (.aload_n 0, 1) := by decide +kernel
theorem dX8_load_97 : decode cX8_load 97 = .ok (.iconst 0, 1) := by decide +kernel
theorem dX8_load_98 : decode cX8_load 98 = .ok (.putfield 294, 3) := by decide +kernel
theorem dX8_load_101 : decode cX8_load 101 = .ok (.aload_n 0, 1) := by decide +kernel
theorem dX8_load_102 : decode cX8_load 102 = .ok (.aload_n 0, 1) := by decide +kernel
theorem dX8_load_103 : decode cX8_load 103 = .ok (.getfield 327, 3) := by decide +kernel
theorem dX8_load_106 : decode cX8_load 106 = .ok (.putfield 400, 3) := by decide +kernel
theorem dX8_load_109 : decode cX8_load 109 = .ok (.aload_n 0, 1) := by decide +kernel
theorem dX8_load_110 : decode cX8_load 110 = .ok (.aload_n 0, 1) := by decide +kernel
theorem dX8_load_111 : decode cX8_load 111 = .ok (.getfield 327, 3) := by decide +kernel
theorem dX8_load_114 : decode cX8_load 114 = .ok (.ifCond .le 10, 3) := by decide +kernel
theorem dX8_load_117 : decode cX8_load 117 = .ok (.aload_n 0, 1) := by decide +kernel
theorem dX8_load_118 : decode cX8_load 118 = .ok (.getfield 330, 3) := by decide +kernel
theorem dX8_load_121 : decode cX8_load 121 = .ok (.goto 5, 3) := by decide +kernel
theorem dX8_load_124 : decode cX8_load 124 = .ok (.ldc 42, 2) := by decide +kernel
theorem dX8_load_126 : decode cX8_load 126 = .ok (.putfield 43, 3) := by decide +kernel
theorem dX8_load_129 : decode cX8_load 129 = .ok (.aload_n 0, 1) := by decide +kernel
theorem dX8_load_130 : decode cX8_load 130 = .ok (.getfield 327, 3) := by decide +kernel
theorem dX8_load_133 : decode cX8_load 133 = .ok (.ifCond .le 7, 3) := by decide +kernel
theorem dX8_load_136 : decode cX8_load 136 = .ok (.ldc_w 403, 3) := by decide +kernel
theorem dX8_load_139 : decode cX8_load 139 = .ok (.ireturn, 1) := by decide +kernel
theorem dX8_load_140 : decode cX8_load 140 = .ok (.aload_n 0, 1) := by decide +kernel
theorem dX8_load_141 : decode cX8_load 141 = .ok (.getfield 13, 3) := by decide +kernel
theorem dX8_load_144 : decode cX8_load 144 = .ok (.aload_n 0, 1) := by decide +kernel
theorem dX8_load_145 : decode cX8_load 145 = .ok (.getfield 7, 3) := by decide +kernel
theorem dX8_load_148 : decode cX8_load 148 = .ok (.invokestatic 129, 3) := by decide +kernel
theorem dX8_load_151 : decode cX8_load 151 = .ok (.aload_n 0, 1) := by decide +kernel
theorem dX8_load_152 : decode cX8_load 152 = .ok (.iconst 0, 1) := by decide +kernel
theorem dX8_load_153 : decode cX8_load 153 = .ok (.putfield 54, 3) := by decide +kernel
theorem dX8_load_156 : decode cX8_load 156 = .ok (.aload_n 0, 1) := by decide +kernel
theorem dX8_load_157 : decode cX8_load 157 = .ok (.getfield 7, 3) := by decide +kernel
theorem dX8_load_160 : decode cX8_load 160 = .ok (.bipush 9, 2) := by decide +kernel
theorem dX8_load_162 : decode cX8_load 162 = .ok (.iaload, 1) := by decide +kernel
theorem dX8_load_163 : decode cX8_load 163 = .ok (.ireturn, 1) := by decide +kernel
theorem dX8_errorKind_0 : decode cX8_errorKind 0 = .ok (.aload_n 0, 1) := by decide +kernel
theorem dX8_errorKind_1 : decode cX8_errorKind 1 = .ok (.iconst 0, 1) := by decide +kernel
theorem dX8_errorKind_2 : decode cX8_errorKind 2 = .ok (.putfield 51, 3) := by decide +kernel
theorem dX8_errorKind_5 : decode cX8_errorKind 5 = .ok (.aload_n 0, 1) := by decide +kernel
theorem dX8_errorKind_6 : decode cX8_errorKind 6 = .ok (.getfield 400, 3) := by decide +kernel
theorem dX8_errorKind_9 : decode cX8_errorKind 9 = .ok (.ireturn, 1) := by decide +kernel
theorem dX8_errorPosition_0 : decode cX8_errorPosition 0 = .ok (.aload_n 0, 1) := by decide +kernel
theorem dX8_errorPosition_1 : decode cX8_errorPosition 1 = .ok (.iconst 0, 1) := by decide +kernel
theorem dX8_errorPosition_2 : decode cX8_errorPosition 2 = .ok (.putfield 51, 3) := by decide +kernel
theorem dX8_errorPosition_5 : decode cX8_errorPosition 5 = .ok (.aload_n 0, 1) := by decide +kernel
theorem dX8_errorPosition_6 : decode cX8_errorPosition 6 = .ok (.getfield 43, 3) := by decide +kernel
theorem dX8_errorPosition_9 : decode cX8_errorPosition 9 = .ok (.ireturn, 1) := by decide +kernel
theorem dJxf58ca_isNaN_12338_0 : decode cJxf58ca_isNaN_12338 0 = .ok (.fload_n 0, 1) := by decide +kernel
theorem dJxf58ca_isNaN_12338_1 : decode cJxf58ca_isNaN_12338 1 = .ok (.fload_n 0, 1) := by decide +kernel
theorem dJxf58ca_isNaN_12338_2 : decode cJxf58ca_isNaN_12338 2 = .ok (.fcmp .l, 1) := by decide +kernel
theorem dJxf58ca_isNaN_12338_3 : decode cJxf58ca_isNaN_12338 3 = .ok (.ifCond .eq 7, 3) := by decide +kernel
theorem dJxf58ca_isNaN_12338_6 : decode cJxf58ca_isNaN_12338 6 = .ok (.iconst 1, 1) := by decide +kernel
theorem dJxf58ca_isNaN_12338_7 : decode cJxf58ca_isNaN_12338 7 = .ok (.goto 4, 3) := by decide +kernel
theorem dJxf58ca_isNaN_12338_10 : decode cJxf58ca_isNaN_12338 10 = .ok (.iconst 0, 1) := by decide +kernel
theorem dJxf58ca_isNaN_12338_11 : decode cJxf58ca_isNaN_12338 11 = .ok (.ireturn, 1) := by decide +kernel
set_option maxRecDepth 20000 in
theorem ggJxf58ca_floatToIntBits_5c35a_Jxf58ca_isNaN_12338 : GoodIn wsJxf58ca_floatToIntBits_5c35a wsJxf58ca_isNaN_12338 := goodIn_r _ [9] (by decide +kernel) (by decide +kernel)
set_option maxRecDepth 20000 in
theorem gJxf58ca_floatToIntBits_5c35a_Jxf58ca_isNaN_12338 : GoodIn wsJxf58ca_floatToIntBits_5c35a (va_wsS RJxf58ca 59 yJxf58ca_isNaN_12338 wsJxf58ca_isNaN_12338) := goodIn_app (goodIn_of _ (by decide +kernel)) ggJxf58ca_floatToIntBits_5c35a_Jxf58ca_isNaN_12338
theorem dJxf58ca_floatToIntBits_5c35a_0 : decode cJxf58ca_floatToIntBits_5c35a 0 = .ok (.fload_n 0, 1) := by decide +kernel
theorem dJxf58ca_floatToIntBits_5c35a_1 : decode cJxf58ca_floatToIntBits_5c35a 1 = .ok (.invokestatic 59, 3) := by decide +kernel
theorem dJxf58ca_floatToIntBits_5c35a_4 : decode cJxf58ca_floatToIntBits_5c35a 4 = .ok (.ifCond .ne 8, 3) := by decide +kernel
theorem dJxf58ca_floatToIntBits_5c35a_7 : decode cJxf58ca_floatToIntBits_5c35a 7 = .ok (.fload_n 0, 1) := by decide +kernel
theorem dJxf58ca_floatToIntBits_5c35a_8 : decode cJxf58ca_floatToIntBits_5c35a 8 = .ok (.invokestatic 74, 3) := by decide +kernel
theorem dJxf58ca_floatToIntBits_5c35a_11 : decode cJxf58ca_floatToIntBits_5c35a 11 = .ok (.ireturn, 1) := by decide +kernel
theorem dJxf58ca_floatToIntBits_5c35a_12 : decode cJxf58ca_floatToIntBits_5c35a 12 = .ok (.ldc 77, 2) := by decide +kernel
theorem dJxf58ca_floatToIntBits_5c35a_14 : decode cJxf58ca_floatToIntBits_5c35a 14 = .ok (.ireturn, 1) := by decide +kernel
theorem dJ9_abs_0f7a4_0 : decode cJ9_abs_0f7a4 0 = .ok (.iload_n 0, 1) := by decide +kernel
theorem dJ9_abs_0f7a4_1 : decode cJ9_abs_0f7a4 1 = .ok (.ifCond .ge 8, 3) := by decide +kernel
theorem dJ9_abs_0f7a4_4 : decode cJ9_abs_0f7a4 4 = .ok (.iload_n 0, 1) := by decide +kernel
theorem dJ9_abs_0f7a4_5 : decode cJ9_abs_0f7a4 5 = .ok (.ineg, 1) := by decide +kernel
theorem dJ9_abs_0f7a4_6 : decode cJ9_abs_0f7a4 6 = .ok (.goto 4, 3) := by decide +kernel
theorem dJ9_abs_0f7a4_9 : decode cJ9_abs_0f7a4 9 = .ok (.iload_n 0, 1) := by decide +kernel
theorem dJ9_abs_0f7a4_10 : decode cJ9_abs_0f7a4 10 = .ok (.ireturn, 1) := by decide +kernel
theorem dJ9_max_7cf53_0 : decode cJ9_max_7cf53 0 = .ok (.iload_n 0, 1) := by decide +kernel
theorem dJ9_max_7cf53_1 : decode cJ9_max_7cf53 1 = .ok (.iload_n 1, 1) := by decide +kernel
theorem dJ9_max_7cf53_2 : decode cJ9_max_7cf53 2 = .ok (.if_icmp .lt 7, 3) := by decide +kernel
theorem dJ9_max_7cf53_5 : decode cJ9_max_7cf53 5 = .ok (.iload_n 0, 1) := by decide +kernel
theorem dJ9_max_7cf53_6 : decode cJ9_max_7cf53 6 = .ok (.goto 4, 3) := by decide +kernel
theorem dJ9_max_7cf53_9 : decode cJ9_max_7cf53 9 = .ok (.iload_n 1, 1) := by decide +kernel
theorem dJ9_max_7cf53_10 : decode cJ9_max_7cf53 10 = .ok (.ireturn, 1) := by decide +kernel
theorem dJ9_min_7cf53_0 : decode cJ9_min_7cf53 0 = .ok (.iload_n 0, 1) := by decide +kernel
theorem dJ9_min_7cf53_1 : decode cJ9_min_7cf53 1 = .ok (.iload_n 1, 1) := by decide +kernel
theorem dJ9_min_7cf53_2 : decode cJ9_min_7cf53 2 = .ok (.if_icmp .gt 7, 3) := by decide +kernel
theorem dJ9_min_7cf53_5 : decode cJ9_min_7cf53 5 = .ok (.iload_n 0, 1) := by decide +kernel
theorem dJ9_min_7cf53_6 : decode cJ9_min_7cf53 6 = .ok (.goto 4, 3) := by decide +kernel
theorem dJ9_min_7cf53_9 : decode cJ9_min_7cf53 9 = .ok (.iload_n 1, 1) := by decide +kernel
theorem dJ9_min_7cf53_10 : decode cJ9_min_7cf53 10 = .ok (.ireturn, 1) := by decide +kernel
set_option maxRecDepth 20000 in
theorem ggJ0_length_8abf5_J0_coder_7d493 : GoodIn wsJ0_length_8abf5 wsJ0_coder_7d493 := goodIn_r _ [6, 7, 8] (by decide +kernel) (by decide +kernel)
set_option maxRecDepth 20000 in
theorem gJ0_length_8abf5_J0_coder_7d493 : GoodIn wsJ0_length_8abf5 (wsV RJ0 335 RJ0 yJ0_coder_7d493 wsJ0_coder_7d493) := goodIn_app (goodIn_of _ (by decide +kernel)) ggJ0_length_8abf5_J0_coder_7d493
theorem dJ0_length_8abf5_0 : decode cJ0_length_8abf5 0 = .ok (.aload_n 0, 1) := by decide +kernel
theorem dJ0_length_8abf5_1 : decode cJ0_length_8abf5 1 = .ok (.getfield 9, 3) := by decide +kernel
theorem dJ0_length_8abf5_4 : decode cJ0_length_8abf5 4 = .ok (.arraylength, 1) := by decide +kernel
theorem dJ0_length_8abf5_5 : decode cJ0_length_8abf5 5 = .ok (.aload_n 0, 1) := by decide +kernel
theorem dJ0_length_8abf5_6 : decode cJ0_length_8abf5 6 = .ok (.invokevirtual 335, 3) := by decide +kernel
theorem dJ0_length_8abf5_9 : decode cJ0_length_8abf5 9 = .ok (.ishr, 1) := by decide +kernel
theorem dJ0_length_8abf5_10 : decode cJ0_length_8abf5 10 = .ok (.ireturn, 1) := by decide +kernel
set_option maxRecDepth 20000 in
theorem ggJ0_charAt_5068e_J0_isLatin1_aae02 : GoodIn wsJ0_charAt_5068e wsJ0_isLatin1_aae02 := goodIn_r _ [6, 7, 8] (by decide +kernel) (by decide +kernel)
set_option maxRecDepth 20000 in
theorem gJ0_charAt_5068e_J0_isLatin1_aae02 : GoodIn wsJ0_charAt_5068e (wsV RJ0 492 RJ0 yJ0_isLatin1_aae02 wsJ0_isLatin1_aae02) := goodIn_app (goodIn_of _ (by decide +kernel)) ggJ0_charAt_5068e_J0_isLatin1_aae02
set_option maxRecDepth 20000 in
theorem ggJ0_charAt_5068e_J1_charAt_3b067 : GoodIn wsJ0_charAt_5068e wsJ1_charAt_3b067 := goodIn_r _ [12, 13, 14, 5, 15, 16, 17, 18, 19, 20] (by decide +kernel) (by decide +kernel)
set_option maxRecDepth 20000 in
theorem gJ0_charAt_5068e_J1_charAt_3b067 : GoodIn wsJ0_charAt_5068e (va_wsS RJ0 495 yJ1_charAt_3b067 wsJ1_charAt_3b067) := goodIn_app (goodIn_of _ (by decide +kernel)) ggJ0_charAt_5068e_J1_charAt_3b067
set_option maxRecDepth 20000 in
theorem ggJ0_charAt_5068e_J2_charAt_3b067 : GoodIn wsJ0_charAt_5068e wsJ2_charAt_3b067 := goodIn_r _ [24, 25, 26, 23, 27, 28, 29, 30, 31, 14, 5, 15, 16, 17, 18, 19, 20, 32, 33, 34, 35, 36, 37] (by decide +kernel) (by decide +kernel)
set_option maxRecDepth 20000 in
theorem gJ0_charAt_5068e_J2_charAt_3b067 : GoodIn wsJ0_charAt_5068e (va_wsS RJ0 498 yJ2_charAt_3b067 wsJ2_charAt_3b067) := goodIn_app (goodIn_of _ (by decide +kernel)) ggJ0_charAt_5068e_J2_charAt_3b067
theorem dJ0_charAt_5068e_0 : decode cJ0_charAt_5068e 0 = .ok (.aload_n 0, 1) := by decide +kernel
theorem dJ0_charAt_5068e_1 : decode cJ0_charAt_5068e 1 = .ok (.invokevirtual 492, 3) := by decide +kernel
theorem dJ0_charAt_5068e_4 : decode cJ0_charAt_5068e 4 = .ok (.ifCond .eq 12, 3) := by decide +kernel
theorem dJ0_charAt_5068e_7 : decode cJ0_charAt_5068e 7 = .ok (.aload_n 0, 1) := by decide +kernel
theorem dJ0_charAt_5068e_8 : decode cJ0_charAt_5068e 8 = .ok (.getfield 9, 3) := by decide +kernel
theorem dJ0_charAt_5068e_11 : decode cJ0_charAt_5068e 11 = .ok (.iload_n 1, 1) := by decide +kernel
theorem dJ0_charAt_5068e_12 : decode cJ0_charAt_5068e 12 = .ok (.invokestatic 495, 3) := by decide +kernel
theorem dJ0_charAt_5068e_15 : decode cJ0_charAt_5068e 15 = .ok (.ireturn, 1) := by decide +kernel
theorem dJ0_charAt_5068e_16 : decode cJ0_charAt_5068e 16 = .ok (.aload_n 0, 1) := by decide +kernel
theorem dJ0_charAt_5068e_17 : decode cJ0_charAt_5068e 17 = .ok (.getfield 9, 3) := by decide +kernel
theorem dJ0_charAt_5068e_20 : decode cJ0_charAt_5068e 20 = .ok (.iload_n 1, 1) := by decide +kernel
theorem dJ0_charAt_5068e_21 : decode cJ0_charAt_5068e 21 = .ok (.invokestatic 498, 3) := by decide +kernel
theorem dJ0_charAt_5068e_24 : decode cJ0_charAt_5068e 24 = .ok (.ireturn, 1) := by decide +kernel
theorem dJ0_coder_7d493_0 : decode cJ0_coder_7d493 0 = .ok (.getstatic 38, 3) := by decide +kernel
theorem dJ0_coder_7d493_3 : decode cJ0_coder_7d493 3 = .ok (.ifCond .eq 10, 3) := by decide +kernel
theorem dJ0_coder_7d493_6 : decode cJ0_coder_7d493 6 = .ok (.aload_n 0, 1) := by decide +kernel
theorem dJ0_coder_7d493_7 : decode cJ0_coder_7d493 7 = .ok (.getfield 15, 3) := by decide +kernel
theorem dJ0_coder_7d493_10 : decode cJ0_coder_7d493 10 = .ok (.goto 4, 3) := by decide +kernel
theorem dJ0_coder_7d493_13 : decode cJ0_coder_7d493 13 = .ok (.iconst 1, 1) := by decide +kernel
theorem dJ0_coder_7d493_14 : decode cJ0_coder_7d493 14 = .ok (.ireturn, 1) := by decide +kernel
theorem dJ0_isLatin1_aae02_0 : decode cJ0_isLatin1_aae02 0 = .ok (.getstatic 38, 3) := by decide +kernel
theorem dJ0_isLatin1_aae02_3 : decode cJ0_isLatin1_aae02 3 = .ok (.ifCond .eq 14, 3) := by decide +kernel
theorem dJ0_isLatin1_aae02_6 : decode cJ0_isLatin1_aae02 6 = .ok (.aload_n 0, 1) := by decide +kernel
theorem dJ0_isLatin1_aae02_7 : decode cJ0_isLatin1_aae02 7 = .ok (.getfield 15, 3) := by decide +kernel
theorem dJ0_isLatin1_aae02_10 : decode cJ0_isLatin1_aae02 10 = .ok (.ifCond .ne 7, 3) := by decide +kernel
theorem dJ0_isLatin1_aae02_13 : decode cJ0_isLatin1_aae02 13 = .ok (.iconst 1, 1) := by decide +kernel
theorem dJ0_isLatin1_aae02_14 : decode cJ0_isLatin1_aae02 14 = .ok (.goto 4, 3) := by decide +kernel
theorem dJ0_isLatin1_aae02_17 : decode cJ0_isLatin1_aae02 17 = .ok (.iconst 0, 1) := by decide +kernel
theorem dJ0_isLatin1_aae02_18 : decode cJ0_isLatin1_aae02 18 = .ok (.ireturn, 1) := by decide +kernel
set_option maxRecDepth 20000 in
theorem ggJ0_checkIndex_df160_J3_checkIndex_8e157 : GoodIn wsJ0_checkIndex_df160 wsJ3_checkIndex_8e157 := goodIn_r _ [5] (by decide +kernel) (by decide +kernel)
set_option maxRecDepth 20000 in
theorem gJ0_checkIndex_df160_J3_checkIndex_8e157 : GoodIn wsJ0_checkIndex_df160 (va_wsS RJ0 1059 yJ3_checkIndex_8e157 wsJ3_checkIndex_8e157) := goodIn_app (goodIn_of _ (by decide +kernel)) ggJ0_checkIndex_df160_J3_checkIndex_8e157
theorem dJ0_checkIndex_df160_0 : decode cJ0_checkIndex_df160 0 = .ok (.iload_n 0, 1) := by decide +kernel
theorem dJ0_checkIndex_df160_1 : decode cJ0_checkIndex_df160 1 = .ok (.iload_n 1, 1) := by decide +kernel
theorem dJ0_checkIndex_df160_2 : decode cJ0_checkIndex_df160 2 = .ok (.getstatic 1053, 3) := by decide +kernel
theorem dJ0_checkIndex_df160_5 : decode cJ0_checkIndex_df160 5 = .ok (.invokestatic 1059, 3) := by decide +kernel
theorem dJ0_checkIndex_df160_8 : decode cJ0_checkIndex_df160 8 = .ok (.pop, 1) := by decide +kernel
theorem dJ0_checkIndex_df160_9 : decode cJ0_checkIndex_df160 9 = .ok (.return_, 1) := by decide +kernel
set_option maxRecDepth 20000 in
theorem ggJ1_charAt_3b067_J0_checkIndex_df160 : GoodIn wsJ1_charAt_3b067 wsJ0_checkIndex_df160 := goodIn_r _ [4, 5, 6, 7, 8, 9] (by decide +kernel) (by decide +kernel)
set_option maxRecDepth 20000 in
theorem gJ1_charAt_3b067_J0_checkIndex_df160 : GoodIn wsJ1_charAt_3b067 (va_wsS RJ1 9 yJ0_checkIndex_df160 wsJ0_checkIndex_df160) := goodIn_app (goodIn_of _ (by decide +kernel)) ggJ1_charAt_3b067_J0_checkIndex_df160
theorem dJ1_charAt_3b067_0 : decode cJ1_charAt_3b067 0 = .ok (.iload_n 1, 1) := by decide +kernel
theorem dJ1_charAt_3b067_1 : decode cJ1_charAt_3b067 1 = .ok (.aload_n 0, 1) := by decide +kernel
theorem dJ1_charAt_3b067_2 : decode cJ1_charAt_3b067 2 = .ok (.arraylength, 1) := by decide +kernel
theorem dJ1_charAt_3b067_3 : decode cJ1_charAt_3b067 3 = .ok (.invokestatic 9, 3) := by decide +kernel
theorem dJ1_charAt_3b067_6 : decode cJ1_charAt_3b067 6 = .ok (.aload_n 0, 1) := by decide +kernel
theorem dJ1_charAt_3b067_7 : decode cJ1_charAt_3b067 7 = .ok (.iload_n 1, 1) := by decide +kernel
theorem dJ1_charAt_3b067_8 : decode cJ1_charAt_3b067 8 = .ok (.baload, 1) := by decide +kernel
theorem dJ1_charAt_3b067_9 : decode cJ1_charAt_3b067 9 = .ok (.sipush 255, 3) := by decide +kernel
theorem dJ1_charAt_3b067_12 : decode cJ1_charAt_3b067 12 = .ok (.iand, 1) := by decide +kernel
theorem dJ1_charAt_3b067_13 : decode cJ1_charAt_3b067 13 = .ok (.i2c, 1) := by decide +kernel
theorem dJ1_charAt_3b067_14 : decode cJ1_charAt_3b067 14 = .ok (.ireturn, 1) := by decide +kernel
set_option maxRecDepth 20000 in
theorem ggJ2_getChar_3b067_J2_length_9d52b : GoodIn wsJ2_getChar_3b067 wsJ2_length_9d52b := goodIn_r _ [7] (by decide +kernel) (by decide +kernel)
set_option maxRecDepth 20000 in
theorem gJ2_getChar_3b067_J2_length_9d52b : GoodIn wsJ2_getChar_3b067 (va_wsS RJ2 48 yJ2_length_9d52b wsJ2_length_9d52b) := goodIn_app (goodIn_of _ (by decide +kernel)) ggJ2_getChar_3b067_J2_length_9d52b
theorem dJ2_getChar_3b067_0 : decode cJ2_getChar_3b067 0 = .ok (.getstatic 44, 3) := by decide +kernel
theorem dJ2_getChar_3b067_3 : decode cJ2_getChar_3b067 3 = .ok (.ifCond .ne 25, 3) := by decide +kernel
theorem dJ2_getChar_3b067_6 : decode cJ2_getChar_3b067 6 = .ok (.iload_n 1, 1) := by decide +kernel
theorem dJ2_getChar_3b067_7 : decode cJ2_getChar_3b067 7 = .ok (.ifCond .lt 11, 3) := by decide +kernel
theorem dJ2_getChar_3b067_10 : decode cJ2_getChar_3b067 10 = .ok (.iload_n 1, 1) := by decide +kernel
theorem dJ2_getChar_3b067_11 : decode cJ2_getChar_3b067 11 = .ok (.aload_n 0, 1) := by decide +kernel
theorem dJ2_getChar_3b067_12 : decode cJ2_getChar_3b067 12 = .ok (.invokestatic 48, 3) := by decide +kernel
theorem dJ2_getChar_3b067_15 : decode cJ2_getChar_3b067 15 = .ok (.if_icmp .lt 13, 3) := by decide +kernel
theorem dJ2_getChar_3b067_18 : decode cJ2_getChar_3b067 18 = .ok (.new 52, 3) := by decide +kernel
theorem dJ2_getChar_3b067_21 : decode cJ2_getChar_3b067 21 = .ok (.dup, 1) := by decide +kernel
theorem dJ2_getChar_3b067_22 : decode cJ2_getChar_3b067 22 = .ok (.ldc 54, 2) := by decide +kernel
theorem dJ2_getChar_3b067_24 : decode cJ2_getChar_3b067 24 = .ok (.invokespecial 56, 3) := by decide +kernel
theorem dJ2_getChar_3b067_27 : decode cJ2_getChar_3b067 27 = .ok (.athrow, 1) := by decide +kernel
theorem dJ2_getChar_3b067_28 : decode cJ2_getChar_3b067 28 = .ok (.iload_n 1, 1) := by decide +kernel
theorem dJ2_getChar_3b067_29 : decode cJ2_getChar_3b067 29 = .ok (.iconst 1, 1) := by decide +kernel
theorem dJ2_getChar_3b067_30 : decode cJ2_getChar_3b067 30 = .ok (.ishl, 1) := by decide +kernel
theorem dJ2_getChar_3b067_31 : decode cJ2_getChar_3b067 31 = .ok (.istore_n 1, 1) := by decide +kernel
theorem dJ2_getChar_3b067_32 : decode cJ2_getChar_3b067 32 = .ok (.aload_n 0, 1) := by decide +kernel
theorem dJ2_getChar_3b067_33 : decode cJ2_getChar_3b067 33 = .ok (.iload_n 1, 1) := by decide +kernel
theorem dJ2_getChar_3b067_34 : decode cJ2_getChar_3b067 34 = .ok (.iinc 1 1, 3) := by decide +kernel
theorem dJ2_getChar_3b067_37 : decode cJ2_getChar_3b067 37 = .ok (.baload, 1) := by decide +kernel
theorem dJ2_getChar_3b067_38 : decode cJ2_getChar_3b067 38 = .ok (.sipush 255, 3) := by decide +kernel
theorem dJ2_getChar_3b067_41 : decode cJ2_getChar_3b067 41 = .ok (.iand, 1) := by decide +kernel
theorem dJ2_getChar_3b067_42 : decode cJ2_getChar_3b067 42 = .ok (.getstatic 59, 3) := by decide +kernel
theorem dJ2_getChar_3b067_45 : decode cJ2_getChar_3b067 45 = .ok (.ishl, 1) := by decide +kernel
theorem dJ2_getChar_3b067_46 : decode cJ2_getChar_3b067 46 = .ok (.aload_n 0, 1) := by decide +kernel
theorem dJ2_getChar_3b067_47 : decode cJ2_getChar_3b067 47 = .ok (.iload_n 1, 1) := by decide +kernel
theorem dJ2_getChar_3b067_48 : decode cJ2_getChar_3b067 48 = .ok (.baload, 1) := by decide +kernel
theorem dJ2_getChar_3b067_49 : decode cJ2_getChar_3b067 49 = .ok (.sipush 255, 3) := by decide +kernel
theorem dJ2_getChar_3b067_52 : decode cJ2_getChar_3b067 52 = .ok (.iand, 1) := by decide +kernel
theorem dJ2_getChar_3b067_53 : decode cJ2_getChar_3b067 53 = .ok (.getstatic 63, 3) := by decide +kernel
theorem dJ2_getChar_3b067_56 : decode cJ2_getChar_3b067 56 = .ok (.ishl, 1) := by decide +kernel
theorem dJ2_getChar_3b067_57 : decode cJ2_getChar_3b067 57 = .ok (.ior, 1) := by decide +kernel
theorem dJ2_getChar_3b067_58 : decode cJ2_getChar_3b067 58 = .ok (.i2c, 1) := by decide +kernel
theorem dJ2_getChar_3b067_59 : decode cJ2_getChar_3b067 59 = .ok (.ireturn, 1) := by decide +kernel
theorem dJ2_length_9d52b_0 : decode cJ2_length_9d52b 0 = .ok (.aload_n 0, 1) := by decide +kernel
theorem dJ2_length_9d52b_1 : decode cJ2_length_9d52b 1 = .ok (.arraylength, 1) := by decide +kernel
theorem dJ2_length_9d52b_2 : decode cJ2_length_9d52b 2 = .ok (.iconst 1, 1) := by decide +kernel
theorem dJ2_length_9d52b_3 : decode cJ2_length_9d52b 3 = .ok (.ishr, 1) := by decide +kernel
theorem dJ2_length_9d52b_4 : decode cJ2_length_9d52b 4 = .ok (.ireturn, 1) := by decide +kernel
set_option maxRecDepth 20000 in
theorem ggJ2_charAt_3b067_J2_checkIndex_2214a : GoodIn wsJ2_charAt_3b067 wsJ2_checkIndex_2214a := goodIn_r _ [4, 5, 6, 3, 7, 8, 9, 10, 11, 12, 13, 14, 15, 16] (by decide +kernel) (by decide +kernel)
set_option maxRecDepth 20000 in
theorem gJ2_charAt_3b067_J2_checkIndex_2214a : GoodIn wsJ2_charAt_3b067 (va_wsS RJ2 67 yJ2_checkIndex_2214a wsJ2_checkIndex_2214a) := goodIn_app (goodIn_of _ (by decide +kernel)) ggJ2_charAt_3b067_J2_checkIndex_2214a
set_option maxRecDepth 20000 in
theorem ggJ2_charAt_3b067_J2_getChar_3b067 : GoodIn wsJ2_charAt_3b067 wsJ2_getChar_3b067 := goodIn_r _ [19, 20, 21, 22, 5, 6, 3, 7] (by decide +kernel) (by decide +kernel)
set_option maxRecDepth 20000 in
theorem gJ2_charAt_3b067_J2_getChar_3b067 : GoodIn wsJ2_charAt_3b067 (va_wsS RJ2 71 yJ2_getChar_3b067 wsJ2_getChar_3b067) := goodIn_app (goodIn_of _ (by decide +kernel)) ggJ2_charAt_3b067_J2_getChar_3b067
theorem dJ2_charAt_3b067_0 : decode cJ2_charAt_3b067 0 = .ok (.iload_n 1, 1) := by decide +kernel
theorem dJ2_charAt_3b067_1 : decode cJ2_charAt_3b067 1 = .ok (.aload_n 0, 1) := by decide +kernel
theorem dJ2_charAt_3b067_2 : decode cJ2_charAt_3b067 2 = .ok (.invokestatic 67, 3) := by decide +kernel
theorem dJ2_charAt_3b067_5 : decode cJ2_charAt_3b067 5 = .ok (.aload_n 0, 1) := by decide +kernel
theorem dJ2_charAt_3b067_6 : decode cJ2_charAt_3b067 6 = .ok (.iload_n 1, 1) := by decide +kernel
theorem dJ2_charAt_3b067_7 : decode cJ2_charAt_3b067 7 = .ok (.invokestatic 71, 3) := by decide +kernel
theorem dJ2_charAt_3b067_10 : decode cJ2_charAt_3b067 10 = .ok (.ireturn, 1) := by decide +kernel
set_option maxRecDepth 20000 in
theorem ggJ2_checkIndex_2214a_J2_length_9d52b : GoodIn wsJ2_checkIndex_2214a wsJ2_length_9d52b := goodIn_r _ [4] (by decide +kernel) (by decide +kernel)
set_option maxRecDepth 20000 in
theorem gJ2_checkIndex_2214a_J2_length_9d52b : GoodIn wsJ2_checkIndex_2214a (va_wsS RJ2 48 yJ2_length_9d52b wsJ2_length_9d52b) := goodIn_app (goodIn_of _ (by decide +kernel)) ggJ2_checkIndex_2214a_J2_length_9d52b
set_option maxRecDepth 20000 in
theorem ggJ2_checkIndex_2214a_J0_checkIndex_df160 : GoodIn wsJ2_checkIndex_2214a wsJ0_checkIndex_df160 := goodIn_r _ [8, 9, 10, 11, 12, 13] (by decide +kernel) (by decide +kernel)
set_option maxRecDepth 20000 in
theorem gJ2_checkIndex_2214a_J0_checkIndex_df160 : GoodIn wsJ2_checkIndex_2214a (va_wsS RJ2 414 yJ0_checkIndex_df160 wsJ0_checkIndex_df160) := goodIn_app (goodIn_of _ (by decide +kernel)) ggJ2_checkIndex_2214a_J0_checkIndex_df160
theorem dJ2_checkIndex_2214a_0 : decode cJ2_checkIndex_2214a 0 = .ok (.iload_n 0, 1) := by decide +kernel
theorem dJ2_checkIndex_2214a_1 : decode cJ2_checkIndex_2214a 1 = .ok (.aload_n 1, 1) := by decide +kernel
theorem dJ2_checkIndex_2214a_2 : decode cJ2_checkIndex_2214a 2 = .ok (.invokestatic 48, 3) := by decide +kernel
theorem dJ2_checkIndex_2214a_5 : decode cJ2_checkIndex_2214a 5 = .ok (.invokestatic 414, 3) := by decide +kernel
theorem dJ2_checkIndex_2214a_8 : decode cJ2_checkIndex_2214a 8 = .ok (.return_, 1) := by decide +kernel
theorem dJ7_fill_53178_0 : decode cJ7_fill_53178 0 = .ok (.iconst 0, 1) := by decide +kernel
theorem dJ7_fill_53178_1 : decode cJ7_fill_53178 1 = .ok (.istore_n 2, 1) := by decide +kernel
theorem dJ7_fill_53178_2 : decode cJ7_fill_53178 2 = .ok (.aload_n 0, 1) := by decide +kernel
theorem dJ7_fill_53178_3 : decode cJ7_fill_53178 3 = .ok (.arraylength, 1) := by decide +kernel
theorem dJ7_fill_53178_4 : decode cJ7_fill_53178 4 = .ok (.istore_n 3, 1) := by decide +kernel
theorem dJ7_fill_53178_5 : decode cJ7_fill_53178 5 = .ok (.iload_n 2, 1) := by decide +kernel
theorem dJ7_fill_53178_6 : decode cJ7_fill_53178 6 = .ok (.iload_n 3, 1) := by decide +kernel
theorem dJ7_fill_53178_7 : decode cJ7_fill_53178 7 = .ok (.if_icmp .ge 13, 3) := by decide +kernel
theorem dJ7_fill_53178_10 : decode cJ7_fill_53178 10 = .ok (.aload_n 0, 1) := by decide +kernel
theorem dJ7_fill_53178_11 : decode cJ7_fill_53178 11 = .ok (.iload_n 2, 1) := by decide +kernel
theorem dJ7_fill_53178_12 : decode cJ7_fill_53178 12 = .ok (.iload_n 1, 1) := by decide +kernel
theorem dJ7_fill_53178_13 : decode cJ7_fill_53178 13 = .ok (.iastore, 1) := by decide +kernel
theorem dJ7_fill_53178_14 : decode cJ7_fill_53178 14 = .ok (.iinc 2 1, 3) := by decide +kernel
theorem dJ7_fill_53178_17 : decode cJ7_fill_53178 17 = .ok (.goto (-12), 3) := by decide +kernel
theorem dJ7_fill_53178_20 : decode cJ7_fill_53178 20 = .ok (.return_, 1) := by decide +kernel
theorem dJ3_checkIndex_8e157_0 : decode cJ3_checkIndex_8e157 0 = .ok (.iload_n 0, 1) := by decide +kernel
theorem dJ3_checkIndex_8e157_1 : decode cJ3_checkIndex_8e157 1 = .ok (.ifCond .lt 8, 3) := by decide +kernel
theorem dJ3_checkIndex_8e157_4 : decode cJ3_checkIndex_8e157 4 = .ok (.iload_n 0, 1) := by decide +kernel
theorem dJ3_checkIndex_8e157_5 : decode cJ3_checkIndex_8e157 5 = .ok (.iload_n 1, 1) := by decide +kernel
theorem dJ3_checkIndex_8e157_6 : decode cJ3_checkIndex_8e157 6 = .ok (.if_icmp .lt 10, 3) := by decide +kernel
theorem dJ3_checkIndex_8e157_9 : decode cJ3_checkIndex_8e157 9 = .ok (.aload_n 2, 1) := by decide +kernel
theorem dJ3_checkIndex_8e157_10 : decode cJ3_checkIndex_8e157 10 = .ok (.iload_n 0, 1) := by decide +kernel
theorem dJ3_checkIndex_8e157_11 : decode cJ3_checkIndex_8e157 11 = .ok (.iload_n 1, 1) := by decide +kernel
theorem dJ3_checkIndex_8e157_12 : decode cJ3_checkIndex_8e157 12 = .ok (.invokestatic 95, 3) := by decide +kernel
theorem dJ3_checkIndex_8e157_15 : decode cJ3_checkIndex_8e157 15 = .ok (.athrow, 1) := by decide +kernel
theorem dJ3_checkIndex_8e157_16 : decode cJ3_checkIndex_8e157 16 = .ok (.iload_n 0, 1) := by decide +kernel
theorem dJ3_checkIndex_8e157_17 : decode cJ3_checkIndex_8e157 17 = .ok (.ireturn, 1) := by decide +kernel
set_option maxRecDepth 20000 in
theorem ggL_law_X7_init : GoodIn wsL_law wsX7_init := goodIn_r _ [8, 9, 10, 11, 12, 13, 14, 15, 16, 17, 18, 19, 20, 21, 22, 23, 24, 25, 26, 27, 28, 29, 30, 31, 32, 33, 34, 35, 36, 37, 38, 39, 40, 41, 42, 43, 44, 45, 46, 47, 48, 49, 50, 51, 52, 53, 54, 55, 56, 57, 58, 59, 60, 61, 62, 63, 64, 65, 66, 67, 68, 69, 70, 71, 72, 73, 74, 75, 76, 77, 78, 79, 80, 81, 82, 83, 84, 85, 86, 87, 88, 89, 1623, 1624, 1625, 1626, 1627, 1628, 1629, 1630, 1631, 1587, 1588, 1589, 1590, 1591, 1592, 1593, 1594, 1595, 1632, 1633, 1634, 1635, 1636, 1637, 1638, 1639, 1640, 1641, 1642, 1643, 1644, 1645, 1646, 1647, 1648, 1649, 1650, 1651, 1652, 1653, 1654, 1655, 1656, 1657, 1658, 1659, 1660, 1661, 1662, 1663, 1664, 1665, 1666, 1667, 1668, 1669, 1670, 1671] (by decide +kernel) (by decide +kernel)
set_option maxRecDepth 20000 in
theorem gL_law_X7_init : GoodIn wsL_law (wsX7_init) := ggL_law_X7_init
set_option maxRecDepth 20000 in
theorem ggL_law_X8_init : GoodIn wsL_law wsX8_init := goodIn_r _ [92, 93, 10, 11, 37, 94, 95, 96, 97, 98, 99, 100, 25, 101, 102, 31, 103, 104, 105, 106, 107, 5, 108, 1596, 1597, 1598, 1599, 1600, 1601, 1602, 1603, 1604, 1605, 1606, 1607, 1608, 1609, 1610, 1611, 1612, 1613, 1614, 1615, 1616, 1617, 1618, 1619, 1620, 1621, 1622] (by decide +kernel) (by decide +kernel)
set_option maxRecDepth 20000 in
theorem gL_law_X8_init : GoodIn wsL_law (wsX8_init) := ggL_law_X8_init
set_option maxRecDepth 20000 in
theorem ggL_law_X7_feed : GoodIn wsL_law wsX7_feed := goodIn_r _ [112, 15, 113, 114, 115, 116, 117, 14, 118, 119, 30, 1587, 1588, 1589, 1590, 1591, 1592, 1593, 1594, 1595, 1623, 1624, 1625, 1626, 1627, 1628, 1629, 1630, 1631] (by decide +kernel) (by decide +kernel)
set_option maxRecDepth 20000 in
theorem gL_law_X7_feed : GoodIn wsL_law (wsV RL 13 RX7 yX7_feed wsX7_feed) := goodIn_app (goodIn_of _ (by decide +kernel)) ggL_law_X7_feed
set_option maxRecDepth 20000 in
theorem ggL_law_X8_feed : GoodIn wsL_law wsX8_feed := goodIn_r _ [123, 124, 125, 126, 127, 128, 129, 5, 130, 102, 1596, 1597, 1598, 1599, 1600, 1601, 1602, 1603, 1604, 1605, 1606, 1607, 1608, 1609, 1610, 1611, 1612, 1613, 1614, 1615, 1616, 1617, 1618, 1619, 1620, 1621, 1622] (by decide +kernel) (by decide +kernel)
set_option maxRecDepth 20000 in
theorem gL_law_X8_feed : GoodIn wsL_law (wsV RL 17 RX8 yX8_feed wsX8_feed) := goodIn_app (goodIn_of _ (by decide +kernel)) ggL_law_X8_feed
set_option maxRecDepth 20000 in
theorem ggL_law_X7_load : GoodIn wsL_law wsX7_load := goodIn_r _ [134, 15, 113, 135, 20, 136, 137, 138, 139, 140, 19, 24, 141, 142, 143, 144, 14, 145, 119, 146, 147, 148, 149, 150, 151, 152, 153, 154, 155, 66, 67, 18, 68, 69, 70, 71, 72, 73, 74, 75, 76, 77, 78, 79, 80, 81, 82, 83, 84, 38, 156, 157, 158, 159, 160, 30, 161, 162, 163, 164, 165, 166, 167, 168, 169, 170, 171, 172, 173, 174, 175, 176, 177, 178, 179, 180, 181, 182, 183, 184, 185, 186, 187, 188, 189, 190, 191, 192, 193, 194, 195, 196, 197, 198, 199, 200, 201, 202, 203, 204, 205, 206, 207, 208, 209, 210, 211, 212, 213, 214, 215, 216, 217, 218, 219, 220, 221, 222, 223, 224, 225, 226, 227, 228, 229, 230, 231, 232, 233, 234, 235, 236, 237, 238, 239, 240, 241, 242, 243, 244, 245, 246, 247, 248, 249, 250, 251, 252, 253, 254, 255, 40, 256, 257, 258, 259, 260, 261, 262, 263, 264, 265, 266, 267, 268, 269, 270, 271, 272, 42, 273, 274, 275, 276, 277, 278, 279, 280, 50, 281, 282, 283, 284, 285, 286, 287, 61, 288, 289, 290, 291, 292, 293, 294, 295, 296, 297, 298, 299, 300, 301, 302, 303, 304, 305, 306, 44, 307, 308, 309, 310, 311, 312, 313, 314, 315, 316, 317, 318, 52, 319, 320, 321, 322, 323, 324, 325, 326, 327, 328, 329, 330, 331, 332, 333, 334, 335, 32, 336, 337, 338, 339, 340, 341, 342, 343, 344, 345, 346, 347, 348, 349, 350, 351, 352, 353, 354, 355, 356, 357, 358, 359, 360, 361, 362, 363, 364, 365, 45, 366, 367, 368, 369, 370, 371, 372, 373, 374, 375, 376, 377, 378, 59, 60, 379, 380, 381, 382, 383, 384, 385, 386, 387, 388, 389, 390, 391, 392, 393, 394, 395, 396, 397, 398, 399, 23, 400, 401, 402, 403, 404, 2, 405, 406, 407, 408, 409, 410, 411, 412, 1587, 1588, 1589, 1590, 1591, 1592, 1593, 1594, 1595, 1623, 1624, 1625, 1626, 1627, 1628, 1629, 1630, 1631, 1632, 1633, 1634, 1635, 1636, 1637, 1638, 1639, 1640, 1641, 1642, 1643, 1644, 1645, 1646, 1647, 1648, 1649, 1653, 1654, 1655, 1656, 1657, 1658, 1659, 1660, 1661, 1662, 1663, 1664, 1665, 1666, 1667, 1668, 1669, 1670, 1671, 1650, 1651, 1652, 1672, 1673, 1674, 1675, 1676, 1677, 1678] (by decide +kernel) (by decide +kernel)
set_option maxRecDepth 20000 in
theorem gL_law_X7_load : GoodIn wsL_law (wsV RL 18 RX7 yX7_load wsX7_load) := goodIn_app (goodIn_of _ (by decide +kernel)) ggL_law_X7_load
set_option maxRecDepth 20000 in
theorem ggL_law_X8_load : GoodIn wsL_law wsX8_load := goodIn_r _ [416, 124, 125, 417, 418, 419, 420, 421, 95, 422, 423, 424, 104, 105, 425, 94, 426, 427, 428, 5, 429, 106, 107, 108, 430, 431, 432, 433, 434, 102, 435, 436, 437, 438, 439, 440, 441, 442, 443, 444, 445, 446, 447, 448, 449, 450, 451, 452, 453, 454, 455, 456, 457, 458, 459, 460, 461, 462, 463, 464, 465, 466, 467, 468, 469, 470, 471, 472, 473, 474, 475, 476, 477, 478, 479, 480, 481, 482, 483, 484, 485, 486, 487, 488, 489, 490, 491, 492, 493, 494, 495, 496, 497, 498, 499, 500, 501, 502, 503, 504, 505, 506, 507, 508, 509, 510, 511, 512, 513, 103, 514, 515, 516, 517, 518, 519, 520, 521, 522, 523, 524, 525, 526, 527, 528, 529, 530, 531, 532, 533, 534, 535, 536, 537, 147, 148, 149, 538, 539, 540, 1596, 1597, 1598, 1599, 1600, 1601, 1602, 1603, 1604, 1605, 1606, 1607, 1608, 1609, 1610, 1611, 1612, 1613, 1614, 1615, 1616, 1617, 1618, 1619, 1620, 1621, 1622] (by decide +kernel) (by decide +kernel)
set_option maxRecDepth 20000 in
theorem gL_law_X8_load : GoodIn wsL_law (wsV RL 22 RX8 yX8_load wsX8_load) := goodIn_app (goodIn_of _ (by decide +kernel)) ggL_law_X8_load
set_option maxRecDepth 20000 in
theorem ggL_law_X7_errorKind : GoodIn wsL_law wsX7_errorKind := goodIn_r _ [544, 137, 1587, 1588, 1589, 1590, 1591, 1592, 1593, 1594, 1595] (by decide +kernel) (by decide +kernel)
set_option maxRecDepth 20000 in
theorem gL_law_X7_errorKind : GoodIn wsL_law (wsV RL 23 RX7 yX7_errorKind wsX7_errorKind) := goodIn_app (goodIn_of _ (by decide +kernel)) ggL_law_X7_errorKind
set_option maxRecDepth 20000 in
theorem ggL_law_X8_errorKind : GoodIn wsL_law wsX8_errorKind := goodIn_r _ [548, 124, 423, 1596, 1597, 1598, 1599, 1600, 1601, 1602, 1603, 1604, 1605, 1606, 1607, 1608, 1609, 1610, 1611, 1612, 1613, 1614, 1615, 1616, 1617, 1618, 1619, 1620, 1621, 1622] (by decide +kernel) (by decide +kernel)
set_option maxRecDepth 20000 in
theorem gL_law_X8_errorKind : GoodIn wsL_law (wsV RL 27 RX8 yX8_errorKind wsX8_errorKind) := goodIn_app (goodIn_of _ (by decide +kernel)) ggL_law_X8_errorKind
set_option maxRecDepth 20000 in
theorem ggL_law_X7_errorPosition : GoodIn wsL_law wsX7_errorPosition := goodIn_r _ [552, 137, 553, 139, 1587, 1588, 1589, 1590, 1591, 1592, 1593, 1594, 1595] (by decide +kernel) (by decide +kernel)
set_option maxRecDepth 20000 in
theorem gL_law_X7_errorPosition : GoodIn wsL_law (wsV RL 28 RX7 yX7_errorPosition wsX7_errorPosition) := goodIn_app (goodIn_of _ (by decide +kernel)) ggL_law_X7_errorPosition
set_option maxRecDepth 20000 in
theorem ggL_law_X8_errorPosition : GoodIn wsL_law wsX8_errorPosition := goodIn_r _ [557, 124, 105, 1596, 1597, 1598, 1599, 1600, 1601, 1602, 1603, 1604, 1605, 1606, 1607, 1608, 1609, 1610, 1611, 1612, 1613, 1614, 1615, 1616, 1617, 1618, 1619, 1620, 1621, 1622] (by decide +kernel) (by decide +kernel)
set_option maxRecDepth 20000 in
theorem gL_law_X8_errorPosition : GoodIn wsL_law (wsV RL 31 RX8 yX8_errorPosition wsX8_errorPosition) := goodIn_app (goodIn_of _ (by decide +kernel)) ggL_law_X8_errorPosition
set_option maxRecDepth 20000 in
theorem ggL_law_X7_homeSlot : GoodIn wsL_law wsX7_homeSlot := goodIn_r _ [561, 19, 562, 563, 564, 565, 371, 372, 18, 373, 72, 1587, 1588, 1589, 1590, 1591, 1592, 1593, 1594, 1595, 1632, 1633, 1634, 1635, 1636, 1637, 1638, 1639, 1640, 1641, 1642, 1643, 1644, 1645, 1646, 1647, 1648, 1649, 1656, 1657, 1658, 1659, 1660, 1661, 1662, 1663, 1664] (by decide +kernel) (by decide +kernel)
set_option maxRecDepth 20000 in
theorem gL_law_X7_homeSlot : GoodIn wsL_law (wsV RL 32 RX7 yX7_homeSlot wsX7_homeSlot) := goodIn_app (goodIn_of _ (by decide +kernel)) ggL_law_X7_homeSlot
set_option maxRecDepth 20000 in
theorem ggL_law_X8_homeSlot : GoodIn wsL_law wsX8_homeSlot := goodIn_r _ [569, 124, 94, 570, 571, 572, 573, 5, 574, 427, 428, 429, 1596, 1597, 1598, 1599, 1600, 1601, 1602, 1603, 1604, 1605, 1606, 1607, 1608, 1609, 1610, 1611, 1612, 1613, 1614, 1615, 1616, 1617, 1618, 1619, 1620, 1621, 1622] (by decide +kernel) (by decide +kernel)
set_option maxRecDepth 20000 in
theorem gL_law_X8_homeSlot : GoodIn wsL_law (wsV RL 35 RX8 yX8_homeSlot wsX8_homeSlot) := goodIn_app (goodIn_of _ (by decide +kernel)) ggL_law_X8_homeSlot
set_option maxRecDepth 20000 in
theorem ggL_law_X7_platterInSlot : GoodIn wsL_law wsX7_platterInSlot := goodIn_r _ [578, 19, 564, 553, 579, 580, 581, 18, 582, 69, 583, 270, 271, 272, 72, 42, 273, 584, 585, 586, 587, 70, 40, 257, 1587, 1588, 1589, 1590, 1591, 1592, 1593, 1594, 1595, 1632, 1633, 1634, 1635, 1636, 1637, 1638, 1639, 1640, 1641, 1642, 1643, 1644, 1645, 1646, 1647, 1648, 1649, 1656, 1657, 1658, 1659, 1660, 1661, 1662, 1663, 1664, 1653, 1654, 1655] (by decide +kernel) (by decide +kernel)
set_option maxRecDepth 20000 in
theorem gL_law_X7_platterInSlot : GoodIn wsL_law (wsV RL 36 RX7 yX7_platterInSlot wsX7_platterInSlot) := goodIn_app (goodIn_of _ (by decide +kernel)) ggL_law_X7_platterInSlot
set_option maxRecDepth 20000 in
theorem ggL_law_X8_platterInSlot : GoodIn wsL_law wsX8_platterInSlot := goodIn_r _ [591, 124, 570, 94, 104, 592, 593, 594, 5, 595, 427, 428, 429, 596, 597, 598, 599, 1596, 1597, 1598, 1599, 1600, 1601, 1602, 1603, 1604, 1605, 1606, 1607, 1608, 1609, 1610, 1611, 1612, 1613, 1614, 1615, 1616, 1617, 1618, 1619, 1620, 1621, 1622] (by decide +kernel) (by decide +kernel)
set_option maxRecDepth 20000 in
theorem gL_law_X8_platterInSlot : GoodIn wsL_law (wsV RL 39 RX8 yX8_platterInSlot wsX8_platterInSlot) := goodIn_app (goodIn_of _ (by decide +kernel)) ggL_law_X8_platterInSlot
set_option maxRecDepth 20000 in
theorem ggL_law_X7_driveOf : GoodIn wsL_law wsX7_driveOf := goodIn_r _ [603, 19, 564, 565, 371, 372, 18, 373, 72, 584, 585, 586, 587, 70, 40, 257, 604, 605, 2, 606, 553, 1587, 1588, 1589, 1590, 1591, 1592, 1593, 1594, 1595, 1632, 1633, 1634, 1635, 1636, 1637, 1638, 1639, 1640, 1641, 1642, 1643, 1644, 1645, 1646, 1647, 1648, 1649, 1653, 1654, 1655] (by decide +kernel) (by decide +kernel)
set_option maxRecDepth 20000 in
theorem gL_law_X7_driveOf : GoodIn wsL_law (wsV RL 40 RX7 yX7_driveOf wsX7_driveOf) := goodIn_app (goodIn_of _ (by decide +kernel)) ggL_law_X7_driveOf
set_option maxRecDepth 20000 in
theorem ggL_law_X8_driveOf : GoodIn wsL_law wsX8_driveOf := goodIn_r _ [610, 124, 570, 571, 572, 573, 5, 574, 94, 427, 428, 429, 596, 597, 598, 599, 611, 612, 613, 104, 1596, 1597, 1598, 1599, 1600, 1601, 1602, 1603, 1604, 1605, 1606, 1607, 1608, 1609, 1610, 1611, 1612, 1613, 1614, 1615, 1616, 1617, 1618, 1619, 1620, 1621, 1622] (by decide +kernel) (by decide +kernel)
set_option maxRecDepth 20000 in
theorem gL_law_X8_driveOf : GoodIn wsL_law (wsV RL 43 RX8 yX8_driveOf wsX8_driveOf) := goodIn_app (goodIn_of _ (by decide +kernel)) ggL_law_X8_driveOf
set_option maxRecDepth 20000 in
theorem ggL_law_X7_platterInDrive : GoodIn wsL_law wsX7_platterInDrive := goodIn_r _ [617, 19, 618, 619, 564, 620, 621, 622, 18, 623, 70, 604, 605, 2, 606, 553, 1587, 1588, 1589, 1590, 1591, 1592, 1593, 1594, 1595, 1632, 1633, 1634, 1635, 1636, 1637, 1638, 1639, 1640, 1641, 1642, 1643, 1644, 1645, 1646, 1647, 1648, 1649, 1653, 1654, 1655] (by decide +kernel) (by decide +kernel)
set_option maxRecDepth 20000 in
theorem gL_law_X7_platterInDrive : GoodIn wsL_law (wsV RL 44 RX7 yX7_platterInDrive wsX7_platterInDrive) := goodIn_app (goodIn_of _ (by decide +kernel)) ggL_law_X7_platterInDrive
set_option maxRecDepth 20000 in
theorem ggL_law_X8_platterInDrive : GoodIn wsL_law wsX8_platterInDrive := goodIn_r _ [627, 124, 94, 570, 628, 629, 630, 5, 631, 427, 428, 429, 611, 612, 613, 104, 1596, 1597, 1598, 1599, 1600, 1601, 1602, 1603, 1604, 1605, 1606, 1607, 1608, 1609, 1610, 1611, 1612, 1613, 1614, 1615, 1616, 1617, 1618, 1619, 1620, 1621, 1622] (by decide +kernel) (by decide +kernel)
set_option maxRecDepth 20000 in
theorem gL_law_X8_platterInDrive : GoodIn wsL_law (wsV RL 47 RX8 yX8_platterInDrive wsX8_platterInDrive) := goodIn_app (goodIn_of _ (by decide +kernel)) ggL_law_X8_platterInDrive
set_option maxRecDepth 20000 in
theorem ggL_law_X7_pickerPosition : GoodIn wsL_law wsX7_pickerPosition := goodIn_r _ [635, 19, 636, 1587, 1588, 1589, 1590, 1591, 1592, 1593, 1594, 1595, 1632, 1633, 1634, 1635, 1636, 1637, 1638, 1639, 1640, 1641, 1642, 1643, 1644, 1645, 1646, 1647, 1648, 1649] (by decide +kernel) (by decide +kernel)
set_option maxRecDepth 20000 in
theorem gL_law_X7_pickerPosition : GoodIn wsL_law (wsV RL 48 RX7 yX7_pickerPosition wsX7_pickerPosition) := goodIn_app (goodIn_of _ (by decide +kernel)) ggL_law_X7_pickerPosition
set_option maxRecDepth 20000 in
theorem ggL_law_X8_pickerPosition : GoodIn wsL_law wsX8_pickerPosition := goodIn_r _ [640, 124, 94, 1596, 1597, 1598, 1599, 1600, 1601, 1602, 1603, 1604, 1605, 1606, 1607, 1608, 1609, 1610, 1611, 1612, 1613, 1614, 1615, 1616, 1617, 1618, 1619, 1620, 1621, 1622] (by decide +kernel) (by decide +kernel)
set_option maxRecDepth 20000 in
theorem gL_law_X8_pickerPosition : GoodIn wsL_law (wsV RL 51 RX8 yX8_pickerPosition wsX8_pickerPosition) := goodIn_app (goodIn_of _ (by decide +kernel)) ggL_law_X8_pickerPosition
set_option maxRecDepth 20000 in
theorem ggL_law_X7_clock : GoodIn wsL_law wsX7_clock := goodIn_r _ [644, 19, 645, 1587, 1588, 1589, 1590, 1591, 1592, 1593, 1594, 1595, 1632, 1633, 1634, 1635, 1636, 1637, 1638, 1639, 1640, 1641, 1642, 1643, 1644, 1645, 1646, 1647, 1648, 1649] (by decide +kernel) (by decide +kernel)
set_option maxRecDepth 20000 in
theorem gL_law_X7_clock : GoodIn wsL_law (wsV RL 52 RX7 yX7_clock wsX7_clock) := goodIn_app (goodIn_of _ (by decide +kernel)) ggL_law_X7_clock
set_option maxRecDepth 20000 in
theorem ggL_law_X8_clock : GoodIn wsL_law wsX8_clock := goodIn_r _ [649, 124, 94, 1596, 1597, 1598, 1599, 1600, 1601, 1602, 1603, 1604, 1605, 1606, 1607, 1608, 1609, 1610, 1611, 1612, 1613, 1614, 1615, 1616, 1617, 1618, 1619, 1620, 1621, 1622] (by decide +kernel) (by decide +kernel)
set_option maxRecDepth 20000 in
theorem gL_law_X8_clock : GoodIn wsL_law (wsV RL 55 RX8 yX8_clock wsX8_clock) := goodIn_app (goodIn_of _ (by decide +kernel)) ggL_law_X8_clock
set_option maxRecDepth 20000 in
theorem ggL_law_X7_exchanges : GoodIn wsL_law wsX7_exchanges := goodIn_r _ [653, 19, 654, 1587, 1588, 1589, 1590, 1591, 1592, 1593, 1594, 1595, 1632, 1633, 1634, 1635, 1636, 1637, 1638, 1639, 1640, 1641, 1642, 1643, 1644, 1645, 1646, 1647, 1648, 1649] (by decide +kernel) (by decide +kernel)
set_option maxRecDepth 20000 in
theorem gL_law_X7_exchanges : GoodIn wsL_law (wsV RL 56 RX7 yX7_exchanges wsX7_exchanges) := goodIn_app (goodIn_of _ (by decide +kernel)) ggL_law_X7_exchanges
set_option maxRecDepth 20000 in
theorem ggL_law_X8_exchanges : GoodIn wsL_law wsX8_exchanges := goodIn_r _ [658, 124, 94, 1596, 1597, 1598, 1599, 1600, 1601, 1602, 1603, 1604, 1605, 1606, 1607, 1608, 1609, 1610, 1611, 1612, 1613, 1614, 1615, 1616, 1617, 1618, 1619, 1620, 1621, 1622] (by decide +kernel) (by decide +kernel)
set_option maxRecDepth 20000 in
theorem gL_law_X8_exchanges : GoodIn wsL_law (wsV RL 59 RX8 yX8_exchanges wsX8_exchanges) := goodIn_app (goodIn_of _ (by decide +kernel)) ggL_law_X8_exchanges
set_option maxRecDepth 20000 in
theorem ggL_law_X7_travel : GoodIn wsL_law wsX7_travel := goodIn_r _ [662, 19, 663, 1587, 1588, 1589, 1590, 1591, 1592, 1593, 1594, 1595, 1632, 1633, 1634, 1635, 1636, 1637, 1638, 1639, 1640, 1641, 1642, 1643, 1644, 1645, 1646, 1647, 1648, 1649] (by decide +kernel) (by decide +kernel)
set_option maxRecDepth 20000 in
theorem gL_law_X7_travel : GoodIn wsL_law (wsV RL 60 RX7 yX7_travel wsX7_travel) := goodIn_app (goodIn_of _ (by decide +kernel)) ggL_law_X7_travel
set_option maxRecDepth 20000 in
theorem ggL_law_X8_travel : GoodIn wsL_law wsX8_travel := goodIn_r _ [667, 124, 94, 1596, 1597, 1598, 1599, 1600, 1601, 1602, 1603, 1604, 1605, 1606, 1607, 1608, 1609, 1610, 1611, 1612, 1613, 1614, 1615, 1616, 1617, 1618, 1619, 1620, 1621, 1622] (by decide +kernel) (by decide +kernel)
set_option maxRecDepth 20000 in
theorem gL_law_X8_travel : GoodIn wsL_law (wsV RL 63 RX8 yX8_travel wsX8_travel) := goodIn_app (goodIn_of _ (by decide +kernel)) ggL_law_X8_travel
set_option maxRecDepth 20000 in
theorem ggL_law_X7_chosenDrive : GoodIn wsL_law wsX7_chosenDrive := goodIn_r _ [671, 19, 672, 673, 674, 2, 675, 564, 676, 677, 565, 371, 372, 18, 373, 72, 678, 679, 680, 681, 682, 585, 586, 587, 70, 40, 257, 683, 684, 685, 686, 71, 258, 1587, 1588, 1589, 1590, 1591, 1592, 1593, 1594, 1595, 1632, 1633, 1634, 1635, 1636, 1637, 1638, 1639, 1640, 1641, 1642, 1643, 1644, 1645, 1646, 1647, 1648, 1649, 1653, 1654, 1655] (by decide +kernel) (by decide +kernel)
set_option maxRecDepth 20000 in
theorem gL_law_X7_chosenDrive : GoodIn wsL_law (wsV RL 64 RX7 yX7_chosenDrive wsX7_chosenDrive) := goodIn_app (goodIn_of _ (by decide +kernel)) ggL_law_X7_chosenDrive
set_option maxRecDepth 20000 in
theorem ggL_law_X8_chosenDrive : GoodIn wsL_law wsX8_chosenDrive := goodIn_r _ [690, 124, 570, 94, 691, 571, 572, 573, 5, 574, 427, 428, 429, 692, 693, 694, 695, 596, 597, 598, 599, 696, 697, 698, 699, 1596, 1597, 1598, 1599, 1600, 1601, 1602, 1603, 1604, 1605, 1606, 1607, 1608, 1609, 1610, 1611, 1612, 1613, 1614, 1615, 1616, 1617, 1618, 1619, 1620, 1621, 1622] (by decide +kernel) (by decide +kernel)
set_option maxRecDepth 20000 in
theorem gL_law_X8_chosenDrive : GoodIn wsL_law (wsV RL 67 RX8 yX8_chosenDrive wsX8_chosenDrive) := goodIn_app (goodIn_of _ (by decide +kernel)) ggL_law_X8_chosenDrive
set_option maxRecDepth 20000 in
theorem ggL_law_X7_mountTime : GoodIn wsL_law wsX7_mountTime := goodIn_r _ [703, 19, 672, 673, 674, 2, 675, 564, 676, 677, 565, 371, 372, 18, 373, 72, 704, 705, 706, 707, 708, 679, 680, 681, 682, 585, 586, 587, 70, 40, 257, 683, 684, 685, 686, 71, 258, 709, 710, 711, 712, 38, 713, 714, 715, 716, 256, 77, 42, 273, 717, 718, 148, 719, 1587, 1588, 1589, 1590, 1591, 1592, 1593, 1594, 1595, 1632, 1633, 1634, 1635, 1636, 1637, 1638, 1639, 1640, 1641, 1642, 1643, 1644, 1645, 1646, 1647, 1648, 1649, 1653, 1654, 1655, 1656, 1657, 1658, 1659, 1660, 1661, 1662, 1663, 1664] (by decide +kernel) (by decide +kernel)
set_option maxRecDepth 20000 in
theorem gL_law_X7_mountTime : GoodIn wsL_law (wsV RL 68 RX7 yX7_mountTime wsX7_mountTime) := goodIn_app (goodIn_of _ (by decide +kernel)) ggL_law_X7_mountTime
set_option maxRecDepth 20000 in
theorem ggL_law_X8_mountTime : GoodIn wsL_law wsX8_mountTime := goodIn_r _ [723, 124, 570, 94, 691, 571, 572, 573, 5, 574, 427, 428, 429, 724, 725, 726, 727, 596, 597, 598, 599, 696, 697, 698, 699, 728, 729, 730, 731, 732, 733, 734, 735, 96, 736, 538, 539, 540, 737, 738, 739, 740, 741, 742, 743, 744, 745, 746, 747, 748, 749, 750, 751, 752, 753, 754, 755, 756, 757, 758, 759, 760, 761, 762, 763, 1596, 1597, 1598, 1599, 1600, 1601, 1602, 1603, 1604, 1605, 1606, 1607, 1608, 1609, 1610, 1611, 1612, 1613, 1614, 1615, 1616, 1617, 1618, 1619, 1620, 1621, 1622] (by decide +kernel) (by decide +kernel)
set_option maxRecDepth 20000 in
theorem gL_law_X8_mountTime : GoodIn wsL_law (wsV RL 71 RX8 yX8_mountTime wsX8_mountTime) := goodIn_app (goodIn_of _ (by decide +kernel)) ggL_law_X8_mountTime
set_option maxRecDepth 20000 in
theorem ggL_law_X7_mountTimeIn : GoodIn wsL_law wsX7_mountTimeIn := goodIn_r _ [767, 19, 564, 553, 565, 371, 372, 18, 373, 72, 620, 621, 622, 623, 70, 584, 585, 586, 587, 40, 257, 768, 710, 711, 712, 38, 713, 714, 715, 716, 256, 77, 42, 273, 717, 718, 148, 719, 1587, 1588, 1589, 1590, 1591, 1592, 1593, 1594, 1595, 1632, 1633, 1634, 1635, 1636, 1637, 1638, 1639, 1640, 1641, 1642, 1643, 1644, 1645, 1646, 1647, 1648, 1649, 1653, 1654, 1655, 1656, 1657, 1658, 1659, 1660, 1661, 1662, 1663, 1664] (by decide +kernel) (by decide +kernel)
set_option maxRecDepth 20000 in
theorem gL_law_X7_mountTimeIn : GoodIn wsL_law (wsV RL 72 RX7 yX7_mountTimeIn wsX7_mountTimeIn) := goodIn_app (goodIn_of _ (by decide +kernel)) ggL_law_X7_mountTimeIn
set_option maxRecDepth 20000 in
theorem ggL_law_X8_mountTimeIn : GoodIn wsL_law wsX8_mountTimeIn := goodIn_r _ [772, 124, 570, 104, 571, 572, 573, 5, 574, 94, 427, 428, 429, 628, 629, 630, 631, 596, 597, 598, 599, 728, 729, 730, 731, 732, 733, 734, 735, 96, 736, 538, 539, 540, 737, 738, 739, 740, 741, 742, 743, 744, 745, 746, 747, 748, 749, 750, 751, 752, 753, 754, 755, 756, 757, 758, 759, 760, 761, 762, 763, 1596, 1597, 1598, 1599, 1600, 1601, 1602, 1603, 1604, 1605, 1606, 1607, 1608, 1609, 1610, 1611, 1612, 1613, 1614, 1615, 1616, 1617, 1618, 1619, 1620, 1621, 1622] (by decide +kernel) (by decide +kernel)
set_option maxRecDepth 20000 in
theorem gL_law_X8_mountTimeIn : GoodIn wsL_law (wsV RL 76 RX8 yX8_mountTimeIn wsX8_mountTimeIn) := goodIn_app (goodIn_of _ (by decide +kernel)) ggL_law_X8_mountTimeIn
set_option maxRecDepth 20000 in
theorem ggL_law_X7_freeSectors : GoodIn wsL_law wsX7_freeSectors := goodIn_r _ [776, 19, 562, 564, 565, 371, 372, 18, 373, 72, 777, 346, 347, 50, 348, 283, 285, 1587, 1588, 1589, 1590, 1591, 1592, 1593, 1594, 1595, 1632, 1633, 1634, 1635, 1636, 1637, 1638, 1639, 1640, 1641, 1642, 1643, 1644, 1645, 1646, 1647, 1648, 1649, 1656, 1657, 1658, 1659, 1660, 1661, 1662, 1663, 1664] (by decide +kernel) (by decide +kernel)
set_option maxRecDepth 20000 in
theorem gL_law_X7_freeSectors : GoodIn wsL_law (wsV RL 77 RX7 yX7_freeSectors wsX7_freeSectors) := goodIn_app (goodIn_of _ (by decide +kernel)) ggL_law_X7_freeSectors
set_option maxRecDepth 20000 in
theorem ggL_law_X8_freeSectors : GoodIn wsL_law wsX8_freeSectors := goodIn_r _ [781, 124, 570, 571, 572, 573, 5, 574, 94, 427, 428, 429, 782, 783, 784, 785, 1596, 1597, 1598, 1599, 1600, 1601, 1602, 1603, 1604, 1605, 1606, 1607, 1608, 1609, 1610, 1611, 1612, 1613, 1614, 1615, 1616, 1617, 1618, 1619, 1620, 1621, 1622] (by decide +kernel) (by decide +kernel)
set_option maxRecDepth 20000 in
theorem gL_law_X8_freeSectors : GoodIn wsL_law (wsV RL 80 RX8 yX8_freeSectors wsX8_freeSectors) := goodIn_app (goodIn_of _ (by decide +kernel)) ggL_law_X8_freeSectors
set_option maxRecDepth 20000 in
theorem ggL_law_X7_sessionCount : GoodIn wsL_law wsX7_sessionCount := goodIn_r _ [789, 19, 562, 790, 564, 565, 371, 372, 18, 373, 72, 1587, 1588, 1589, 1590, 1591, 1592, 1593, 1594, 1595, 1632, 1633, 1634, 1635, 1636, 1637, 1638, 1639, 1640, 1641, 1642, 1643, 1644, 1645, 1646, 1647, 1648, 1649, 1656, 1657, 1658, 1659, 1660, 1661, 1662, 1663, 1664] (by decide +kernel) (by decide +kernel)
set_option maxRecDepth 20000 in
theorem gL_law_X7_sessionCount : GoodIn wsL_law (wsV RL 81 RX7 yX7_sessionCount wsX7_sessionCount) := goodIn_app (goodIn_of _ (by decide +kernel)) ggL_law_X7_sessionCount
set_option maxRecDepth 20000 in
theorem ggL_law_X8_sessionCount : GoodIn wsL_law wsX8_sessionCount := goodIn_r _ [794, 124, 94, 570, 571, 572, 573, 5, 574, 427, 428, 429, 1596, 1597, 1598, 1599, 1600, 1601, 1602, 1603, 1604, 1605, 1606, 1607, 1608, 1609, 1610, 1611, 1612, 1613, 1614, 1615, 1616, 1617, 1618, 1619, 1620, 1621, 1622] (by decide +kernel) (by decide +kernel)
set_option maxRecDepth 20000 in
theorem gL_law_X8_sessionCount : GoodIn wsL_law (wsV RL 84 RX8 yX8_sessionCount wsX8_sessionCount) := goodIn_app (goodIn_of _ (by decide +kernel)) ggL_law_X8_sessionCount
set_option maxRecDepth 20000 in
theorem ggL_law_X7_hasOpenSession : GoodIn wsL_law wsX7_hasOpenSession := goodIn_r _ [798, 19, 564, 562, 799, 565, 371, 372, 18, 373, 72, 1587, 1588, 1589, 1590, 1591, 1592, 1593, 1594, 1595, 1632, 1633, 1634, 1635, 1636, 1637, 1638, 1639, 1640, 1641, 1642, 1643, 1644, 1645, 1646, 1647, 1648, 1649, 1656, 1657, 1658, 1659, 1660, 1661, 1662, 1663, 1664] (by decide +kernel) (by decide +kernel)
set_option maxRecDepth 20000 in
theorem gL_law_X7_hasOpenSession : GoodIn wsL_law (wsV RL 85 RX7 yX7_hasOpenSession wsX7_hasOpenSession) := goodIn_app (goodIn_of _ (by decide +kernel)) ggL_law_X7_hasOpenSession
set_option maxRecDepth 20000 in
theorem ggL_law_X8_hasOpenSession : GoodIn wsL_law wsX8_hasOpenSession := goodIn_r _ [803, 124, 94, 570, 571, 572, 573, 5, 574, 427, 428, 429, 1596, 1597, 1598, 1599, 1600, 1601, 1602, 1603, 1604, 1605, 1606, 1607, 1608, 1609, 1610, 1611, 1612, 1613, 1614, 1615, 1616, 1617, 1618, 1619, 1620, 1621, 1622] (by decide +kernel) (by decide +kernel)
set_option maxRecDepth 20000 in
theorem gL_law_X8_hasOpenSession : GoodIn wsL_law (wsV RL 88 RX8 yX8_hasOpenSession wsX8_hasOpenSession) := goodIn_app (goodIn_of _ (by decide +kernel)) ggL_law_X8_hasOpenSession
set_option maxRecDepth 20000 in
theorem ggL_law_X7_sessionStart : GoodIn wsL_law wsX7_sessionStart := goodIn_r _ [807, 19, 564, 562, 808, 809, 810, 811, 18, 812, 42, 364, 370, 371, 372, 373, 72, 1587, 1588, 1589, 1590, 1591, 1592, 1593, 1594, 1595, 1632, 1633, 1634, 1635, 1636, 1637, 1638, 1639, 1640, 1641, 1642, 1643, 1644, 1645, 1646, 1647, 1648, 1649, 1656, 1657, 1658, 1659, 1660, 1661, 1662, 1663, 1664] (by decide +kernel) (by decide +kernel)
set_option maxRecDepth 20000 in
theorem gL_law_X7_sessionStart : GoodIn wsL_law (wsV RL 89 RX7 yX7_sessionStart wsX7_sessionStart) := goodIn_app (goodIn_of _ (by decide +kernel)) ggL_law_X7_sessionStart
set_option maxRecDepth 20000 in
theorem ggL_law_X8_sessionStart : GoodIn wsL_law wsX8_sessionStart := goodIn_r _ [816, 124, 94, 570, 817, 818, 819, 5, 820, 571, 572, 573, 574, 427, 428, 429, 1596, 1597, 1598, 1599, 1600, 1601, 1602, 1603, 1604, 1605, 1606, 1607, 1608, 1609, 1610, 1611, 1612, 1613, 1614, 1615, 1616, 1617, 1618, 1619, 1620, 1621, 1622] (by decide +kernel) (by decide +kernel)
set_option maxRecDepth 20000 in
theorem gL_law_X8_sessionStart : GoodIn wsL_law (wsV RL 92 RX8 yX8_sessionStart wsX8_sessionStart) := goodIn_app (goodIn_of _ (by decide +kernel)) ggL_law_X8_sessionStart
set_option maxRecDepth 20000 in
theorem ggL_law_X7_sessionSize : GoodIn wsL_law wsX7_sessionSize := goodIn_r _ [824, 19, 564, 562, 825, 809, 810, 811, 18, 812, 42, 364, 370, 371, 372, 373, 72, 1587, 1588, 1589, 1590, 1591, 1592, 1593, 1594, 1595, 1632, 1633, 1634, 1635, 1636, 1637, 1638, 1639, 1640, 1641, 1642, 1643, 1644, 1645, 1646, 1647, 1648, 1649, 1656, 1657, 1658, 1659, 1660, 1661, 1662, 1663, 1664] (by decide +kernel) (by decide +kernel)
set_option maxRecDepth 20000 in
theorem gL_law_X7_sessionSize : GoodIn wsL_law (wsV RL 93 RX7 yX7_sessionSize wsX7_sessionSize) := goodIn_app (goodIn_of _ (by decide +kernel)) ggL_law_X7_sessionSize
set_option maxRecDepth 20000 in
theorem ggL_law_X8_sessionSize : GoodIn wsL_law wsX8_sessionSize := goodIn_r _ [829, 124, 94, 570, 817, 818, 819, 5, 820, 571, 572, 573, 574, 427, 428, 429, 1596, 1597, 1598, 1599, 1600, 1601, 1602, 1603, 1604, 1605, 1606, 1607, 1608, 1609, 1610, 1611, 1612, 1613, 1614, 1615, 1616, 1617, 1618, 1619, 1620, 1621, 1622] (by decide +kernel) (by decide +kernel)
set_option maxRecDepth 20000 in
theorem gL_law_X8_sessionSize : GoodIn wsL_law (wsV RL 96 RX8 yX8_sessionSize wsX8_sessionSize) := goodIn_app (goodIn_of _ (by decide +kernel)) ggL_law_X8_sessionSize
set_option maxRecDepth 20000 in
theorem ggL_law_X7_sparesLeft : GoodIn wsL_law wsX7_sparesLeft := goodIn_r _ [833, 19, 562, 834, 564, 565, 371, 372, 18, 373, 72, 1587, 1588, 1589, 1590, 1591, 1592, 1593, 1594, 1595, 1632, 1633, 1634, 1635, 1636, 1637, 1638, 1639, 1640, 1641, 1642, 1643, 1644, 1645, 1646, 1647, 1648, 1649, 1656, 1657, 1658, 1659, 1660, 1661, 1662, 1663, 1664] (by decide +kernel) (by decide +kernel)
set_option maxRecDepth 20000 in
theorem gL_law_X7_sparesLeft : GoodIn wsL_law (wsV RL 97 RX7 yX7_sparesLeft wsX7_sparesLeft) := goodIn_app (goodIn_of _ (by decide +kernel)) ggL_law_X7_sparesLeft
set_option maxRecDepth 20000 in
theorem ggL_law_X8_sparesLeft : GoodIn wsL_law wsX8_sparesLeft := goodIn_r _ [838, 124, 94, 570, 571, 572, 573, 5, 574, 427, 428, 429, 1596, 1597, 1598, 1599, 1600, 1601, 1602, 1603, 1604, 1605, 1606, 1607, 1608, 1609, 1610, 1611, 1612, 1613, 1614, 1615, 1616, 1617, 1618, 1619, 1620, 1621, 1622] (by decide +kernel) (by decide +kernel)
set_option maxRecDepth 20000 in
theorem gL_law_X8_sparesLeft : GoodIn wsL_law (wsV RL 100 RX8 yX8_sparesLeft wsX8_sparesLeft) := goodIn_app (goodIn_of _ (by decide +kernel)) ggL_law_X8_sparesLeft
set_option maxRecDepth 20000 in
theorem ggL_law_X7_staleSectors : GoodIn wsL_law wsX7_staleSectors := goodIn_r _ [842, 19, 564, 565, 371, 372, 18, 373, 72, 843, 844, 845, 846, 74, 44, 359, 362, 847, 848, 849, 850, 45, 358, 1587, 1588, 1589, 1590, 1591, 1592, 1593, 1594, 1595, 1632, 1633, 1634, 1635, 1636, 1637, 1638, 1639, 1640, 1641, 1642, 1643, 1644, 1645, 1646, 1647, 1648, 1649, 1665, 1666, 1667, 1668, 1669, 1670, 1671] (by decide +kernel) (by decide +kernel)
set_option maxRecDepth 20000 in
theorem gL_law_X7_staleSectors : GoodIn wsL_law (wsV RL 101 RX7 yX7_staleSectors wsX7_staleSectors) := goodIn_app (goodIn_of _ (by decide +kernel)) ggL_law_X7_staleSectors
set_option maxRecDepth 20000 in
theorem ggL_law_X8_staleSectors : GoodIn wsL_law wsX8_staleSectors := goodIn_r _ [854, 124, 570, 94, 571, 572, 573, 5, 574, 427, 428, 429, 855, 856, 857, 858, 1596, 1597, 1598, 1599, 1600, 1601, 1602, 1603, 1604, 1605, 1606, 1607, 1608, 1609, 1610, 1611, 1612, 1613, 1614, 1615, 1616, 1617, 1618, 1619, 1620, 1621, 1622] (by decide +kernel) (by decide +kernel)
set_option maxRecDepth 20000 in
theorem gL_law_X8_staleSectors : GoodIn wsL_law (wsV RL 104 RX8 yX8_staleSectors wsX8_staleSectors) := goodIn_app (goodIn_of _ (by decide +kernel)) ggL_law_X8_staleSectors
set_option maxRecDepth 20000 in
theorem ggL_law_X7_sectorKind : GoodIn wsL_law wsX7_sectorKind := goodIn_r _ [862, 19, 564, 863, 864, 865, 18, 866, 42, 867, 370, 371, 372, 373, 72, 868, 869, 870, 871, 360, 312, 313, 314, 315, 74, 44, 316, 317, 318, 52, 319, 320, 321, 322, 847, 848, 849, 850, 45, 358, 872, 300, 301, 50, 302, 61, 1587, 1588, 1589, 1590, 1591, 1592, 1593, 1594, 1595, 1632, 1633, 1634, 1635, 1636, 1637, 1638, 1639, 1640, 1641, 1642, 1643, 1644, 1645, 1646, 1647, 1648, 1649, 1656, 1657, 1658, 1659, 1660, 1661, 1662, 1663, 1664, 1665, 1666, 1667, 1668, 1669, 1670, 1671] (by decide +kernel) (by decide +kernel)
set_option maxRecDepth 20000 in
theorem gL_law_X7_sectorKind : GoodIn wsL_law (wsV RL 105 RX7 yX7_sectorKind wsX7_sectorKind) := goodIn_app (goodIn_of _ (by decide +kernel)) ggL_law_X7_sectorKind
set_option maxRecDepth 20000 in
theorem ggL_law_X8_sectorKind : GoodIn wsL_law wsX8_sectorKind := goodIn_r _ [876, 124, 570, 94, 877, 878, 879, 5, 880, 571, 572, 573, 574, 427, 428, 429, 507, 508, 509, 855, 856, 857, 858, 501, 502, 503, 1596, 1597, 1598, 1599, 1600, 1601, 1602, 1603, 1604, 1605, 1606, 1607, 1608, 1609, 1610, 1611, 1612, 1613, 1614, 1615, 1616, 1617, 1618, 1619, 1620, 1621, 1622] (by decide +kernel) (by decide +kernel)
set_option maxRecDepth 20000 in
theorem gL_law_X8_sectorKind : GoodIn wsL_law (wsV RL 108 RX8 yX8_sectorKind wsX8_sectorKind) := goodIn_app (goodIn_of _ (by decide +kernel)) ggL_law_X8_sectorKind
set_option maxRecDepth 20000 in
theorem ggL_law_X7_fillBits : GoodIn wsL_law wsX7_fillBits := goodIn_r _ [884, 19, 564, 562, 885, 886, 565, 371, 372, 18, 373, 72, 887, 888, 2, 889, 890, 891, 1587, 1588, 1589, 1590, 1591, 1592, 1593, 1594, 1595, 1632, 1633, 1634, 1635, 1636, 1637, 1638, 1639, 1640, 1641, 1642, 1643, 1644, 1645, 1646, 1647, 1648, 1649, 1656, 1657, 1658, 1659, 1660, 1661, 1662, 1663, 1664] (by decide +kernel) (by decide +kernel)
set_option maxRecDepth 20000 in
theorem gL_law_X7_fillBits : GoodIn wsL_law (wsV RL 109 RX7 yX7_fillBits wsX7_fillBits) := goodIn_app (goodIn_of _ (by decide +kernel)) ggL_law_X7_fillBits
set_option maxRecDepth 20000 in
theorem ggL_law_X8_fillBits : GoodIn wsL_law wsX8_fillBits := goodIn_r _ [895, 124, 94, 570, 571, 572, 573, 5, 574, 427, 428, 429, 896, 897, 898, 899, 900, 901, 902, 903, 904, 905, 906, 907, 1596, 1597, 1598, 1599, 1600, 1601, 1602, 1603, 1604, 1605, 1606, 1607, 1608, 1609, 1610, 1611, 1612, 1613, 1614, 1615, 1616, 1617, 1618, 1619, 1620, 1621, 1622] (by decide +kernel) (by decide +kernel)
set_option maxRecDepth 20000 in
theorem gL_law_X8_fillBits : GoodIn wsL_law (wsV RL 112 RX8 yX8_fillBits wsX8_fillBits) := goodIn_app (goodIn_of _ (by decide +kernel)) ggL_law_X8_fillBits
set_option maxRecDepth 20000 in
theorem ggL_law_X7_cleanRun : GoodIn wsL_law wsX7_cleanRun := goodIn_r _ [911, 19, 562, 564, 565, 371, 372, 18, 373, 72, 912, 913, 914, 50, 915, 285, 283, 916, 917, 148, 918, 353, 300, 301, 302, 61, 1587, 1588, 1589, 1590, 1591, 1592, 1593, 1594, 1595, 1632, 1633, 1634, 1635, 1636, 1637, 1638, 1639, 1640, 1641, 1642, 1643, 1644, 1645, 1646, 1647, 1648, 1649, 1656, 1657, 1658, 1659, 1660, 1661, 1662, 1663, 1664] (by decide +kernel) (by decide +kernel)
set_option maxRecDepth 20000 in
theorem gL_law_X7_cleanRun : GoodIn wsL_law (wsV RL 113 RX7 yX7_cleanRun wsX7_cleanRun) := goodIn_app (goodIn_of _ (by decide +kernel)) ggL_law_X7_cleanRun
set_option maxRecDepth 20000 in
theorem ggL_law_X8_cleanRun : GoodIn wsL_law wsX8_cleanRun := goodIn_r _ [922, 124, 570, 94, 571, 572, 573, 5, 574, 427, 428, 429, 501, 502, 503, 1596, 1597, 1598, 1599, 1600, 1601, 1602, 1603, 1604, 1605, 1606, 1607, 1608, 1609, 1610, 1611, 1612, 1613, 1614, 1615, 1616, 1617, 1618, 1619, 1620, 1621, 1622] (by decide +kernel) (by decide +kernel)
set_option maxRecDepth 20000 in
theorem gL_law_X8_cleanRun : GoodIn wsL_law (wsV RL 116 RX8 yX8_cleanRun wsX8_cleanRun) := goodIn_app (goodIn_of _ (by decide +kernel)) ggL_law_X8_cleanRun
set_option maxRecDepth 20000 in
theorem ggL_law_X7_bestPlatter : GoodIn wsL_law wsX7_bestPlatter := goodIn_r _ [926, 135, 19, 676, 677, 927, 562, 928, 929, 2, 930, 931, 342, 343, 50, 344, 287, 286, 284, 345, 346, 347, 348, 283, 285, 349, 350, 351, 352, 353, 300, 301, 302, 61, 704, 705, 706, 18, 707, 708, 679, 680, 681, 682, 585, 586, 587, 70, 40, 257, 683, 684, 685, 686, 71, 258, 709, 710, 711, 712, 38, 713, 714, 715, 716, 256, 77, 42, 273, 717, 718, 148, 719, 777, 604, 605, 606, 553, 1587, 1588, 1589, 1590, 1591, 1592, 1593, 1594, 1595, 1632, 1633, 1634, 1635, 1636, 1637, 1638, 1639, 1640, 1641, 1642, 1643, 1644, 1645, 1646, 1647, 1648, 1649, 1656, 1657, 1658, 1659, 1660, 1661, 1662, 1663, 1664, 1653, 1654, 1655] (by decide +kernel) (by decide +kernel)
set_option maxRecDepth 20000 in
theorem gL_law_X7_bestPlatter : GoodIn wsL_law (wsV RL 117 RX7 yX7_bestPlatter wsX7_bestPlatter) := goodIn_app (goodIn_of _ (by decide +kernel)) ggL_law_X7_bestPlatter
set_option maxRecDepth 20000 in
theorem ggL_law_X8_bestPlatter : GoodIn wsL_law wsX8_bestPlatter := goodIn_r _ [935, 124, 936, 417, 94, 691, 104, 427, 428, 5, 429, 518, 519, 520, 521, 522, 523, 724, 725, 726, 727, 596, 597, 598, 599, 696, 697, 698, 699, 728, 729, 730, 731, 732, 733, 734, 735, 96, 736, 538, 539, 540, 737, 738, 739, 740, 741, 742, 743, 744, 745, 746, 747, 748, 749, 750, 751, 752, 753, 754, 755, 756, 757, 758, 759, 760, 761, 762, 763, 782, 783, 784, 785, 1596, 1597, 1598, 1599, 1600, 1601, 1602, 1603, 1604, 1605, 1606, 1607, 1608, 1609, 1610, 1611, 1612, 1613, 1614, 1615, 1616, 1617, 1618, 1619, 1620, 1621, 1622] (by decide +kernel) (by decide +kernel)
set_option maxRecDepth 20000 in
theorem gL_law_X8_bestPlatter : GoodIn wsL_law (wsV RL 120 RX8 yX8_bestPlatter wsX8_bestPlatter) := goodIn_app (goodIn_of _ (by decide +kernel)) ggL_law_X8_bestPlatter
set_option maxRecDepth 20000 in
theorem ggL_law_X7_versionCount : GoodIn wsL_law wsX7_versionCount := goodIn_r _ [940, 19, 564, 941, 367, 368, 18, 369, 75, 942, 943, 944, 945, 74, 44, 358, 1587, 1588, 1589, 1590, 1591, 1592, 1593, 1594, 1595, 1632, 1633, 1634, 1635, 1636, 1637, 1638, 1639, 1640, 1641, 1642, 1643, 1644, 1645, 1646, 1647, 1648, 1649, 1665, 1666, 1667, 1668, 1669, 1670, 1671] (by decide +kernel) (by decide +kernel)
set_option maxRecDepth 20000 in
theorem gL_law_X7_versionCount : GoodIn wsL_law (wsV RL 121 RX7 yX7_versionCount wsX7_versionCount) := goodIn_app (goodIn_of _ (by decide +kernel)) ggL_law_X7_versionCount
set_option maxRecDepth 20000 in
theorem ggL_law_X8_versionCount : GoodIn wsL_law wsX8_versionCount := goodIn_r _ [949, 124, 570, 94, 950, 951, 952, 5, 953, 427, 428, 429, 1596, 1597, 1598, 1599, 1600, 1601, 1602, 1603, 1604, 1605, 1606, 1607, 1608, 1609, 1610, 1611, 1612, 1613, 1614, 1615, 1616, 1617, 1618, 1619, 1620, 1621, 1622] (by decide +kernel) (by decide +kernel)
set_option maxRecDepth 20000 in
theorem gL_law_X8_versionCount : GoodIn wsL_law (wsV RL 124 RX8 yX8_versionCount wsX8_versionCount) := goodIn_app (goodIn_of _ (by decide +kernel)) ggL_law_X8_versionCount
set_option maxRecDepth 20000 in
theorem ggL_law_X7_filePlatter : GoodIn wsL_law wsX7_filePlatter := goodIn_r _ [957, 19, 958, 564, 941, 367, 368, 18, 369, 75, 959, 960, 961, 962, 44, 45, 1587, 1588, 1589, 1590, 1591, 1592, 1593, 1594, 1595, 1665, 1666, 1667, 1668, 1669, 1670, 1671, 1632, 1633, 1634, 1635, 1636, 1637, 1638, 1639, 1640, 1641, 1642, 1643, 1644, 1645, 1646, 1647, 1648, 1649] (by decide +kernel) (by decide +kernel)
set_option maxRecDepth 20000 in
theorem gL_law_X7_filePlatter : GoodIn wsL_law (wsV RL 125 RX7 yX7_filePlatter wsX7_filePlatter) := goodIn_app (goodIn_of _ (by decide +kernel)) ggL_law_X7_filePlatter
set_option maxRecDepth 20000 in
theorem ggL_law_X8_filePlatter : GoodIn wsL_law wsX8_filePlatter := goodIn_r _ [966, 967, 968, 969, 5, 970, 124, 94, 570, 950, 951, 952, 953, 427, 428, 429, 971, 972, 973, 974, 1596, 1597, 1598, 1599, 1600, 1601, 1602, 1603, 1604, 1605, 1606, 1607, 1608, 1609, 1610, 1611, 1612, 1613, 1614, 1615, 1616, 1617, 1618, 1619, 1620, 1621, 1622] (by decide +kernel) (by decide +kernel)
set_option maxRecDepth 20000 in
theorem gL_law_X8_filePlatter : GoodIn wsL_law (wsV RL 128 RX8 yX8_filePlatter wsX8_filePlatter) := goodIn_app (goodIn_of _ (by decide +kernel)) ggL_law_X8_filePlatter
set_option maxRecDepth 20000 in
theorem ggL_law_X7_fileStart : GoodIn wsL_law wsX7_fileStart := goodIn_r _ [978, 19, 979, 564, 941, 367, 368, 18, 369, 75, 959, 960, 961, 962, 44, 45, 1587, 1588, 1589, 1590, 1591, 1592, 1593, 1594, 1595, 1665, 1666, 1667, 1668, 1669, 1670, 1671, 1632, 1633, 1634, 1635, 1636, 1637, 1638, 1639, 1640, 1641, 1642, 1643, 1644, 1645, 1646, 1647, 1648, 1649] (by decide +kernel) (by decide +kernel)
set_option maxRecDepth 20000 in
theorem gL_law_X7_fileStart : GoodIn wsL_law (wsV RL 129 RX7 yX7_fileStart wsX7_fileStart) := goodIn_app (goodIn_of _ (by decide +kernel)) ggL_law_X7_fileStart
set_option maxRecDepth 20000 in
theorem ggL_law_X8_fileStart : GoodIn wsL_law wsX8_fileStart := goodIn_r _ [983, 967, 968, 969, 5, 970, 124, 94, 570, 950, 951, 952, 953, 427, 428, 429, 971, 972, 973, 974, 1596, 1597, 1598, 1599, 1600, 1601, 1602, 1603, 1604, 1605, 1606, 1607, 1608, 1609, 1610, 1611, 1612, 1613, 1614, 1615, 1616, 1617, 1618, 1619, 1620, 1621, 1622] (by decide +kernel) (by decide +kernel)
set_option maxRecDepth 20000 in
theorem gL_law_X8_fileStart : GoodIn wsL_law (wsV RL 132 RX8 yX8_fileStart wsX8_fileStart) := goodIn_app (goodIn_of _ (by decide +kernel)) ggL_law_X8_fileStart
set_option maxRecDepth 20000 in
theorem ggL_law_X7_fileSize : GoodIn wsL_law wsX7_fileSize := goodIn_r _ [987, 19, 988, 564, 941, 367, 368, 18, 369, 75, 959, 960, 961, 962, 44, 45, 1587, 1588, 1589, 1590, 1591, 1592, 1593, 1594, 1595, 1665, 1666, 1667, 1668, 1669, 1670, 1671, 1632, 1633, 1634, 1635, 1636, 1637, 1638, 1639, 1640, 1641, 1642, 1643, 1644, 1645, 1646, 1647, 1648, 1649] (by decide +kernel) (by decide +kernel)
set_option maxRecDepth 20000 in
theorem gL_law_X7_fileSize : GoodIn wsL_law (wsV RL 133 RX7 yX7_fileSize wsX7_fileSize) := goodIn_app (goodIn_of _ (by decide +kernel)) ggL_law_X7_fileSize
set_option maxRecDepth 20000 in
theorem ggL_law_X8_fileSize : GoodIn wsL_law wsX8_fileSize := goodIn_r _ [992, 967, 968, 969, 5, 970, 124, 94, 570, 950, 951, 952, 953, 427, 428, 429, 971, 972, 973, 974, 1596, 1597, 1598, 1599, 1600, 1601, 1602, 1603, 1604, 1605, 1606, 1607, 1608, 1609, 1610, 1611, 1612, 1613, 1614, 1615, 1616, 1617, 1618, 1619, 1620, 1621, 1622] (by decide +kernel) (by decide +kernel)
set_option maxRecDepth 20000 in
theorem gL_law_X8_fileSize : GoodIn wsL_law (wsV RL 136 RX8 yX8_fileSize wsX8_fileSize) := goodIn_app (goodIn_of _ (by decide +kernel)) ggL_law_X8_fileSize
set_option maxRecDepth 20000 in
theorem ggL_law_X7_fileSession : GoodIn wsL_law wsX7_fileSession := goodIn_r _ [996, 19, 997, 564, 941, 367, 368, 18, 369, 75, 959, 960, 961, 962, 44, 45, 1587, 1588, 1589, 1590, 1591, 1592, 1593, 1594, 1595, 1665, 1666, 1667, 1668, 1669, 1670, 1671, 1632, 1633, 1634, 1635, 1636, 1637, 1638, 1639, 1640, 1641, 1642, 1643, 1644, 1645, 1646, 1647, 1648, 1649] (by decide +kernel) (by decide +kernel)
set_option maxRecDepth 20000 in
theorem gL_law_X7_fileSession : GoodIn wsL_law (wsV RL 137 RX7 yX7_fileSession wsX7_fileSession) := goodIn_app (goodIn_of _ (by decide +kernel)) ggL_law_X7_fileSession
set_option maxRecDepth 20000 in
theorem ggL_law_X8_fileSession : GoodIn wsL_law wsX8_fileSession := goodIn_r _ [1001, 967, 968, 969, 5, 970, 124, 94, 570, 950, 951, 952, 953, 427, 428, 429, 971, 972, 973, 974, 1596, 1597, 1598, 1599, 1600, 1601, 1602, 1603, 1604, 1605, 1606, 1607, 1608, 1609, 1610, 1611, 1612, 1613, 1614, 1615, 1616, 1617, 1618, 1619, 1620, 1621, 1622] (by decide +kernel) (by decide +kernel)
set_option maxRecDepth 20000 in
theorem gL_law_X8_fileSession : GoodIn wsL_law (wsV RL 140 RX8 yX8_fileSession wsX8_fileSession) := goodIn_app (goodIn_of _ (by decide +kernel)) ggL_law_X8_fileSession
set_option maxRecDepth 20000 in
theorem ggL_law_X7_remappedSectors : GoodIn wsL_law wsX7_remappedSectors := goodIn_r _ [1005, 19, 1006, 564, 941, 367, 368, 18, 369, 75, 959, 960, 961, 962, 44, 45, 1587, 1588, 1589, 1590, 1591, 1592, 1593, 1594, 1595, 1665, 1666, 1667, 1668, 1669, 1670, 1671, 1632, 1633, 1634, 1635, 1636, 1637, 1638, 1639, 1640, 1641, 1642, 1643, 1644, 1645, 1646, 1647, 1648, 1649] (by decide +kernel) (by decide +kernel)
set_option maxRecDepth 20000 in
theorem gL_law_X7_remappedSectors : GoodIn wsL_law (wsV RL 141 RX7 yX7_remappedSectors wsX7_remappedSectors) := goodIn_app (goodIn_of _ (by decide +kernel)) ggL_law_X7_remappedSectors
set_option maxRecDepth 20000 in
theorem ggL_law_X8_remappedSectors : GoodIn wsL_law wsX8_remappedSectors := goodIn_r _ [1010, 967, 968, 969, 5, 970, 124, 94, 570, 950, 951, 952, 953, 427, 428, 429, 971, 972, 973, 974, 1596, 1597, 1598, 1599, 1600, 1601, 1602, 1603, 1604, 1605, 1606, 1607, 1608, 1609, 1610, 1611, 1612, 1613, 1614, 1615, 1616, 1617, 1618, 1619, 1620, 1621, 1622] (by decide +kernel) (by decide +kernel)
set_option maxRecDepth 20000 in
theorem gL_law_X8_remappedSectors : GoodIn wsL_law (wsV RL 144 RX8 yX8_remappedSectors wsX8_remappedSectors) := goodIn_app (goodIn_of _ (by decide +kernel)) ggL_law_X8_remappedSectors
set_option maxRecDepth 20000 in
theorem ggL_law_X7_fileState : GoodIn wsL_law wsX7_fileState := goodIn_r _ [1014, 19, 564, 1015, 941, 367, 368, 18, 369, 75, 959, 960, 961, 962, 44, 45, 1016, 1017, 1018, 1019, 1020, 1021, 1022, 1023, 1024, 307, 42, 359, 365, 1025, 1026, 1027, 50, 1028, 287, 286, 1587, 1588, 1589, 1590, 1591, 1592, 1593, 1594, 1595, 1665, 1666, 1667, 1668, 1669, 1670, 1671, 1632, 1633, 1634, 1635, 1636, 1637, 1638, 1639, 1640, 1641, 1642, 1643, 1644, 1645, 1646, 1647, 1648, 1649, 1656, 1657, 1658, 1659, 1660, 1661, 1662, 1663, 1664] (by decide +kernel) (by decide +kernel)
set_option maxRecDepth 20000 in
theorem gL_law_X7_fileState : GoodIn wsL_law (wsV RL 145 RX7 yX7_fileState wsX7_fileState) := goodIn_app (goodIn_of _ (by decide +kernel)) ggL_law_X7_fileState
set_option maxRecDepth 20000 in
theorem ggL_law_X8_fileState : GoodIn wsL_law wsX8_fileState := goodIn_r _ [1032, 124, 570, 94, 950, 951, 952, 5, 953, 427, 428, 429, 971, 972, 973, 974, 1033, 1034, 1035, 1036, 1596, 1597, 1598, 1599, 1600, 1601, 1602, 1603, 1604, 1605, 1606, 1607, 1608, 1609, 1610, 1611, 1612, 1613, 1614, 1615, 1616, 1617, 1618, 1619, 1620, 1621, 1622] (by decide +kernel) (by decide +kernel)
set_option maxRecDepth 20000 in
theorem gL_law_X8_fileState : GoodIn wsL_law (wsV RL 148 RX8 yX8_fileState wsX8_fileState) := goodIn_app (goodIn_of _ (by decide +kernel)) ggL_law_X8_fileState
set_option maxRecDepth 20000 in
theorem ggL_law_X7_readTime : GoodIn wsL_law wsX7_readTime := goodIn_r _ [1040, 19, 958, 1041, 1042, 1043, 2, 1044, 564, 676, 677, 1045, 941, 367, 368, 18, 369, 75, 1016, 1017, 1018, 1019, 1020, 960, 961, 962, 44, 45, 1021, 1022, 1023, 1024, 307, 42, 359, 365, 1025, 1026, 1027, 50, 1028, 287, 286, 959, 704, 705, 706, 707, 708, 679, 680, 681, 682, 585, 586, 587, 70, 40, 257, 683, 684, 685, 686, 71, 258, 709, 710, 711, 712, 38, 713, 714, 715, 716, 256, 77, 273, 717, 718, 148, 719, 1046, 1047, 1048, 1049, 362, 363, 1587, 1588, 1589, 1590, 1591, 1592, 1593, 1594, 1595, 1665, 1666, 1667, 1668, 1669, 1670, 1671, 1632, 1633, 1634, 1635, 1636, 1637, 1638, 1639, 1640, 1641, 1642, 1643, 1644, 1645, 1646, 1647, 1648, 1649, 1656, 1657, 1658, 1659, 1660, 1661, 1662, 1663, 1664, 1653, 1654, 1655] (by decide +kernel) (by decide +kernel)
set_option maxRecDepth 20000 in
theorem gL_law_X7_readTime : GoodIn wsL_law (wsV RL 149 RX7 yX7_readTime wsX7_readTime) := goodIn_app (goodIn_of _ (by decide +kernel)) ggL_law_X7_readTime
set_option maxRecDepth 20000 in
theorem ggL_law_X8_readTime : GoodIn wsL_law wsX8_readTime := goodIn_r _ [1053, 124, 1054, 1055, 1056, 5, 1057, 570, 94, 691, 1058, 950, 951, 952, 953, 427, 428, 429, 1059, 1060, 1061, 1062, 971, 972, 973, 974, 1063, 1064, 1065, 1066, 1033, 1034, 1035, 1036, 732, 733, 734, 735, 96, 736, 538, 539, 540, 1067, 1068, 1069, 1070, 1071, 1072, 1073, 1074, 1075, 1076, 1077, 1078, 692, 693, 694, 695, 596, 597, 598, 599, 696, 697, 698, 699, 737, 738, 739, 740, 741, 742, 743, 744, 745, 746, 747, 748, 749, 750, 751, 752, 753, 754, 755, 756, 757, 758, 759, 760, 761, 762, 763, 1596, 1597, 1598, 1599, 1600, 1601, 1602, 1603, 1604, 1605, 1606, 1607, 1608, 1609, 1610, 1611, 1612, 1613, 1614, 1615, 1616, 1617, 1618, 1619, 1620, 1621, 1622] (by decide +kernel) (by decide +kernel)
set_option maxRecDepth 20000 in
theorem gL_law_X8_readTime : GoodIn wsL_law (wsV RL 152 RX8 yX8_readTime wsX8_readTime) := goodIn_app (goodIn_of _ (by decide +kernel)) ggL_law_X8_readTime
set_option maxRecDepth 20000 in
theorem ggL_law_X7_lastGoodVersion : GoodIn wsL_law wsX7_lastGoodVersion := goodIn_r _ [1082, 19, 564, 941, 367, 368, 18, 369, 75, 1083, 1084, 1085, 1086, 74, 44, 358, 1021, 1022, 1023, 1024, 307, 42, 359, 365, 1025, 1026, 1027, 50, 1028, 287, 286, 604, 605, 2, 606, 553, 1587, 1588, 1589, 1590, 1591, 1592, 1593, 1594, 1595, 1632, 1633, 1634, 1635, 1636, 1637, 1638, 1639, 1640, 1641, 1642, 1643, 1644, 1645, 1646, 1647, 1648, 1649, 1665, 1666, 1667, 1668, 1669, 1670, 1671, 1656, 1657, 1658, 1659, 1660, 1661, 1662, 1663, 1664] (by decide +kernel) (by decide +kernel)
set_option maxRecDepth 20000 in
theorem gL_law_X7_lastGoodVersion : GoodIn wsL_law (wsV RL 153 RX7 yX7_lastGoodVersion wsX7_lastGoodVersion) := goodIn_app (goodIn_of _ (by decide +kernel)) ggL_law_X7_lastGoodVersion
set_option maxRecDepth 20000 in
theorem ggL_law_X8_lastGoodVersion : GoodIn wsL_law wsX8_lastGoodVersion := goodIn_r _ [1090, 124, 570, 104, 94, 950, 951, 952, 5, 953, 427, 428, 429, 1063, 1064, 1065, 1066, 1033, 1034, 1035, 1036, 1596, 1597, 1598, 1599, 1600, 1601, 1602, 1603, 1604, 1605, 1606, 1607, 1608, 1609, 1610, 1611, 1612, 1613, 1614, 1615, 1616, 1617, 1618, 1619, 1620, 1621, 1622] (by decide +kernel) (by decide +kernel)
set_option maxRecDepth 20000 in
theorem gL_law_X8_lastGoodVersion : GoodIn wsL_law (wsV RL 156 RX8 yX8_lastGoodVersion wsX8_lastGoodVersion) := goodIn_app (goodIn_of _ (by decide +kernel)) ggL_law_X8_lastGoodVersion
set_option maxRecDepth 20000 in
theorem ggL_law_X7_fileOfSector : GoodIn wsL_law wsX7_fileOfSector := goodIn_r _ [1094, 19, 564, 553, 1095, 1096, 863, 864, 865, 18, 866, 42, 867, 370, 371, 372, 373, 72, 1097, 313, 314, 315, 74, 44, 316, 317, 318, 52, 319, 320, 321, 322, 1587, 1588, 1589, 1590, 1591, 1592, 1593, 1594, 1595, 1632, 1633, 1634, 1635, 1636, 1637, 1638, 1639, 1640, 1641, 1642, 1643, 1644, 1645, 1646, 1647, 1648, 1649, 1665, 1666, 1667, 1668, 1669, 1670, 1671, 1656, 1657, 1658, 1659, 1660, 1661, 1662, 1663, 1664] (by decide +kernel) (by decide +kernel)
set_option maxRecDepth 20000 in
theorem gL_law_X7_fileOfSector : GoodIn wsL_law (wsV RL 157 RX7 yX7_fileOfSector wsX7_fileOfSector) := goodIn_app (goodIn_of _ (by decide +kernel)) ggL_law_X7_fileOfSector
set_option maxRecDepth 20000 in
theorem ggL_law_X8_fileOfSector : GoodIn wsL_law wsX8_fileOfSector := goodIn_r _ [1101, 124, 570, 94, 104, 877, 878, 879, 5, 880, 571, 572, 573, 574, 427, 428, 429, 507, 508, 509, 1596, 1597, 1598, 1599, 1600, 1601, 1602, 1603, 1604, 1605, 1606, 1607, 1608, 1609, 1610, 1611, 1612, 1613, 1614, 1615, 1616, 1617, 1618, 1619, 1620, 1621, 1622] (by decide +kernel) (by decide +kernel)
set_option maxRecDepth 20000 in
theorem gL_law_X8_fileOfSector : GoodIn wsL_law (wsV RL 160 RX8 yX8_fileOfSector wsX8_fileOfSector) := goodIn_app (goodIn_of _ (by decide +kernel)) ggL_law_X8_fileOfSector
set_option maxRecDepth 20000 in
theorem ggL_law_X7_filesOn : GoodIn wsL_law wsX7_filesOn := goodIn_r _ [1105, 19, 564, 565, 371, 372, 18, 373, 72, 1106, 1107, 1108, 1109, 75, 359, 1020, 960, 961, 962, 44, 45, 1587, 1588, 1589, 1590, 1591, 1592, 1593, 1594, 1595, 1632, 1633, 1634, 1635, 1636, 1637, 1638, 1639, 1640, 1641, 1642, 1643, 1644, 1645, 1646, 1647, 1648, 1649, 1665, 1666, 1667, 1668, 1669, 1670, 1671] (by decide +kernel) (by decide +kernel)
set_option maxRecDepth 20000 in
theorem gL_law_X7_filesOn : GoodIn wsL_law (wsV RL 161 RX7 yX7_filesOn wsX7_filesOn) := goodIn_app (goodIn_of _ (by decide +kernel)) ggL_law_X7_filesOn
set_option maxRecDepth 20000 in
theorem ggL_law_X8_filesOn : GoodIn wsL_law wsX8_filesOn := goodIn_r _ [1113, 124, 570, 94, 571, 572, 573, 5, 574, 427, 428, 429, 1071, 1072, 1073, 1074, 971, 972, 973, 974, 1596, 1597, 1598, 1599, 1600, 1601, 1602, 1603, 1604, 1605, 1606, 1607, 1608, 1609, 1610, 1611, 1612, 1613, 1614, 1615, 1616, 1617, 1618, 1619, 1620, 1621, 1622] (by decide +kernel) (by decide +kernel)
set_option maxRecDepth 20000 in
theorem gL_law_X8_filesOn : GoodIn wsL_law (wsV RL 164 RX8 yX8_filesOn wsX8_filesOn) := goodIn_app (goodIn_of _ (by decide +kernel)) ggL_law_X8_filesOn
set_option maxRecDepth 20000 in
theorem ggL_law_X7_mount : GoodIn wsL_law wsX7_mount := goodIn_r _ [1117, 19, 645, 672, 673, 674, 2, 675, 564, 676, 677, 565, 371, 372, 18, 373, 72, 1118, 1119, 1120, 1121, 24, 1122, 1123, 1124, 23, 1125, 1126, 401, 89, 88, 17, 1127, 34, 35, 36, 10, 11, 37, 38, 39, 40, 41, 42, 43, 44, 45, 46, 47, 48, 49, 50, 51, 52, 53, 54, 55, 56, 57, 58, 59, 60, 61, 62, 63, 64, 65, 66, 67, 68, 69, 70, 71, 73, 74, 75, 76, 77, 78, 79, 80, 81, 82, 83, 84, 1128, 1129, 1130, 1131, 1132, 1133, 1134, 1135, 1136, 1137, 1138, 1139, 1140, 1141, 1142, 1143, 1144, 1145, 1146, 282, 283, 284, 285, 286, 287, 1147, 1148, 1149, 1150, 1151, 1152, 320, 321, 322, 1153, 1154, 1155, 402, 403, 404, 405, 406, 407, 408, 409, 410, 411, 412, 1156, 1157, 1158, 1159, 708, 679, 680, 681, 682, 585, 586, 587, 257, 683, 684, 685, 686, 258, 1160, 1161, 1162, 1163, 256, 709, 710, 711, 712, 713, 714, 715, 716, 273, 717, 718, 148, 719, 1164, 1165, 1166, 1167, 1587, 1588, 1589, 1590, 1591, 1592, 1593, 1594, 1595, 1632, 1633, 1634, 1635, 1636, 1637, 1638, 1639, 1640, 1641, 1642, 1643, 1644, 1645, 1646, 1647, 1648, 1649, 1650, 1651, 1652, 1653, 1654, 1655, 1656, 1657, 1658, 1659, 1660, 1661, 1662, 1663, 1664, 1665, 1666, 1667, 1668, 1669, 1670, 1671, 1672, 1673, 1674, 1675, 1676, 1677, 1678] (by decide +kernel) (by decide +kernel)
set_option maxRecDepth 20000 in
theorem gL_law_X7_mount : GoodIn wsL_law (wsV RL 165 RX7 yX7_mount wsX7_mount) := goodIn_app (goodIn_of _ (by decide +kernel)) ggL_law_X7_mount
set_option maxRecDepth 20000 in
theorem ggL_law_X8_mount : GoodIn wsL_law wsX8_mount := goodIn_r _ [1171, 124, 570, 94, 691, 571, 572, 573, 5, 574, 427, 428, 429, 1172, 1173, 1174, 1175, 426, 97, 1075, 1076, 1077, 1078, 692, 693, 694, 695, 596, 597, 598, 599, 696, 697, 698, 699, 737, 738, 739, 740, 741, 742, 743, 744, 745, 746, 747, 748, 749, 750, 751, 752, 753, 754, 755, 756, 757, 758, 759, 1176, 1177, 1178, 1179, 1596, 1597, 1598, 1599, 1600, 1601, 1602, 1603, 1604, 1605, 1606, 1607, 1608, 1609, 1610, 1611, 1612, 1613, 1614, 1615, 1616, 1617, 1618, 1619, 1620, 1621, 1622] (by decide +kernel) (by decide +kernel)
set_option maxRecDepth 20000 in
theorem gL_law_X8_mount : GoodIn wsL_law (wsV RL 168 RX8 yX8_mount wsX8_mount) := goodIn_app (goodIn_of _ (by decide +kernel)) ggL_law_X8_mount
set_option maxRecDepth 20000 in
theorem ggL_law_X7_eject : GoodIn wsL_law wsX7_eject := goodIn_r _ [1183, 19, 564, 618, 619, 553, 645, 620, 621, 622, 18, 623, 70, 1118, 1119, 1120, 2, 1121, 24, 1122, 1123, 1124, 23, 1125, 1126, 401, 89, 88, 17, 1127, 34, 35, 36, 10, 11, 37, 38, 39, 40, 41, 42, 43, 44, 45, 46, 47, 48, 49, 50, 51, 52, 53, 54, 55, 56, 57, 58, 59, 60, 61, 62, 63, 64, 65, 66, 67, 68, 69, 71, 72, 73, 74, 75, 76, 77, 78, 79, 80, 81, 82, 83, 84, 1128, 1129, 1130, 1131, 1132, 1133, 1134, 1135, 1136, 1137, 1138, 1139, 1140, 1141, 1142, 1143, 1144, 1145, 1146, 282, 283, 284, 285, 286, 287, 1147, 1148, 1149, 1150, 1151, 1152, 320, 321, 322, 1153, 1154, 1155, 402, 403, 404, 405, 406, 407, 408, 409, 410, 411, 412, 1184, 1185, 1186, 1187, 257, 256, 273, 717, 718, 148, 719, 1587, 1588, 1589, 1590, 1591, 1592, 1593, 1594, 1595, 1632, 1633, 1634, 1635, 1636, 1637, 1638, 1639, 1640, 1641, 1642, 1643, 1644, 1645, 1646, 1647, 1648, 1649, 1653, 1654, 1655, 1650, 1651, 1652, 1656, 1657, 1658, 1659, 1660, 1661, 1662, 1663, 1664, 1665, 1666, 1667, 1668, 1669, 1670, 1671, 1672, 1673, 1674, 1675, 1676, 1677, 1678] (by decide +kernel) (by decide +kernel)
set_option maxRecDepth 20000 in
theorem gL_law_X7_eject : GoodIn wsL_law (wsV RL 169 RX7 yX7_eject wsX7_eject) := goodIn_app (goodIn_of _ (by decide +kernel)) ggL_law_X7_eject
set_option maxRecDepth 20000 in
theorem ggL_law_X8_eject : GoodIn wsL_law wsX8_eject := goodIn_r _ [1191, 124, 570, 94, 104, 628, 629, 630, 5, 631, 427, 428, 429, 1172, 1173, 1174, 1175, 426, 97, 741, 742, 743, 744, 745, 746, 747, 748, 749, 750, 751, 752, 753, 754, 755, 1176, 1177, 1178, 1179, 1596, 1597, 1598, 1599, 1600, 1601, 1602, 1603, 1604, 1605, 1606, 1607, 1608, 1609, 1610, 1611, 1612, 1613, 1614, 1615, 1616, 1617, 1618, 1619, 1620, 1621, 1622] (by decide +kernel) (by decide +kernel)
set_option maxRecDepth 20000 in
theorem gL_law_X8_eject : GoodIn wsL_law (wsV RL 172 RX8 yX8_eject wsX8_eject) := goodIn_app (goodIn_of _ (by decide +kernel)) ggL_law_X8_eject
set_option maxRecDepth 20000 in
theorem ggL_law_X7_read : GoodIn wsL_law wsX7_read := goodIn_r _ [1195, 19, 645, 1041, 1042, 1043, 2, 1044, 564, 676, 677, 1045, 941, 367, 368, 18, 369, 75, 1016, 1017, 1018, 1019, 1020, 960, 961, 962, 44, 45, 1021, 1022, 1023, 1024, 307, 42, 359, 365, 1025, 1026, 1027, 50, 1028, 287, 286, 1118, 1119, 1120, 1121, 24, 1122, 1123, 1124, 23, 1125, 1126, 401, 89, 88, 17, 1127, 34, 35, 36, 10, 11, 37, 38, 39, 40, 41, 43, 46, 47, 48, 49, 51, 52, 53, 54, 55, 56, 57, 58, 59, 60, 61, 62, 63, 64, 65, 66, 67, 68, 69, 70, 71, 72, 73, 74, 76, 77, 78, 79, 80, 81, 82, 83, 84, 1128, 1129, 1130, 1131, 1132, 1133, 1134, 1135, 1136, 1137, 1138, 1139, 1140, 1141, 1142, 1143, 1144, 1145, 1146, 282, 283, 284, 285, 1147, 1148, 1149, 1150, 1151, 1152, 320, 321, 322, 1153, 1154, 1155, 402, 403, 404, 405, 406, 407, 408, 409, 410, 411, 412, 1196, 1197, 1198, 1199, 1200, 1157, 1158, 1159, 708, 679, 680, 681, 682, 585, 586, 587, 257, 683, 684, 685, 686, 258, 1160, 1161, 1162, 1163, 256, 709, 710, 711, 712, 713, 714, 715, 716, 273, 717, 718, 148, 719, 1164, 1165, 1166, 1167, 1201, 1047, 1048, 1049, 362, 363, 1587, 1588, 1589, 1590, 1591, 1592, 1593, 1594, 1595, 1632, 1633, 1634, 1635, 1636, 1637, 1638, 1639, 1640, 1641, 1642, 1643, 1644, 1645, 1646, 1647, 1648, 1649, 1665, 1666, 1667, 1668, 1669, 1670, 1671, 1656, 1657, 1658, 1659, 1660, 1661, 1662, 1663, 1664, 1650, 1651, 1652, 1653, 1654, 1655, 1672, 1673, 1674, 1675, 1676, 1677, 1678] (by decide +kernel) (by decide +kernel)
set_option maxRecDepth 20000 in
theorem gL_law_X7_read : GoodIn wsL_law (wsV RL 173 RX7 yX7_read wsX7_read) := goodIn_app (goodIn_of _ (by decide +kernel)) ggL_law_X7_read
set_option maxRecDepth 20000 in
theorem ggL_law_X8_read : GoodIn wsL_law wsX8_read := goodIn_r _ [1205, 124, 94, 1054, 1055, 1056, 5, 1057, 570, 691, 1058, 950, 951, 952, 953, 427, 428, 429, 1059, 1060, 1061, 1062, 971, 972, 973, 974, 1063, 1064, 1065, 1066, 1033, 1034, 1035, 1036, 1172, 1173, 1174, 1175, 426, 97, 1067, 1068, 1069, 1070, 1071, 1072, 1073, 1074, 1075, 1076, 1077, 1078, 692, 693, 694, 695, 596, 597, 598, 599, 696, 697, 698, 699, 737, 738, 739, 740, 741, 742, 743, 744, 745, 746, 747, 748, 749, 750, 751, 752, 753, 754, 755, 756, 757, 758, 759, 1176, 1177, 1178, 1179, 1596, 1597, 1598, 1599, 1600, 1601, 1602, 1603, 1604, 1605, 1606, 1607, 1608, 1609, 1610, 1611, 1612, 1613, 1614, 1615, 1616, 1617, 1618, 1619, 1620, 1621, 1622] (by decide +kernel) (by decide +kernel)
set_option maxRecDepth 20000 in
theorem gL_law_X8_read : GoodIn wsL_law (wsV RL 176 RX8 yX8_read wsX8_read) := goodIn_app (goodIn_of _ (by decide +kernel)) ggL_law_X8_read
set_option maxRecDepth 20000 in
theorem ggL_law_X7_write : GoodIn wsL_law wsX7_write := goodIn_r _ [1209, 19, 564, 135, 645, 941, 367, 368, 18, 369, 75, 565, 371, 372, 373, 72, 928, 929, 2, 930, 1210, 1211, 1212, 1213, 1214, 114, 676, 677, 562, 1045, 931, 342, 343, 50, 344, 287, 286, 284, 345, 346, 347, 348, 283, 285, 349, 350, 351, 352, 353, 300, 301, 302, 61, 1118, 1119, 1120, 1121, 24, 1122, 1123, 1124, 23, 1125, 1126, 401, 89, 88, 17, 1127, 34, 35, 36, 10, 11, 37, 38, 39, 40, 41, 42, 43, 44, 45, 46, 47, 48, 49, 51, 52, 53, 54, 55, 56, 57, 58, 59, 60, 62, 63, 64, 65, 66, 67, 68, 69, 70, 71, 73, 74, 76, 77, 78, 79, 80, 81, 82, 83, 84, 1128, 1129, 1130, 1131, 1132, 1133, 1134, 1135, 1136, 1137, 1138, 1139, 1140, 1141, 1142, 1143, 1144, 1145, 1146, 282, 1147, 1148, 1149, 1150, 1151, 1152, 320, 321, 322, 1153, 1154, 1155, 402, 403, 404, 405, 406, 407, 408, 409, 410, 411, 412, 1215, 1216, 1217, 1218, 1200, 1157, 1158, 1159, 708, 679, 680, 681, 682, 585, 586, 587, 257, 683, 684, 685, 686, 258, 1160, 1161, 1162, 1163, 256, 709, 710, 711, 712, 713, 714, 715, 716, 273, 717, 718, 148, 719, 1164, 1165, 1166, 1167, 1219, 355, 356, 357, 358, 359, 360, 361, 362, 363, 307, 364, 365, 366, 370, 374, 375, 376, 377, 378, 379, 380, 381, 382, 1587, 1588, 1589, 1590, 1591, 1592, 1593, 1594, 1595, 1632, 1633, 1634, 1635, 1636, 1637, 1638, 1639, 1640, 1641, 1642, 1643, 1644, 1645, 1646, 1647, 1648, 1649, 1656, 1657, 1658, 1659, 1660, 1661, 1662, 1663, 1664, 1650, 1651, 1652, 1653, 1654, 1655, 1665, 1666, 1667, 1668, 1669, 1670, 1671, 1672, 1673, 1674, 1675, 1676, 1677, 1678] (by decide +kernel) (by decide +kernel)
set_option maxRecDepth 20000 in
theorem gL_law_X7_write : GoodIn wsL_law (wsV RL 177 RX7 yX7_write wsX7_write) := goodIn_app (goodIn_of _ (by decide +kernel)) ggL_law_X7_write
set_option maxRecDepth 20000 in
theorem ggL_law_X8_write : GoodIn wsL_law wsX8_write := goodIn_r _ [1223, 124, 570, 94, 950, 951, 952, 5, 953, 427, 428, 429, 1224, 1225, 1226, 1227, 936, 417, 126, 691, 1058, 571, 572, 573, 574, 518, 519, 520, 521, 522, 523, 1172, 1173, 1174, 1175, 426, 97, 1228, 1229, 1230, 1231, 1075, 1076, 1077, 1078, 692, 693, 694, 695, 596, 597, 598, 599, 696, 697, 698, 699, 737, 738, 739, 740, 741, 742, 743, 744, 745, 746, 747, 748, 749, 750, 751, 752, 753, 754, 755, 756, 757, 758, 759, 524, 525, 526, 1176, 1177, 1178, 1179, 1596, 1597, 1598, 1599, 1600, 1601, 1602, 1603, 1604, 1605, 1606, 1607, 1608, 1609, 1610, 1611, 1612, 1613, 1614, 1615, 1616, 1617, 1618, 1619, 1620, 1621, 1622] (by decide +kernel) (by decide +kernel)
set_option maxRecDepth 20000 in
theorem gL_law_X8_write : GoodIn wsL_law (wsV RL 181 RX8 yX8_write wsX8_write) := goodIn_app (goodIn_of _ (by decide +kernel)) ggL_law_X8_write
set_option maxRecDepth 20000 in
theorem ggL_law_X7_create : GoodIn wsL_law wsX7_create := goodIn_r _ [1235, 19, 564, 135, 141, 114, 565, 371, 372, 18, 373, 72, 928, 929, 2, 930, 1210, 1211, 1212, 1213, 1214, 676, 677, 562, 1045, 931, 342, 343, 50, 344, 287, 286, 284, 345, 346, 347, 348, 283, 285, 349, 350, 351, 352, 353, 300, 301, 302, 61, 1118, 1119, 1120, 1121, 24, 1122, 1123, 1124, 23, 1125, 1126, 401, 89, 88, 17, 1127, 34, 35, 36, 10, 11, 37, 38, 39, 40, 41, 42, 43, 44, 45, 46, 47, 48, 49, 51, 52, 53, 54, 55, 56, 57, 58, 59, 60, 62, 63, 64, 65, 66, 67, 68, 69, 70, 71, 73, 74, 75, 76, 77, 78, 79, 80, 81, 82, 83, 84, 1128, 1129, 1130, 1131, 1132, 1133, 1134, 1135, 1136, 1137, 1138, 1139, 1140, 1141, 1142, 1143, 1144, 1145, 1146, 282, 1147, 1148, 1149, 1150, 1151, 1152, 320, 321, 322, 1153, 1154, 1155, 402, 403, 404, 405, 406, 407, 408, 409, 410, 411, 412, 1215, 1216, 1217, 1218, 1200, 1157, 1158, 1159, 708, 679, 680, 681, 682, 585, 586, 587, 257, 683, 684, 685, 686, 258, 1160, 1161, 1162, 1163, 256, 709, 710, 711, 712, 713, 714, 715, 716, 273, 717, 718, 148, 719, 1164, 1165, 1166, 1167, 1219, 355, 356, 357, 358, 359, 360, 361, 362, 363, 307, 364, 365, 366, 367, 368, 369, 370, 374, 375, 376, 377, 378, 379, 380, 381, 382, 1587, 1588, 1589, 1590, 1591, 1592, 1593, 1594, 1595, 1632, 1633, 1634, 1635, 1636, 1637, 1638, 1639, 1640, 1641, 1642, 1643, 1644, 1645, 1646, 1647, 1648, 1649, 1656, 1657, 1658, 1659, 1660, 1661, 1662, 1663, 1664, 1650, 1651, 1652, 1653, 1654, 1655, 1665, 1666, 1667, 1668, 1669, 1670, 1671, 1672, 1673, 1674, 1675, 1676, 1677, 1678] (by decide +kernel) (by decide +kernel)
set_option maxRecDepth 20000 in
theorem gL_law_X7_create : GoodIn wsL_law (wsV RL 182 RX7 yX7_create wsX7_create) := goodIn_app (goodIn_of _ (by decide +kernel)) ggL_law_X7_create
set_option maxRecDepth 20000 in
theorem ggL_law_X8_create : GoodIn wsL_law wsX8_create := goodIn_r _ [1239, 124, 94, 1224, 1225, 1226, 5, 1227, 570, 936, 417, 126, 691, 1058, 571, 572, 573, 574, 427, 428, 429, 518, 519, 520, 521, 522, 523, 1172, 1173, 1174, 1175, 426, 97, 1228, 1229, 1230, 1231, 1075, 1076, 1077, 1078, 692, 693, 694, 695, 596, 597, 598, 599, 696, 697, 698, 699, 737, 738, 739, 740, 741, 742, 743, 744, 745, 746, 747, 748, 749, 750, 751, 752, 753, 754, 755, 756, 757, 758, 759, 524, 525, 526, 1596, 1597, 1598, 1599, 1600, 1601, 1602, 1603, 1604, 1605, 1606, 1607, 1608, 1609, 1610, 1611, 1612, 1613, 1614, 1615, 1616, 1617, 1618, 1619, 1620, 1621, 1622] (by decide +kernel) (by decide +kernel)
set_option maxRecDepth 20000 in
theorem gL_law_X8_create : GoodIn wsL_law (wsV RL 185 RX8 yX8_create wsX8_create) := goodIn_app (goodIn_of _ (by decide +kernel)) ggL_law_X8_create
set_option maxRecDepth 20000 in
theorem ggL_law_X7_closeSession : GoodIn wsL_law wsX7_closeSession := goodIn_r _ [1243, 19, 564, 562, 799, 553, 676, 677, 565, 371, 372, 18, 373, 72, 1118, 1119, 1120, 2, 1121, 24, 1122, 1123, 1124, 23, 1125, 1126, 401, 89, 88, 17, 1127, 34, 35, 36, 10, 11, 37, 38, 39, 40, 41, 42, 43, 44, 45, 46, 47, 48, 49, 50, 51, 52, 53, 54, 55, 56, 57, 58, 59, 60, 61, 62, 63, 64, 65, 66, 67, 68, 69, 70, 71, 73, 74, 75, 76, 77, 78, 79, 80, 81, 82, 83, 84, 1128, 1129, 1130, 1131, 1132, 1133, 1134, 1135, 1136, 1137, 1138, 1139, 1140, 1141, 1142, 1143, 1144, 1145, 1146, 282, 283, 284, 285, 286, 287, 1147, 1148, 1149, 1150, 1151, 1152, 320, 321, 322, 1153, 1154, 1155, 402, 403, 404, 405, 406, 407, 408, 409, 410, 411, 412, 1244, 1245, 1246, 1247, 1200, 1157, 1158, 1159, 708, 679, 680, 681, 682, 585, 586, 587, 257, 683, 684, 685, 686, 258, 1160, 1161, 1162, 1163, 256, 709, 710, 711, 712, 713, 714, 715, 716, 273, 717, 718, 148, 719, 1164, 1165, 1166, 1167, 1248, 389, 390, 391, 392, 147, 149, 345, 346, 347, 348, 379, 380, 381, 382, 1587, 1588, 1589, 1590, 1591, 1592, 1593, 1594, 1595, 1632, 1633, 1634, 1635, 1636, 1637, 1638, 1639, 1640, 1641, 1642, 1643, 1644, 1645, 1646, 1647, 1648, 1649, 1656, 1657, 1658, 1659, 1660, 1661, 1662, 1663, 1664, 1650, 1651, 1652, 1653, 1654, 1655, 1665, 1666, 1667, 1668, 1669, 1670, 1671, 1672, 1673, 1674, 1675, 1676, 1677, 1678] (by decide +kernel) (by decide +kernel)
set_option maxRecDepth 20000 in
theorem gL_law_X7_closeSession : GoodIn wsL_law (wsV RL 186 RX7 yX7_closeSession wsX7_closeSession) := goodIn_app (goodIn_of _ (by decide +kernel)) ggL_law_X7_closeSession
set_option maxRecDepth 20000 in
theorem ggL_law_X8_closeSession : GoodIn wsL_law wsX8_closeSession := goodIn_r _ [1252, 124, 570, 94, 104, 691, 571, 572, 573, 5, 574, 427, 428, 429, 1172, 1173, 1174, 1175, 426, 97, 1075, 1076, 1077, 1078, 692, 693, 694, 695, 596, 597, 598, 599, 696, 697, 698, 699, 737, 738, 739, 740, 741, 742, 743, 744, 745, 746, 747, 748, 749, 750, 751, 752, 753, 754, 755, 756, 757, 758, 759, 534, 535, 536, 537, 147, 148, 149, 531, 532, 533, 1596, 1597, 1598, 1599, 1600, 1601, 1602, 1603, 1604, 1605, 1606, 1607, 1608, 1609, 1610, 1611, 1612, 1613, 1614, 1615, 1616, 1617, 1618, 1619, 1620, 1621, 1622] (by decide +kernel) (by decide +kernel)
set_option maxRecDepth 20000 in
theorem gL_law_X8_closeSession : GoodIn wsL_law (wsV RL 189 RX8 yX8_closeSession wsX8_closeSession) := goodIn_app (goodIn_of _ (by decide +kernel)) ggL_law_X8_closeSession
set_option maxRecDepth 20000 in
theorem ggL_law_X7_markBad : GoodIn wsL_law wsX7_markBad := goodIn_r _ [1256, 19, 564, 562, 1257, 1258, 114, 863, 864, 865, 18, 866, 42, 867, 370, 371, 372, 373, 72, 1259, 300, 301, 50, 302, 61, 1118, 1119, 1120, 2, 1121, 24, 1122, 1123, 1124, 23, 1125, 1126, 401, 89, 88, 17, 1127, 34, 35, 36, 10, 11, 37, 38, 39, 40, 41, 43, 44, 45, 46, 47, 48, 49, 51, 52, 53, 54, 55, 56, 57, 58, 59, 60, 62, 63, 64, 65, 66, 67, 68, 69, 70, 71, 73, 74, 75, 76, 77, 78, 79, 80, 81, 82, 83, 84, 1128, 1129, 1130, 1131, 1132, 1133, 1134, 1135, 1136, 1137, 1138, 1139, 1140, 1141, 1142, 1143, 1144, 1145, 1146, 282, 283, 284, 285, 286, 287, 1147, 1148, 1149, 1150, 1151, 1152, 320, 321, 322, 1153, 1154, 1155, 402, 403, 404, 405, 406, 407, 408, 409, 410, 411, 412, 1260, 304, 305, 306, 307, 308, 309, 310, 311, 312, 313, 314, 315, 316, 317, 318, 319, 1261, 1262, 1263, 1264, 1587, 1588, 1589, 1590, 1591, 1592, 1593, 1594, 1595, 1632, 1633, 1634, 1635, 1636, 1637, 1638, 1639, 1640, 1641, 1642, 1643, 1644, 1645, 1646, 1647, 1648, 1649, 1656, 1657, 1658, 1659, 1660, 1661, 1662, 1663, 1664, 1650, 1651, 1652, 1653, 1654, 1655, 1665, 1666, 1667, 1668, 1669, 1670, 1671, 1672, 1673, 1674, 1675, 1676, 1677, 1678] (by decide +kernel) (by decide +kernel)
set_option maxRecDepth 20000 in
theorem gL_law_X7_markBad : GoodIn wsL_law (wsV RL 190 RX7 yX7_markBad wsX7_markBad) := goodIn_app (goodIn_of _ (by decide +kernel)) ggL_law_X7_markBad
set_option maxRecDepth 20000 in
theorem ggL_law_X8_markBad : GoodIn wsL_law wsX8_markBad := goodIn_r _ [1268, 124, 570, 94, 1269, 126, 877, 878, 879, 5, 880, 571, 572, 573, 574, 427, 428, 429, 501, 502, 503, 1172, 1173, 1174, 1175, 426, 97, 504, 505, 506, 507, 508, 509, 1596, 1597, 1598, 1599, 1600, 1601, 1602, 1603, 1604, 1605, 1606, 1607, 1608, 1609, 1610, 1611, 1612, 1613, 1614, 1615, 1616, 1617, 1618, 1619, 1620, 1621, 1622] (by decide +kernel) (by decide +kernel)
set_option maxRecDepth 20000 in
theorem gL_law_X8_markBad : GoodIn wsL_law (wsV RL 193 RX8 yX8_markBad wsX8_markBad) := goodIn_app (goodIn_of _ (by decide +kernel)) ggL_law_X8_markBad
set_option maxRecDepth 20000 in
theorem ggL_law_X7_moveHome : GoodIn wsL_law wsX7_moveHome := goodIn_r _ [1273, 19, 564, 562, 563, 1257, 553, 114, 565, 371, 372, 18, 373, 72, 579, 580, 581, 582, 69, 584, 585, 586, 587, 70, 40, 257, 583, 270, 271, 272, 42, 273, 1118, 1119, 1120, 2, 1121, 24, 1122, 1123, 1124, 23, 1125, 1126, 401, 89, 88, 17, 1127, 34, 35, 36, 10, 11, 37, 38, 39, 41, 43, 44, 45, 46, 47, 48, 49, 50, 51, 52, 53, 54, 55, 56, 57, 58, 59, 60, 61, 62, 63, 64, 65, 66, 67, 68, 71, 73, 74, 75, 76, 77, 78, 79, 80, 81, 82, 83, 84, 1128, 1129, 1130, 1131, 1132, 1133, 1134, 1135, 1136, 1137, 1138, 1139, 1140, 1141, 1142, 1143, 1144, 1145, 1146, 282, 283, 284, 285, 286, 287, 1147, 1148, 1149, 1150, 1151, 1152, 320, 321, 322, 1153, 1154, 1155, 402, 403, 404, 405, 406, 407, 408, 409, 410, 411, 412, 1587, 1588, 1589, 1590, 1591, 1592, 1593, 1594, 1595, 1632, 1633, 1634, 1635, 1636, 1637, 1638, 1639, 1640, 1641, 1642, 1643, 1644, 1645, 1646, 1647, 1648, 1649, 1656, 1657, 1658, 1659, 1660, 1661, 1662, 1663, 1664, 1653, 1654, 1655, 1650, 1651, 1652, 1665, 1666, 1667, 1668, 1669, 1670, 1671, 1672, 1673, 1674, 1675, 1676, 1677, 1678] (by decide +kernel) (by decide +kernel)
set_option maxRecDepth 20000 in
theorem gL_law_X7_moveHome : GoodIn wsL_law (wsV RL 194 RX7 yX7_moveHome wsX7_moveHome) := goodIn_app (goodIn_of _ (by decide +kernel)) ggL_law_X7_moveHome
set_option maxRecDepth 20000 in
theorem ggL_law_X8_moveHome : GoodIn wsL_law wsX8_moveHome := goodIn_r _ [1277, 124, 570, 94, 1269, 104, 126, 571, 572, 573, 5, 574, 427, 428, 429, 592, 593, 594, 595, 596, 597, 598, 599, 494, 495, 496, 1172, 1173, 1174, 1175, 426, 97, 1596, 1597, 1598, 1599, 1600, 1601, 1602, 1603, 1604, 1605, 1606, 1607, 1608, 1609, 1610, 1611, 1612, 1613, 1614, 1615, 1616, 1617, 1618, 1619, 1620, 1621, 1622] (by decide +kernel) (by decide +kernel)
set_option maxRecDepth 20000 in
theorem gL_law_X8_moveHome : GoodIn wsL_law (wsV RL 197 RX8 yX8_moveHome wsX8_moveHome) := goodIn_app (goodIn_of _ (by decide +kernel)) ggL_law_X8_moveHome
set_option maxRecDepth 20000 in
theorem ggL_law_X7_setTimes : GoodIn wsL_law wsX7_setTimes := goodIn_r _ [1281, 135, 19, 1282, 1257, 1283, 1284, 2, 1285, 1118, 1119, 1120, 1121, 24, 1122, 1123, 1124, 23, 1125, 1126, 401, 89, 88, 17, 18, 1127, 34, 35, 36, 10, 11, 37, 38, 39, 40, 41, 42, 43, 44, 45, 46, 47, 48, 49, 50, 51, 52, 53, 54, 55, 56, 57, 58, 59, 60, 61, 62, 63, 64, 65, 66, 67, 68, 69, 70, 71, 72, 73, 74, 75, 76, 77, 78, 79, 80, 81, 82, 83, 84, 1128, 1129, 1130, 1131, 1132, 1133, 1134, 1135, 1136, 1137, 1138, 1139, 1140, 1141, 1142, 1143, 1144, 1145, 1146, 282, 283, 284, 285, 286, 287, 1147, 1148, 1149, 1150, 1151, 1152, 320, 321, 322, 1153, 1154, 1155, 402, 403, 404, 405, 406, 407, 408, 409, 410, 411, 412, 1286, 1587, 1588, 1589, 1590, 1591, 1592, 1593, 1594, 1595, 1632, 1633, 1634, 1635, 1636, 1637, 1638, 1639, 1640, 1641, 1642, 1643, 1644, 1645, 1646, 1647, 1648, 1649, 1650, 1651, 1652, 1653, 1654, 1655, 1656, 1657, 1658, 1659, 1660, 1661, 1662, 1663, 1664, 1665, 1666, 1667, 1668, 1669, 1670, 1671, 1672, 1673, 1674, 1675, 1676, 1677, 1678] (by decide +kernel) (by decide +kernel)
set_option maxRecDepth 20000 in
theorem gL_law_X7_setTimes : GoodIn wsL_law (wsV RL 198 RX7 yX7_setTimes wsX7_setTimes) := goodIn_app (goodIn_of _ (by decide +kernel)) ggL_law_X7_setTimes
set_option maxRecDepth 20000 in
theorem ggL_law_X8_setTimes : GoodIn wsL_law wsX8_setTimes := goodIn_r _ [1290, 124, 1291, 417, 94, 1269, 427, 428, 5, 429, 1172, 1173, 1174, 1175, 426, 97, 1596, 1597, 1598, 1599, 1600, 1601, 1602, 1603, 1604, 1605, 1606, 1607, 1608, 1609, 1610, 1611, 1612, 1613, 1614, 1615, 1616, 1617, 1618, 1619, 1620, 1621, 1622] (by decide +kernel) (by decide +kernel)
set_option maxRecDepth 20000 in
theorem gL_law_X8_setTimes : GoodIn wsL_law (wsV RL 201 RX8 yX8_setTimes wsX8_setTimes) := goodIn_app (goodIn_of _ (by decide +kernel)) ggL_law_X8_setTimes
set_option maxRecDepth 20000 in
theorem ggL_law_X7_request : GoodIn wsL_law wsX7_request := goodIn_r _ [1295, 19, 564, 1045, 1296, 114, 1297, 941, 367, 368, 18, 369, 75, 1016, 1017, 1018, 1019, 1020, 960, 961, 962, 44, 45, 1021, 1022, 1023, 1024, 307, 42, 359, 365, 1025, 1026, 1027, 50, 1028, 287, 286, 1118, 1119, 1120, 2, 1121, 24, 1122, 1123, 1124, 23, 1125, 1126, 401, 89, 88, 17, 1127, 34, 35, 36, 10, 11, 37, 38, 39, 40, 41, 43, 46, 47, 48, 49, 51, 52, 53, 54, 55, 56, 57, 58, 59, 60, 61, 62, 63, 64, 65, 66, 67, 68, 69, 70, 71, 72, 73, 74, 76, 77, 78, 79, 80, 81, 82, 83, 84, 1128, 1129, 1130, 1131, 1132, 1133, 1134, 1135, 1136, 1137, 1138, 1139, 1140, 1141, 1142, 1143, 1144, 1145, 1146, 282, 283, 284, 285, 1147, 1148, 1149, 1150, 1151, 1152, 320, 321, 322, 1153, 1154, 1155, 402, 403, 404, 405, 406, 407, 408, 409, 410, 411, 412, 1587, 1588, 1589, 1590, 1591, 1592, 1593, 1594, 1595, 1632, 1633, 1634, 1635, 1636, 1637, 1638, 1639, 1640, 1641, 1642, 1643, 1644, 1645, 1646, 1647, 1648, 1649, 1665, 1666, 1667, 1668, 1669, 1670, 1671, 1656, 1657, 1658, 1659, 1660, 1661, 1662, 1663, 1664, 1650, 1651, 1652, 1653, 1654, 1655, 1672, 1673, 1674, 1675, 1676, 1677, 1678] (by decide +kernel) (by decide +kernel)
set_option maxRecDepth 20000 in
theorem gL_law_X7_request : GoodIn wsL_law (wsV RL 202 RX7 yX7_request wsX7_request) := goodIn_app (goodIn_of _ (by decide +kernel)) ggL_law_X7_request
set_option maxRecDepth 20000 in
theorem ggL_law_X8_request : GoodIn wsL_law wsX8_request := goodIn_r _ [1301, 124, 570, 1058, 94, 126, 950, 951, 952, 5, 953, 427, 428, 429, 1059, 1060, 1061, 1062, 971, 972, 973, 974, 1063, 1064, 1065, 1066, 1033, 1034, 1035, 1036, 1172, 1173, 1174, 1175, 426, 97, 1596, 1597, 1598, 1599, 1600, 1601, 1602, 1603, 1604, 1605, 1606, 1607, 1608, 1609, 1610, 1611, 1612, 1613, 1614, 1615, 1616, 1617, 1618, 1619, 1620, 1621, 1622] (by decide +kernel) (by decide +kernel)
set_option maxRecDepth 20000 in
theorem gL_law_X8_request : GoodIn wsL_law (wsV RL 205 RX8 yX8_request wsX8_request) := goodIn_app (goodIn_of _ (by decide +kernel)) ggL_law_X8_request
set_option maxRecDepth 20000 in
theorem ggL_law_X7_dropRequest : GoodIn wsL_law wsX7_dropRequest := goodIn_r _ [1305, 19, 564, 1306, 1307, 1308, 18, 1309, 76, 1118, 1119, 1120, 2, 1121, 24, 1122, 1123, 1124, 23, 1125, 1126, 401, 89, 88, 17, 1127, 34, 35, 36, 10, 11, 37, 38, 39, 40, 41, 42, 43, 44, 45, 46, 47, 48, 49, 50, 51, 52, 53, 54, 55, 56, 57, 58, 59, 60, 61, 62, 63, 64, 65, 66, 67, 68, 69, 70, 71, 72, 73, 74, 75, 77, 78, 79, 80, 81, 82, 83, 84, 1128, 1129, 1130, 1131, 1132, 1133, 1134, 1135, 1136, 1137, 1138, 1139, 1140, 1141, 1142, 1143, 1144, 1145, 1146, 282, 283, 284, 285, 286, 287, 1147, 1148, 1149, 1150, 1151, 1152, 320, 321, 322, 1153, 1154, 1155, 402, 403, 404, 405, 406, 407, 408, 409, 410, 411, 412, 1310, 1311, 1312, 1313, 1587, 1588, 1589, 1590, 1591, 1592, 1593, 1594, 1595, 1632, 1633, 1634, 1635, 1636, 1637, 1638, 1639, 1640, 1641, 1642, 1643, 1644, 1645, 1646, 1647, 1648, 1649, 1650, 1651, 1652, 1653, 1654, 1655, 1656, 1657, 1658, 1659, 1660, 1661, 1662, 1663, 1664, 1665, 1666, 1667, 1668, 1669, 1670, 1671, 1672, 1673, 1674, 1675, 1676, 1677, 1678] (by decide +kernel) (by decide +kernel)
set_option maxRecDepth 20000 in
theorem gL_law_X7_dropRequest : GoodIn wsL_law (wsV RL 206 RX7 yX7_dropRequest wsX7_dropRequest) := goodIn_app (goodIn_of _ (by decide +kernel)) ggL_law_X7_dropRequest
set_option maxRecDepth 20000 in
theorem ggL_law_X8_dropRequest : GoodIn wsL_law wsX8_dropRequest := goodIn_r _ [1317, 124, 570, 94, 1318, 1319, 1320, 5, 1321, 427, 428, 429, 1172, 1173, 1174, 1175, 426, 97, 1322, 1323, 1324, 1325, 1596, 1597, 1598, 1599, 1600, 1601, 1602, 1603, 1604, 1605, 1606, 1607, 1608, 1609, 1610, 1611, 1612, 1613, 1614, 1615, 1616, 1617, 1618, 1619, 1620, 1621, 1622] (by decide +kernel) (by decide +kernel)
set_option maxRecDepth 20000 in
theorem gL_law_X8_dropRequest : GoodIn wsL_law (wsV RL 209 RX8 yX8_dropRequest wsX8_dropRequest) := goodIn_app (goodIn_of _ (by decide +kernel)) ggL_law_X8_dropRequest
set_option maxRecDepth 20000 in
theorem ggL_law_X7_serveBatch : GoodIn wsL_law wsX7_serveBatch := goodIn_r _ [1329, 19, 645, 1330, 1331, 1332, 1296, 1333, 1334, 1335, 2, 1336, 1337, 1338, 1339, 1340, 553, 676, 677, 1297, 1045, 1016, 1017, 1018, 18, 1019, 1020, 960, 961, 962, 44, 45, 1021, 1022, 1023, 1024, 307, 42, 359, 365, 1025, 1026, 1027, 50, 1028, 287, 286, 1341, 1342, 1343, 1344, 406, 1345, 1346, 410, 1347, 1348, 1349, 10, 11, 37, 1350, 1351, 1352, 1353, 412, 1354, 1355, 1356, 1357, 1358, 1359, 1360, 1361, 1362, 76, 46, 682, 585, 586, 587, 70, 40, 257, 1363, 1364, 1365, 1366, 683, 684, 685, 686, 71, 258, 1367, 621, 622, 623, 1368, 1369, 1370, 1371, 1372, 1373, 1374, 147, 148, 149, 1375, 1376, 1377, 1378, 1379, 1380, 1381, 1382, 1383, 1384, 1385, 718, 719, 1386, 1387, 1388, 1389, 1390, 1391, 1392, 1393, 1394, 710, 711, 712, 38, 713, 714, 715, 716, 256, 77, 273, 717, 1395, 1396, 1397, 1398, 1399, 1400, 1401, 1402, 1118, 1119, 1120, 1121, 24, 1122, 1123, 1124, 23, 1125, 1126, 401, 89, 88, 17, 1127, 34, 35, 36, 39, 41, 43, 47, 48, 49, 51, 52, 53, 54, 55, 56, 57, 58, 59, 60, 61, 62, 63, 64, 65, 66, 67, 68, 69, 72, 73, 74, 75, 78, 79, 80, 81, 82, 83, 84, 1128, 1129, 1130, 1131, 1132, 1133, 1134, 1135, 1136, 1137, 1138, 1139, 1140, 1141, 1142, 1143, 1144, 1145, 1146, 282, 283, 284, 285, 1147, 1148, 1149, 1150, 1151, 1152, 320, 321, 322, 1153, 1154, 1155, 402, 403, 404, 405, 407, 408, 409, 411, 1403, 1404, 1405, 1406, 1407, 1408, 1409, 1410, 1201, 1047, 1048, 1049, 362, 363, 1164, 1165, 1166, 1167, 1411, 1161, 1162, 1163, 709, 1412, 1587, 1588, 1589, 1590, 1591, 1592, 1593, 1594, 1595, 1632, 1633, 1634, 1635, 1636, 1637, 1638, 1639, 1640, 1641, 1642, 1643, 1644, 1645, 1646, 1647, 1648, 1649, 1672, 1673, 1674, 1675, 1676, 1677, 1678, 1665, 1666, 1667, 1668, 1669, 1670, 1671, 1656, 1657, 1658, 1659, 1660, 1661, 1662, 1663, 1664, 1653, 1654, 1655, 1650, 1651, 1652] (by decide +kernel) (by decide +kernel)
set_option maxRecDepth 20000 in
theorem gL_law_X7_serveBatch : GoodIn wsL_law (wsV RL 210 RX7 yX7_serveBatch wsX7_serveBatch) := goodIn_app (goodIn_of _ (by decide +kernel)) ggL_law_X7_serveBatch
set_option maxRecDepth 20000 in
theorem ggL_law_X8_serveBatch : GoodIn wsL_law wsX8_serveBatch := goodIn_r _ [1416, 124, 94, 1417, 1418, 1419, 5, 1420, 104, 691, 1058, 1421, 1422, 1423, 1424, 1059, 1060, 1061, 1062, 971, 972, 973, 974, 1063, 1064, 1065, 1066, 1033, 1034, 1035, 1036, 1172, 1173, 1174, 1175, 426, 97, 1425, 1426, 1427, 1428, 1429, 98, 99, 1430, 1431, 1432, 1433, 1071, 1072, 1073, 1074, 596, 597, 598, 599, 1434, 1435, 1436, 1437, 1067, 1068, 1069, 1070, 1075, 1076, 1077, 1078, 692, 693, 694, 695, 696, 697, 698, 699, 737, 738, 739, 740, 741, 742, 743, 744, 745, 746, 747, 748, 749, 750, 751, 752, 753, 754, 755, 756, 757, 758, 759, 1438, 1439, 1440, 1441, 1442, 100, 1443, 1444, 1445, 1446, 1447, 1448, 1449, 1450, 1451, 1452, 1453, 1454, 1455, 1456, 1457, 1458, 1176, 1177, 1178, 1179, 1596, 1597, 1598, 1599, 1600, 1601, 1602, 1603, 1604, 1605, 1606, 1607, 1608, 1609, 1610, 1611, 1612, 1613, 1614, 1615, 1616, 1617, 1618, 1619, 1620, 1621, 1622] (by decide +kernel) (by decide +kernel)
set_option maxRecDepth 20000 in
theorem gL_law_X8_serveBatch : GoodIn wsL_law (wsV RL 213 RX8 yX8_serveBatch wsX8_serveBatch) := goodIn_app (goodIn_of _ (by decide +kernel)) ggL_law_X8_serveBatch
set_option maxRecDepth 20000 in
theorem ggL_law_X7_undo : GoodIn wsL_law wsX7_undo := goodIn_r _ [1462, 24, 1463, 553, 19, 1464, 1465, 1466, 23, 1467, 401, 1126, 89, 402, 403, 404, 2, 405, 406, 407, 408, 409, 410, 411, 412, 1587, 1588, 1589, 1590, 1591, 1592, 1593, 1594, 1595, 1650, 1651, 1652, 1672, 1673, 1674, 1675, 1676, 1677, 1678] (by decide +kernel) (by decide +kernel)
set_option maxRecDepth 20000 in
theorem gL_law_X7_undo : GoodIn wsL_law (wsV RL 214 RX7 yX7_undo wsX7_undo) := goodIn_app (goodIn_of _ (by decide +kernel)) ggL_law_X7_undo
set_option maxRecDepth 20000 in
theorem ggL_law_X8_undo : GoodIn wsL_law wsX8_undo := goodIn_r _ [1471, 124, 426, 104, 94, 97, 1596, 1597, 1598, 1599, 1600, 1601, 1602, 1603, 1604, 1605, 1606, 1607, 1608, 1609, 1610, 1611, 1612, 1613, 1614, 1615, 1616, 1617, 1618, 1619, 1620, 1621, 1622] (by decide +kernel) (by decide +kernel)
set_option maxRecDepth 20000 in
theorem gL_law_X8_undo : GoodIn wsL_law (wsV RL 217 RX8 yX8_undo wsX8_undo) := goodIn_app (goodIn_of _ (by decide +kernel)) ggL_law_X8_undo
set_option maxRecDepth 20000 in
theorem ggL_law_X7_requestedFile : GoodIn wsL_law wsX7_requestedFile := goodIn_r _ [1475, 19, 1297, 564, 1306, 1307, 1308, 18, 1309, 76, 1587, 1588, 1589, 1590, 1591, 1592, 1593, 1594, 1595, 1632, 1633, 1634, 1635, 1636, 1637, 1638, 1639, 1640, 1641, 1642, 1643, 1644, 1645, 1646, 1647, 1648, 1649] (by decide +kernel) (by decide +kernel)
set_option maxRecDepth 20000 in
theorem gL_law_X7_requestedFile : GoodIn wsL_law (wsV RL 218 RX7 yX7_requestedFile wsX7_requestedFile) := goodIn_app (goodIn_of _ (by decide +kernel)) ggL_law_X7_requestedFile
set_option maxRecDepth 20000 in
theorem ggL_law_X8_requestedFile : GoodIn wsL_law wsX8_requestedFile := goodIn_r _ [1479, 124, 94, 570, 1318, 1319, 1320, 5, 1321, 427, 428, 429, 1596, 1597, 1598, 1599, 1600, 1601, 1602, 1603, 1604, 1605, 1606, 1607, 1608, 1609, 1610, 1611, 1612, 1613, 1614, 1615, 1616, 1617, 1618, 1619, 1620, 1621, 1622] (by decide +kernel) (by decide +kernel)
set_option maxRecDepth 20000 in
theorem gL_law_X8_requestedFile : GoodIn wsL_law (wsV RL 221 RX8 yX8_requestedFile wsX8_requestedFile) := goodIn_app (goodIn_of _ (by decide +kernel)) ggL_law_X8_requestedFile
set_option maxRecDepth 20000 in
theorem ggL_law_X7_batchTime : GoodIn wsL_law wsX7_batchTime := goodIn_r _ [1483, 19, 1337, 1338, 1339, 2, 1340, 1296, 553, 676, 677, 1297, 1045, 1016, 1017, 1018, 18, 1019, 1020, 960, 961, 962, 44, 45, 1021, 1022, 1023, 1024, 307, 42, 359, 365, 1025, 1026, 1027, 50, 1028, 287, 286, 1341, 1342, 1343, 1344, 406, 1345, 1346, 410, 1347, 1348, 1349, 10, 11, 37, 1350, 1351, 1352, 1353, 412, 1484, 1485, 1486, 1487, 1359, 1360, 1361, 1362, 76, 46, 682, 585, 586, 587, 70, 40, 257, 1363, 1364, 1365, 1366, 683, 684, 685, 686, 71, 258, 1368, 1369, 1370, 1371, 1372, 1373, 1374, 147, 148, 149, 1367, 621, 622, 623, 1375, 1376, 1377, 1378, 1379, 1380, 1381, 1382, 1383, 1384, 1385, 718, 719, 1386, 1387, 1388, 1389, 1390, 1391, 1392, 1393, 1394, 710, 711, 712, 38, 713, 714, 715, 716, 256, 77, 273, 717, 1488, 1489, 1490, 1491, 1201, 1047, 1048, 1049, 362, 363, 1587, 1588, 1589, 1590, 1591, 1592, 1593, 1594, 1595, 1632, 1633, 1634, 1635, 1636, 1637, 1638, 1639, 1640, 1641, 1642, 1643, 1644, 1645, 1646, 1647, 1648, 1649, 1665, 1666, 1667, 1668, 1669, 1670, 1671, 1656, 1657, 1658, 1659, 1660, 1661, 1662, 1663, 1664, 1672, 1673, 1674, 1675, 1676, 1677, 1678, 1653, 1654, 1655] (by decide +kernel) (by decide +kernel)
set_option maxRecDepth 20000 in
theorem gL_law_X7_batchTime : GoodIn wsL_law (wsV RL 222 RX7 yX7_batchTime wsX7_batchTime) := goodIn_app (goodIn_of _ (by decide +kernel)) ggL_law_X7_batchTime
set_option maxRecDepth 20000 in
theorem ggL_law_X8_batchTime : GoodIn wsL_law wsX8_batchTime := goodIn_r _ [1495, 124, 1417, 1418, 1419, 5, 1420, 94, 104, 691, 1058, 1421, 1422, 1423, 1424, 1059, 1060, 1061, 1062, 971, 972, 973, 974, 1063, 1064, 1065, 1066, 1033, 1034, 1035, 1036, 1496, 1497, 1498, 1499, 732, 733, 734, 735, 96, 736, 538, 539, 540, 1425, 1426, 1427, 1428, 1429, 98, 99, 1430, 1431, 1432, 1433, 1071, 1072, 1073, 1074, 596, 597, 598, 599, 1434, 1435, 1436, 1437, 1067, 1068, 1069, 1070, 1075, 1076, 1077, 1078, 692, 693, 694, 695, 696, 697, 698, 699, 737, 738, 739, 740, 741, 742, 743, 744, 745, 746, 747, 748, 749, 750, 751, 752, 753, 754, 755, 756, 757, 758, 759, 1438, 1439, 1440, 1441, 1442, 100, 1443, 1444, 1445, 1446, 1447, 1448, 1449, 1450, 1451, 1452, 1453, 1454, 1455, 1456, 1457, 1458, 760, 761, 762, 763, 1596, 1597, 1598, 1599, 1600, 1601, 1602, 1603, 1604, 1605, 1606, 1607, 1608, 1609, 1610, 1611, 1612, 1613, 1614, 1615, 1616, 1617, 1618, 1619, 1620, 1621, 1622] (by decide +kernel) (by decide +kernel)
set_option maxRecDepth 20000 in
theorem gL_law_X8_batchTime : GoodIn wsL_law (wsV RL 225 RX8 yX8_batchTime wsX8_batchTime) := goodIn_app (goodIn_of _ (by decide +kernel)) ggL_law_X8_batchTime
set_option maxRecDepth 20000 in
theorem ggL_law_X7_batchExchanges : GoodIn wsL_law wsX7_batchExchanges := goodIn_r _ [1503, 1330, 1333, 1334, 1335, 2, 1336, 19, 1337, 1338, 1339, 1340, 1296, 553, 676, 677, 1297, 1045, 1016, 1017, 1018, 18, 1019, 1020, 960, 961, 962, 44, 45, 1021, 1022, 1023, 1024, 307, 42, 359, 365, 1025, 1026, 1027, 50, 1028, 287, 286, 1341, 1342, 1343, 1344, 406, 1345, 1346, 410, 1347, 1348, 1349, 10, 11, 37, 1350, 1351, 1352, 1353, 412, 1354, 1355, 1356, 1357, 1358, 1359, 1360, 1361, 1362, 76, 46, 682, 585, 586, 587, 70, 40, 257, 1363, 1364, 1365, 1366, 683, 684, 685, 686, 71, 258, 1367, 621, 622, 623, 1368, 1369, 1370, 1371, 1372, 1373, 1374, 147, 148, 149, 1375, 1376, 1377, 1378, 1379, 1380, 1381, 1382, 1383, 1384, 1385, 718, 719, 1386, 1387, 1388, 1389, 1390, 1391, 1392, 1393, 1394, 710, 711, 712, 38, 713, 714, 715, 716, 256, 77, 273, 717, 1395, 1396, 1397, 1398, 1399, 1400, 1401, 1402, 1672, 1673, 1674, 1675, 1676, 1677, 1678, 1587, 1588, 1589, 1590, 1591, 1592, 1593, 1594, 1595, 1632, 1633, 1634, 1635, 1636, 1637, 1638, 1639, 1640, 1641, 1642, 1643, 1644, 1645, 1646, 1647, 1648, 1649, 1665, 1666, 1667, 1668, 1669, 1670, 1671, 1656, 1657, 1658, 1659, 1660, 1661, 1662, 1663, 1664, 1653, 1654, 1655] (by decide +kernel) (by decide +kernel)
set_option maxRecDepth 20000 in
theorem gL_law_X7_batchExchanges : GoodIn wsL_law (wsV RL 226 RX7 yX7_batchExchanges wsX7_batchExchanges) := goodIn_app (goodIn_of _ (by decide +kernel)) ggL_law_X7_batchExchanges
set_option maxRecDepth 20000 in
theorem ggL_law_X8_batchExchanges : GoodIn wsL_law wsX8_batchExchanges := goodIn_r _ [1507, 124, 1429, 1417, 1418, 1419, 5, 1420, 94, 104, 691, 1058, 1421, 1422, 1423, 1424, 1059, 1060, 1061, 1062, 971, 972, 973, 974, 1063, 1064, 1065, 1066, 1033, 1034, 1035, 1036, 1430, 1431, 1432, 1433, 98, 1071, 1072, 1073, 1074, 596, 597, 598, 599, 1596, 1597, 1598, 1599, 1600, 1601, 1602, 1603, 1604, 1605, 1606, 1607, 1608, 1609, 1610, 1611, 1612, 1613, 1614, 1615, 1616, 1617, 1618, 1619, 1620, 1621, 1622] (by decide +kernel) (by decide +kernel)
set_option maxRecDepth 20000 in
theorem gL_law_X8_batchExchanges : GoodIn wsL_law (wsV RL 229 RX8 yX8_batchExchanges wsX8_batchExchanges) := goodIn_app (goodIn_of _ (by decide +kernel)) ggL_law_X8_batchExchanges
set_option maxRecDepth 20000 in
theorem ggL_law_X7_batchPlatter : GoodIn wsL_law wsX7_batchPlatter := goodIn_r _ [1511, 1330, 564, 1331, 1333, 1334, 1335, 2, 1336, 19, 1337, 1338, 1339, 1340, 1296, 553, 676, 677, 1297, 1045, 1016, 1017, 1018, 18, 1019, 1020, 960, 961, 962, 44, 45, 1021, 1022, 1023, 1024, 307, 42, 359, 365, 1025, 1026, 1027, 50, 1028, 287, 286, 1341, 1342, 1343, 1344, 406, 1345, 1346, 410, 1347, 1348, 1349, 10, 11, 37, 1350, 1351, 1352, 1353, 412, 1354, 1355, 1356, 1357, 1358, 1359, 1360, 1361, 1362, 76, 46, 682, 585, 586, 587, 70, 40, 257, 1363, 1364, 1365, 1366, 683, 684, 685, 686, 71, 258, 1367, 621, 622, 623, 1368, 1369, 1370, 1371, 1372, 1373, 1374, 147, 148, 149, 1375, 1376, 1377, 1378, 1379, 1380, 1381, 1382, 1383, 1384, 1385, 718, 719, 1386, 1387, 1388, 1389, 1390, 1391, 1392, 1393, 1394, 710, 711, 712, 38, 713, 714, 715, 716, 256, 77, 273, 717, 1395, 1396, 1397, 1398, 1399, 1400, 1401, 1402, 1672, 1673, 1674, 1675, 1676, 1677, 1678, 1587, 1588, 1589, 1590, 1591, 1592, 1593, 1594, 1595, 1632, 1633, 1634, 1635, 1636, 1637, 1638, 1639, 1640, 1641, 1642, 1643, 1644, 1645, 1646, 1647, 1648, 1649, 1665, 1666, 1667, 1668, 1669, 1670, 1671, 1656, 1657, 1658, 1659, 1660, 1661, 1662, 1663, 1664, 1653, 1654, 1655] (by decide +kernel) (by decide +kernel)
set_option maxRecDepth 20000 in
theorem gL_law_X7_batchPlatter : GoodIn wsL_law (wsV RL 230 RX7 yX7_batchPlatter wsX7_batchPlatter) := goodIn_app (goodIn_of _ (by decide +kernel)) ggL_law_X7_batchPlatter
set_option maxRecDepth 20000 in
theorem ggL_law_X8_batchPlatter : GoodIn wsL_law wsX8_batchPlatter := goodIn_r _ [1515, 124, 1429, 98, 99, 570, 1417, 1418, 1419, 5, 1420, 94, 104, 691, 1058, 1421, 1422, 1423, 1424, 1059, 1060, 1061, 1062, 971, 972, 973, 974, 1063, 1064, 1065, 1066, 1033, 1034, 1035, 1036, 1496, 1497, 1498, 1499, 732, 733, 734, 735, 96, 736, 538, 539, 540, 1425, 1426, 1427, 1428, 1430, 1431, 1432, 1433, 1071, 1072, 1073, 1074, 596, 597, 598, 599, 1434, 1435, 1436, 1437, 1067, 1068, 1069, 1070, 1075, 1076, 1077, 1078, 692, 693, 694, 695, 696, 697, 698, 699, 737, 738, 739, 740, 741, 742, 743, 744, 745, 746, 747, 748, 749, 750, 751, 752, 753, 754, 755, 756, 757, 758, 759, 1438, 1439, 1440, 1441, 1442, 100, 1443, 1444, 1445, 1446, 1447, 1448, 1449, 1450, 1451, 1452, 1453, 1454, 1455, 1456, 1457, 1458, 760, 761, 762, 763, 427, 428, 429, 1596, 1597, 1598, 1599, 1600, 1601, 1602, 1603, 1604, 1605, 1606, 1607, 1608, 1609, 1610, 1611, 1612, 1613, 1614, 1615, 1616, 1617, 1618, 1619, 1620, 1621, 1622] (by decide +kernel) (by decide +kernel)
set_option maxRecDepth 20000 in
theorem gL_law_X8_batchPlatter : GoodIn wsL_law (wsV RL 233 RX8 yX8_batchPlatter wsX8_batchPlatter) := goodIn_app (goodIn_of _ (by decide +kernel)) ggL_law_X8_batchPlatter
set_option maxRecDepth 20000 in
theorem ggL_law_X7_oneByOneTime : GoodIn wsL_law wsX7_oneByOneTime := goodIn_r _ [1519, 20, 19, 1296, 1297, 645, 1337, 1338, 1339, 2, 1340, 553, 676, 677, 1045, 1016, 1017, 1018, 18, 1019, 1020, 960, 961, 962, 44, 45, 1021, 1022, 1023, 1024, 307, 42, 359, 365, 1025, 1026, 1027, 50, 1028, 287, 286, 1520, 1129, 1130, 1131, 69, 38, 1132, 1133, 1134, 1135, 70, 40, 71, 72, 73, 74, 75, 46, 76, 77, 78, 79, 80, 1136, 1137, 1138, 48, 1139, 1140, 1141, 1142, 1143, 1144, 1145, 1146, 282, 283, 284, 285, 59, 1147, 60, 61, 1148, 1149, 1150, 52, 1151, 1152, 320, 321, 322, 1153, 1154, 1155, 1196, 1197, 1198, 1199, 1200, 1157, 1158, 1159, 708, 679, 680, 681, 682, 585, 586, 587, 257, 683, 684, 685, 686, 258, 1160, 1161, 1162, 1163, 256, 709, 710, 711, 712, 713, 714, 715, 716, 273, 717, 718, 148, 719, 1164, 1165, 1166, 1167, 1201, 1047, 1048, 1049, 362, 363, 1587, 1588, 1589, 1590, 1591, 1592, 1593, 1594, 1595, 1632, 1633, 1634, 1635, 1636, 1637, 1638, 1639, 1640, 1641, 1642, 1643, 1644, 1645, 1646, 1647, 1648, 1649, 1665, 1666, 1667, 1668, 1669, 1670, 1671, 1656, 1657, 1658, 1659, 1660, 1661, 1662, 1663, 1664, 1653, 1654, 1655] (by decide +kernel) (by decide +kernel)
set_option maxRecDepth 20000 in
theorem gL_law_X7_oneByOneTime : GoodIn wsL_law (wsV RL 234 RX7 yX7_oneByOneTime wsX7_oneByOneTime) := goodIn_app (goodIn_of _ (by decide +kernel)) ggL_law_X7_oneByOneTime
set_option maxRecDepth 20000 in
theorem ggL_law_X8_oneByOneTime : GoodIn wsL_law wsX8_oneByOneTime := goodIn_r _ [1524, 124, 94, 1417, 1418, 1419, 5, 1420, 104, 691, 1058, 1421, 1422, 1423, 1424, 1059, 1060, 1061, 1062, 971, 972, 973, 974, 1063, 1064, 1065, 1066, 1033, 1034, 1035, 1036, 732, 733, 734, 735, 96, 736, 538, 539, 540, 1067, 1068, 1069, 1070, 1071, 1072, 1073, 1074, 1075, 1076, 1077, 1078, 692, 693, 694, 695, 596, 597, 598, 599, 696, 697, 698, 699, 737, 738, 739, 740, 741, 742, 743, 744, 745, 746, 747, 748, 749, 750, 751, 752, 753, 754, 755, 756, 757, 758, 759, 760, 761, 762, 763, 1596, 1597, 1598, 1599, 1600, 1601, 1602, 1603, 1604, 1605, 1606, 1607, 1608, 1609, 1610, 1611, 1612, 1613, 1614, 1615, 1616, 1617, 1618, 1619, 1620, 1621, 1622] (by decide +kernel) (by decide +kernel)
set_option maxRecDepth 20000 in
theorem gL_law_X8_oneByOneTime : GoodIn wsL_law (wsV RL 237 RX8 yX8_oneByOneTime wsX8_oneByOneTime) := goodIn_app (goodIn_of _ (by decide +kernel)) ggL_law_X8_oneByOneTime
set_option maxRecDepth 20000 in
theorem ggL_law_X7_leastTimeWithoutOne : GoodIn wsL_law wsX7_leastTimeWithoutOne := goodIn_r _ [1528, 1529, 19, 1296, 1530, 147, 148, 149, 1337, 1338, 1339, 2, 1340, 553, 676, 677, 1297, 1045, 1016, 1017, 1018, 18, 1019, 1020, 960, 961, 962, 44, 45, 1021, 1022, 1023, 1024, 307, 42, 359, 365, 1025, 1026, 1027, 50, 1028, 287, 286, 1341, 1342, 1343, 1344, 406, 1345, 1346, 410, 1347, 1348, 1349, 10, 11, 37, 1350, 1351, 1352, 1353, 412, 1484, 1485, 1486, 1487, 1359, 1360, 1361, 1362, 76, 46, 682, 585, 586, 587, 70, 40, 257, 1363, 1364, 1365, 1366, 683, 684, 685, 686, 71, 258, 1368, 1369, 1370, 1371, 1372, 1373, 1374, 1367, 621, 622, 623, 1375, 1376, 1377, 1378, 1379, 1380, 1381, 1382, 1383, 1384, 1385, 718, 719, 1386, 1387, 1388, 1389, 1390, 1391, 1392, 1393, 1394, 710, 711, 712, 38, 713, 714, 715, 716, 256, 77, 273, 717, 1488, 1489, 1490, 1491, 1201, 1047, 1048, 1049, 362, 363, 1587, 1588, 1589, 1590, 1591, 1592, 1593, 1594, 1595, 1632, 1633, 1634, 1635, 1636, 1637, 1638, 1639, 1640, 1641, 1642, 1643, 1644, 1645, 1646, 1647, 1648, 1649, 1665, 1666, 1667, 1668, 1669, 1670, 1671, 1656, 1657, 1658, 1659, 1660, 1661, 1662, 1663, 1664, 1672, 1673, 1674, 1675, 1676, 1677, 1678, 1653, 1654, 1655] (by decide +kernel) (by decide +kernel)
set_option maxRecDepth 20000 in
theorem gL_law_X7_leastTimeWithoutOne : GoodIn wsL_law (wsV RL 238 RX7 yX7_leastTimeWithoutOne wsX7_leastTimeWithoutOne) := goodIn_app (goodIn_of _ (by decide +kernel)) ggL_law_X7_leastTimeWithoutOne
set_option maxRecDepth 20000 in
theorem ggL_law_X8_leastTimeWithoutOne : GoodIn wsL_law wsX8_leastTimeWithoutOne := goodIn_r _ [1534, 124, 1442, 94, 1417, 1418, 1419, 5, 1420, 104, 691, 1058, 1421, 1422, 1423, 1424, 1059, 1060, 1061, 1062, 971, 972, 973, 974, 1063, 1064, 1065, 1066, 1033, 1034, 1035, 1036, 732, 733, 734, 735, 96, 736, 538, 539, 540, 1322, 1323, 1324, 1325, 1425, 1426, 1427, 1428, 1429, 98, 99, 1430, 1431, 1432, 1433, 1071, 1072, 1073, 1074, 596, 597, 598, 599, 1434, 1435, 1436, 1437, 1067, 1068, 1069, 1070, 1075, 1076, 1077, 1078, 692, 693, 694, 695, 696, 697, 698, 699, 737, 738, 739, 740, 741, 742, 743, 744, 745, 746, 747, 748, 749, 750, 751, 752, 753, 754, 755, 756, 757, 758, 759, 1438, 1439, 1440, 1441, 100, 1443, 1444, 1445, 1446, 1447, 1448, 1449, 1450, 1451, 1452, 1453, 1454, 1455, 1456, 1457, 1458, 760, 761, 762, 763, 1596, 1597, 1598, 1599, 1600, 1601, 1602, 1603, 1604, 1605, 1606, 1607, 1608, 1609, 1610, 1611, 1612, 1613, 1614, 1615, 1616, 1617, 1618, 1619, 1620, 1621, 1622] (by decide +kernel) (by decide +kernel)
set_option maxRecDepth 20000 in
theorem gL_law_X8_leastTimeWithoutOne : GoodIn wsL_law (wsV RL 241 RX8 yX8_leastTimeWithoutOne wsX8_leastTimeWithoutOne) := goodIn_app (goodIn_of _ (by decide +kernel)) ggL_law_X8_leastTimeWithoutOne
set_option maxRecDepth 20000 in
theorem ggL_law_X7_nearestHome : GoodIn wsL_law wsX7_nearestHome := goodIn_r _ [1538, 19, 1539, 672, 673, 674, 2, 675, 564, 676, 677, 565, 371, 372, 18, 373, 72, 583, 270, 271, 272, 42, 273, 1540, 1541, 1542, 1543, 70, 40, 256, 717, 718, 148, 719, 1544, 147, 149, 604, 605, 606, 553, 1587, 1588, 1589, 1590, 1591, 1592, 1593, 1594, 1595, 1632, 1633, 1634, 1635, 1636, 1637, 1638, 1639, 1640, 1641, 1642, 1643, 1644, 1645, 1646, 1647, 1648, 1649, 1656, 1657, 1658, 1659, 1660, 1661, 1662, 1663, 1664, 1653, 1654, 1655] (by decide +kernel) (by decide +kernel)
set_option maxRecDepth 20000 in
theorem gL_law_X7_nearestHome : GoodIn wsL_law (wsV RL 242 RX7 yX7_nearestHome wsX7_nearestHome) := goodIn_app (goodIn_of _ (by decide +kernel)) ggL_law_X7_nearestHome
set_option maxRecDepth 20000 in
theorem ggL_law_X8_nearestHome : GoodIn wsL_law wsX8_nearestHome := goodIn_r _ [1548, 124, 570, 94, 691, 571, 572, 573, 5, 574, 427, 428, 429, 494, 495, 496, 1549, 1550, 1551, 1552, 1442, 537, 147, 148, 149, 749, 750, 751, 1596, 1597, 1598, 1599, 1600, 1601, 1602, 1603, 1604, 1605, 1606, 1607, 1608, 1609, 1610, 1611, 1612, 1613, 1614, 1615, 1616, 1617, 1618, 1619, 1620, 1621, 1622] (by decide +kernel) (by decide +kernel)
set_option maxRecDepth 20000 in
theorem gL_law_X8_nearestHome : GoodIn wsL_law (wsV RL 245 RX8 yX8_nearestHome wsX8_nearestHome) := goodIn_app (goodIn_of _ (by decide +kernel)) ggL_law_X8_nearestHome
set_option maxRecDepth 20000 in
theorem ggL_law_X7_writeCatalogue : GoodIn wsL_law wsX7_writeCatalogue := goodIn_r _ [1556, 1557, 19, 141, 958, 979, 988, 959, 960, 961, 18, 962, 44, 45, 1558, 1559, 1560, 2, 1561, 1562, 1563, 1564, 1565, 26, 1016, 1017, 1018, 1019, 1020, 1021, 1022, 1023, 1024, 307, 42, 359, 365, 1025, 1026, 1027, 50, 1028, 287, 286, 1587, 1588, 1589, 1590, 1591, 1592, 1593, 1594, 1595, 1632, 1633, 1634, 1635, 1636, 1637, 1638, 1639, 1640, 1641, 1642, 1643, 1644, 1645, 1646, 1647, 1648, 1649, 1665, 1666, 1667, 1668, 1669, 1670, 1671, 1656, 1657, 1658, 1659, 1660, 1661, 1662, 1663, 1664] (by decide +kernel) (by decide +kernel)
set_option maxRecDepth 20000 in
theorem gL_law_X7_writeCatalogue : GoodIn wsL_law (wsV RL 246 RX7 yX7_writeCatalogue wsX7_writeCatalogue) := goodIn_app (goodIn_of _ (by decide +kernel)) ggL_law_X7_writeCatalogue
set_option maxRecDepth 20000 in
theorem ggL_law_X8_writeCatalogue : GoodIn wsL_law wsX8_writeCatalogue := goodIn_r _ [1569, 124, 1570, 94, 1571, 1572, 1573, 5, 1574, 1575, 1576, 1577, 1578, 101, 1071, 1072, 1073, 1074, 971, 972, 973, 974, 1059, 1060, 1061, 1062, 1063, 1064, 1065, 1066, 1033, 1034, 1035, 1036, 1596, 1597, 1598, 1599, 1600, 1601, 1602, 1603, 1604, 1605, 1606, 1607, 1608, 1609, 1610, 1611, 1612, 1613, 1614, 1615, 1616, 1617, 1618, 1619, 1620, 1621, 1622] (by decide +kernel) (by decide +kernel)
set_option maxRecDepth 20000 in
theorem gL_law_X8_writeCatalogue : GoodIn wsL_law (wsV RL 249 RX8 yX8_writeCatalogue wsX8_writeCatalogue) := goodIn_app (goodIn_of _ (by decide +kernel)) ggL_law_X8_writeCatalogue
set_option maxRecDepth 20000 in
theorem ggL_law_X7_outputByte : GoodIn wsL_law wsX7_outputByte := goodIn_r _ [1582, 1557, 564, 26, 1587, 1588, 1589, 1590, 1591, 1592, 1593, 1594, 1595] (by decide +kernel) (by decide +kernel)
set_option maxRecDepth 20000 in
theorem gL_law_X7_outputByte : GoodIn wsL_law (wsV RL 250 RX7 yX7_outputByte wsX7_outputByte) := goodIn_app (goodIn_of _ (by decide +kernel)) ggL_law_X7_outputByte
set_option maxRecDepth 20000 in
theorem ggL_law_X8_outputByte : GoodIn wsL_law wsX8_outputByte := goodIn_r _ [1586, 124, 1570, 101, 570, 427, 428, 5, 429, 1596, 1597, 1598, 1599, 1600, 1601, 1602, 1603, 1604, 1605, 1606, 1607, 1608, 1609, 1610, 1611, 1612, 1613, 1614, 1615, 1616, 1617, 1618, 1619, 1620, 1621, 1622] (by decide +kernel) (by decide +kernel)
set_option maxRecDepth 20000 in
theorem gL_law_X8_outputByte : GoodIn wsL_law (wsV RL 253 RX8 yX8_outputByte wsX8_outputByte) := goodIn_app (goodIn_of _ (by decide +kernel)) ggL_law_X8_outputByte
