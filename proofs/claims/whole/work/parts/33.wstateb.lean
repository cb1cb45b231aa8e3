set_option maxRecDepth 20000 in
theorem ggX4_isReadable_X4_currentVersion : GoodIn wsX4_isReadable wsX4_currentVersion := goodIn_r _ [5, 6, 7, 23, 24, 25, 26, 27, 28, 29, 30, 31, 32, 33, 34, 35, 36, 37, 38, 39, 40] (by decide +kernel) (by decide +kernel)
set_option maxRecDepth 20000 in
theorem gX4_isReadable_X4_currentVersion : GoodIn wsX4_isReadable (wsV RX4 173 RX4 yX4_currentVersion wsX4_currentVersion) := goodIn_app (goodIn_of _ (by decide +kernel)) ggX4_isReadable_X4_currentVersion
set_option maxRecDepth 20000 in
theorem ggX4_isReadable_X4_isGood : GoodIn wsX4_isReadable wsX4_isGood := goodIn_r _ [11, 12, 13, 14, 15, 16, 17, 18, 19, 20, 21, 22, 41, 42, 43, 44, 45, 46, 47, 23, 24, 25, 26, 27, 28, 29, 30, 31, 32, 33, 34, 35, 36, 37, 38, 39, 40, 48, 49, 50, 51, 52, 53, 54, 55, 56] (by decide +kernel) (by decide +kernel)
set_option maxRecDepth 20000 in
theorem gX4_isReadable_X4_isGood : GoodIn wsX4_isReadable (wsV RX4 177 RX4 yX4_isGood wsX4_isGood) := goodIn_app (goodIn_of _ (by decide +kernel)) ggX4_isReadable_X4_isGood
theorem dX4_isReadable_0 : decode cX4_isReadable 0 = .ok (.aload_n 0, 1) := by decide +kernel
theorem dX4_isReadable_1 : decode cX4_isReadable 1 = .ok (.aload_n 0, 1) := by decide +kernel
theorem dX4_isReadable_2 : decode cX4_isReadable 2 = .ok (.iload_n 1, 1) := by decide +kernel
theorem dX4_isReadable_3 : decode cX4_isReadable 3 = .ok (.invokevirtual 173, 3) := by decide +kernel
theorem dX4_isReadable_6 : decode cX4_isReadable 6 = .ok (.invokevirtual 177, 3) := by decide +kernel
theorem dX4_isReadable_9 : decode cX4_isReadable 9 = .ok (.ireturn, 1) := by decide +kernel
theorem dX4_isCurrent_0 : decode cX4_isCurrent 0 = .ok (.aload_n 0, 1) := by decide +kernel
theorem dX4_isCurrent_1 : decode cX4_isCurrent 1 = .ok (.getfield 33, 3) := by decide +kernel
theorem dX4_isCurrent_4 : decode cX4_isCurrent 4 = .ok (.aload_n 0, 1) := by decide +kernel
theorem dX4_isCurrent_5 : decode cX4_isCurrent 5 = .ok (.getfield 29, 3) := by decide +kernel
theorem dX4_isCurrent_8 : decode cX4_isCurrent 8 = .ok (.iload_n 1, 1) := by decide +kernel
theorem dX4_isCurrent_9 : decode cX4_isCurrent 9 = .ok (.aaload, 1) := by decide +kernel
theorem dX4_isCurrent_10 : decode cX4_isCurrent 10 = .ok (.getfield 131, 3) := by decide +kernel
theorem dX4_isCurrent_13 : decode cX4_isCurrent 13 = .ok (.iaload, 1) := by decide +kernel
theorem dX4_isCurrent_14 : decode cX4_isCurrent 14 = .ok (.iload_n 1, 1) := by decide +kernel
theorem dX4_isCurrent_15 : decode cX4_isCurrent 15 = .ok (.if_icmp .ne 7, 3) := by decide +kernel
theorem dX4_isCurrent_18 : decode cX4_isCurrent 18 = .ok (.iconst 1, 1) := by decide +kernel
theorem dX4_isCurrent_19 : decode cX4_isCurrent 19 = .ok (.goto 4, 3) := by decide +kernel
theorem dX4_isCurrent_22 : decode cX4_isCurrent 22 = .ok (.iconst 0, 1) := by decide +kernel
theorem dX4_isCurrent_23 : decode cX4_isCurrent 23 = .ok (.ireturn, 1) := by decide +kernel
set_option maxRecDepth 20000 in
theorem ggX4_kindOfSector_X4_versionAt : GoodIn wsX4_kindOfSector wsX4_versionAt := goodIn_r _ [7, 8, 9, 10, 11, 12, 13, 14, 15, 16, 17, 30, 31, 32, 33, 34, 35, 36, 37, 38, 39, 40, 41, 42, 43, 44, 45, 46, 47, 57, 58, 59, 60, 61, 62, 63] (by decide +kernel) (by decide +kernel)
set_option maxRecDepth 20000 in
theorem gX4_kindOfSector_X4_versionAt : GoodIn wsX4_kindOfSector (wsV RX4 166 RX4 yX4_versionAt wsX4_versionAt) := goodIn_app (goodIn_of _ (by decide +kernel)) ggX4_kindOfSector_X4_versionAt
set_option maxRecDepth 20000 in
theorem ggX4_kindOfSector_X4_isCurrent : GoodIn wsX4_kindOfSector wsX4_isCurrent := goodIn_r _ [21, 22, 9, 23, 30, 31, 32, 33, 34, 35, 36, 37, 38, 39, 40, 41, 42, 43, 44, 45, 46, 47, 57, 58, 59, 60, 61, 62, 63] (by decide +kernel) (by decide +kernel)
set_option maxRecDepth 20000 in
theorem gX4_kindOfSector_X4_isCurrent : GoodIn wsX4_kindOfSector (wsV RX4 185 RX4 yX4_isCurrent wsX4_isCurrent) := goodIn_app (goodIn_of _ (by decide +kernel)) ggX4_kindOfSector_X4_isCurrent
set_option maxRecDepth 20000 in
theorem ggX4_kindOfSector_X3_isBad : GoodIn wsX4_kindOfSector wsX3_isBad := goodIn_r _ [28, 29, 48, 49, 50, 51, 52, 53, 54, 55, 56] (by decide +kernel) (by decide +kernel)
set_option maxRecDepth 20000 in
theorem gX4_kindOfSector_X3_isBad : GoodIn wsX4_kindOfSector (wsV RX4 188 RX3 yX3_isBad wsX3_isBad) := goodIn_app (goodIn_of _ (by decide +kernel)) ggX4_kindOfSector_X3_isBad
theorem dX4_kindOfSector_0 : decode cX4_kindOfSector 0 = .ok (.iconst 0, 1) := by decide +kernel
theorem dX4_kindOfSector_1 : decode cX4_kindOfSector 1 = .ok (.istore_n 3, 1) := by decide +kernel
theorem dX4_kindOfSector_2 : decode cX4_kindOfSector 2 = .ok (.iload_n 2, 1) := by decide +kernel
theorem dX4_kindOfSector_3 : decode cX4_kindOfSector 3 = .ok (.aload_n 0, 1) := by decide +kernel
theorem dX4_kindOfSector_4 : decode cX4_kindOfSector 4 = .ok (.getfield 23, 3) := by decide +kernel
theorem dX4_kindOfSector_7 : decode cX4_kindOfSector 7 = .ok (.iload_n 1, 1) := by decide +kernel
theorem dX4_kindOfSector_8 : decode cX4_kindOfSector 8 = .ok (.aaload, 1) := by decide +kernel
theorem dX4_kindOfSector_9 : decode cX4_kindOfSector 9 = .ok (.getfield 135, 3) := by decide +kernel
theorem dX4_kindOfSector_12 : decode cX4_kindOfSector 12 = .ok (.if_icmp .ge 36, 3) := by decide +kernel
theorem dX4_kindOfSector_15 : decode cX4_kindOfSector 15 = .ok (.aload_n 0, 1) := by decide +kernel
theorem dX4_kindOfSector_16 : decode cX4_kindOfSector 16 = .ok (.iload_n 1, 1) := by decide +kernel
theorem dX4_kindOfSector_17 : decode cX4_kindOfSector 17 = .ok (.iload_n 2, 1) := by decide +kernel
theorem dX4_kindOfSector_18 : decode cX4_kindOfSector 18 = .ok (.invokevirtual 166, 3) := by decide +kernel
theorem dX4_kindOfSector_21 : decode cX4_kindOfSector 21 = .ok (.istore 4, 2) := by decide +kernel
theorem dX4_kindOfSector_23 : decode cX4_kindOfSector 23 = .ok (.iload 4, 2) := by decide +kernel
theorem dX4_kindOfSector_25 : decode cX4_kindOfSector 25 = .ok (.iconst (-1), 1) := by decide +kernel
theorem dX4_kindOfSector_26 : decode cX4_kindOfSector 26 = .ok (.if_icmp .ne 7, 3) := by decide +kernel
theorem dX4_kindOfSector_29 : decode cX4_kindOfSector 29 = .ok (.iconst 3, 1) := by decide +kernel
theorem dX4_kindOfSector_30 : decode cX4_kindOfSector 30 = .ok (.goto 17, 3) := by decide +kernel
theorem dX4_kindOfSector_33 : decode cX4_kindOfSector 33 = .ok (.aload_n 0, 1) := by decide +kernel
theorem dX4_kindOfSector_34 : decode cX4_kindOfSector 34 = .ok (.iload 4, 2) := by decide +kernel
theorem dX4_kindOfSector_36 : decode cX4_kindOfSector 36 = .ok (.invokevirtual 185, 3) := by decide +kernel
theorem dX4_kindOfSector_39 : decode cX4_kindOfSector 39 = .ok (.ifCond .eq 7, 3) := by decide +kernel
theorem dX4_kindOfSector_42 : decode cX4_kindOfSector 42 = .ok (.iconst 1, 1) := by decide +kernel
theorem dX4_kindOfSector_43 : decode cX4_kindOfSector 43 = .ok (.goto 4, 3) := by decide +kernel
theorem dX4_kindOfSector_46 : decode cX4_kindOfSector 46 = .ok (.iconst 2, 1) := by decide +kernel
theorem dX4_kindOfSector_47 : decode cX4_kindOfSector 47 = .ok (.istore_n 3, 1) := by decide +kernel
theorem dX4_kindOfSector_48 : decode cX4_kindOfSector 48 = .ok (.aload_n 0, 1) := by decide +kernel
theorem dX4_kindOfSector_49 : decode cX4_kindOfSector 49 = .ok (.getfield 23, 3) := by decide +kernel
theorem dX4_kindOfSector_52 : decode cX4_kindOfSector 52 = .ok (.iload_n 1, 1) := by decide +kernel
theorem dX4_kindOfSector_53 : decode cX4_kindOfSector 53 = .ok (.aaload, 1) := by decide +kernel
theorem dX4_kindOfSector_54 : decode cX4_kindOfSector 54 = .ok (.iload_n 2, 1) := by decide +kernel
theorem dX4_kindOfSector_55 : decode cX4_kindOfSector 55 = .ok (.invokevirtual 188, 3) := by decide +kernel
theorem dX4_kindOfSector_58 : decode cX4_kindOfSector 58 = .ok (.ifCond .eq 10, 3) := by decide +kernel
theorem dX4_kindOfSector_61 : decode cX4_kindOfSector 61 = .ok (.iload_n 3, 1) := by decide +kernel
theorem dX4_kindOfSector_62 : decode cX4_kindOfSector 62 = .ok (.bipush 10, 2) := by decide +kernel
theorem dX4_kindOfSector_64 : decode cX4_kindOfSector 64 = .ok (.iadd, 1) := by decide +kernel
theorem dX4_kindOfSector_65 : decode cX4_kindOfSector 65 = .ok (.goto 4, 3) := by decide +kernel
theorem dX4_kindOfSector_68 : decode cX4_kindOfSector 68 = .ok (.iload_n 3, 1) := by decide +kernel
theorem dX4_kindOfSector_69 : decode cX4_kindOfSector 69 = .ok (.ireturn, 1) := by decide +kernel
set_option maxRecDepth 20000 in
theorem ggX4_countStale_X4_isCurrent : GoodIn wsX4_countStale wsX4_isCurrent := goodIn_r _ [9, 10, 2, 11, 12, 13, 14, 15, 16, 17, 18, 19, 20, 21, 22, 23, 24, 25, 26, 27, 28, 29, 30, 31, 32, 33, 34, 35, 36] (by decide +kernel) (by decide +kernel)
set_option maxRecDepth 20000 in
theorem gX4_countStale_X4_isCurrent : GoodIn wsX4_countStale (wsV RX4 185 RX4 yX4_isCurrent wsX4_isCurrent) := goodIn_app (goodIn_of _ (by decide +kernel)) ggX4_countStale_X4_isCurrent
theorem dX4_countStale_0 : decode cX4_countStale 0 = .ok (.iconst 0, 1) := by decide +kernel
theorem dX4_countStale_1 : decode cX4_countStale 1 = .ok (.istore_n 2, 1) := by decide +kernel
theorem dX4_countStale_2 : decode cX4_countStale 2 = .ok (.iconst 0, 1) := by decide +kernel
theorem dX4_countStale_3 : decode cX4_countStale 3 = .ok (.istore_n 3, 1) := by decide +kernel
theorem dX4_countStale_4 : decode cX4_countStale 4 = .ok (.iload_n 3, 1) := by decide +kernel
theorem dX4_countStale_5 : decode cX4_countStale 5 = .ok (.aload_n 0, 1) := by decide +kernel
theorem dX4_countStale_6 : decode cX4_countStale 6 = .ok (.getfield 65, 3) := by decide +kernel
theorem dX4_countStale_9 : decode cX4_countStale 9 = .ok (.if_icmp .ge 42, 3) := by decide +kernel
theorem dX4_countStale_12 : decode cX4_countStale 12 = .ok (.aload_n 0, 1) := by decide +kernel
theorem dX4_countStale_13 : decode cX4_countStale 13 = .ok (.getfield 29, 3) := by decide +kernel
theorem dX4_countStale_16 : decode cX4_countStale 16 = .ok (.iload_n 3, 1) := by decide +kernel
theorem dX4_countStale_17 : decode cX4_countStale 17 = .ok (.aaload, 1) := by decide +kernel
theorem dX4_countStale_18 : decode cX4_countStale 18 = .ok (.getfield 134, 3) := by decide +kernel
theorem dX4_countStale_21 : decode cX4_countStale 21 = .ok (.iload_n 1, 1) := by decide +kernel
theorem dX4_countStale_22 : decode cX4_countStale 22 = .ok (.if_icmp .ne 23, 3) := by decide +kernel
theorem dX4_countStale_25 : decode cX4_countStale 25 = .ok (.aload_n 0, 1) := by decide +kernel
theorem dX4_countStale_26 : decode cX4_countStale 26 = .ok (.iload_n 3, 1) := by decide +kernel
theorem dX4_countStale_27 : decode cX4_countStale 27 = .ok (.invokevirtual 185, 3) := by decide +kernel
theorem dX4_countStale_30 : decode cX4_countStale 30 = .ok (.ifCond .ne 15, 3) := by decide +kernel
theorem dX4_countStale_33 : decode cX4_countStale 33 = .ok (.iload_n 2, 1) := by decide +kernel
theorem dX4_countStale_34 : decode cX4_countStale 34 = .ok (.aload_n 0, 1) := by decide +kernel
theorem dX4_countStale_35 : decode cX4_countStale 35 = .ok (.getfield 29, 3) := by decide +kernel
theorem dX4_countStale_38 : decode cX4_countStale 38 = .ok (.iload_n 3, 1) := by decide +kernel
theorem dX4_countStale_39 : decode cX4_countStale 39 = .ok (.aaload, 1) := by decide +kernel
theorem dX4_countStale_40 : decode cX4_countStale 40 = .ok (.getfield 141, 3) := by decide +kernel
theorem dX4_countStale_43 : decode cX4_countStale 43 = .ok (.iadd, 1) := by decide +kernel
theorem dX4_countStale_44 : decode cX4_countStale 44 = .ok (.istore_n 2, 1) := by decide +kernel
theorem dX4_countStale_45 : decode cX4_countStale 45 = .ok (.iinc 3 1, 3) := by decide +kernel
theorem dX4_countStale_48 : decode cX4_countStale 48 = .ok (.goto (-44), 3) := by decide +kernel
theorem dX4_countStale_51 : decode cX4_countStale 51 = .ok (.iload_n 2, 1) := by decide +kernel
theorem dX4_countStale_52 : decode cX4_countStale 52 = .ok (.ireturn, 1) := by decide +kernel
theorem dX4_countDamaged_0 : decode cX4_countDamaged 0 = .ok (.iconst 0, 1) := by decide +kernel
theorem dX4_countDamaged_1 : decode cX4_countDamaged 1 = .ok (.istore_n 1, 1) := by decide +kernel
theorem dX4_countDamaged_2 : decode cX4_countDamaged 2 = .ok (.iconst 0, 1) := by decide +kernel
theorem dX4_countDamaged_3 : decode cX4_countDamaged 3 = .ok (.istore_n 2, 1) := by decide +kernel
theorem dX4_countDamaged_4 : decode cX4_countDamaged 4 = .ok (.iload_n 2, 1) := by decide +kernel
theorem dX4_countDamaged_5 : decode cX4_countDamaged 5 = .ok (.aload_n 0, 1) := by decide +kernel
theorem dX4_countDamaged_6 : decode cX4_countDamaged 6 = .ok (.getfield 65, 3) := by decide +kernel
theorem dX4_countDamaged_9 : decode cX4_countDamaged 9 = .ok (.if_icmp .ge 24, 3) := by decide +kernel
theorem dX4_countDamaged_12 : decode cX4_countDamaged 12 = .ok (.aload_n 0, 1) := by decide +kernel
theorem dX4_countDamaged_13 : decode cX4_countDamaged 13 = .ok (.getfield 29, 3) := by decide +kernel
theorem dX4_countDamaged_16 : decode cX4_countDamaged 16 = .ok (.iload_n 2, 1) := by decide +kernel
theorem dX4_countDamaged_17 : decode cX4_countDamaged 17 = .ok (.aaload, 1) := by decide +kernel
theorem dX4_countDamaged_18 : decode cX4_countDamaged 18 = .ok (.getfield 151, 3) := by decide +kernel
theorem dX4_countDamaged_21 : decode cX4_countDamaged 21 = .ok (.ifCond .eq 6, 3) := by decide +kernel
theorem dX4_countDamaged_24 : decode cX4_countDamaged 24 = .ok (.iinc 1 1, 3) := by decide +kernel
theorem dX4_countDamaged_27 : decode cX4_countDamaged 27 = .ok (.iinc 2 1, 3) := by decide +kernel
theorem dX4_countDamaged_30 : decode cX4_countDamaged 30 = .ok (.goto (-26), 3) := by decide +kernel
theorem dX4_countDamaged_33 : decode cX4_countDamaged 33 = .ok (.iload_n 1, 1) := by decide +kernel
theorem dX4_countDamaged_34 : decode cX4_countDamaged 34 = .ok (.ireturn, 1) := by decide +kernel
theorem dX4_countVersions_0 : decode cX4_countVersions 0 = .ok (.iconst 0, 1) := by decide +kernel
theorem dX4_countVersions_1 : decode cX4_countVersions 1 = .ok (.istore_n 2, 1) := by decide +kernel
theorem dX4_countVersions_2 : decode cX4_countVersions 2 = .ok (.iconst 0, 1) := by decide +kernel
theorem dX4_countVersions_3 : decode cX4_countVersions 3 = .ok (.istore_n 3, 1) := by decide +kernel
theorem dX4_countVersions_4 : decode cX4_countVersions 4 = .ok (.iload_n 3, 1) := by decide +kernel
theorem dX4_countVersions_5 : decode cX4_countVersions 5 = .ok (.aload_n 0, 1) := by decide +kernel
theorem dX4_countVersions_6 : decode cX4_countVersions 6 = .ok (.getfield 65, 3) := by decide +kernel
theorem dX4_countVersions_9 : decode cX4_countVersions 9 = .ok (.if_icmp .ge 25, 3) := by decide +kernel
theorem dX4_countVersions_12 : decode cX4_countVersions 12 = .ok (.aload_n 0, 1) := by decide +kernel
theorem dX4_countVersions_13 : decode cX4_countVersions 13 = .ok (.getfield 29, 3) := by decide +kernel
theorem dX4_countVersions_16 : decode cX4_countVersions 16 = .ok (.iload_n 3, 1) := by decide +kernel
theorem dX4_countVersions_17 : decode cX4_countVersions 17 = .ok (.aaload, 1) := by decide +kernel
theorem dX4_countVersions_18 : decode cX4_countVersions 18 = .ok (.getfield 131, 3) := by decide +kernel
theorem dX4_countVersions_21 : decode cX4_countVersions 21 = .ok (.iload_n 1, 1) := by decide +kernel
theorem dX4_countVersions_22 : decode cX4_countVersions 22 = .ok (.if_icmp .ne 6, 3) := by decide +kernel
theorem dX4_countVersions_25 : decode cX4_countVersions 25 = .ok (.iinc 2 1, 3) := by decide +kernel
theorem dX4_countVersions_28 : decode cX4_countVersions 28 = .ok (.iinc 3 1, 3) := by decide +kernel
theorem dX4_countVersions_31 : decode cX4_countVersions 31 = .ok (.goto (-27), 3) := by decide +kernel
theorem dX4_countVersions_34 : decode cX4_countVersions 34 = .ok (.iload_n 2, 1) := by decide +kernel
theorem dX4_countVersions_35 : decode cX4_countVersions 35 = .ok (.ireturn, 1) := by decide +kernel
set_option maxRecDepth 20000 in
theorem ggX4_countFiles_X4_currentVersion : GoodIn wsX4_countFiles wsX4_currentVersion := goodIn_r _ [7, 8, 9, 10, 11, 12, 13, 14, 15, 16, 17, 18, 19, 20, 21, 22, 23, 24, 25, 26, 27] (by decide +kernel) (by decide +kernel)
set_option maxRecDepth 20000 in
theorem gX4_countFiles_X4_currentVersion : GoodIn wsX4_countFiles (wsV RX4 173 RX4 yX4_currentVersion wsX4_currentVersion) := goodIn_app (goodIn_of _ (by decide +kernel)) ggX4_countFiles_X4_currentVersion
theorem dX4_countFiles_0 : decode cX4_countFiles 0 = .ok (.iconst 0, 1) := by decide +kernel
theorem dX4_countFiles_1 : decode cX4_countFiles 1 = .ok (.istore_n 2, 1) := by decide +kernel
theorem dX4_countFiles_2 : decode cX4_countFiles 2 = .ok (.iconst 0, 1) := by decide +kernel
theorem dX4_countFiles_3 : decode cX4_countFiles 3 = .ok (.istore_n 3, 1) := by decide +kernel
theorem dX4_countFiles_4 : decode cX4_countFiles 4 = .ok (.iload_n 3, 1) := by decide +kernel
theorem dX4_countFiles_5 : decode cX4_countFiles 5 = .ok (.aload_n 0, 1) := by decide +kernel
theorem dX4_countFiles_6 : decode cX4_countFiles 6 = .ok (.getfield 68, 3) := by decide +kernel
theorem dX4_countFiles_9 : decode cX4_countFiles 9 = .ok (.if_icmp .ge 24, 3) := by decide +kernel
theorem dX4_countFiles_12 : decode cX4_countFiles 12 = .ok (.aload_n 0, 1) := by decide +kernel
theorem dX4_countFiles_13 : decode cX4_countFiles 13 = .ok (.iload_n 3, 1) := by decide +kernel
theorem dX4_countFiles_14 : decode cX4_countFiles 14 = .ok (.invokevirtual 173, 3) := by decide +kernel
theorem dX4_countFiles_17 : decode cX4_countFiles 17 = .ok (.getfield 134, 3) := by decide +kernel
theorem dX4_countFiles_20 : decode cX4_countFiles 20 = .ok (.iload_n 1, 1) := by decide +kernel
theorem dX4_countFiles_21 : decode cX4_countFiles 21 = .ok (.if_icmp .ne 6, 3) := by decide +kernel
theorem dX4_countFiles_24 : decode cX4_countFiles 24 = .ok (.iinc 2 1, 3) := by decide +kernel
theorem dX4_countFiles_27 : decode cX4_countFiles 27 = .ok (.iinc 3 1, 3) := by decide +kernel
theorem dX4_countFiles_30 : decode cX4_countFiles 30 = .ok (.goto (-26), 3) := by decide +kernel
theorem dX4_countFiles_33 : decode cX4_countFiles 33 = .ok (.iload_n 2, 1) := by decide +kernel
theorem dX4_countFiles_34 : decode cX4_countFiles 34 = .ok (.ireturn, 1) := by decide +kernel
set_option maxRecDepth 20000 in
theorem ggX4_lastGood_X4_isGood : GoodIn wsX4_lastGood wsX4_isGood := goodIn_r _ [8, 9, 10, 11, 12, 13, 14, 15, 16, 17, 18, 19, 38, 39, 40, 41, 42, 43, 44, 20, 21, 22, 23, 24, 25, 26, 27, 28, 29, 30, 31, 32, 33, 34, 35, 36, 37, 45, 46, 47, 48, 49, 50, 51, 52, 53] (by decide +kernel) (by decide +kernel)
set_option maxRecDepth 20000 in
theorem gX4_lastGood_X4_isGood : GoodIn wsX4_lastGood (wsV RX4 177 RX4 yX4_isGood wsX4_isGood) := goodIn_app (goodIn_of _ (by decide +kernel)) ggX4_lastGood_X4_isGood
theorem dX4_lastGood_0 : decode cX4_lastGood 0 = .ok (.iconst 0, 1) := by decide +kernel
theorem dX4_lastGood_1 : decode cX4_lastGood 1 = .ok (.istore_n 2, 1) := by decide +kernel
theorem dX4_lastGood_2 : decode cX4_lastGood 2 = .ok (.iconst (-1), 1) := by decide +kernel
theorem dX4_lastGood_3 : decode cX4_lastGood 3 = .ok (.istore_n 3, 1) := by decide +kernel
theorem dX4_lastGood_4 : decode cX4_lastGood 4 = .ok (.iconst 0, 1) := by decide +kernel
theorem dX4_lastGood_5 : decode cX4_lastGood 5 = .ok (.istore 4, 2) := by decide +kernel
theorem dX4_lastGood_7 : decode cX4_lastGood 7 = .ok (.iload 4, 2) := by decide +kernel
theorem dX4_lastGood_9 : decode cX4_lastGood 9 = .ok (.aload_n 0, 1) := by decide +kernel
theorem dX4_lastGood_10 : decode cX4_lastGood 10 = .ok (.getfield 65, 3) := by decide +kernel
theorem dX4_lastGood_13 : decode cX4_lastGood 13 = .ok (.if_icmp .ge 46, 3) := by decide +kernel
theorem dX4_lastGood_16 : decode cX4_lastGood 16 = .ok (.aload_n 0, 1) := by decide +kernel
theorem dX4_lastGood_17 : decode cX4_lastGood 17 = .ok (.getfield 29, 3) := by decide +kernel
theorem dX4_lastGood_20 : decode cX4_lastGood 20 = .ok (.iload 4, 2) := by decide +kernel
theorem dX4_lastGood_22 : decode cX4_lastGood 22 = .ok (.aaload, 1) := by decide +kernel
theorem dX4_lastGood_23 : decode cX4_lastGood 23 = .ok (.getfield 131, 3) := by decide +kernel
theorem dX4_lastGood_26 : decode cX4_lastGood 26 = .ok (.iload_n 1, 1) := by decide +kernel
theorem dX4_lastGood_27 : decode cX4_lastGood 27 = .ok (.if_icmp .ne 26, 3) := by decide +kernel
theorem dX4_lastGood_30 : decode cX4_lastGood 30 = .ok (.aload_n 0, 1) := by decide +kernel
theorem dX4_lastGood_31 : decode cX4_lastGood 31 = .ok (.aload_n 0, 1) := by decide +kernel
theorem dX4_lastGood_32 : decode cX4_lastGood 32 = .ok (.getfield 29, 3) := by decide +kernel
theorem dX4_lastGood_35 : decode cX4_lastGood 35 = .ok (.iload 4, 2) := by decide +kernel
theorem dX4_lastGood_37 : decode cX4_lastGood 37 = .ok (.aaload, 1) := by decide +kernel
theorem dX4_lastGood_38 : decode cX4_lastGood 38 = .ok (.invokevirtual 177, 3) := by decide +kernel
theorem dX4_lastGood_41 : decode cX4_lastGood 41 = .ok (.ifCond .eq 7, 3) := by decide +kernel
theorem dX4_lastGood_44 : decode cX4_lastGood 44 = .ok (.iload_n 2, 1) := by decide +kernel
theorem dX4_lastGood_45 : decode cX4_lastGood 45 = .ok (.goto 4, 3) := by decide +kernel
theorem dX4_lastGood_48 : decode cX4_lastGood 48 = .ok (.iload_n 3, 1) := by decide +kernel
theorem dX4_lastGood_49 : decode cX4_lastGood 49 = .ok (.istore_n 3, 1) := by decide +kernel
theorem dX4_lastGood_50 : decode cX4_lastGood 50 = .ok (.iinc 2 1, 3) := by decide +kernel
theorem dX4_lastGood_53 : decode cX4_lastGood 53 = .ok (.iinc 4 1, 3) := by decide +kernel
theorem dX4_lastGood_56 : decode cX4_lastGood 56 = .ok (.goto (-49), 3) := by decide +kernel
theorem dX4_lastGood_59 : decode cX4_lastGood 59 = .ok (.iload_n 3, 1) := by decide +kernel
theorem dX4_lastGood_60 : decode cX4_lastGood 60 = .ok (.ireturn, 1) := by decide +kernel
set_option maxRecDepth 20000 in
theorem ggX4_driveToChoose_X4_driveHolding : GoodIn wsX4_driveToChoose wsX4_driveHolding := goodIn_r _ [5, 6, 7, 8, 15, 16, 17, 18, 19, 20, 21, 22, 23, 24, 25, 26, 27, 28, 29, 30, 31, 32, 33, 34, 35] (by decide +kernel) (by decide +kernel)
set_option maxRecDepth 20000 in
theorem gX4_driveToChoose_X4_driveHolding : GoodIn wsX4_driveToChoose (wsV RX4 191 RX4 yX4_driveHolding wsX4_driveHolding) := goodIn_app (goodIn_of _ (by decide +kernel)) ggX4_driveToChoose_X4_driveHolding
set_option maxRecDepth 20000 in
theorem ggX4_driveToChoose_X4_driveForAway : GoodIn wsX4_driveToChoose wsX4_driveForAway := goodIn_r _ [12, 6, 7, 8, 13, 14, 15, 16, 17, 18, 19, 20, 21, 22, 23, 24, 25, 26, 27, 28, 29, 30, 31, 32, 33, 34, 35] (by decide +kernel) (by decide +kernel)
set_option maxRecDepth 20000 in
theorem gX4_driveToChoose_X4_driveForAway : GoodIn wsX4_driveToChoose (wsV RX4 194 RX4 yX4_driveForAway wsX4_driveForAway) := goodIn_app (goodIn_of _ (by decide +kernel)) ggX4_driveToChoose_X4_driveForAway
theorem dX4_driveToChoose_0 : decode cX4_driveToChoose 0 = .ok (.aload_n 0, 1) := by decide +kernel
theorem dX4_driveToChoose_1 : decode cX4_driveToChoose 1 = .ok (.iload_n 1, 1) := by decide +kernel
theorem dX4_driveToChoose_2 : decode cX4_driveToChoose 2 = .ok (.invokevirtual 191, 3) := by decide +kernel
theorem dX4_driveToChoose_5 : decode cX4_driveToChoose 5 = .ok (.istore_n 2, 1) := by decide +kernel
theorem dX4_driveToChoose_6 : decode cX4_driveToChoose 6 = .ok (.iload_n 2, 1) := by decide +kernel
theorem dX4_driveToChoose_7 : decode cX4_driveToChoose 7 = .ok (.iconst (-1), 1) := by decide +kernel
theorem dX4_driveToChoose_8 : decode cX4_driveToChoose 8 = .ok (.if_icmp .eq 7, 3) := by decide +kernel
theorem dX4_driveToChoose_11 : decode cX4_driveToChoose 11 = .ok (.iload_n 2, 1) := by decide +kernel
theorem dX4_driveToChoose_12 : decode cX4_driveToChoose 12 = .ok (.goto 8, 3) := by decide +kernel
theorem dX4_driveToChoose_15 : decode cX4_driveToChoose 15 = .ok (.aload_n 0, 1) := by decide +kernel
theorem dX4_driveToChoose_16 : decode cX4_driveToChoose 16 = .ok (.iconst 0, 1) := by decide +kernel
theorem dX4_driveToChoose_17 : decode cX4_driveToChoose 17 = .ok (.invokevirtual 194, 3) := by decide +kernel
theorem dX4_driveToChoose_20 : decode cX4_driveToChoose 20 = .ok (.ireturn, 1) := by decide +kernel
theorem dX4_distanceToDrive_0 : decode cX4_distanceToDrive 0 = .ok (.bipush 24, 2) := by decide +kernel
theorem dX4_distanceToDrive_2 : decode cX4_distanceToDrive 2 = .ok (.istore_n 2, 1) := by decide +kernel
theorem dX4_distanceToDrive_3 : decode cX4_distanceToDrive 3 = .ok (.iconst 0, 1) := by decide +kernel
theorem dX4_distanceToDrive_4 : decode cX4_distanceToDrive 4 = .ok (.istore_n 3, 1) := by decide +kernel
theorem dX4_distanceToDrive_5 : decode cX4_distanceToDrive 5 = .ok (.iload_n 3, 1) := by decide +kernel
theorem dX4_distanceToDrive_6 : decode cX4_distanceToDrive 6 = .ok (.aload_n 0, 1) := by decide +kernel
theorem dX4_distanceToDrive_7 : decode cX4_distanceToDrive 7 = .ok (.getfield 53, 3) := by decide +kernel
theorem dX4_distanceToDrive_10 : decode cX4_distanceToDrive 10 = .ok (.if_icmp .ge 28, 3) := by decide +kernel
theorem dX4_distanceToDrive_13 : decode cX4_distanceToDrive 13 = .ok (.iload_n 2, 1) := by decide +kernel
theorem dX4_distanceToDrive_14 : decode cX4_distanceToDrive 14 = .ok (.iload_n 1, 1) := by decide +kernel
theorem dX4_distanceToDrive_15 : decode cX4_distanceToDrive 15 = .ok (.aload_n 0, 1) := by decide +kernel
theorem dX4_distanceToDrive_16 : decode cX4_distanceToDrive 16 = .ok (.getfield 17, 3) := by decide +kernel
theorem dX4_distanceToDrive_19 : decode cX4_distanceToDrive 19 = .ok (.iload_n 3, 1) := by decide +kernel
theorem dX4_distanceToDrive_20 : decode cX4_distanceToDrive 20 = .ok (.aaload, 1) := by decide +kernel
theorem dX4_distanceToDrive_21 : decode cX4_distanceToDrive 21 = .ok (.getfield 112, 3) := by decide +kernel
theorem dX4_distanceToDrive_24 : decode cX4_distanceToDrive 24 = .ok (.isub, 1) := by decide +kernel
theorem dX4_distanceToDrive_25 : decode cX4_distanceToDrive 25 = .ok (.invokestatic 197, 3) := by decide +kernel
theorem dX4_distanceToDrive_28 : decode cX4_distanceToDrive 28 = .ok (.invokestatic 202, 3) := by decide +kernel
theorem dX4_distanceToDrive_31 : decode cX4_distanceToDrive 31 = .ok (.istore_n 2, 1) := by decide +kernel
theorem dX4_distanceToDrive_32 : decode cX4_distanceToDrive 32 = .ok (.iinc 3 1, 3) := by decide +kernel
theorem dX4_distanceToDrive_35 : decode cX4_distanceToDrive 35 = .ok (.goto (-30), 3) := by decide +kernel
theorem dX4_distanceToDrive_38 : decode cX4_distanceToDrive 38 = .ok (.iload_n 2, 1) := by decide +kernel
theorem dX4_distanceToDrive_39 : decode cX4_distanceToDrive 39 = .ok (.ireturn, 1) := by decide +kernel
set_option maxRecDepth 20000 in
theorem ggX4_chosenBringTime_X4_driveToChoose : GoodIn wsX4_chosenBringTime wsX4_driveToChoose := goodIn_r _ [5, 6, 7, 8, 4, 9, 10, 11, 12, 13, 14, 15, 16, 17, 18, 36, 37, 38, 39, 40, 41, 42, 43, 44, 45, 46, 47, 48, 49, 50, 51, 52, 53, 54, 55, 56] (by decide +kernel) (by decide +kernel)
set_option maxRecDepth 20000 in
theorem gX4_chosenBringTime_X4_driveToChoose : GoodIn wsX4_chosenBringTime (wsV RX4 208 RX4 yX4_driveToChoose wsX4_driveToChoose) := goodIn_app (goodIn_of _ (by decide +kernel)) ggX4_chosenBringTime_X4_driveToChoose
set_option maxRecDepth 20000 in
theorem ggX4_chosenBringTime_X4_bringTime : GoodIn wsX4_chosenBringTime wsX4_bringTime := goodIn_r _ [22, 11, 12, 23, 24, 25, 26, 4, 27, 28, 29, 30, 31, 32, 33, 34, 35, 36, 37, 38, 39, 40, 41, 42, 43, 44, 45, 46, 47, 48, 49, 50, 51, 52, 53, 54, 55, 56, 57, 58, 59, 60, 61, 62, 63, 64, 65] (by decide +kernel) (by decide +kernel)
set_option maxRecDepth 20000 in
theorem gX4_chosenBringTime_X4_bringTime : GoodIn wsX4_chosenBringTime (wsV RX4 211 RX4 yX4_bringTime wsX4_bringTime) := goodIn_app (goodIn_of _ (by decide +kernel)) ggX4_chosenBringTime_X4_bringTime
theorem dX4_chosenBringTime_0 : decode cX4_chosenBringTime 0 = .ok (.aload_n 0, 1) := by decide +kernel
theorem dX4_chosenBringTime_1 : decode cX4_chosenBringTime 1 = .ok (.iload_n 1, 1) := by decide +kernel
theorem dX4_chosenBringTime_2 : decode cX4_chosenBringTime 2 = .ok (.invokevirtual 208, 3) := by decide +kernel
theorem dX4_chosenBringTime_5 : decode cX4_chosenBringTime 5 = .ok (.istore_n 2, 1) := by decide +kernel
theorem dX4_chosenBringTime_6 : decode cX4_chosenBringTime 6 = .ok (.iload_n 2, 1) := by decide +kernel
theorem dX4_chosenBringTime_7 : decode cX4_chosenBringTime 7 = .ok (.iconst (-1), 1) := by decide +kernel
theorem dX4_chosenBringTime_8 : decode cX4_chosenBringTime 8 = .ok (.if_icmp .ne 7, 3) := by decide +kernel
theorem dX4_chosenBringTime_11 : decode cX4_chosenBringTime 11 = .ok (.iconst 0, 1) := by decide +kernel
theorem dX4_chosenBringTime_12 : decode cX4_chosenBringTime 12 = .ok (.goto 9, 3) := by decide +kernel
theorem dX4_chosenBringTime_15 : decode cX4_chosenBringTime 15 = .ok (.aload_n 0, 1) := by decide +kernel
theorem dX4_chosenBringTime_16 : decode cX4_chosenBringTime 16 = .ok (.iload_n 1, 1) := by decide +kernel
theorem dX4_chosenBringTime_17 : decode cX4_chosenBringTime 17 = .ok (.iload_n 2, 1) := by decide +kernel
theorem dX4_chosenBringTime_18 : decode cX4_chosenBringTime 18 = .ok (.invokevirtual 211, 3) := by decide +kernel
theorem dX4_chosenBringTime_21 : decode cX4_chosenBringTime 21 = .ok (.ireturn, 1) := by decide +kernel
theorem dX4_useDrive_0 : decode cX4_useDrive 0 = .ok (.aload_n 0, 1) := by decide +kernel
theorem dX4_useDrive_1 : decode cX4_useDrive 1 = .ok (.dup, 1) := by decide +kernel
theorem dX4_useDrive_2 : decode cX4_useDrive 2 = .ok (.getfield 56, 3) := by decide +kernel
theorem dX4_useDrive_5 : decode cX4_useDrive 5 = .ok (.iconst 1, 1) := by decide +kernel
theorem dX4_useDrive_6 : decode cX4_useDrive 6 = .ok (.iadd, 1) := by decide +kernel
theorem dX4_useDrive_7 : decode cX4_useDrive 7 = .ok (.putfield 56, 3) := by decide +kernel
theorem dX4_useDrive_10 : decode cX4_useDrive 10 = .ok (.aload_n 0, 1) := by decide +kernel
theorem dX4_useDrive_11 : decode cX4_useDrive 11 = .ok (.getfield 17, 3) := by decide +kernel
theorem dX4_useDrive_14 : decode cX4_useDrive 14 = .ok (.iload_n 1, 1) := by decide +kernel
theorem dX4_useDrive_15 : decode cX4_useDrive 15 = .ok (.aaload, 1) := by decide +kernel
theorem dX4_useDrive_16 : decode cX4_useDrive 16 = .ok (.aload_n 0, 1) := by decide +kernel
theorem dX4_useDrive_17 : decode cX4_useDrive 17 = .ok (.getfield 56, 3) := by decide +kernel
theorem dX4_useDrive_20 : decode cX4_useDrive 20 = .ok (.putfield 118, 3) := by decide +kernel
theorem dX4_useDrive_23 : decode cX4_useDrive 23 = .ok (.return_, 1) := by decide +kernel
set_option maxRecDepth 20000 in
theorem ggX4_bringInto_X4_bringTime : GoodIn wsX4_bringInto wsX4_bringTime := goodIn_r _ [12, 1, 2, 13, 14, 15, 16, 11, 17, 5, 6, 18, 19, 20, 21, 22, 23, 30, 31, 32, 33, 34, 35, 36, 37, 38, 39, 40, 41, 42, 43, 44, 45, 46, 47, 48, 49, 50, 51, 52, 53, 54, 55, 56, 57, 58, 59] (by decide +kernel) (by decide +kernel)
set_option maxRecDepth 20000 in
theorem gX4_bringInto_X4_bringTime : GoodIn wsX4_bringInto (wsV RX4 211 RX4 yX4_bringTime wsX4_bringTime) := goodIn_app (goodIn_of _ (by decide +kernel)) ggX4_bringInto_X4_bringTime
set_option maxRecDepth 20000 in
theorem ggX4_bringInto_X4_bringMoves : GoodIn wsX4_bringInto wsX4_bringMoves := goodIn_r _ [17, 1, 5, 2, 6, 18, 19, 20, 21, 22, 23, 30, 31, 32, 33, 34, 35, 36, 37, 38, 39, 40, 41, 42, 43, 44, 45, 46, 47, 48, 49, 50, 51, 52, 53, 54, 55, 56, 57, 58, 59] (by decide +kernel) (by decide +kernel)
set_option maxRecDepth 20000 in
theorem gX4_bringInto_X4_bringMoves : GoodIn wsX4_bringInto (wsV RX4 205 RX4 yX4_bringMoves wsX4_bringMoves) := goodIn_app (goodIn_of _ (by decide +kernel)) ggX4_bringInto_X4_bringMoves
set_option maxRecDepth 20000 in
theorem ggX4_bringInto_X4_useDrive : GoodIn wsX4_bringInto wsX4_useDrive := goodIn_r _ [27, 28, 1, 29, 30, 31, 32, 33, 34, 35, 36, 37, 38, 39, 40, 41, 42, 43, 44, 45, 46, 47, 48, 49, 50] (by decide +kernel) (by decide +kernel)
set_option maxRecDepth 20000 in
theorem gX4_bringInto_X4_useDrive : GoodIn wsX4_bringInto (wsV RX4 214 RX4 yX4_useDrive wsX4_useDrive) := goodIn_app (goodIn_of _ (by decide +kernel)) ggX4_bringInto_X4_useDrive
theorem dX4_bringInto_0 : decode cX4_bringInto 0 = .ok (.aload_n 0, 1) := by decide +kernel
theorem dX4_bringInto_1 : decode cX4_bringInto 1 = .ok (.getfield 17, 3) := by decide +kernel
theorem dX4_bringInto_4 : decode cX4_bringInto 4 = .ok (.iload_n 2, 1) := by decide +kernel
theorem dX4_bringInto_5 : decode cX4_bringInto 5 = .ok (.aaload, 1) := by decide +kernel
theorem dX4_bringInto_6 : decode cX4_bringInto 6 = .ok (.getfield 115, 3) := by decide +kernel
theorem dX4_bringInto_9 : decode cX4_bringInto 9 = .ok (.iload_n 1, 1) := by decide +kernel
theorem dX4_bringInto_10 : decode cX4_bringInto 10 = .ok (.if_icmp .eq 66, 3) := by decide +kernel
theorem dX4_bringInto_13 : decode cX4_bringInto 13 = .ok (.aload_n 0, 1) := by decide +kernel
theorem dX4_bringInto_14 : decode cX4_bringInto 14 = .ok (.dup, 1) := by decide +kernel
theorem dX4_bringInto_15 : decode cX4_bringInto 15 = .ok (.getfield 77, 3) := by decide +kernel
theorem dX4_bringInto_18 : decode cX4_bringInto 18 = .ok (.aload_n 0, 1) := by decide +kernel
theorem dX4_bringInto_19 : decode cX4_bringInto 19 = .ok (.iload_n 1, 1) := by decide +kernel
theorem dX4_bringInto_20 : decode cX4_bringInto 20 = .ok (.iload_n 2, 1) := by decide +kernel
theorem dX4_bringInto_21 : decode cX4_bringInto 21 = .ok (.invokevirtual 211, 3) := by decide +kernel
theorem dX4_bringInto_24 : decode cX4_bringInto 24 = .ok (.iadd, 1) := by decide +kernel
theorem dX4_bringInto_25 : decode cX4_bringInto 25 = .ok (.putfield 77, 3) := by decide +kernel
theorem dX4_bringInto_28 : decode cX4_bringInto 28 = .ok (.aload_n 0, 1) := by decide +kernel
theorem dX4_bringInto_29 : decode cX4_bringInto 29 = .ok (.dup, 1) := by decide +kernel
theorem dX4_bringInto_30 : decode cX4_bringInto 30 = .ok (.getfield 83, 3) := by decide +kernel
theorem dX4_bringInto_33 : decode cX4_bringInto 33 = .ok (.aload_n 0, 1) := by decide +kernel
theorem dX4_bringInto_34 : decode cX4_bringInto 34 = .ok (.iload_n 1, 1) := by decide +kernel
theorem dX4_bringInto_35 : decode cX4_bringInto 35 = .ok (.iload_n 2, 1) := by decide +kernel
theorem dX4_bringInto_36 : decode cX4_bringInto 36 = .ok (.invokevirtual 205, 3) := by decide +kernel
theorem dX4_bringInto_39 : decode cX4_bringInto 39 = .ok (.iadd, 1) := by decide +kernel
theorem dX4_bringInto_40 : decode cX4_bringInto 40 = .ok (.putfield 83, 3) := by decide +kernel
theorem dX4_bringInto_43 : decode cX4_bringInto 43 = .ok (.aload_n 0, 1) := by decide +kernel
theorem dX4_bringInto_44 : decode cX4_bringInto 44 = .ok (.aload_n 0, 1) := by decide +kernel
theorem dX4_bringInto_45 : decode cX4_bringInto 45 = .ok (.getfield 17, 3) := by decide +kernel
theorem dX4_bringInto_48 : decode cX4_bringInto 48 = .ok (.iload_n 2, 1) := by decide +kernel
theorem dX4_bringInto_49 : decode cX4_bringInto 49 = .ok (.aaload, 1) := by decide +kernel
theorem dX4_bringInto_50 : decode cX4_bringInto 50 = .ok (.getfield 112, 3) := by decide +kernel
theorem dX4_bringInto_53 : decode cX4_bringInto 53 = .ok (.putfield 74, 3) := by decide +kernel
theorem dX4_bringInto_56 : decode cX4_bringInto 56 = .ok (.aload_n 0, 1) := by decide +kernel
theorem dX4_bringInto_57 : decode cX4_bringInto 57 = .ok (.getfield 17, 3) := by decide +kernel
theorem dX4_bringInto_60 : decode cX4_bringInto 60 = .ok (.iload_n 2, 1) := by decide +kernel
theorem dX4_bringInto_61 : decode cX4_bringInto 61 = .ok (.aaload, 1) := by decide +kernel
theorem dX4_bringInto_62 : decode cX4_bringInto 62 = .ok (.iload_n 1, 1) := by decide +kernel
theorem dX4_bringInto_63 : decode cX4_bringInto 63 = .ok (.putfield 115, 3) := by decide +kernel
theorem dX4_bringInto_66 : decode cX4_bringInto 66 = .ok (.aload_n 0, 1) := by decide +kernel
theorem dX4_bringInto_67 : decode cX4_bringInto 67 = .ok (.dup, 1) := by decide +kernel
theorem dX4_bringInto_68 : decode cX4_bringInto 68 = .ok (.getfield 80, 3) := by decide +kernel
theorem dX4_bringInto_71 : decode cX4_bringInto 71 = .ok (.iconst 1, 1) := by decide +kernel
theorem dX4_bringInto_72 : decode cX4_bringInto 72 = .ok (.iadd, 1) := by decide +kernel
theorem dX4_bringInto_73 : decode cX4_bringInto 73 = .ok (.putfield 80, 3) := by decide +kernel
theorem dX4_bringInto_76 : decode cX4_bringInto 76 = .ok (.aload_n 0, 1) := by decide +kernel
theorem dX4_bringInto_77 : decode cX4_bringInto 77 = .ok (.iload_n 2, 1) := by decide +kernel
theorem dX4_bringInto_78 : decode cX4_bringInto 78 = .ok (.invokevirtual 214, 3) := by decide +kernel
theorem dX4_bringInto_81 : decode cX4_bringInto 81 = .ok (.return_, 1) := by decide +kernel
set_option maxRecDepth 20000 in
theorem ggX4_bringToChosen_X4_driveToChoose : GoodIn wsX4_bringToChosen wsX4_driveToChoose := goodIn_r _ [5, 6, 7, 8, 4, 9, 10, 11, 12, 13, 14, 15, 16, 17, 18, 47, 48, 49, 50, 51, 52, 53, 54, 55, 56, 57, 58, 59, 60, 61, 62, 63, 64, 65, 66, 67] (by decide +kernel) (by decide +kernel)
set_option maxRecDepth 20000 in
theorem gX4_bringToChosen_X4_driveToChoose : GoodIn wsX4_bringToChosen (wsV RX4 208 RX4 yX4_driveToChoose wsX4_driveToChoose) := goodIn_app (goodIn_of _ (by decide +kernel)) ggX4_bringToChosen_X4_driveToChoose
set_option maxRecDepth 20000 in
theorem ggX4_bringToChosen_X4_bringInto : GoodIn wsX4_bringToChosen wsX4_bringInto := goodIn_r _ [22, 11, 12, 23, 24, 25, 26, 27, 28, 29, 30, 4, 31, 32, 33, 34, 35, 36, 37, 38, 39, 40, 41, 42, 43, 44, 45, 46, 17, 18, 47, 48, 49, 50, 51, 52, 53, 54, 55, 56, 57, 58, 59, 60, 61, 62, 63, 64, 65, 66, 67, 68, 69, 70, 71, 72, 73, 74, 75, 76] (by decide +kernel) (by decide +kernel)
set_option maxRecDepth 20000 in
theorem gX4_bringToChosen_X4_bringInto : GoodIn wsX4_bringToChosen (wsV RX4 217 RX4 yX4_bringInto wsX4_bringInto) := goodIn_app (goodIn_of _ (by decide +kernel)) ggX4_bringToChosen_X4_bringInto
theorem dX4_bringToChosen_0 : decode cX4_bringToChosen 0 = .ok (.aload_n 0, 1) := by decide +kernel
theorem dX4_bringToChosen_1 : decode cX4_bringToChosen 1 = .ok (.iload_n 1, 1) := by decide +kernel
theorem dX4_bringToChosen_2 : decode cX4_bringToChosen 2 = .ok (.invokevirtual 208, 3) := by decide +kernel
theorem dX4_bringToChosen_5 : decode cX4_bringToChosen 5 = .ok (.istore_n 2, 1) := by decide +kernel
theorem dX4_bringToChosen_6 : decode cX4_bringToChosen 6 = .ok (.iload_n 2, 1) := by decide +kernel
theorem dX4_bringToChosen_7 : decode cX4_bringToChosen 7 = .ok (.iconst (-1), 1) := by decide +kernel
theorem dX4_bringToChosen_8 : decode cX4_bringToChosen 8 = .ok (.if_icmp .eq 9, 3) := by decide +kernel
theorem dX4_bringToChosen_11 : decode cX4_bringToChosen 11 = .ok (.aload_n 0, 1) := by decide +kernel
theorem dX4_bringToChosen_12 : decode cX4_bringToChosen 12 = .ok (.iload_n 1, 1) := by decide +kernel
theorem dX4_bringToChosen_13 : decode cX4_bringToChosen 13 = .ok (.iload_n 2, 1) := by decide +kernel
theorem dX4_bringToChosen_14 : decode cX4_bringToChosen 14 = .ok (.invokevirtual 217, 3) := by decide +kernel
theorem dX4_bringToChosen_17 : decode cX4_bringToChosen 17 = .ok (.return_, 1) := by decide +kernel
theorem dX4_carryHome_0 : decode cX4_carryHome 0 = .ok (.aload_n 0, 1) := by decide +kernel
theorem dX4_carryHome_1 : decode cX4_carryHome 1 = .ok (.getfield 17, 3) := by decide +kernel
theorem dX4_carryHome_4 : decode cX4_carryHome 4 = .ok (.iload_n 1, 1) := by decide +kernel
theorem dX4_carryHome_5 : decode cX4_carryHome 5 = .ok (.aaload, 1) := by decide +kernel
theorem dX4_carryHome_6 : decode cX4_carryHome 6 = .ok (.getfield 115, 3) := by decide +kernel
theorem dX4_carryHome_9 : decode cX4_carryHome 9 = .ok (.istore_n 2, 1) := by decide +kernel
theorem dX4_carryHome_10 : decode cX4_carryHome 10 = .ok (.iload_n 2, 1) := by decide +kernel
theorem dX4_carryHome_11 : decode cX4_carryHome 11 = .ok (.iconst (-1), 1) := by decide +kernel
theorem dX4_carryHome_12 : decode cX4_carryHome 12 = .ok (.if_icmp .eq 97, 3) := by decide +kernel
theorem dX4_carryHome_15 : decode cX4_carryHome 15 = .ok (.aload_n 0, 1) := by decide +kernel
theorem dX4_carryHome_16 : decode cX4_carryHome 16 = .ok (.getfield 17, 3) := by decide +kernel
theorem dX4_carryHome_19 : decode cX4_carryHome 19 = .ok (.iload_n 1, 1) := by decide +kernel
theorem dX4_carryHome_20 : decode cX4_carryHome 20 = .ok (.aaload, 1) := by decide +kernel
theorem dX4_carryHome_21 : decode cX4_carryHome 21 = .ok (.getfield 112, 3) := by decide +kernel
theorem dX4_carryHome_24 : decode cX4_carryHome 24 = .ok (.istore_n 3, 1) := by decide +kernel
theorem dX4_carryHome_25 : decode cX4_carryHome 25 = .ok (.aload_n 0, 1) := by decide +kernel
theorem dX4_carryHome_26 : decode cX4_carryHome 26 = .ok (.getfield 23, 3) := by decide +kernel
theorem dX4_carryHome_29 : decode cX4_carryHome 29 = .ok (.iload_n 2, 1) := by decide +kernel
theorem dX4_carryHome_30 : decode cX4_carryHome 30 = .ok (.aaload, 1) := by decide +kernel
theorem dX4_carryHome_31 : decode cX4_carryHome 31 = .ok (.getfield 125, 3) := by decide +kernel
theorem dX4_carryHome_34 : decode cX4_carryHome 34 = .ok (.istore 4, 2) := by decide +kernel
theorem dX4_carryHome_36 : decode cX4_carryHome 36 = .ok (.aload_n 0, 1) := by decide +kernel
theorem dX4_carryHome_37 : decode cX4_carryHome 37 = .ok (.getfield 74, 3) := by decide +kernel
theorem dX4_carryHome_40 : decode cX4_carryHome 40 = .ok (.iload_n 3, 1) := by decide +kernel
theorem dX4_carryHome_41 : decode cX4_carryHome 41 = .ok (.isub, 1) := by decide +kernel
theorem dX4_carryHome_42 : decode cX4_carryHome 42 = .ok (.invokestatic 197, 3) := by decide +kernel
theorem dX4_carryHome_45 : decode cX4_carryHome 45 = .ok (.iload_n 3, 1) := by decide +kernel
theorem dX4_carryHome_46 : decode cX4_carryHome 46 = .ok (.iload 4, 2) := by decide +kernel
theorem dX4_carryHome_48 : decode cX4_carryHome 48 = .ok (.isub, 1) := by decide +kernel
theorem dX4_carryHome_49 : decode cX4_carryHome 49 = .ok (.invokestatic 197, 3) := by decide +kernel
theorem dX4_carryHome_52 : decode cX4_carryHome 52 = .ok (.iadd, 1) := by decide +kernel
theorem dX4_carryHome_53 : decode cX4_carryHome 53 = .ok (.istore 5, 2) := by decide +kernel
theorem dX4_carryHome_55 : decode cX4_carryHome 55 = .ok (.aload_n 0, 1) := by decide +kernel
theorem dX4_carryHome_56 : decode cX4_carryHome 56 = .ok (.dup, 1) := by decide +kernel
theorem dX4_carryHome_57 : decode cX4_carryHome 57 = .ok (.getfield 77, 3) := by decide +kernel
theorem dX4_carryHome_60 : decode cX4_carryHome 60 = .ok (.iload 5, 2) := by decide +kernel
theorem dX4_carryHome_62 : decode cX4_carryHome 62 = .ok (.aload_n 0, 1) := by decide +kernel
theorem dX4_carryHome_63 : decode cX4_carryHome 63 = .ok (.getfield 9, 3) := by decide +kernel
theorem dX4_carryHome_66 : decode cX4_carryHome 66 = .ok (.iconst 0, 1) := by decide +kernel
theorem dX4_carryHome_67 : decode cX4_carryHome 67 = .ok (.iaload, 1) := by decide +kernel
theorem dX4_carryHome_68 : decode cX4_carryHome 68 = .ok (.imul, 1) := by decide +kernel
theorem dX4_carryHome_69 : decode cX4_carryHome 69 = .ok (.iconst 2, 1) := by decide +kernel
theorem dX4_carryHome_70 : decode cX4_carryHome 70 = .ok (.aload_n 0, 1) := by decide +kernel
theorem dX4_carryHome_71 : decode cX4_carryHome 71 = .ok (.getfield 9, 3) := by decide +kernel
theorem dX4_carryHome_74 : decode cX4_carryHome 74 = .ok (.iconst 1, 1) := by decide +kernel
theorem dX4_carryHome_75 : decode cX4_carryHome 75 = .ok (.iaload, 1) := by decide +kernel
theorem dX4_carryHome_76 : decode cX4_carryHome 76 = .ok (.imul, 1) := by decide +kernel
theorem dX4_carryHome_77 : decode cX4_carryHome 77 = .ok (.iadd, 1) := by decide +kernel
theorem dX4_carryHome_78 : decode cX4_carryHome 78 = .ok (.iadd, 1) := by decide +kernel
theorem dX4_carryHome_79 : decode cX4_carryHome 79 = .ok (.putfield 77, 3) := by decide +kernel
theorem dX4_carryHome_82 : decode cX4_carryHome 82 = .ok (.aload_n 0, 1) := by decide +kernel
theorem dX4_carryHome_83 : decode cX4_carryHome 83 = .ok (.dup, 1) := by decide +kernel
theorem dX4_carryHome_84 : decode cX4_carryHome 84 = .ok (.getfield 83, 3) := by decide +kernel
theorem dX4_carryHome_87 : decode cX4_carryHome 87 = .ok (.iload 5, 2) := by decide +kernel
theorem dX4_carryHome_89 : decode cX4_carryHome 89 = .ok (.iadd, 1) := by decide +kernel
theorem dX4_carryHome_90 : decode cX4_carryHome 90 = .ok (.putfield 83, 3) := by decide +kernel
theorem dX4_carryHome_93 : decode cX4_carryHome 93 = .ok (.aload_n 0, 1) := by decide +kernel
theorem dX4_carryHome_94 : decode cX4_carryHome 94 = .ok (.iload 4, 2) := by decide +kernel
theorem dX4_carryHome_96 : decode cX4_carryHome 96 = .ok (.putfield 74, 3) := by decide +kernel
theorem dX4_carryHome_99 : decode cX4_carryHome 99 = .ok (.aload_n 0, 1) := by decide +kernel
theorem dX4_carryHome_100 : decode cX4_carryHome 100 = .ok (.getfield 17, 3) := by decide +kernel
theorem dX4_carryHome_103 : decode cX4_carryHome 103 = .ok (.iload_n 1, 1) := by decide +kernel
theorem dX4_carryHome_104 : decode cX4_carryHome 104 = .ok (.aaload, 1) := by decide +kernel
theorem dX4_carryHome_105 : decode cX4_carryHome 105 = .ok (.iconst (-1), 1) := by decide +kernel
theorem dX4_carryHome_106 : decode cX4_carryHome 106 = .ok (.putfield 115, 3) := by decide +kernel
theorem dX4_carryHome_109 : decode cX4_carryHome 109 = .ok (.return_, 1) := by decide +kernel
set_option maxRecDepth 20000 in
theorem ggX4_readFile_X4_currentVersion : GoodIn wsX4_readFile wsX4_currentVersion := goodIn_r _ [7, 8, 9, 71, 72, 73, 74, 75, 76, 77, 78, 79, 80, 81, 82, 83, 84, 85, 86, 87, 88] (by decide +kernel) (by decide +kernel)
set_option maxRecDepth 20000 in
theorem gX4_readFile_X4_currentVersion : GoodIn wsX4_readFile (wsV RX4 173 RX4 yX4_currentVersion wsX4_currentVersion) := goodIn_app (goodIn_of _ (by decide +kernel)) ggX4_readFile_X4_currentVersion
set_option maxRecDepth 20000 in
theorem ggX4_readFile_X4_bringToChosen : GoodIn wsX4_readFile wsX4_bringToChosen := goodIn_r _ [13, 14, 15, 16, 6, 17, 18, 19, 20, 21, 22, 23, 24, 25, 26, 27, 28, 29, 30, 31, 32, 33, 34, 2, 35, 36, 37, 38, 39, 40, 41, 42, 43, 44, 45, 46, 47, 48, 49, 50, 51, 52, 53, 54, 55, 56, 57, 71, 72, 73, 74, 75, 76, 77, 78, 79, 80, 81, 82, 83, 84, 85, 86, 87, 88, 89, 90, 91, 92, 93, 94, 95, 96, 97, 98, 99, 100] (by decide +kernel) (by decide +kernel)
set_option maxRecDepth 20000 in
theorem gX4_readFile_X4_bringToChosen : GoodIn wsX4_readFile (wsV RX4 220 RX4 yX4_bringToChosen wsX4_bringToChosen) := goodIn_app (goodIn_of _ (by decide +kernel)) ggX4_readFile_X4_bringToChosen
set_option maxRecDepth 20000 in
theorem ggX4_readFile_X4_sectorsReadTime : GoodIn wsX4_readFile wsX4_sectorsReadTime := goodIn_r _ [61, 43, 62, 63, 71, 72, 73, 74, 75, 76, 77, 78, 79, 80, 81, 82, 83, 84, 85, 86, 87, 88, 64, 65, 66, 67, 68, 69, 70] (by decide +kernel) (by decide +kernel)
set_option maxRecDepth 20000 in
theorem gX4_readFile_X4_sectorsReadTime : GoodIn wsX4_readFile (wsV RX4 223 RX4 yX4_sectorsReadTime wsX4_sectorsReadTime) := goodIn_app (goodIn_of _ (by decide +kernel)) ggX4_readFile_X4_sectorsReadTime
theorem dX4_readFile_0 : decode cX4_readFile 0 = .ok (.aload_n 0, 1) := by decide +kernel
theorem dX4_readFile_1 : decode cX4_readFile 1 = .ok (.iload_n 1, 1) := by decide +kernel
theorem dX4_readFile_2 : decode cX4_readFile 2 = .ok (.invokevirtual 173, 3) := by decide +kernel
theorem dX4_readFile_5 : decode cX4_readFile 5 = .ok (.astore_n 2, 1) := by decide +kernel
theorem dX4_readFile_6 : decode cX4_readFile 6 = .ok (.aload_n 0, 1) := by decide +kernel
theorem dX4_readFile_7 : decode cX4_readFile 7 = .ok (.aload_n 2, 1) := by decide +kernel
theorem dX4_readFile_8 : decode cX4_readFile 8 = .ok (.getfield 134, 3) := by decide +kernel
theorem dX4_readFile_11 : decode cX4_readFile 11 = .ok (.invokevirtual 220, 3) := by decide +kernel
theorem dX4_readFile_14 : decode cX4_readFile 14 = .ok (.aload_n 0, 1) := by decide +kernel
theorem dX4_readFile_15 : decode cX4_readFile 15 = .ok (.dup, 1) := by decide +kernel
theorem dX4_readFile_16 : decode cX4_readFile 16 = .ok (.getfield 77, 3) := by decide +kernel
theorem dX4_readFile_19 : decode cX4_readFile 19 = .ok (.aload_n 0, 1) := by decide +kernel
theorem dX4_readFile_20 : decode cX4_readFile 20 = .ok (.aload_n 2, 1) := by decide +kernel
theorem dX4_readFile_21 : decode cX4_readFile 21 = .ok (.invokevirtual 223, 3) := by decide +kernel
theorem dX4_readFile_24 : decode cX4_readFile 24 = .ok (.iadd, 1) := by decide +kernel
theorem dX4_readFile_25 : decode cX4_readFile 25 = .ok (.putfield 77, 3) := by decide +kernel
theorem dX4_readFile_28 : decode cX4_readFile 28 = .ok (.return_, 1) := by decide +kernel
set_option maxRecDepth 20000 in
theorem ggX4_writeVersion_X4_bringToChosen : GoodIn wsX4_writeVersion wsX4_bringToChosen := goodIn_r _ [7, 8, 9, 10, 6, 11, 12, 13, 14, 15, 16, 17, 18, 19, 20, 21, 22, 23, 24, 25, 26, 27, 28, 1, 29, 30, 31, 32, 33, 34, 35, 36, 2, 37, 38, 39, 40, 41, 42, 43, 44, 45, 46, 47, 48, 49, 50, 101, 102, 103, 104, 105, 106, 107, 108, 109, 110, 111, 112, 113, 114, 115, 116, 117, 118, 119, 120, 121, 122, 123, 124, 125, 126, 127, 128, 129, 130] (by decide +kernel) (by decide +kernel)
set_option maxRecDepth 20000 in
theorem gX4_writeVersion_X4_bringToChosen : GoodIn wsX4_writeVersion (wsV RX4 220 RX4 yX4_bringToChosen wsX4_bringToChosen) := goodIn_app (goodIn_of _ (by decide +kernel)) ggX4_writeVersion_X4_bringToChosen
set_option maxRecDepth 20000 in
theorem ggX4_writeVersion_X4_addVersion : GoodIn wsX4_writeVersion wsX4_addVersion := goodIn_r _ [54, 55, 41, 56, 57, 58, 59, 60, 61, 62, 63, 64, 65, 66, 67, 68, 69, 6, 70, 71, 72, 73, 74, 75, 76, 77, 78, 79, 80, 81, 82, 83, 84, 85, 86, 87, 88, 89, 90, 91, 92, 93, 94, 95, 96, 97, 98, 99, 100, 101, 102, 103, 104, 105, 106, 107, 108, 109, 110, 111, 112, 113, 114, 115, 116, 117, 118, 131, 132, 133, 134, 135, 136, 137, 122, 123, 124, 125, 126, 127, 128, 129, 130] (by decide +kernel) (by decide +kernel)
set_option maxRecDepth 20000 in
theorem gX4_writeVersion_X4_addVersion : GoodIn wsX4_writeVersion (wsV RX4 227 RX4 yX4_addVersion wsX4_addVersion) := goodIn_app (goodIn_of _ (by decide +kernel)) ggX4_writeVersion_X4_addVersion
theorem dX4_writeVersion_0 : decode cX4_writeVersion 0 = .ok (.aload_n 0, 1) := by decide +kernel
theorem dX4_writeVersion_1 : decode cX4_writeVersion 1 = .ok (.iload_n 3, 1) := by decide +kernel
theorem dX4_writeVersion_2 : decode cX4_writeVersion 2 = .ok (.invokevirtual 220, 3) := by decide +kernel
theorem dX4_writeVersion_5 : decode cX4_writeVersion 5 = .ok (.aload_n 0, 1) := by decide +kernel
theorem dX4_writeVersion_6 : decode cX4_writeVersion 6 = .ok (.dup, 1) := by decide +kernel
theorem dX4_writeVersion_7 : decode cX4_writeVersion 7 = .ok (.getfield 77, 3) := by decide +kernel
theorem dX4_writeVersion_10 : decode cX4_writeVersion 10 = .ok (.aload_n 0, 1) := by decide +kernel
theorem dX4_writeVersion_11 : decode cX4_writeVersion 11 = .ok (.getfield 9, 3) := by decide +kernel
theorem dX4_writeVersion_14 : decode cX4_writeVersion 14 = .ok (.iconst 4, 1) := by decide +kernel
theorem dX4_writeVersion_15 : decode cX4_writeVersion 15 = .ok (.iaload, 1) := by decide +kernel
theorem dX4_writeVersion_16 : decode cX4_writeVersion 16 = .ok (.iload_n 2, 1) := by decide +kernel
theorem dX4_writeVersion_17 : decode cX4_writeVersion 17 = .ok (.imul, 1) := by decide +kernel
theorem dX4_writeVersion_18 : decode cX4_writeVersion 18 = .ok (.iadd, 1) := by decide +kernel
theorem dX4_writeVersion_19 : decode cX4_writeVersion 19 = .ok (.putfield 77, 3) := by decide +kernel
theorem dX4_writeVersion_22 : decode cX4_writeVersion 22 = .ok (.aload_n 0, 1) := by decide +kernel
theorem dX4_writeVersion_23 : decode cX4_writeVersion 23 = .ok (.iload_n 1, 1) := by decide +kernel
theorem dX4_writeVersion_24 : decode cX4_writeVersion 24 = .ok (.iload_n 2, 1) := by decide +kernel
theorem dX4_writeVersion_25 : decode cX4_writeVersion 25 = .ok (.iload_n 3, 1) := by decide +kernel
theorem dX4_writeVersion_26 : decode cX4_writeVersion 26 = .ok (.invokevirtual 227, 3) := by decide +kernel
theorem dX4_writeVersion_29 : decode cX4_writeVersion 29 = .ok (.return_, 1) := by decide +kernel
set_option maxRecDepth 20000 in
theorem ggX4_closeInDrive_X4_bringToChosen : GoodIn wsX4_closeInDrive wsX4_bringToChosen := goodIn_r _ [8, 9, 10, 11, 7, 12, 13, 14, 15, 16, 17, 18, 19, 20, 21, 22, 23, 24, 25, 26, 27, 28, 29, 2, 30, 31, 32, 33, 34, 35, 36, 37, 3, 38, 39, 40, 41, 1, 42, 43, 44, 45, 46, 47, 48, 49, 50, 72, 73, 74, 75, 76, 77, 78, 79, 80, 81, 82, 83, 84, 85, 86, 87, 88, 89, 90, 91, 92, 93, 94, 95, 96, 97, 98, 99, 100, 101] (by decide +kernel) (by decide +kernel)
set_option maxRecDepth 20000 in
theorem gX4_closeInDrive_X4_bringToChosen : GoodIn wsX4_closeInDrive (wsV RX4 220 RX4 yX4_bringToChosen wsX4_bringToChosen) := goodIn_app (goodIn_of _ (by decide +kernel)) ggX4_closeInDrive_X4_bringToChosen
set_option maxRecDepth 20000 in
theorem ggX4_closeInDrive_X3_addLeadOut : GoodIn wsX4_closeInDrive wsX3_addLeadOut := goodIn_r _ [55, 56, 57, 45, 58, 59, 60, 61, 62, 54, 63, 64, 65, 66, 67, 68, 69, 70, 71, 93, 94, 95, 96, 97, 98, 99, 100, 101] (by decide +kernel) (by decide +kernel)
set_option maxRecDepth 20000 in
theorem gX4_closeInDrive_X3_addLeadOut : GoodIn wsX4_closeInDrive (wsV RX4 230 RX3 yX3_addLeadOut wsX3_addLeadOut) := goodIn_app (goodIn_of _ (by decide +kernel)) ggX4_closeInDrive_X3_addLeadOut
theorem dX4_closeInDrive_0 : decode cX4_closeInDrive 0 = .ok (.aload_n 0, 1) := by decide +kernel
theorem dX4_closeInDrive_1 : decode cX4_closeInDrive 1 = .ok (.iload_n 1, 1) := by decide +kernel
theorem dX4_closeInDrive_2 : decode cX4_closeInDrive 2 = .ok (.invokevirtual 220, 3) := by decide +kernel
theorem dX4_closeInDrive_5 : decode cX4_closeInDrive 5 = .ok (.aload_n 0, 1) := by decide +kernel
theorem dX4_closeInDrive_6 : decode cX4_closeInDrive 6 = .ok (.getfield 23, 3) := by decide +kernel
theorem dX4_closeInDrive_9 : decode cX4_closeInDrive 9 = .ok (.iload_n 1, 1) := by decide +kernel
theorem dX4_closeInDrive_10 : decode cX4_closeInDrive 10 = .ok (.aaload, 1) := by decide +kernel
theorem dX4_closeInDrive_11 : decode cX4_closeInDrive 11 = .ok (.invokevirtual 230, 3) := by decide +kernel
theorem dX4_closeInDrive_14 : decode cX4_closeInDrive 14 = .ok (.istore_n 2, 1) := by decide +kernel
theorem dX4_closeInDrive_15 : decode cX4_closeInDrive 15 = .ok (.aload_n 0, 1) := by decide +kernel
theorem dX4_closeInDrive_16 : decode cX4_closeInDrive 16 = .ok (.dup, 1) := by decide +kernel
theorem dX4_closeInDrive_17 : decode cX4_closeInDrive 17 = .ok (.getfield 77, 3) := by decide +kernel
theorem dX4_closeInDrive_20 : decode cX4_closeInDrive 20 = .ok (.aload_n 0, 1) := by decide +kernel
theorem dX4_closeInDrive_21 : decode cX4_closeInDrive 21 = .ok (.getfield 9, 3) := by decide +kernel
theorem dX4_closeInDrive_24 : decode cX4_closeInDrive 24 = .ok (.iconst 4, 1) := by decide +kernel
theorem dX4_closeInDrive_25 : decode cX4_closeInDrive 25 = .ok (.iaload, 1) := by decide +kernel
theorem dX4_closeInDrive_26 : decode cX4_closeInDrive 26 = .ok (.iload_n 2, 1) := by decide +kernel
theorem dX4_closeInDrive_27 : decode cX4_closeInDrive 27 = .ok (.imul, 1) := by decide +kernel
theorem dX4_closeInDrive_28 : decode cX4_closeInDrive 28 = .ok (.iadd, 1) := by decide +kernel
theorem dX4_closeInDrive_29 : decode cX4_closeInDrive 29 = .ok (.putfield 77, 3) := by decide +kernel
theorem dX4_closeInDrive_32 : decode cX4_closeInDrive 32 = .ok (.iload_n 2, 1) := by decide +kernel
theorem dX4_closeInDrive_33 : decode cX4_closeInDrive 33 = .ok (.ireturn, 1) := by decide +kernel
theorem dX4_removeRequest_0 : decode cX4_removeRequest 0 = .ok (.aload_n 0, 1) := by decide +kernel
theorem dX4_removeRequest_1 : decode cX4_removeRequest 1 = .ok (.getfield 36, 3) := by decide +kernel
theorem dX4_removeRequest_4 : decode cX4_removeRequest 4 = .ok (.iload_n 1, 1) := by decide +kernel
theorem dX4_removeRequest_5 : decode cX4_removeRequest 5 = .ok (.iaload, 1) := by decide +kernel
theorem dX4_removeRequest_6 : decode cX4_removeRequest 6 = .ok (.istore_n 2, 1) := by decide +kernel
theorem dX4_removeRequest_7 : decode cX4_removeRequest 7 = .ok (.aload_n 0, 1) := by decide +kernel
theorem dX4_removeRequest_8 : decode cX4_removeRequest 8 = .ok (.dup, 1) := by decide +kernel
theorem dX4_removeRequest_9 : decode cX4_removeRequest 9 = .ok (.getfield 71, 3) := by decide +kernel
theorem dX4_removeRequest_12 : decode cX4_removeRequest 12 = .ok (.iconst 1, 1) := by decide +kernel
theorem dX4_removeRequest_13 : decode cX4_removeRequest 13 = .ok (.isub, 1) := by decide +kernel
theorem dX4_removeRequest_14 : decode cX4_removeRequest 14 = .ok (.putfield 71, 3) := by decide +kernel
theorem dX4_removeRequest_17 : decode cX4_removeRequest 17 = .ok (.iload_n 1, 1) := by decide +kernel
theorem dX4_removeRequest_18 : decode cX4_removeRequest 18 = .ok (.istore_n 3, 1) := by decide +kernel
theorem dX4_removeRequest_19 : decode cX4_removeRequest 19 = .ok (.iload_n 3, 1) := by decide +kernel
theorem dX4_removeRequest_20 : decode cX4_removeRequest 20 = .ok (.aload_n 0, 1) := by decide +kernel
theorem dX4_removeRequest_21 : decode cX4_removeRequest 21 = .ok (.getfield 71, 3) := by decide +kernel
theorem dX4_removeRequest_24 : decode cX4_removeRequest 24 = .ok (.if_icmp .ge 23, 3) := by decide +kernel
theorem dX4_removeRequest_27 : decode cX4_removeRequest 27 = .ok (.aload_n 0, 1) := by decide +kernel
theorem dX4_removeRequest_28 : decode cX4_removeRequest 28 = .ok (.getfield 36, 3) := by decide +kernel
theorem dX4_removeRequest_31 : decode cX4_removeRequest 31 = .ok (.iload_n 3, 1) := by decide +kernel
theorem dX4_removeRequest_32 : decode cX4_removeRequest 32 = .ok (.aload_n 0, 1) := by decide +kernel
theorem dX4_removeRequest_33 : decode cX4_removeRequest 33 = .ok (.getfield 36, 3) := by decide +kernel
theorem dX4_removeRequest_36 : decode cX4_removeRequest 36 = .ok (.iload_n 3, 1) := by decide +kernel
theorem dX4_removeRequest_37 : decode cX4_removeRequest 37 = .ok (.iconst 1, 1) := by decide +kernel
theorem dX4_removeRequest_38 : decode cX4_removeRequest 38 = .ok (.iadd, 1) := by decide +kernel
theorem dX4_removeRequest_39 : decode cX4_removeRequest 39 = .ok (.iaload, 1) := by decide +kernel
theorem dX4_removeRequest_40 : decode cX4_removeRequest 40 = .ok (.iastore, 1) := by decide +kernel
theorem dX4_removeRequest_41 : decode cX4_removeRequest 41 = .ok (.iinc 3 1, 3) := by decide +kernel
theorem dX4_removeRequest_44 : decode cX4_removeRequest 44 = .ok (.goto (-25), 3) := by decide +kernel
theorem dX4_removeRequest_47 : decode cX4_removeRequest 47 = .ok (.iload_n 2, 1) := by decide +kernel
theorem dX4_removeRequest_48 : decode cX4_removeRequest 48 = .ok (.ireturn, 1) := by decide +kernel
set_option maxRecDepth 20000 in
theorem ggX4_readRequestsIn_X4_currentVersion : GoodIn wsX4_readRequestsIn wsX4_currentVersion := goodIn_r _ [11, 12, 13, 27, 28, 29, 30, 31, 32, 33, 34, 35, 36, 37, 38, 39, 40, 41, 42, 43, 44] (by decide +kernel) (by decide +kernel)
set_option maxRecDepth 20000 in
theorem gX4_readRequestsIn_X4_currentVersion : GoodIn wsX4_readRequestsIn (wsV RX4 173 RX4 yX4_currentVersion wsX4_currentVersion) := goodIn_app (goodIn_of _ (by decide +kernel)) ggX4_readRequestsIn_X4_currentVersion
set_option maxRecDepth 20000 in
theorem ggX4_readRequestsIn_X4_sectorsReadTime : GoodIn wsX4_readRequestsIn wsX4_sectorsReadTime := goodIn_r _ [17, 18, 19, 20, 27, 28, 29, 30, 31, 32, 33, 34, 35, 36, 37, 38, 39, 40, 41, 42, 43, 44, 45, 46, 47, 48, 49, 50, 51] (by decide +kernel) (by decide +kernel)
set_option maxRecDepth 20000 in
theorem gX4_readRequestsIn_X4_sectorsReadTime : GoodIn wsX4_readRequestsIn (wsV RX4 223 RX4 yX4_sectorsReadTime wsX4_sectorsReadTime) := goodIn_app (goodIn_of _ (by decide +kernel)) ggX4_readRequestsIn_X4_sectorsReadTime
set_option maxRecDepth 20000 in
theorem ggX4_readRequestsIn_X4_useDrive : GoodIn wsX4_readRequestsIn wsX4_useDrive := goodIn_r _ [24, 25, 4, 26, 27, 28, 29, 30, 31, 32, 33, 34, 35, 36, 37, 38, 39, 40, 41, 42, 43, 44, 52, 53, 54] (by decide +kernel) (by decide +kernel)
set_option maxRecDepth 20000 in
theorem gX4_readRequestsIn_X4_useDrive : GoodIn wsX4_readRequestsIn (wsV RX4 214 RX4 yX4_useDrive wsX4_useDrive) := goodIn_app (goodIn_of _ (by decide +kernel)) ggX4_readRequestsIn_X4_useDrive
theorem dX4_readRequestsIn_0 : decode cX4_readRequestsIn 0 = .ok (.iconst 0, 1) := by decide +kernel
theorem dX4_readRequestsIn_1 : decode cX4_readRequestsIn 1 = .ok (.istore_n 2, 1) := by decide +kernel
theorem dX4_readRequestsIn_2 : decode cX4_readRequestsIn 2 = .ok (.iload_n 2, 1) := by decide +kernel
theorem dX4_readRequestsIn_3 : decode cX4_readRequestsIn 3 = .ok (.aload_n 0, 1) := by decide +kernel
theorem dX4_readRequestsIn_4 : decode cX4_readRequestsIn 4 = .ok (.getfield 71, 3) := by decide +kernel
theorem dX4_readRequestsIn_7 : decode cX4_readRequestsIn 7 = .ok (.if_icmp .ge 55, 3) := by decide +kernel
theorem dX4_readRequestsIn_10 : decode cX4_readRequestsIn 10 = .ok (.aload_n 0, 1) := by decide +kernel
theorem dX4_readRequestsIn_11 : decode cX4_readRequestsIn 11 = .ok (.aload_n 0, 1) := by decide +kernel
theorem dX4_readRequestsIn_12 : decode cX4_readRequestsIn 12 = .ok (.getfield 36, 3) := by decide +kernel
theorem dX4_readRequestsIn_15 : decode cX4_readRequestsIn 15 = .ok (.iload_n 2, 1) := by decide +kernel
theorem dX4_readRequestsIn_16 : decode cX4_readRequestsIn 16 = .ok (.iaload, 1) := by decide +kernel
theorem dX4_readRequestsIn_17 : decode cX4_readRequestsIn 17 = .ok (.invokevirtual 173, 3) := by decide +kernel
theorem dX4_readRequestsIn_20 : decode cX4_readRequestsIn 20 = .ok (.astore_n 3, 1) := by decide +kernel
theorem dX4_readRequestsIn_21 : decode cX4_readRequestsIn 21 = .ok (.aload_n 3, 1) := by decide +kernel
theorem dX4_readRequestsIn_22 : decode cX4_readRequestsIn 22 = .ok (.getfield 134, 3) := by decide +kernel
theorem dX4_readRequestsIn_25 : decode cX4_readRequestsIn 25 = .ok (.aload_n 0, 1) := by decide +kernel
theorem dX4_readRequestsIn_26 : decode cX4_readRequestsIn 26 = .ok (.getfield 17, 3) := by decide +kernel
theorem dX4_readRequestsIn_29 : decode cX4_readRequestsIn 29 = .ok (.iload_n 1, 1) := by decide +kernel
theorem dX4_readRequestsIn_30 : decode cX4_readRequestsIn 30 = .ok (.aaload, 1) := by decide +kernel
theorem dX4_readRequestsIn_31 : decode cX4_readRequestsIn 31 = .ok (.getfield 115, 3) := by decide +kernel
theorem dX4_readRequestsIn_34 : decode cX4_readRequestsIn 34 = .ok (.if_icmp .ne 22, 3) := by decide +kernel
theorem dX4_readRequestsIn_37 : decode cX4_readRequestsIn 37 = .ok (.aload_n 0, 1) := by decide +kernel
theorem dX4_readRequestsIn_38 : decode cX4_readRequestsIn 38 = .ok (.dup, 1) := by decide +kernel
theorem dX4_readRequestsIn_39 : decode cX4_readRequestsIn 39 = .ok (.getfield 77, 3) := by decide +kernel
theorem dX4_readRequestsIn_42 : decode cX4_readRequestsIn 42 = .ok (.aload_n 0, 1) := by decide +kernel
theorem dX4_readRequestsIn_43 : decode cX4_readRequestsIn 43 = .ok (.aload_n 3, 1) := by decide +kernel
theorem dX4_readRequestsIn_44 : decode cX4_readRequestsIn 44 = .ok (.invokevirtual 223, 3) := by decide +kernel
theorem dX4_readRequestsIn_47 : decode cX4_readRequestsIn 47 = .ok (.iadd, 1) := by decide +kernel
theorem dX4_readRequestsIn_48 : decode cX4_readRequestsIn 48 = .ok (.putfield 77, 3) := by decide +kernel
theorem dX4_readRequestsIn_51 : decode cX4_readRequestsIn 51 = .ok (.aload_n 0, 1) := by decide +kernel
theorem dX4_readRequestsIn_52 : decode cX4_readRequestsIn 52 = .ok (.iload_n 1, 1) := by decide +kernel
theorem dX4_readRequestsIn_53 : decode cX4_readRequestsIn 53 = .ok (.invokevirtual 214, 3) := by decide +kernel
theorem dX4_readRequestsIn_56 : decode cX4_readRequestsIn 56 = .ok (.iinc 2 1, 3) := by decide +kernel
theorem dX4_readRequestsIn_59 : decode cX4_readRequestsIn 59 = .ok (.goto (-57), 3) := by decide +kernel
theorem dX4_readRequestsIn_62 : decode cX4_readRequestsIn 62 = .ok (.return_, 1) := by decide +kernel
set_option maxRecDepth 20000 in
theorem ggX4_readInDrives_X4_readRequestsIn : GoodIn wsX4_readInDrives wsX4_readRequestsIn := goodIn_r _ [6, 7, 8, 9, 10, 11, 12, 13, 14, 15, 5, 16, 17, 18, 19, 20, 21, 22, 23, 24, 25, 26, 27, 28, 29, 30, 31, 32, 33, 34, 35, 36, 37, 38, 39, 40, 41, 42, 43, 44, 45, 46, 47, 48, 49, 50, 51, 52, 53, 54, 55, 56, 57, 58, 59] (by decide +kernel) (by decide +kernel)
set_option maxRecDepth 20000 in
theorem gX4_readInDrives_X4_readRequestsIn : GoodIn wsX4_readInDrives (wsV RX4 234 RX4 yX4_readRequestsIn wsX4_readRequestsIn) := goodIn_app (goodIn_of _ (by decide +kernel)) ggX4_readInDrives_X4_readRequestsIn
theorem dX4_readInDrives_0 : decode cX4_readInDrives 0 = .ok (.iconst 0, 1) := by decide +kernel
theorem dX4_readInDrives_1 : decode cX4_readInDrives 1 = .ok (.istore_n 1, 1) := by decide +kernel
theorem dX4_readInDrives_2 : decode cX4_readInDrives 2 = .ok (.iload_n 1, 1) := by decide +kernel
theorem dX4_readInDrives_3 : decode cX4_readInDrives 3 = .ok (.aload_n 0, 1) := by decide +kernel
theorem dX4_readInDrives_4 : decode cX4_readInDrives 4 = .ok (.getfield 53, 3) := by decide +kernel
theorem dX4_readInDrives_7 : decode cX4_readInDrives 7 = .ok (.if_icmp .ge 14, 3) := by decide +kernel
theorem dX4_readInDrives_10 : decode cX4_readInDrives 10 = .ok (.aload_n 0, 1) := by decide +kernel
theorem dX4_readInDrives_11 : decode cX4_readInDrives 11 = .ok (.iload_n 1, 1) := by decide +kernel
theorem dX4_readInDrives_12 : decode cX4_readInDrives 12 = .ok (.invokevirtual 234, 3) := by decide +kernel
theorem dX4_readInDrives_15 : decode cX4_readInDrives 15 = .ok (.iinc 1 1, 3) := by decide +kernel
theorem dX4_readInDrives_18 : decode cX4_readInDrives 18 = .ok (.goto (-16), 3) := by decide +kernel
theorem dX4_readInDrives_21 : decode cX4_readInDrives 21 = .ok (.return_, 1) := by decide +kernel
abbrev rm_X4_isReadable : Room := { frames := 2, cells := 0, slots := 0, locals := 42 }
set_option maxRecDepth 100000 in
set_option maxHeartbeats 4000000 in
theorem ct_X4_isReadable (l : Launch) (g : GT) (w : WT) (i : Nat) (hi : i ∈ k_S w.1) (sd : SD) (a1 : Int32) {q : Int32} (hf : f_X4_isReadable sd a1 = some q) : Met l yX4_isReadable wsX4_isReadable rm_X4_isReadable (cPre g (wS w i sd) [.ref (adr i 4 0), .int a1]) (cQi g q (wS w i sd)) 0 0 (gA g) := by
  refine x_met (by decide) rfl (Nat.le_of_ble_eq_true rfl) ?_
  intro p e s m below meth c hx hb hr hml hts hown hlocks hK hW hS ls hl
  have hown : s.vm.findClass RX4 = some m.cls := hown
  have hl : lv_has ls 2 [(0, .ref (adr i 4 0)), (1, .int a1)] := hl
  rw [f_X4_isReadable] at hf
  refine lv_aload_n hx hb dX4_isReadable_0 rfl (lv_at hl 0 rfl) ?_
  refine lv_aload_n hx hb dX4_isReadable_1 rfl (lv_at hl 0 rfl) ?_
  refine lv_iload_n hx hb dX4_isReadable_2 rfl (lv_at hl 1 rfl) ?_
  obtain ⟨q1, h_q1, hf⟩ := x_bindE hf
  refine x_cr0 (x_rV ⟨hx, hb, hml, hown, hts⟩ (ct_X4_currentVersion l g w i hi sd (a1) h_q1) (cwV 1 hts gX4_isReadable_X4_currentVersion rfl rfl rfl (by decide +kernel) ⟨Nat.le_of_ble_eq_true rfl, Nat.le_of_ble_eq_true rfl⟩) hK hW hS (x_recv (i := i) (k := 4) (j := 0) hK hW ⟨hi, by decide⟩ rfl (by decide)) rfl hl.1 (rest := [.ref (adr i 4 0)]) rfl (Nat.le_of_ble_eq_true rfl) dX4_isReadable_3 ⟨Nat.le_of_ble_eq_true rfl, Nat.le_of_ble_eq_true rfl⟩) hS (fun H locs hW hS => ?_)
  have hW : World g (wS w i sd) H := hW
  refine W.eq (g2 := F0 m 6 ls [.ref (adr i 6 q1), .ref (adr i 4 0)]) rfl ?_
  obtain ⟨q2, h_q2, hf⟩ := x_bindE hf
  refine x_ci0 (x_rV ⟨hx, hb, hml, hown, hts⟩ (ct_X4_isGood l g w i hi sd (q1) ((b_X4_currentVersion h_q1)) h_q2) (cwV 1 hts gX4_isReadable_X4_isGood rfl rfl rfl (by decide +kernel) ⟨Nat.le_of_ble_eq_true rfl, Nat.le_of_ble_eq_true rfl⟩) hK hW hS (x_recv (i := i) (k := 4) (j := 0) hK hW ⟨hi, by decide⟩ rfl (by decide)) rfl hl.1 (rest := []) rfl (Nat.le_of_ble_eq_true rfl) dX4_isReadable_6 ⟨Nat.le_of_ble_eq_true rfl, Nat.le_of_ble_eq_true rfl⟩) hS (fun H locs hW hS => ?_)
  have hW : World g (wS w i sd) H := hW
  refine W.eq (g2 := F0 m 9 ls [.int q2]) rfl ?_
  obtain ⟨hg3, hf⟩ := x_guardE hf
  cases hf
  exact x_zret hx hb hr hlocks hK hW hS hg3 rfl dX4_isReadable_9
abbrev rm_X4_isCurrent : Room := { frames := 0, cells := 0, slots := 0, locals := 0 }
set_option maxRecDepth 100000 in
set_option maxHeartbeats 4000000 in
theorem ct_X4_isCurrent (l : Launch) (g : GT) (w : WT) (i : Nat) (hi : i ∈ k_S w.1) (sd : SD) (a1 : Int32) {q : Int32} (hf : f_X4_isCurrent sd a1 = some q) : Met l yX4_isCurrent wsX4_isCurrent rm_X4_isCurrent (cPre g (wS w i sd) [.ref (adr i 4 0), .int a1]) (cQi g q (wS w i sd)) 0 0 (gA g) := by
  have i_4 : ∀ w ∈ u_ws RX4 TX4 18, w ∈ wsX4_isCurrent := by decide +kernel
  have i_6 : ∀ w ∈ u_ws RX6 TX6 7, w ∈ wsX4_isCurrent := by decide +kernel
  refine x_met (by decide) rfl (Nat.le_of_ble_eq_true rfl) ?_
  intro p e s m below meth c hx hb hr hml hts hown hlocks hK hW hS ls hl
  have hown : s.vm.findClass RX4 = some m.cls := hown
  have hl : lv_has ls 2 [(0, .ref (adr i 4 0)), (1, .int a1)] := hl
  rw [f_X4_isCurrent] at hf
  refine lv_aload_n hx hb dX4_isCurrent_0 rfl (lv_at hl 0 rfl) ?_
  refine x_get (i := i) (k := 4) (j := 0) (t := 10) hx hb hts i_4 hown hK hW ⟨hi, by decide⟩ rfl ⟨by decide, by decide, rfl⟩ (hts (.fieldLink RX4 33 "OpticalJukebox$State" "current" "[I") (by decide +kernel)) (v := .ref (adr i 14 0)) rfl dX4_isCurrent_1 ?_
  refine lv_aload_n hx hb dX4_isCurrent_4 rfl (lv_at hl 0 rfl) ?_
  refine x_get (i := i) (k := 4) (j := 0) (t := 8) hx hb hts i_4 hown hK hW ⟨hi, by decide⟩ rfl ⟨by decide, by decide, rfl⟩ (hts (.fieldLink RX4 29 "OpticalJukebox$State" "versions" "[LOpticalJukebox$Version;") (by decide +kernel)) (v := .ref (adr i 13 0)) rfl dX4_isCurrent_5 ?_
  refine lv_iload_n hx hb dX4_isCurrent_8 rfl (lv_at hl 1 rfl) ?_
  obtain ⟨hg1, hf⟩ := x_guardE hf
  refine x_aald (i := i) (k := 13) (j := 0) hx hb hK hW ⟨hi, by decide⟩ (by decide) rfl rfl hg1 dX4_isCurrent_9 ?_
  refine W.eq (g2 := F0 m 10 ls [.ref (adr i 6 (a1).toNatClampNeg), .ref (adr i 14 0)]) rfl ?_
  refine x_get (i := i) (k := 6) (j := (a1).toNatClampNeg) (t := 0) hx hb hts i_6 hown hK hW ⟨hi, (x_lt hg1)⟩ rfl ⟨by decide, by decide, rfl⟩ (hts (.fieldLink RX4 131 "OpticalJukebox$Version" "file" "I") (by decide +kernel)) (sv_S rfl (fun _ => rfl) rfl) dX4_isCurrent_10 ?_
  obtain ⟨hg2, hf⟩ := x_guardE hf
  refine x_iald (i := i) (k := 14) (j := 0) (f := sd 14 0) hx hb hK hW ⟨hi, by decide⟩ (by decide) (ct_S rfl (fun _ => rfl)) rfl hg2 dX4_isCurrent_13 ?_
  refine lv_iload_n hx hb dX4_isCurrent_14 rfl (lv_at hl 1 rfl) ?_
  refine lv_icmp_ne (tgt := 22) hx hb dX4_isCurrent_15 (by decide) (fun hc => ?_) (fun hc => ?_)
  · have hf := x_iteF hf hc
    refine lv_iconst (v := 0) hx hb dX4_isCurrent_22 (by decide) ?_
    cases hf
    exact x_zret hx hb hr hlocks hK hW hS (Or.inl rfl) rfl dX4_isCurrent_23
  · have hf := x_iteT hf hc
    refine lv_iconst (v := 1) hx hb dX4_isCurrent_18 (by decide) ?_
    refine lv_goto (tgt := 23) hx hb dX4_isCurrent_19 (by decide) ?_
    cases hf
    exact x_zret hx hb hr hlocks hK hW hS (Or.inr rfl) rfl dX4_isCurrent_23
abbrev rm_X4_kindOfSector : Room := { frames := 2, cells := 0, slots := 0, locals := 45 }
set_option maxRecDepth 100000 in
set_option maxHeartbeats 4000000 in
theorem ct_X4_kindOfSector (l : Launch) (g : GT) (w : WT) (i : Nat) (hi : i ∈ k_S w.1) (sd : SD) (a1 : Int32) (a2 : Int32) {q : Int32} (hf : f_X4_kindOfSector sd a1 a2 = some q) : Met l yX4_kindOfSector wsX4_kindOfSector rm_X4_kindOfSector (cPre g (wS w i sd) [.ref (adr i 4 0), .int a1, .int a2]) (cQi g q (wS w i sd)) 0 0 (gA g) := by
  have i_3 : ∀ w ∈ u_ws RX3 TX3 9, w ∈ wsX4_kindOfSector := by decide +kernel
  have i_4 : ∀ w ∈ u_ws RX4 TX4 18, w ∈ wsX4_kindOfSector := by decide +kernel
  refine x_met (by decide) rfl (Nat.le_of_ble_eq_true rfl) ?_
  intro p e s m below meth c hx hb hr hml hts hown hlocks hK hW hS ls hl
  have hown : s.vm.findClass RX4 = some m.cls := hown
  have hl : lv_has ls 5 [(0, .ref (adr i 4 0)), (1, .int a1), (2, .int a2)] := hl
  rw [f_X4_kindOfSector] at hf
  refine lv_iconst (v := 0) hx hb dX4_kindOfSector_0 (by decide) ?_
  refine lv_istore_n (lv' := [(3, .int (0 : Int32)), (0, .ref (adr i 4 0)), (1, .int a1), (2, .int a2)]) hx hb dX4_kindOfSector_1 rfl hl (by decide) rfl (fun ls hl => ?_)
  refine lv_iload_n hx hb dX4_kindOfSector_2 rfl (lv_at hl 3 rfl) ?_
  refine lv_aload_n hx hb dX4_kindOfSector_3 rfl (lv_at hl 1 rfl) ?_
  refine x_get (i := i) (k := 4) (j := 0) (t := 5) hx hb hts i_4 hown hK hW ⟨hi, by decide⟩ rfl ⟨by decide, by decide, rfl⟩ (hts (.fieldLink RX4 23 "OpticalJukebox$State" "platters" "[LOpticalJukebox$Platter;") (by decide +kernel)) (v := .ref (adr i 12 0)) rfl dX4_kindOfSector_4 ?_
  refine lv_iload_n hx hb dX4_kindOfSector_7 rfl (lv_at hl 2 rfl) ?_
  obtain ⟨hg1, hf⟩ := x_guardE hf
  refine x_aald (i := i) (k := 12) (j := 0) hx hb hK hW ⟨hi, by decide⟩ (by decide) rfl rfl hg1 dX4_kindOfSector_8 ?_
  refine W.eq (g2 := F0 m 9 ls [.ref (adr i 3 (a1).toNatClampNeg), .int a2]) rfl ?_
  refine x_get (i := i) (k := 3) (j := (a1).toNatClampNeg) (t := 3) hx hb hts i_3 hown hK hW ⟨hi, (x_lt hg1)⟩ rfl ⟨by decide, by decide, rfl⟩ (hts (.fieldLink RX4 135 "OpticalJukebox$Platter" "end" "I") (by decide +kernel)) (sv_S rfl (fun _ => rfl) rfl) dX4_kindOfSector_9 ?_
  obtain ⟨K2, eK2, hf⟩ := x_letE hf
  have KK2 : ∀ (y3 : Int32) (ls : Array Slot) (H : Heap) (locs : List Loc), lv_has ls 5 [(0, .ref (adr i 4 0)), (1, .int a1), (2, .int a2), (3, .int y3)] → World g (wS w i sd) H → va_S (gA g) s.heap H locs → K2 y3 = some q → W p l e rm_X4_kindOfSector s m [.ref (adr i 4 0), .int a1, .int a2].toArray below meth c H locs 0 0 (MQ below (cQi g q (wS w i sd)) [.ref (adr i 4 0), .int a1, .int a2].toArray s 0 0 (gA g)) (F0 m 48 ls []) := by
    intro y3 ls H locs hl hW hS hf
    subst eK2
    refine lv_aload_n hx hb dX4_kindOfSector_48 rfl (lv_at hl 0 rfl) ?_
    refine x_get (i := i) (k := 4) (j := 0) (t := 5) hx hb hts i_4 hown hK hW ⟨hi, by decide⟩ rfl ⟨by decide, by decide, rfl⟩ (hts (.fieldLink RX4 23 "OpticalJukebox$State" "platters" "[LOpticalJukebox$Platter;") (by decide +kernel)) (v := .ref (adr i 12 0)) rfl dX4_kindOfSector_49 ?_
    refine lv_iload_n hx hb dX4_kindOfSector_52 rfl (lv_at hl 1 rfl) ?_
    obtain ⟨hg4, hf⟩ := x_guardE hf
    refine x_aald (i := i) (k := 12) (j := 0) hx hb hK hW ⟨hi, by decide⟩ (by decide) rfl rfl hg4 dX4_kindOfSector_53 ?_
    refine W.eq (g2 := F0 m 54 ls [.ref (adr i 3 (a1).toNatClampNeg)]) rfl ?_
    refine lv_iload_n hx hb dX4_kindOfSector_54 rfl (lv_at hl 2 rfl) ?_
    obtain ⟨q5, h_q5, hf⟩ := x_bindE hf
    refine x_ci0 (x_rV ⟨hx, hb, hml, hown, hts⟩ (ct_X3_isBad l g w i hi sd ((a1).toNatClampNeg) ((x_lt hg4)) (a2) h_q5) (cwV 1 hts gX4_kindOfSector_X3_isBad rfl rfl rfl (by decide +kernel) ⟨Nat.le_of_ble_eq_true rfl, Nat.le_of_ble_eq_true rfl⟩) hK hW hS (x_recv (i := i) (k := 3) (j := (a1).toNatClampNeg) hK hW ⟨hi, (x_lt hg4)⟩ rfl (by decide)) rfl hl.1 (rest := []) rfl (Nat.le_of_ble_eq_true rfl) dX4_kindOfSector_55 ⟨Nat.le_of_ble_eq_true rfl, Nat.le_of_ble_eq_true rfl⟩) hS (fun H locs hW hS => ?_)
    have hW : World g (wS w i sd) H := hW
    refine W.eq (g2 := F0 m 58 ls [.int q5]) rfl ?_
    refine lv_if_eq (tgt := 68) hx hb dX4_kindOfSector_58 (by decide) (fun hc => ?_) (fun hc => ?_)
    · have hf := x_iteT hf hc
      refine lv_iload_n hx hb dX4_kindOfSector_68 rfl (lv_at hl 3 rfl) ?_
      cases hf
      exact x_iret hx hb hr hlocks hK hW hS rfl dX4_kindOfSector_69
    · have hf := x_iteF hf hc
      refine lv_iload_n hx hb dX4_kindOfSector_61 rfl (lv_at hl 3 rfl) ?_
      refine lv_bipush (v := 10) hx hb dX4_kindOfSector_62 (by decide) ?_
      refine lv_iadd hx hb dX4_kindOfSector_64 ?_
      refine lv_goto (tgt := 69) hx hb dX4_kindOfSector_65 (by decide) ?_
      cases hf
      exact x_iret hx hb hr hlocks hK hW hS rfl dX4_kindOfSector_69
  clear eK2
  refine lv_icmp_ge (tgt := 48) hx hb dX4_kindOfSector_12 (by decide) (fun hc => ?_) (fun hc => ?_)
  · have hf := x_iteT hf hc
    exact KK2 ((0 : Int32)) ls _ _ (lv_sub hl [1, 2, 3, 0] rfl) hW hS hf
  · have hf := x_iteF hf hc
    refine lv_aload_n hx hb dX4_kindOfSector_15 rfl (lv_at hl 1 rfl) ?_
    refine lv_iload_n hx hb dX4_kindOfSector_16 rfl (lv_at hl 2 rfl) ?_
    refine lv_iload_n hx hb dX4_kindOfSector_17 rfl (lv_at hl 3 rfl) ?_
    obtain ⟨q6, h_q6, hf⟩ := x_bindE hf
    refine x_ci0 (x_rV ⟨hx, hb, hml, hown, hts⟩ (ct_X4_versionAt l g w i hi sd (a1) (a2) h_q6) (cwV 2 hts gX4_kindOfSector_X4_versionAt rfl rfl rfl (by decide +kernel) ⟨Nat.le_of_ble_eq_true rfl, Nat.le_of_ble_eq_true rfl⟩) hK hW hS (x_recv (i := i) (k := 4) (j := 0) hK hW ⟨hi, by decide⟩ rfl (by decide)) rfl hl.1 (rest := []) rfl (Nat.le_of_ble_eq_true rfl) dX4_kindOfSector_18 ⟨Nat.le_of_ble_eq_true rfl, Nat.le_of_ble_eq_true rfl⟩) hS (fun H locs hW hS => ?_)
    have hW : World g (wS w i sd) H := hW
    refine W.eq (g2 := F0 m 21 ls [.int q6]) rfl ?_
    refine lv_istore (lv' := [(4, .int q6), (3, .int (0 : Int32)), (0, .ref (adr i 4 0)), (1, .int a1), (2, .int a2)]) hx hb dX4_kindOfSector_21 hl (by decide) rfl (fun ls hl => ?_)
    refine lv_iload hx hb dX4_kindOfSector_23 (lv_at hl 0 rfl) ?_
    refine lv_iconst (v := -1) hx hb dX4_kindOfSector_25 (by decide) ?_
    obtain ⟨K7, eK7, hf⟩ := x_letE hf
    have KK7 : ∀ (y8 : Int32) (ls : Array Slot) (H : Heap) (locs : List Loc), lv_has ls 5 [(0, .ref (adr i 4 0)), (1, .int a1), (2, .int a2), (3, .int (0 : Int32)), (4, .int q6)] → World g (wS w i sd) H → va_S (gA g) s.heap H locs → K7 y8 = some q → W p l e rm_X4_kindOfSector s m [.ref (adr i 4 0), .int a1, .int a2].toArray below meth c H locs 0 0 (MQ below (cQi g q (wS w i sd)) [.ref (adr i 4 0), .int a1, .int a2].toArray s 0 0 (gA g)) (F0 m 47 ls [.int y8]) := by
      intro y8 ls H locs hl hW hS hf
      subst eK7
      refine lv_istore_n (lv' := [(3, .int y8), (0, .ref (adr i 4 0)), (1, .int a1), (2, .int a2), (4, .int q6)]) hx hb dX4_kindOfSector_47 rfl hl (by decide) rfl (fun ls hl => ?_)
      exact KK2 (y8) ls _ _ (lv_sub hl [1, 2, 3, 0] rfl) hW hS hf
    clear eK7
    refine lv_icmp_ne (tgt := 33) hx hb dX4_kindOfSector_26 (by decide) (fun hc => ?_) (fun hc => ?_)
    · have hf := x_iteF hf hc
      refine lv_aload_n hx hb dX4_kindOfSector_33 rfl (lv_at hl 2 rfl) ?_
      refine lv_iload hx hb dX4_kindOfSector_34 (lv_at hl 0 rfl) ?_
      obtain ⟨q9, h_q9, hf⟩ := x_bindE hf
      refine x_ci0 (x_rV ⟨hx, hb, hml, hown, hts⟩ (ct_X4_isCurrent l g w i hi sd (q6) h_q9) (cwV 1 hts gX4_kindOfSector_X4_isCurrent rfl rfl rfl (by decide +kernel) ⟨Nat.le_of_ble_eq_true rfl, Nat.le_of_ble_eq_true rfl⟩) hK hW hS (x_recv (i := i) (k := 4) (j := 0) hK hW ⟨hi, by decide⟩ rfl (by decide)) rfl hl.1 (rest := []) rfl (Nat.le_of_ble_eq_true rfl) dX4_kindOfSector_36 ⟨Nat.le_of_ble_eq_true rfl, Nat.le_of_ble_eq_true rfl⟩) hS (fun H locs hW hS => ?_)
      have hW : World g (wS w i sd) H := hW
      refine W.eq (g2 := F0 m 39 ls [.int q9]) rfl ?_
      refine lv_if_eq (tgt := 46) hx hb dX4_kindOfSector_39 (by decide) (fun hc => ?_) (fun hc => ?_)
      · have hf := x_iteT hf hc
        refine lv_iconst (v := 2) hx hb dX4_kindOfSector_46 (by decide) ?_
        exact KK7 ((2 : Int32)) ls _ _ (lv_sub hl [2, 3, 4, 1, 0] rfl) hW hS hf
      · have hf := x_iteF hf hc
        refine lv_iconst (v := 1) hx hb dX4_kindOfSector_42 (by decide) ?_
        refine lv_goto (tgt := 47) hx hb dX4_kindOfSector_43 (by decide) ?_
        exact KK7 ((1 : Int32)) ls _ _ (lv_sub hl [2, 3, 4, 1, 0] rfl) hW hS hf
    · have hf := x_iteT hf hc
      refine lv_iconst (v := 3) hx hb dX4_kindOfSector_29 (by decide) ?_
      refine lv_goto (tgt := 47) hx hb dX4_kindOfSector_30 (by decide) ?_
      exact KK7 ((3 : Int32)) ls _ _ (lv_sub hl [2, 3, 4, 1, 0] rfl) hW hS hf
abbrev rm_X4_countStale : Room := { frames := 1, cells := 0, slots := 0, locals := 21 }
set_option maxRecDepth 100000 in
set_option maxHeartbeats 4000000 in
theorem ct_X4_countStale (l : Launch) (g : GT) (w : WT) (i : Nat) (hi : i ∈ k_S w.1) (sd : SD) (a1 : Int32) {q : Int32} (hf : f_X4_countStale sd a1 = some q) : Met l yX4_countStale wsX4_countStale rm_X4_countStale (cPre g (wS w i sd) [.ref (adr i 4 0), .int a1]) (cQi g q (wS w i sd)) 0 0 (gA g) := by
  have i_4 : ∀ w ∈ u_ws RX4 TX4 18, w ∈ wsX4_countStale := by decide +kernel
  have i_6 : ∀ w ∈ u_ws RX6 TX6 7, w ∈ wsX4_countStale := by decide +kernel
  refine x_met (by decide) rfl (Nat.le_of_ble_eq_true rfl) ?_
  intro p e s m below meth c hx hb hr hml hts hown hlocks hK hW hS ls hl
  have hown : s.vm.findClass RX4 = some m.cls := hown
  have hl : lv_has ls 4 [(0, .ref (adr i 4 0)), (1, .int a1)] := hl
  rw [f_X4_countStale] at hf
  refine lv_iconst (v := 0) hx hb dX4_countStale_0 (by decide) ?_
  refine lv_istore_n (lv' := [(2, .int (0 : Int32)), (0, .ref (adr i 4 0)), (1, .int a1)]) hx hb dX4_countStale_1 rfl hl (by decide) rfl (fun ls hl => ?_)
  refine lv_iconst (v := 0) hx hb dX4_countStale_2 (by decide) ?_
  refine lv_istore_n (lv' := [(3, .int (0 : Int32)), (2, .int (0 : Int32)), (0, .ref (adr i 4 0)), (1, .int a1)]) hx hb dX4_countStale_3 rfl hl (by decide) rfl (fun ls hl => ?_)
  have L4 : ∀ (n : Nat) (v2_4 : Int32) (v3_4 : Int32) (ls : Array Slot) (H : Heap) (locs : List Loc), lv_has ls 4 [(0, .ref (adr i 4 0)), (1, .int a1), (2, .int v2_4), (3, .int v3_4)] → World g (wS w i sd) H → va_S (gA g) s.heap H locs → f_X4_countStale_L4 sd a1 n v2_4 v3_4 = some q → W p l e rm_X4_countStale s m [.ref (adr i 4 0), .int a1].toArray below meth c H locs 0 0 (MQ below (cQi g q (wS w i sd)) [.ref (adr i 4 0), .int a1].toArray s 0 0 (gA g)) (F0 m 4 ls []) := by
    clear hW hS hl
    intro n
    induction n with
    | zero => intro v2_4 v3_4 ls H locs hl hW hS hf; cases hf
    | succ n_4 ih =>
      intro v2_4 v3_4 ls H locs hl hW hS hf
      rw [f_X4_countStale_L4] at hf
      refine lv_iload_n hx hb dX4_countStale_4 rfl (lv_at hl 3 rfl) ?_
      refine lv_aload_n hx hb dX4_countStale_5 rfl (lv_at hl 0 rfl) ?_
      refine x_get (i := i) (k := 4) (j := 0) (t := 9) hx hb hts i_4 hown hK hW ⟨hi, by decide⟩ rfl ⟨by decide, by decide, rfl⟩ (hts (.fieldLink RX4 65 "OpticalJukebox$State" "versionCount" "I") (by decide +kernel)) (sv_S rfl (fun _ => rfl) rfl) dX4_countStale_6 ?_
      refine lv_icmp_ge (tgt := 51) hx hb dX4_countStale_9 (by decide) (fun hc => ?_) (fun hc => ?_)
      · have hf := x_iteT hf hc
        refine lv_iload_n hx hb dX4_countStale_51 rfl (lv_at hl 2 rfl) ?_
        cases hf
        exact x_iret hx hb hr hlocks hK hW hS rfl dX4_countStale_52
      · have hf := x_iteF hf hc
        refine lv_aload_n hx hb dX4_countStale_12 rfl (lv_at hl 0 rfl) ?_
        refine x_get (i := i) (k := 4) (j := 0) (t := 8) hx hb hts i_4 hown hK hW ⟨hi, by decide⟩ rfl ⟨by decide, by decide, rfl⟩ (hts (.fieldLink RX4 29 "OpticalJukebox$State" "versions" "[LOpticalJukebox$Version;") (by decide +kernel)) (v := .ref (adr i 13 0)) rfl dX4_countStale_13 ?_
        refine lv_iload_n hx hb dX4_countStale_16 rfl (lv_at hl 3 rfl) ?_
        obtain ⟨hg1, hf⟩ := x_guardE hf
        refine x_aald (i := i) (k := 13) (j := 0) hx hb hK hW ⟨hi, by decide⟩ (by decide) rfl rfl hg1 dX4_countStale_17 ?_
        refine W.eq (g2 := F0 m 18 ls [.ref (adr i 6 (v3_4).toNatClampNeg)]) rfl ?_
        refine x_get (i := i) (k := 6) (j := (v3_4).toNatClampNeg) (t := 1) hx hb hts i_6 hown hK hW ⟨hi, (x_lt hg1)⟩ rfl ⟨by decide, by decide, rfl⟩ (hts (.fieldLink RX4 134 "OpticalJukebox$Version" "platter" "I") (by decide +kernel)) (sv_S rfl (fun _ => rfl) rfl) dX4_countStale_18 ?_
        refine lv_iload_n hx hb dX4_countStale_21 rfl (lv_at hl 1 rfl) ?_
        refine lv_icmp_ne (tgt := 45) hx hb dX4_countStale_22 (by decide) (fun hc => ?_) (fun hc => ?_)
        · have hf := x_iteF hf hc
          obtain ⟨x2, e_x2, hf⟩ := x_letE hf
          refine lv_iinc (v := x2) (lv' := [(3, .int x2), (0, .ref (adr i 4 0)), (1, .int a1), (2, .int v2_4)]) hx hb dX4_countStale_45 hl (k := 3) rfl (by rw [e_x2]; rfl) (by decide) rfl (fun ls hl => ?_)
          refine lv_goto (tgt := 4) hx hb dX4_countStale_48 (by decide) ?_
          exact ih (v2_4) (x2) ls _ _ (lv_sub hl [1, 2, 3, 0] rfl) hW hS hf
        · have hf := x_iteT hf hc
          refine lv_aload_n hx hb dX4_countStale_25 rfl (lv_at hl 0 rfl) ?_
          refine lv_iload_n hx hb dX4_countStale_26 rfl (lv_at hl 3 rfl) ?_
          obtain ⟨q3, h_q3, hf⟩ := x_bindE hf
          refine x_ci0 (x_rV ⟨hx, hb, hml, hown, hts⟩ (ct_X4_isCurrent l g w i hi sd (v3_4) h_q3) (cwV 1 hts gX4_countStale_X4_isCurrent rfl rfl rfl (by decide +kernel) ⟨Nat.le_of_ble_eq_true rfl, Nat.le_of_ble_eq_true rfl⟩) hK hW hS (x_recv (i := i) (k := 4) (j := 0) hK hW ⟨hi, by decide⟩ rfl (by decide)) rfl hl.1 (rest := []) rfl (Nat.le_of_ble_eq_true rfl) dX4_countStale_27 ⟨Nat.le_of_ble_eq_true rfl, Nat.le_of_ble_eq_true rfl⟩) hS (fun H locs hW hS => ?_)
          have hW : World g (wS w i sd) H := hW
          refine W.eq (g2 := F0 m 30 ls [.int q3]) rfl ?_
          refine lv_if_ne (tgt := 45) hx hb dX4_countStale_30 (by decide) (fun hc => ?_) (fun hc => ?_)
          · have hf := x_iteF hf hc
            obtain ⟨x4, e_x4, hf⟩ := x_letE hf
            refine lv_iinc (v := x4) (lv' := [(3, .int x4), (0, .ref (adr i 4 0)), (1, .int a1), (2, .int v2_4)]) hx hb dX4_countStale_45 hl (k := 3) rfl (by rw [e_x4]; rfl) (by decide) rfl (fun ls hl => ?_)
            refine lv_goto (tgt := 4) hx hb dX4_countStale_48 (by decide) ?_
            exact ih (v2_4) (x4) ls _ _ (lv_sub hl [1, 2, 3, 0] rfl) hW hS hf
          · have hf := x_iteT hf hc
            refine lv_iload_n hx hb dX4_countStale_33 rfl (lv_at hl 2 rfl) ?_
            refine lv_aload_n hx hb dX4_countStale_34 rfl (lv_at hl 0 rfl) ?_
            refine x_get (i := i) (k := 4) (j := 0) (t := 8) hx hb hts i_4 hown hK hW ⟨hi, by decide⟩ rfl ⟨by decide, by decide, rfl⟩ (hts (.fieldLink RX4 29 "OpticalJukebox$State" "versions" "[LOpticalJukebox$Version;") (by decide +kernel)) (v := .ref (adr i 13 0)) rfl dX4_countStale_35 ?_
            refine lv_iload_n hx hb dX4_countStale_38 rfl (lv_at hl 3 rfl) ?_
            obtain ⟨hg5, hf⟩ := x_guardE hf
            refine x_aald (i := i) (k := 13) (j := 0) hx hb hK hW ⟨hi, by decide⟩ (by decide) rfl rfl hg5 dX4_countStale_39 ?_
            refine W.eq (g2 := F0 m 40 ls [.ref (adr i 6 (v3_4).toNatClampNeg), .int v2_4]) rfl ?_
            refine x_get (i := i) (k := 6) (j := (v3_4).toNatClampNeg) (t := 3) hx hb hts i_6 hown hK hW ⟨hi, (x_lt hg5)⟩ rfl ⟨by decide, by decide, rfl⟩ (hts (.fieldLink RX4 141 "OpticalJukebox$Version" "size" "I") (by decide +kernel)) (sv_S rfl (fun _ => rfl) rfl) dX4_countStale_40 ?_
            refine lv_iadd hx hb dX4_countStale_43 ?_
            obtain ⟨x6, e_x6, hf⟩ := x_letE hf
            refine x_topi e_x6 ?_
            refine lv_istore_n (lv' := [(2, .int x6), (0, .ref (adr i 4 0)), (1, .int a1), (3, .int v3_4)]) hx hb dX4_countStale_44 rfl hl (by decide) rfl (fun ls hl => ?_)
            obtain ⟨x7, e_x7, hf⟩ := x_letE hf
            refine lv_iinc (v := x7) (lv' := [(3, .int x7), (2, .int x6), (0, .ref (adr i 4 0)), (1, .int a1)]) hx hb dX4_countStale_45 hl (k := 3) rfl (by rw [e_x7]; rfl) (by decide) rfl (fun ls hl => ?_)
            refine lv_goto (tgt := 4) hx hb dX4_countStale_48 (by decide) ?_
            exact ih (x6) (x7) ls _ _ (lv_sub hl [2, 3, 1, 0] rfl) hW hS hf
  exact L4 fuel ((0 : Int32)) ((0 : Int32)) ls _ _ (lv_sub hl [2, 3, 1, 0] rfl) hW hS hf
abbrev rm_X4_countDamaged : Room := { frames := 0, cells := 0, slots := 0, locals := 0 }
set_option maxRecDepth 100000 in
set_option maxHeartbeats 4000000 in
theorem ct_X4_countDamaged (l : Launch) (g : GT) (w : WT) (i : Nat) (hi : i ∈ k_S w.1) (sd : SD) {q : Int32} (hf : f_X4_countDamaged sd  = some q) : Met l yX4_countDamaged wsX4_countDamaged rm_X4_countDamaged (cPre g (wS w i sd) [.ref (adr i 4 0)]) (cQi g q (wS w i sd)) 0 0 (gA g) := by
  have i_4 : ∀ w ∈ u_ws RX4 TX4 18, w ∈ wsX4_countDamaged := by decide +kernel
  have i_6 : ∀ w ∈ u_ws RX6 TX6 7, w ∈ wsX4_countDamaged := by decide +kernel
  refine x_met (by decide) rfl (Nat.le_of_ble_eq_true rfl) ?_
  intro p e s m below meth c hx hb hr hml hts hown hlocks hK hW hS ls hl
  have hown : s.vm.findClass RX4 = some m.cls := hown
  have hl : lv_has ls 3 [(0, .ref (adr i 4 0))] := hl
  rw [f_X4_countDamaged] at hf
  refine lv_iconst (v := 0) hx hb dX4_countDamaged_0 (by decide) ?_
  refine lv_istore_n (lv' := [(1, .int (0 : Int32)), (0, .ref (adr i 4 0))]) hx hb dX4_countDamaged_1 rfl hl (by decide) rfl (fun ls hl => ?_)
  refine lv_iconst (v := 0) hx hb dX4_countDamaged_2 (by decide) ?_
  refine lv_istore_n (lv' := [(2, .int (0 : Int32)), (1, .int (0 : Int32)), (0, .ref (adr i 4 0))]) hx hb dX4_countDamaged_3 rfl hl (by decide) rfl (fun ls hl => ?_)
  have L4 : ∀ (n : Nat) (v1_4 : Int32) (v2_4 : Int32) (ls : Array Slot) (H : Heap) (locs : List Loc), lv_has ls 3 [(0, .ref (adr i 4 0)), (1, .int v1_4), (2, .int v2_4)] → World g (wS w i sd) H → va_S (gA g) s.heap H locs → f_X4_countDamaged_L4 sd n v1_4 v2_4 = some q → W p l e rm_X4_countDamaged s m [.ref (adr i 4 0)].toArray below meth c H locs 0 0 (MQ below (cQi g q (wS w i sd)) [.ref (adr i 4 0)].toArray s 0 0 (gA g)) (F0 m 4 ls []) := by
    clear hW hS hl
    intro n
    induction n with
    | zero => intro v1_4 v2_4 ls H locs hl hW hS hf; cases hf
    | succ n_4 ih =>
      intro v1_4 v2_4 ls H locs hl hW hS hf
      rw [f_X4_countDamaged_L4] at hf
      refine lv_iload_n hx hb dX4_countDamaged_4 rfl (lv_at hl 2 rfl) ?_
      refine lv_aload_n hx hb dX4_countDamaged_5 rfl (lv_at hl 0 rfl) ?_
      refine x_get (i := i) (k := 4) (j := 0) (t := 9) hx hb hts i_4 hown hK hW ⟨hi, by decide⟩ rfl ⟨by decide, by decide, rfl⟩ (hts (.fieldLink RX4 65 "OpticalJukebox$State" "versionCount" "I") (by decide +kernel)) (sv_S rfl (fun _ => rfl) rfl) dX4_countDamaged_6 ?_
      refine lv_icmp_ge (tgt := 33) hx hb dX4_countDamaged_9 (by decide) (fun hc => ?_) (fun hc => ?_)
      · have hf := x_iteT hf hc
        refine lv_iload_n hx hb dX4_countDamaged_33 rfl (lv_at hl 1 rfl) ?_
        cases hf
        exact x_iret hx hb hr hlocks hK hW hS rfl dX4_countDamaged_34
      · have hf := x_iteF hf hc
        refine lv_aload_n hx hb dX4_countDamaged_12 rfl (lv_at hl 0 rfl) ?_
        refine x_get (i := i) (k := 4) (j := 0) (t := 8) hx hb hts i_4 hown hK hW ⟨hi, by decide⟩ rfl ⟨by decide, by decide, rfl⟩ (hts (.fieldLink RX4 29 "OpticalJukebox$State" "versions" "[LOpticalJukebox$Version;") (by decide +kernel)) (v := .ref (adr i 13 0)) rfl dX4_countDamaged_13 ?_
        refine lv_iload_n hx hb dX4_countDamaged_16 rfl (lv_at hl 2 rfl) ?_
        obtain ⟨hg1, hf⟩ := x_guardE hf
        refine x_aald (i := i) (k := 13) (j := 0) hx hb hK hW ⟨hi, by decide⟩ (by decide) rfl rfl hg1 dX4_countDamaged_17 ?_
        refine W.eq (g2 := F0 m 18 ls [.ref (adr i 6 (v2_4).toNatClampNeg)]) rfl ?_
        refine x_get (i := i) (k := 6) (j := (v2_4).toNatClampNeg) (t := 6) hx hb hts i_6 hown hK hW ⟨hi, (x_lt hg1)⟩ rfl ⟨by decide, by decide, rfl⟩ (hts (.fieldLink RX4 151 "OpticalJukebox$Version" "damaged" "Z") (by decide +kernel)) (sv_S rfl (fun _ => rfl) rfl) dX4_countDamaged_18 ?_
        refine lv_if_eq (tgt := 27) hx hb dX4_countDamaged_21 (by decide) (fun hc => ?_) (fun hc => ?_)
        · have hf := x_iteT hf hc
          obtain ⟨x2, e_x2, hf⟩ := x_letE hf
          refine lv_iinc (v := x2) (lv' := [(2, .int x2), (0, .ref (adr i 4 0)), (1, .int v1_4)]) hx hb dX4_countDamaged_27 hl (k := 2) rfl (by rw [e_x2]; rfl) (by decide) rfl (fun ls hl => ?_)
          refine lv_goto (tgt := 4) hx hb dX4_countDamaged_30 (by decide) ?_
          exact ih (v1_4) (x2) ls _ _ (lv_sub hl [1, 2, 0] rfl) hW hS hf
        · have hf := x_iteF hf hc
          obtain ⟨x3, e_x3, hf⟩ := x_letE hf
          refine lv_iinc (v := x3) (lv' := [(1, .int x3), (0, .ref (adr i 4 0)), (2, .int v2_4)]) hx hb dX4_countDamaged_24 hl (k := 1) rfl (by rw [e_x3]; rfl) (by decide) rfl (fun ls hl => ?_)
          obtain ⟨x4, e_x4, hf⟩ := x_letE hf
          refine lv_iinc (v := x4) (lv' := [(2, .int x4), (1, .int x3), (0, .ref (adr i 4 0))]) hx hb dX4_countDamaged_27 hl (k := 2) rfl (by rw [e_x4]; rfl) (by decide) rfl (fun ls hl => ?_)
          refine lv_goto (tgt := 4) hx hb dX4_countDamaged_30 (by decide) ?_
          exact ih (x3) (x4) ls _ _ (lv_sub hl [2, 1, 0] rfl) hW hS hf
  exact L4 fuel ((0 : Int32)) ((0 : Int32)) ls _ _ (lv_sub hl [2, 1, 0] rfl) hW hS hf
abbrev rm_X4_countVersions : Room := { frames := 0, cells := 0, slots := 0, locals := 0 }
set_option maxRecDepth 100000 in
set_option maxHeartbeats 4000000 in
theorem ct_X4_countVersions (l : Launch) (g : GT) (w : WT) (i : Nat) (hi : i ∈ k_S w.1) (sd : SD) (a1 : Int32) {q : Int32} (hf : f_X4_countVersions sd a1 = some q) : Met l yX4_countVersions wsX4_countVersions rm_X4_countVersions (cPre g (wS w i sd) [.ref (adr i 4 0), .int a1]) (cQi g q (wS w i sd)) 0 0 (gA g) := by
  have i_4 : ∀ w ∈ u_ws RX4 TX4 18, w ∈ wsX4_countVersions := by decide +kernel
  have i_6 : ∀ w ∈ u_ws RX6 TX6 7, w ∈ wsX4_countVersions := by decide +kernel
  refine x_met (by decide) rfl (Nat.le_of_ble_eq_true rfl) ?_
  intro p e s m below meth c hx hb hr hml hts hown hlocks hK hW hS ls hl
  have hown : s.vm.findClass RX4 = some m.cls := hown
  have hl : lv_has ls 4 [(0, .ref (adr i 4 0)), (1, .int a1)] := hl
  rw [f_X4_countVersions] at hf
  refine lv_iconst (v := 0) hx hb dX4_countVersions_0 (by decide) ?_
  refine lv_istore_n (lv' := [(2, .int (0 : Int32)), (0, .ref (adr i 4 0)), (1, .int a1)]) hx hb dX4_countVersions_1 rfl hl (by decide) rfl (fun ls hl => ?_)
  refine lv_iconst (v := 0) hx hb dX4_countVersions_2 (by decide) ?_
  refine lv_istore_n (lv' := [(3, .int (0 : Int32)), (2, .int (0 : Int32)), (0, .ref (adr i 4 0)), (1, .int a1)]) hx hb dX4_countVersions_3 rfl hl (by decide) rfl (fun ls hl => ?_)
  have L4 : ∀ (n : Nat) (v2_4 : Int32) (v3_4 : Int32) (ls : Array Slot) (H : Heap) (locs : List Loc), lv_has ls 4 [(0, .ref (adr i 4 0)), (1, .int a1), (2, .int v2_4), (3, .int v3_4)] → World g (wS w i sd) H → va_S (gA g) s.heap H locs → f_X4_countVersions_L4 sd a1 n v2_4 v3_4 = some q → W p l e rm_X4_countVersions s m [.ref (adr i 4 0), .int a1].toArray below meth c H locs 0 0 (MQ below (cQi g q (wS w i sd)) [.ref (adr i 4 0), .int a1].toArray s 0 0 (gA g)) (F0 m 4 ls []) := by
    clear hW hS hl
    intro n
    induction n with
    | zero => intro v2_4 v3_4 ls H locs hl hW hS hf; cases hf
    | succ n_4 ih =>
      intro v2_4 v3_4 ls H locs hl hW hS hf
      rw [f_X4_countVersions_L4] at hf
      refine lv_iload_n hx hb dX4_countVersions_4 rfl (lv_at hl 3 rfl) ?_
      refine lv_aload_n hx hb dX4_countVersions_5 rfl (lv_at hl 0 rfl) ?_
      refine x_get (i := i) (k := 4) (j := 0) (t := 9) hx hb hts i_4 hown hK hW ⟨hi, by decide⟩ rfl ⟨by decide, by decide, rfl⟩ (hts (.fieldLink RX4 65 "OpticalJukebox$State" "versionCount" "I") (by decide +kernel)) (sv_S rfl (fun _ => rfl) rfl) dX4_countVersions_6 ?_
      refine lv_icmp_ge (tgt := 34) hx hb dX4_countVersions_9 (by decide) (fun hc => ?_) (fun hc => ?_)
      · have hf := x_iteT hf hc
        refine lv_iload_n hx hb dX4_countVersions_34 rfl (lv_at hl 2 rfl) ?_
        cases hf
        exact x_iret hx hb hr hlocks hK hW hS rfl dX4_countVersions_35
      · have hf := x_iteF hf hc
        refine lv_aload_n hx hb dX4_countVersions_12 rfl (lv_at hl 0 rfl) ?_
        refine x_get (i := i) (k := 4) (j := 0) (t := 8) hx hb hts i_4 hown hK hW ⟨hi, by decide⟩ rfl ⟨by decide, by decide, rfl⟩ (hts (.fieldLink RX4 29 "OpticalJukebox$State" "versions" "[LOpticalJukebox$Version;") (by decide +kernel)) (v := .ref (adr i 13 0)) rfl dX4_countVersions_13 ?_
        refine lv_iload_n hx hb dX4_countVersions_16 rfl (lv_at hl 3 rfl) ?_
        obtain ⟨hg1, hf⟩ := x_guardE hf
        refine x_aald (i := i) (k := 13) (j := 0) hx hb hK hW ⟨hi, by decide⟩ (by decide) rfl rfl hg1 dX4_countVersions_17 ?_
        refine W.eq (g2 := F0 m 18 ls [.ref (adr i 6 (v3_4).toNatClampNeg)]) rfl ?_
        refine x_get (i := i) (k := 6) (j := (v3_4).toNatClampNeg) (t := 0) hx hb hts i_6 hown hK hW ⟨hi, (x_lt hg1)⟩ rfl ⟨by decide, by decide, rfl⟩ (hts (.fieldLink RX4 131 "OpticalJukebox$Version" "file" "I") (by decide +kernel)) (sv_S rfl (fun _ => rfl) rfl) dX4_countVersions_18 ?_
        refine lv_iload_n hx hb dX4_countVersions_21 rfl (lv_at hl 1 rfl) ?_
        refine lv_icmp_ne (tgt := 28) hx hb dX4_countVersions_22 (by decide) (fun hc => ?_) (fun hc => ?_)
        · have hf := x_iteF hf hc
          obtain ⟨x2, e_x2, hf⟩ := x_letE hf
          refine lv_iinc (v := x2) (lv' := [(3, .int x2), (0, .ref (adr i 4 0)), (1, .int a1), (2, .int v2_4)]) hx hb dX4_countVersions_28 hl (k := 3) rfl (by rw [e_x2]; rfl) (by decide) rfl (fun ls hl => ?_)
          refine lv_goto (tgt := 4) hx hb dX4_countVersions_31 (by decide) ?_
          exact ih (v2_4) (x2) ls _ _ (lv_sub hl [1, 2, 3, 0] rfl) hW hS hf
        · have hf := x_iteT hf hc
          obtain ⟨x3, e_x3, hf⟩ := x_letE hf
          refine lv_iinc (v := x3) (lv' := [(2, .int x3), (0, .ref (adr i 4 0)), (1, .int a1), (3, .int v3_4)]) hx hb dX4_countVersions_25 hl (k := 2) rfl (by rw [e_x3]; rfl) (by decide) rfl (fun ls hl => ?_)
          obtain ⟨x4, e_x4, hf⟩ := x_letE hf
          refine lv_iinc (v := x4) (lv' := [(3, .int x4), (2, .int x3), (0, .ref (adr i 4 0)), (1, .int a1)]) hx hb dX4_countVersions_28 hl (k := 3) rfl (by rw [e_x4]; rfl) (by decide) rfl (fun ls hl => ?_)
          refine lv_goto (tgt := 4) hx hb dX4_countVersions_31 (by decide) ?_
          exact ih (x3) (x4) ls _ _ (lv_sub hl [2, 3, 1, 0] rfl) hW hS hf
  exact L4 fuel ((0 : Int32)) ((0 : Int32)) ls _ _ (lv_sub hl [2, 3, 1, 0] rfl) hW hS hf
abbrev rm_X4_countFiles : Room := { frames := 1, cells := 0, slots := 0, locals := 21 }
set_option maxRecDepth 100000 in
set_option maxHeartbeats 4000000 in
theorem ct_X4_countFiles (l : Launch) (g : GT) (w : WT) (i : Nat) (hi : i ∈ k_S w.1) (sd : SD) (a1 : Int32) {q : Int32} (hf : f_X4_countFiles sd a1 = some q) : Met l yX4_countFiles wsX4_countFiles rm_X4_countFiles (cPre g (wS w i sd) [.ref (adr i 4 0), .int a1]) (cQi g q (wS w i sd)) 0 0 (gA g) := by
  have i_4 : ∀ w ∈ u_ws RX4 TX4 18, w ∈ wsX4_countFiles := by decide +kernel
  have i_6 : ∀ w ∈ u_ws RX6 TX6 7, w ∈ wsX4_countFiles := by decide +kernel
  refine x_met (by decide) rfl (Nat.le_of_ble_eq_true rfl) ?_
  intro p e s m below meth c hx hb hr hml hts hown hlocks hK hW hS ls hl
  have hown : s.vm.findClass RX4 = some m.cls := hown
  have hl : lv_has ls 4 [(0, .ref (adr i 4 0)), (1, .int a1)] := hl
  rw [f_X4_countFiles] at hf
  refine lv_iconst (v := 0) hx hb dX4_countFiles_0 (by decide) ?_
  refine lv_istore_n (lv' := [(2, .int (0 : Int32)), (0, .ref (adr i 4 0)), (1, .int a1)]) hx hb dX4_countFiles_1 rfl hl (by decide) rfl (fun ls hl => ?_)
  refine lv_iconst (v := 0) hx hb dX4_countFiles_2 (by decide) ?_
  refine lv_istore_n (lv' := [(3, .int (0 : Int32)), (2, .int (0 : Int32)), (0, .ref (adr i 4 0)), (1, .int a1)]) hx hb dX4_countFiles_3 rfl hl (by decide) rfl (fun ls hl => ?_)
  have L4 : ∀ (n : Nat) (v2_4 : Int32) (v3_4 : Int32) (ls : Array Slot) (H : Heap) (locs : List Loc), lv_has ls 4 [(0, .ref (adr i 4 0)), (1, .int a1), (2, .int v2_4), (3, .int v3_4)] → World g (wS w i sd) H → va_S (gA g) s.heap H locs → f_X4_countFiles_L4 sd a1 n v2_4 v3_4 = some q → W p l e rm_X4_countFiles s m [.ref (adr i 4 0), .int a1].toArray below meth c H locs 0 0 (MQ below (cQi g q (wS w i sd)) [.ref (adr i 4 0), .int a1].toArray s 0 0 (gA g)) (F0 m 4 ls []) := by
    clear hW hS hl
    intro n
    induction n with
    | zero => intro v2_4 v3_4 ls H locs hl hW hS hf; cases hf
    | succ n_4 ih =>
      intro v2_4 v3_4 ls H locs hl hW hS hf
      rw [f_X4_countFiles_L4] at hf
      refine lv_iload_n hx hb dX4_countFiles_4 rfl (lv_at hl 3 rfl) ?_
      refine lv_aload_n hx hb dX4_countFiles_5 rfl (lv_at hl 0 rfl) ?_
      refine x_get (i := i) (k := 4) (j := 0) (t := 11) hx hb hts i_4 hown hK hW ⟨hi, by decide⟩ rfl ⟨by decide, by decide, rfl⟩ (hts (.fieldLink RX4 68 "OpticalJukebox$State" "fileCount" "I") (by decide +kernel)) (sv_S rfl (fun _ => rfl) rfl) dX4_countFiles_6 ?_
      refine lv_icmp_ge (tgt := 33) hx hb dX4_countFiles_9 (by decide) (fun hc => ?_) (fun hc => ?_)
      · have hf := x_iteT hf hc
        refine lv_iload_n hx hb dX4_countFiles_33 rfl (lv_at hl 2 rfl) ?_
        cases hf
        exact x_iret hx hb hr hlocks hK hW hS rfl dX4_countFiles_34
      · have hf := x_iteF hf hc
        refine lv_aload_n hx hb dX4_countFiles_12 rfl (lv_at hl 0 rfl) ?_
        refine lv_iload_n hx hb dX4_countFiles_13 rfl (lv_at hl 3 rfl) ?_
        obtain ⟨q1, h_q1, hf⟩ := x_bindE hf
        refine x_cr0 (x_rV ⟨hx, hb, hml, hown, hts⟩ (ct_X4_currentVersion l g w i hi sd (v3_4) h_q1) (cwV 1 hts gX4_countFiles_X4_currentVersion rfl rfl rfl (by decide +kernel) ⟨Nat.le_of_ble_eq_true rfl, Nat.le_of_ble_eq_true rfl⟩) hK hW hS (x_recv (i := i) (k := 4) (j := 0) hK hW ⟨hi, by decide⟩ rfl (by decide)) rfl hl.1 (rest := []) rfl (Nat.le_of_ble_eq_true rfl) dX4_countFiles_14 ⟨Nat.le_of_ble_eq_true rfl, Nat.le_of_ble_eq_true rfl⟩) hS (fun H locs hW hS => ?_)
        have hW : World g (wS w i sd) H := hW
        refine W.eq (g2 := F0 m 17 ls [.ref (adr i 6 q1)]) rfl ?_
        refine x_get (i := i) (k := 6) (j := q1) (t := 1) hx hb hts i_6 hown hK hW ⟨hi, (b_X4_currentVersion h_q1)⟩ rfl ⟨by decide, by decide, rfl⟩ (hts (.fieldLink RX4 134 "OpticalJukebox$Version" "platter" "I") (by decide +kernel)) (sv_S rfl (fun _ => rfl) rfl) dX4_countFiles_17 ?_
        refine lv_iload_n hx hb dX4_countFiles_20 rfl (lv_at hl 1 rfl) ?_
        refine lv_icmp_ne (tgt := 27) hx hb dX4_countFiles_21 (by decide) (fun hc => ?_) (fun hc => ?_)
        · have hf := x_iteF hf hc
          obtain ⟨x2, e_x2, hf⟩ := x_letE hf
          refine lv_iinc (v := x2) (lv' := [(3, .int x2), (0, .ref (adr i 4 0)), (1, .int a1), (2, .int v2_4)]) hx hb dX4_countFiles_27 hl (k := 3) rfl (by rw [e_x2]; rfl) (by decide) rfl (fun ls hl => ?_)
          refine lv_goto (tgt := 4) hx hb dX4_countFiles_30 (by decide) ?_
          exact ih (v2_4) (x2) ls _ _ (lv_sub hl [1, 2, 3, 0] rfl) hW hS hf
        · have hf := x_iteT hf hc
          obtain ⟨x3, e_x3, hf⟩ := x_letE hf
          refine lv_iinc (v := x3) (lv' := [(2, .int x3), (0, .ref (adr i 4 0)), (1, .int a1), (3, .int v3_4)]) hx hb dX4_countFiles_24 hl (k := 2) rfl (by rw [e_x3]; rfl) (by decide) rfl (fun ls hl => ?_)
          obtain ⟨x4, e_x4, hf⟩ := x_letE hf
          refine lv_iinc (v := x4) (lv' := [(3, .int x4), (2, .int x3), (0, .ref (adr i 4 0)), (1, .int a1)]) hx hb dX4_countFiles_27 hl (k := 3) rfl (by rw [e_x4]; rfl) (by decide) rfl (fun ls hl => ?_)
          refine lv_goto (tgt := 4) hx hb dX4_countFiles_30 (by decide) ?_
          exact ih (x3) (x4) ls _ _ (lv_sub hl [2, 3, 1, 0] rfl) hW hS hf
  exact L4 fuel ((0 : Int32)) ((0 : Int32)) ls _ _ (lv_sub hl [2, 3, 1, 0] rfl) hW hS hf
abbrev rm_X4_lastGood : Room := { frames := 2, cells := 0, slots := 0, locals := 42 }
set_option maxRecDepth 100000 in
set_option maxHeartbeats 4000000 in
theorem ct_X4_lastGood (l : Launch) (g : GT) (w : WT) (i : Nat) (hi : i ∈ k_S w.1) (sd : SD) (a1 : Int32) {q : Int32} (hf : f_X4_lastGood sd a1 = some q) : Met l yX4_lastGood wsX4_lastGood rm_X4_lastGood (cPre g (wS w i sd) [.ref (adr i 4 0), .int a1]) (cQi g q (wS w i sd)) 0 0 (gA g) := by
  have i_4 : ∀ w ∈ u_ws RX4 TX4 18, w ∈ wsX4_lastGood := by decide +kernel
  have i_6 : ∀ w ∈ u_ws RX6 TX6 7, w ∈ wsX4_lastGood := by decide +kernel
  refine x_met (by decide) rfl (Nat.le_of_ble_eq_true rfl) ?_
  intro p e s m below meth c hx hb hr hml hts hown hlocks hK hW hS ls hl
  have hown : s.vm.findClass RX4 = some m.cls := hown
  have hl : lv_has ls 5 [(0, .ref (adr i 4 0)), (1, .int a1)] := hl
  rw [f_X4_lastGood] at hf
  refine lv_iconst (v := 0) hx hb dX4_lastGood_0 (by decide) ?_
  refine lv_istore_n (lv' := [(2, .int (0 : Int32)), (0, .ref (adr i 4 0)), (1, .int a1)]) hx hb dX4_lastGood_1 rfl hl (by decide) rfl (fun ls hl => ?_)
  refine lv_iconst (v := -1) hx hb dX4_lastGood_2 (by decide) ?_
  refine lv_istore_n (lv' := [(3, .int (-1 : Int32)), (2, .int (0 : Int32)), (0, .ref (adr i 4 0)), (1, .int a1)]) hx hb dX4_lastGood_3 rfl hl (by decide) rfl (fun ls hl => ?_)
  refine lv_iconst (v := 0) hx hb dX4_lastGood_4 (by decide) ?_
  refine lv_istore (lv' := [(4, .int (0 : Int32)), (3, .int (-1 : Int32)), (2, .int (0 : Int32)), (0, .ref (adr i 4 0)), (1, .int a1)]) hx hb dX4_lastGood_5 hl (by decide) rfl (fun ls hl => ?_)
  have L7 : ∀ (n : Nat) (v2_7 : Int32) (v3_7 : Int32) (v4_7 : Int32) (ls : Array Slot) (H : Heap) (locs : List Loc), lv_has ls 5 [(0, .ref (adr i 4 0)), (1, .int a1), (2, .int v2_7), (3, .int v3_7), (4, .int v4_7)] → World g (wS w i sd) H → va_S (gA g) s.heap H locs → f_X4_lastGood_L7 sd a1 n v2_7 v3_7 v4_7 = some q → W p l e rm_X4_lastGood s m [.ref (adr i 4 0), .int a1].toArray below meth c H locs 0 0 (MQ below (cQi g q (wS w i sd)) [.ref (adr i 4 0), .int a1].toArray s 0 0 (gA g)) (F0 m 7 ls []) := by
    clear hW hS hl
    intro n
    induction n with
    | zero => intro v2_7 v3_7 v4_7 ls H locs hl hW hS hf; cases hf
    | succ n_7 ih =>
      intro v2_7 v3_7 v4_7 ls H locs hl hW hS hf
      rw [f_X4_lastGood_L7] at hf
      refine lv_iload hx hb dX4_lastGood_7 (lv_at hl 4 rfl) ?_
      refine lv_aload_n hx hb dX4_lastGood_9 rfl (lv_at hl 0 rfl) ?_
      refine x_get (i := i) (k := 4) (j := 0) (t := 9) hx hb hts i_4 hown hK hW ⟨hi, by decide⟩ rfl ⟨by decide, by decide, rfl⟩ (hts (.fieldLink RX4 65 "OpticalJukebox$State" "versionCount" "I") (by decide +kernel)) (sv_S rfl (fun _ => rfl) rfl) dX4_lastGood_10 ?_
      refine lv_icmp_ge (tgt := 59) hx hb dX4_lastGood_13 (by decide) (fun hc => ?_) (fun hc => ?_)
      · have hf := x_iteT hf hc
        refine lv_iload_n hx hb dX4_lastGood_59 rfl (lv_at hl 3 rfl) ?_
        cases hf
        exact x_iret hx hb hr hlocks hK hW hS rfl dX4_lastGood_60
      · have hf := x_iteF hf hc
        refine lv_aload_n hx hb dX4_lastGood_16 rfl (lv_at hl 0 rfl) ?_
        refine x_get (i := i) (k := 4) (j := 0) (t := 8) hx hb hts i_4 hown hK hW ⟨hi, by decide⟩ rfl ⟨by decide, by decide, rfl⟩ (hts (.fieldLink RX4 29 "OpticalJukebox$State" "versions" "[LOpticalJukebox$Version;") (by decide +kernel)) (v := .ref (adr i 13 0)) rfl dX4_lastGood_17 ?_
        refine lv_iload hx hb dX4_lastGood_20 (lv_at hl 4 rfl) ?_
        obtain ⟨hg1, hf⟩ := x_guardE hf
        refine x_aald (i := i) (k := 13) (j := 0) hx hb hK hW ⟨hi, by decide⟩ (by decide) rfl rfl hg1 dX4_lastGood_22 ?_
        refine W.eq (g2 := F0 m 23 ls [.ref (adr i 6 (v4_7).toNatClampNeg)]) rfl ?_
        refine x_get (i := i) (k := 6) (j := (v4_7).toNatClampNeg) (t := 0) hx hb hts i_6 hown hK hW ⟨hi, (x_lt hg1)⟩ rfl ⟨by decide, by decide, rfl⟩ (hts (.fieldLink RX4 131 "OpticalJukebox$Version" "file" "I") (by decide +kernel)) (sv_S rfl (fun _ => rfl) rfl) dX4_lastGood_23 ?_
        refine lv_iload_n hx hb dX4_lastGood_26 rfl (lv_at hl 1 rfl) ?_
        refine lv_icmp_ne (tgt := 53) hx hb dX4_lastGood_27 (by decide) (fun hc => ?_) (fun hc => ?_)
        · have hf := x_iteF hf hc
          obtain ⟨x2, e_x2, hf⟩ := x_letE hf
          refine lv_iinc (v := x2) (lv' := [(4, .int x2), (0, .ref (adr i 4 0)), (1, .int a1), (2, .int v2_7), (3, .int v3_7)]) hx hb dX4_lastGood_53 hl (k := 4) rfl (by rw [e_x2]; rfl) (by decide) rfl (fun ls hl => ?_)
          refine lv_goto (tgt := 7) hx hb dX4_lastGood_56 (by decide) ?_
          exact ih (v2_7) (v3_7) (x2) ls _ _ (lv_sub hl [1, 2, 3, 4, 0] rfl) hW hS hf
        · have hf := x_iteT hf hc
          refine lv_aload_n hx hb dX4_lastGood_30 rfl (lv_at hl 0 rfl) ?_
          refine lv_aload_n hx hb dX4_lastGood_31 rfl (lv_at hl 0 rfl) ?_
          refine x_get (i := i) (k := 4) (j := 0) (t := 8) hx hb hts i_4 hown hK hW ⟨hi, by decide⟩ rfl ⟨by decide, by decide, rfl⟩ (hts (.fieldLink RX4 29 "OpticalJukebox$State" "versions" "[LOpticalJukebox$Version;") (by decide +kernel)) (v := .ref (adr i 13 0)) rfl dX4_lastGood_32 ?_
          refine lv_iload hx hb dX4_lastGood_35 (lv_at hl 4 rfl) ?_
          obtain ⟨hg3, hf⟩ := x_guardE hf
          refine x_aald (i := i) (k := 13) (j := 0) hx hb hK hW ⟨hi, by decide⟩ (by decide) rfl rfl hg3 dX4_lastGood_37 ?_
          refine W.eq (g2 := F0 m 38 ls [.ref (adr i 6 (v4_7).toNatClampNeg), .ref (adr i 4 0)]) rfl ?_
          obtain ⟨q4, h_q4, hf⟩ := x_bindE hf
          refine x_ci0 (x_rV ⟨hx, hb, hml, hown, hts⟩ (ct_X4_isGood l g w i hi sd ((v4_7).toNatClampNeg) ((x_lt hg3)) h_q4) (cwV 1 hts gX4_lastGood_X4_isGood rfl rfl rfl (by decide +kernel) ⟨Nat.le_of_ble_eq_true rfl, Nat.le_of_ble_eq_true rfl⟩) hK hW hS (x_recv (i := i) (k := 4) (j := 0) hK hW ⟨hi, by decide⟩ rfl (by decide)) rfl hl.1 (rest := []) rfl (Nat.le_of_ble_eq_true rfl) dX4_lastGood_38 ⟨Nat.le_of_ble_eq_true rfl, Nat.le_of_ble_eq_true rfl⟩) hS (fun H locs hW hS => ?_)
          have hW : World g (wS w i sd) H := hW
          refine W.eq (g2 := F0 m 41 ls [.int q4]) rfl ?_
          obtain ⟨K5, eK5, hf⟩ := x_letE hf
          have KK5 : ∀ (y6 : Int32) (ls : Array Slot) (H : Heap) (locs : List Loc), lv_has ls 5 [(0, .ref (adr i 4 0)), (1, .int a1), (2, .int v2_7), (3, .int v3_7), (4, .int v4_7)] → World g (wS w i sd) H → va_S (gA g) s.heap H locs → K5 y6 = some q → W p l e rm_X4_lastGood s m [.ref (adr i 4 0), .int a1].toArray below meth c H locs 0 0 (MQ below (cQi g q (wS w i sd)) [.ref (adr i 4 0), .int a1].toArray s 0 0 (gA g)) (F0 m 49 ls [.int y6]) := by
            intro y6 ls H locs hl hW hS hf
            subst eK5
            refine lv_istore_n (lv' := [(3, .int y6), (0, .ref (adr i 4 0)), (1, .int a1), (2, .int v2_7), (4, .int v4_7)]) hx hb dX4_lastGood_49 rfl hl (by decide) rfl (fun ls hl => ?_)
            obtain ⟨x7, e_x7, hf⟩ := x_letE hf
            refine lv_iinc (v := x7) (lv' := [(2, .int x7), (3, .int y6), (0, .ref (adr i 4 0)), (1, .int a1), (4, .int v4_7)]) hx hb dX4_lastGood_50 hl (k := 3) rfl (by rw [e_x7]; rfl) (by decide) rfl (fun ls hl => ?_)
            obtain ⟨x8, e_x8, hf⟩ := x_letE hf
            refine lv_iinc (v := x8) (lv' := [(4, .int x8), (2, .int x7), (3, .int y6), (0, .ref (adr i 4 0)), (1, .int a1)]) hx hb dX4_lastGood_53 hl (k := 4) rfl (by rw [e_x8]; rfl) (by decide) rfl (fun ls hl => ?_)
            refine lv_goto (tgt := 7) hx hb dX4_lastGood_56 (by decide) ?_
            exact ih (x7) (y6) (x8) ls _ _ (lv_sub hl [3, 4, 1, 2, 0] rfl) hW hS hf
          clear eK5
          refine lv_if_eq (tgt := 48) hx hb dX4_lastGood_41 (by decide) (fun hc => ?_) (fun hc => ?_)
          · have hf := x_iteT hf hc
            refine lv_iload_n hx hb dX4_lastGood_48 rfl (lv_at hl 3 rfl) ?_
            exact KK5 (v3_7) ls _ _ hl hW hS hf
          · have hf := x_iteF hf hc
            refine lv_iload_n hx hb dX4_lastGood_44 rfl (lv_at hl 2 rfl) ?_
            refine lv_goto (tgt := 49) hx hb dX4_lastGood_45 (by decide) ?_
            exact KK5 (v2_7) ls _ _ hl hW hS hf
  exact L7 fuel ((0 : Int32)) ((-1 : Int32)) ((0 : Int32)) ls _ _ (lv_sub hl [3, 4, 2, 1, 0] rfl) hW hS hf
abbrev rm_X4_driveToChoose : Room := { frames := 1, cells := 0, slots := 0, locals := 25 }
set_option maxRecDepth 100000 in
set_option maxHeartbeats 4000000 in
theorem ct_X4_driveToChoose (l : Launch) (g : GT) (w : WT) (i : Nat) (hi : i ∈ k_S w.1) (sd : SD) (a1 : Int32) {q : Int32} (hf : f_X4_driveToChoose sd a1 = some q) : Met l yX4_driveToChoose wsX4_driveToChoose rm_X4_driveToChoose (cPre g (wS w i sd) [.ref (adr i 4 0), .int a1]) (cQi g q (wS w i sd)) 0 0 (gA g) := by
  refine x_met (by decide) rfl (Nat.le_of_ble_eq_true rfl) ?_
  intro p e s m below meth c hx hb hr hml hts hown hlocks hK hW hS ls hl
  have hown : s.vm.findClass RX4 = some m.cls := hown
  have hl : lv_has ls 3 [(0, .ref (adr i 4 0)), (1, .int a1)] := hl
  rw [f_X4_driveToChoose] at hf
  refine lv_aload_n hx hb dX4_driveToChoose_0 rfl (lv_at hl 0 rfl) ?_
  refine lv_iload_n hx hb dX4_driveToChoose_1 rfl (lv_at hl 1 rfl) ?_
  obtain ⟨q1, h_q1, hf⟩ := x_bindE hf
  refine x_ci0 (x_rV ⟨hx, hb, hml, hown, hts⟩ (ct_X4_driveHolding l g w i hi sd (a1) h_q1) (cwV 1 hts gX4_driveToChoose_X4_driveHolding rfl rfl rfl (by decide +kernel) ⟨Nat.le_of_ble_eq_true rfl, Nat.le_of_ble_eq_true rfl⟩) hK hW hS (x_recv (i := i) (k := 4) (j := 0) hK hW ⟨hi, by decide⟩ rfl (by decide)) rfl hl.1 (rest := []) rfl (Nat.le_of_ble_eq_true rfl) dX4_driveToChoose_2 ⟨Nat.le_of_ble_eq_true rfl, Nat.le_of_ble_eq_true rfl⟩) hS (fun H locs hW hS => ?_)
  have hW : World g (wS w i sd) H := hW
  refine W.eq (g2 := F0 m 5 ls [.int q1]) rfl ?_
  refine lv_istore_n (lv' := [(2, .int q1), (0, .ref (adr i 4 0)), (1, .int a1)]) hx hb dX4_driveToChoose_5 rfl hl (by decide) rfl (fun ls hl => ?_)
  refine lv_iload_n hx hb dX4_driveToChoose_6 rfl (lv_at hl 0 rfl) ?_
  refine lv_iconst (v := -1) hx hb dX4_driveToChoose_7 (by decide) ?_
  refine lv_icmp_eq (tgt := 15) hx hb dX4_driveToChoose_8 (by decide) (fun hc => ?_) (fun hc => ?_)
  · have hf := x_iteT hf hc
    refine lv_aload_n hx hb dX4_driveToChoose_15 rfl (lv_at hl 1 rfl) ?_
    refine lv_iconst (v := 0) hx hb dX4_driveToChoose_16 (by decide) ?_
    obtain ⟨q2, h_q2, hf⟩ := x_bindE hf
    refine x_ci0 (x_rV ⟨hx, hb, hml, hown, hts⟩ (ct_X4_driveForAway l g w i hi sd ((0 : Int32)) h_q2) (cwV 1 hts gX4_driveToChoose_X4_driveForAway rfl rfl rfl (by decide +kernel) ⟨Nat.le_of_ble_eq_true rfl, Nat.le_of_ble_eq_true rfl⟩) hK hW hS (x_recv (i := i) (k := 4) (j := 0) hK hW ⟨hi, by decide⟩ rfl (by decide)) rfl hl.1 (rest := []) rfl (Nat.le_of_ble_eq_true rfl) dX4_driveToChoose_17 ⟨Nat.le_of_ble_eq_true rfl, Nat.le_of_ble_eq_true rfl⟩) hS (fun H locs hW hS => ?_)
    have hW : World g (wS w i sd) H := hW
    refine W.eq (g2 := F0 m 20 ls [.int q2]) rfl ?_
    cases hf
    exact x_iret hx hb hr hlocks hK hW hS rfl dX4_driveToChoose_20
  · have hf := x_iteF hf hc
    refine lv_iload_n hx hb dX4_driveToChoose_11 rfl (lv_at hl 0 rfl) ?_
    refine lv_goto (tgt := 20) hx hb dX4_driveToChoose_12 (by decide) ?_
    cases hf
    exact x_iret hx hb hr hlocks hK hW hS rfl dX4_driveToChoose_20
abbrev rm_X4_distanceToDrive : Room := { frames := 1, cells := 0, slots := 0, locals := 21 }
set_option maxRecDepth 100000 in
set_option maxHeartbeats 4000000 in
theorem ct_X4_distanceToDrive (l : Launch) (g : GT) (w : WT) (i : Nat) (hi : i ∈ k_S w.1) (sd : SD) (a1 : Int32) {q : Int32} (hf : f_X4_distanceToDrive sd a1 = some q) : Met l yX4_distanceToDrive wsX4_distanceToDrive rm_X4_distanceToDrive (cPre g (wS w i sd) [.ref (adr i 4 0), .int a1]) (cQi g q (wS w i sd)) 0 0 (gA g) := by
  have i_0 : ∀ w ∈ u_ws RX0 TX0 3, w ∈ wsX4_distanceToDrive := by decide +kernel
  have i_4 : ∀ w ∈ u_ws RX4 TX4 18, w ∈ wsX4_distanceToDrive := by decide +kernel
  refine x_met (by decide) rfl (Nat.le_of_ble_eq_true rfl) ?_
  intro p e s m below meth c hx hb hr hml hts hown hlocks hK hW hS ls hl
  have hown : s.vm.findClass RX4 = some m.cls := hown
  have hl : lv_has ls 4 [(0, .ref (adr i 4 0)), (1, .int a1)] := hl
  rw [f_X4_distanceToDrive] at hf
  refine lv_bipush (v := 24) hx hb dX4_distanceToDrive_0 (by decide) ?_
  refine lv_istore_n (lv' := [(2, .int (24 : Int32)), (0, .ref (adr i 4 0)), (1, .int a1)]) hx hb dX4_distanceToDrive_2 rfl hl (by decide) rfl (fun ls hl => ?_)
  refine lv_iconst (v := 0) hx hb dX4_distanceToDrive_3 (by decide) ?_
  refine lv_istore_n (lv' := [(3, .int (0 : Int32)), (2, .int (24 : Int32)), (0, .ref (adr i 4 0)), (1, .int a1)]) hx hb dX4_distanceToDrive_4 rfl hl (by decide) rfl (fun ls hl => ?_)
  have L5 : ∀ (n : Nat) (v2_5 : Int32) (v3_5 : Int32) (ls : Array Slot) (H : Heap) (locs : List Loc), lv_has ls 4 [(0, .ref (adr i 4 0)), (1, .int a1), (2, .int v2_5), (3, .int v3_5)] → World g (wS w i sd) H → va_S (gA g) s.heap H locs → f_X4_distanceToDrive_L5 sd a1 n v2_5 v3_5 = some q → W p l e rm_X4_distanceToDrive s m [.ref (adr i 4 0), .int a1].toArray below meth c H locs 0 0 (MQ below (cQi g q (wS w i sd)) [.ref (adr i 4 0), .int a1].toArray s 0 0 (gA g)) (F0 m 5 ls []) := by
    clear hW hS hl
    intro n
    induction n with
    | zero => intro v2_5 v3_5 ls H locs hl hW hS hf; cases hf
    | succ n_5 ih =>
      intro v2_5 v3_5 ls H locs hl hW hS hf
      rw [f_X4_distanceToDrive_L5] at hf
      refine lv_iload_n hx hb dX4_distanceToDrive_5 rfl (lv_at hl 3 rfl) ?_
      refine lv_aload_n hx hb dX4_distanceToDrive_6 rfl (lv_at hl 0 rfl) ?_
      refine x_get (i := i) (k := 4) (j := 0) (t := 3) hx hb hts i_4 hown hK hW ⟨hi, by decide⟩ rfl ⟨by decide, by decide, rfl⟩ (hts (.fieldLink RX4 53 "OpticalJukebox$State" "driveCount" "I") (by decide +kernel)) (sv_S rfl (fun _ => rfl) rfl) dX4_distanceToDrive_7 ?_
      refine lv_icmp_ge (tgt := 38) hx hb dX4_distanceToDrive_10 (by decide) (fun hc => ?_) (fun hc => ?_)
      · have hf := x_iteT hf hc
        refine lv_iload_n hx hb dX4_distanceToDrive_38 rfl (lv_at hl 2 rfl) ?_
        cases hf
        exact x_iret hx hb hr hlocks hK hW hS rfl dX4_distanceToDrive_39
      · have hf := x_iteF hf hc
        refine lv_iload_n hx hb dX4_distanceToDrive_13 rfl (lv_at hl 2 rfl) ?_
        refine lv_iload_n hx hb dX4_distanceToDrive_14 rfl (lv_at hl 1 rfl) ?_
        refine lv_aload_n hx hb dX4_distanceToDrive_15 rfl (lv_at hl 0 rfl) ?_
        refine x_get (i := i) (k := 4) (j := 0) (t := 2) hx hb hts i_4 hown hK hW ⟨hi, by decide⟩ rfl ⟨by decide, by decide, rfl⟩ (hts (.fieldLink RX4 17 "OpticalJukebox$State" "drives" "[LOpticalJukebox$Drive;") (by decide +kernel)) (v := .ref (adr i 11 0)) rfl dX4_distanceToDrive_16 ?_
        refine lv_iload_n hx hb dX4_distanceToDrive_19 rfl (lv_at hl 3 rfl) ?_
        obtain ⟨hg1, hf⟩ := x_guardE hf
        refine x_aald (i := i) (k := 11) (j := 0) hx hb hK hW ⟨hi, by decide⟩ (by decide) rfl rfl hg1 dX4_distanceToDrive_20 ?_
        refine W.eq (g2 := F0 m 21 ls [.ref (adr i 0 (v3_5).toNatClampNeg), .int a1, .int v2_5]) rfl ?_
        refine x_get (i := i) (k := 0) (j := (v3_5).toNatClampNeg) (t := 0) hx hb hts i_0 hown hK hW ⟨hi, (x_lt hg1)⟩ rfl ⟨by decide, by decide, rfl⟩ (hts (.fieldLink RX4 112 "OpticalJukebox$Drive" "position" "I") (by decide +kernel)) (sv_S rfl (fun _ => rfl) rfl) dX4_distanceToDrive_21 ?_
        refine lv_isub hx hb dX4_distanceToDrive_24 ?_
        refine va_mabs hx hb (hml.trans hl.1.symm) hown (hts (.methodLink RX4 197 Lib.Math.abs.name) (by decide +kernel)) (hts (.static Lib.Math.abs.name) (by decide +kernel)) (hts (.initialized "java/lang/Math") (by decide +kernel)) (hts (.code Lib.Math.abs.name Lib.Math.abs.code 1 (some .int)) (by decide +kernel)) (Nat.le_of_ble_eq_true rfl) (Nat.le_of_ble_eq_true rfl) (Nat.le_of_ble_eq_true rfl) (Nat.le_of_ble_eq_true rfl) dX4_distanceToDrive_25 ?_
        refine va_mmin hx hb (hml.trans hl.1.symm) hown (hts (.methodLink RX4 202 Lib.Math.min.name) (by decide +kernel)) (hts (.static Lib.Math.min.name) (by decide +kernel)) (hts (.initialized "java/lang/Math") (by decide +kernel)) (hts (.code Lib.Math.min.name Lib.Math.min.code 2 (some .int)) (by decide +kernel)) (Nat.le_of_ble_eq_true rfl) (Nat.le_of_ble_eq_true rfl) (Nat.le_of_ble_eq_true rfl) (Nat.le_of_ble_eq_true rfl) dX4_distanceToDrive_28 ?_
        obtain ⟨x2, e_x2, hf⟩ := x_letE hf
        refine x_topi e_x2 ?_
        refine lv_istore_n (lv' := [(2, .int x2), (0, .ref (adr i 4 0)), (1, .int a1), (3, .int v3_5)]) hx hb dX4_distanceToDrive_31 rfl hl (by decide) rfl (fun ls hl => ?_)
        obtain ⟨x3, e_x3, hf⟩ := x_letE hf
        refine lv_iinc (v := x3) (lv' := [(3, .int x3), (2, .int x2), (0, .ref (adr i 4 0)), (1, .int a1)]) hx hb dX4_distanceToDrive_32 hl (k := 3) rfl (by rw [e_x3]; rfl) (by decide) rfl (fun ls hl => ?_)
        refine lv_goto (tgt := 5) hx hb dX4_distanceToDrive_35 (by decide) ?_
        exact ih (x2) (x3) ls _ _ (lv_sub hl [2, 3, 1, 0] rfl) hW hS hf
  exact L5 fuel ((24 : Int32)) ((0 : Int32)) ls _ _ (lv_sub hl [2, 3, 1, 0] rfl) hW hS hf
abbrev rm_X4_chosenBringTime : Room := { frames := 3, cells := 0, slots := 0, locals := 72 }
set_option maxRecDepth 100000 in
set_option maxHeartbeats 4000000 in
theorem ct_X4_chosenBringTime (l : Launch) (g : GT) (w : WT) (i : Nat) (hi : i ∈ k_S w.1) (sd : SD) (a1 : Int32) {q : Int32} (hf : f_X4_chosenBringTime sd a1 = some q) : Met l yX4_chosenBringTime wsX4_chosenBringTime rm_X4_chosenBringTime (cPre g (wS w i sd) [.ref (adr i 4 0), .int a1]) (cQi g q (wS w i sd)) 0 0 (gA g) := by
  refine x_met (by decide) rfl (Nat.le_of_ble_eq_true rfl) ?_
  intro p e s m below meth c hx hb hr hml hts hown hlocks hK hW hS ls hl
  have hown : s.vm.findClass RX4 = some m.cls := hown
  have hl : lv_has ls 3 [(0, .ref (adr i 4 0)), (1, .int a1)] := hl
  rw [f_X4_chosenBringTime] at hf
  refine lv_aload_n hx hb dX4_chosenBringTime_0 rfl (lv_at hl 0 rfl) ?_
  refine lv_iload_n hx hb dX4_chosenBringTime_1 rfl (lv_at hl 1 rfl) ?_
  obtain ⟨q1, h_q1, hf⟩ := x_bindE hf
  refine x_ci0 (x_rV ⟨hx, hb, hml, hown, hts⟩ (ct_X4_driveToChoose l g w i hi sd (a1) h_q1) (cwV 1 hts gX4_chosenBringTime_X4_driveToChoose rfl rfl rfl (by decide +kernel) ⟨Nat.le_of_ble_eq_true rfl, Nat.le_of_ble_eq_true rfl⟩) hK hW hS (x_recv (i := i) (k := 4) (j := 0) hK hW ⟨hi, by decide⟩ rfl (by decide)) rfl hl.1 (rest := []) rfl (Nat.le_of_ble_eq_true rfl) dX4_chosenBringTime_2 ⟨Nat.le_of_ble_eq_true rfl, Nat.le_of_ble_eq_true rfl⟩) hS (fun H locs hW hS => ?_)
  have hW : World g (wS w i sd) H := hW
  refine W.eq (g2 := F0 m 5 ls [.int q1]) rfl ?_
  refine lv_istore_n (lv' := [(2, .int q1), (0, .ref (adr i 4 0)), (1, .int a1)]) hx hb dX4_chosenBringTime_5 rfl hl (by decide) rfl (fun ls hl => ?_)
  refine lv_iload_n hx hb dX4_chosenBringTime_6 rfl (lv_at hl 0 rfl) ?_
  refine lv_iconst (v := -1) hx hb dX4_chosenBringTime_7 (by decide) ?_
  refine lv_icmp_ne (tgt := 15) hx hb dX4_chosenBringTime_8 (by decide) (fun hc => ?_) (fun hc => ?_)
  · have hf := x_iteF hf hc
    refine lv_aload_n hx hb dX4_chosenBringTime_15 rfl (lv_at hl 1 rfl) ?_
    refine lv_iload_n hx hb dX4_chosenBringTime_16 rfl (lv_at hl 2 rfl) ?_
    refine lv_iload_n hx hb dX4_chosenBringTime_17 rfl (lv_at hl 0 rfl) ?_
    obtain ⟨q2, h_q2, hf⟩ := x_bindE hf
    refine x_ci0 (x_rV ⟨hx, hb, hml, hown, hts⟩ (ct_X4_bringTime l g w i hi sd (a1) (q1) h_q2) (cwV 2 hts gX4_chosenBringTime_X4_bringTime rfl rfl rfl (by decide +kernel) ⟨Nat.le_of_ble_eq_true rfl, Nat.le_of_ble_eq_true rfl⟩) hK hW hS (x_recv (i := i) (k := 4) (j := 0) hK hW ⟨hi, by decide⟩ rfl (by decide)) rfl hl.1 (rest := []) rfl (Nat.le_of_ble_eq_true rfl) dX4_chosenBringTime_18 ⟨Nat.le_of_ble_eq_true rfl, Nat.le_of_ble_eq_true rfl⟩) hS (fun H locs hW hS => ?_)
    have hW : World g (wS w i sd) H := hW
    refine W.eq (g2 := F0 m 21 ls [.int q2]) rfl ?_
    cases hf
    exact x_iret hx hb hr hlocks hK hW hS rfl dX4_chosenBringTime_21
  · have hf := x_iteT hf hc
    refine lv_iconst (v := 0) hx hb dX4_chosenBringTime_11 (by decide) ?_
    refine lv_goto (tgt := 21) hx hb dX4_chosenBringTime_12 (by decide) ?_
    cases hf
    exact x_iret hx hb hr hlocks hK hW hS rfl dX4_chosenBringTime_21
abbrev rm_X4_useDrive : Room := { frames := 0, cells := 0, slots := 0, locals := 0 }
set_option maxRecDepth 100000 in
set_option maxHeartbeats 4000000 in
theorem ct_X4_useDrive (l : Launch) (g : GT) (w : WT) (i : Nat) (hi : i ∈ k_S w.1) (sd : SD) (a1 : Int32) {q : SD} (hf : f_X4_useDrive sd a1 = some q) : Met l yX4_useDrive wsX4_useDrive rm_X4_useDrive (cPre g (wS w i sd) [.ref (adr i 4 0), .int a1]) (cQv g (wS w i q)) 0 0 (gA g) := by
  have i_0 : ∀ w ∈ u_ws RX0 TX0 3, w ∈ wsX4_useDrive := by decide +kernel
  have i_4 : ∀ w ∈ u_ws RX4 TX4 18, w ∈ wsX4_useDrive := by decide +kernel
  refine x_met (by decide) rfl (Nat.le_of_ble_eq_true rfl) ?_
  intro p e s m below meth c hx hb hr hml hts hown hlocks hK hW hS ls hl
  have hown : s.vm.findClass RX4 = some m.cls := hown
  have hl : lv_has ls 2 [(0, .ref (adr i 4 0)), (1, .int a1)] := hl
  rw [f_X4_useDrive] at hf
  refine lv_aload_n hx hb dX4_useDrive_0 rfl (lv_at hl 0 rfl) ?_
  refine lv_dup hx hb dX4_useDrive_1 rfl ?_
  refine x_get (i := i) (k := 4) (j := 0) (t := 4) hx hb hts i_4 hown hK hW ⟨hi, by decide⟩ rfl ⟨by decide, by decide, rfl⟩ (hts (.fieldLink RX4 56 "OpticalJukebox$State" "uses" "I") (by decide +kernel)) (sv_S rfl (fun _ => rfl) rfl) dX4_useDrive_2 ?_
  refine lv_iconst (v := 1) hx hb dX4_useDrive_5 (by decide) ?_
  refine lv_iadd hx hb dX4_useDrive_6 ?_
  obtain ⟨sd1, e_sd1, hf⟩ := x_letE hf
  refine x_put (i := i) (k := 4) (j := 0) (t := 4) (w' := wS w i sd1) hx hb hts i_4 tyX4 tyX4_ok nmX4 hown hK hW ⟨hi, by decide⟩ hS rfl ⟨by decide, by decide, rfl⟩ (hts (.fieldLink RX4 56 "OpticalJukebox$State" "uses" "I") (by decide +kernel)) rfl (ty := .int) (by decide +kernel) rfl rfl ⟨rfl, rfl⟩ dX4_useDrive_7 (fp_S e_sd1 rfl) (fun H locs hW hS => ?_)
  refine lv_aload_n hx hb dX4_useDrive_10 rfl (lv_at hl 0 rfl) ?_
  refine x_get (i := i) (k := 4) (j := 0) (t := 2) hx hb hts i_4 hown hK hW ⟨hi, by decide⟩ rfl ⟨by decide, by decide, rfl⟩ (hts (.fieldLink RX4 17 "OpticalJukebox$State" "drives" "[LOpticalJukebox$Drive;") (by decide +kernel)) (v := .ref (adr i 11 0)) rfl dX4_useDrive_11 ?_
  refine lv_iload_n hx hb dX4_useDrive_14 rfl (lv_at hl 1 rfl) ?_
  obtain ⟨hg2, hf⟩ := x_guardE hf
  refine x_aald (i := i) (k := 11) (j := 0) hx hb hK hW ⟨hi, by decide⟩ (by decide) rfl rfl hg2 dX4_useDrive_15 ?_
  refine W.eq (g2 := F0 m 16 ls [.ref (adr i 0 (a1).toNatClampNeg)]) rfl ?_
  refine lv_aload_n hx hb dX4_useDrive_16 rfl (lv_at hl 0 rfl) ?_
  refine x_get (i := i) (k := 4) (j := 0) (t := 4) hx hb hts i_4 hown hK hW ⟨hi, by decide⟩ rfl ⟨by decide, by decide, rfl⟩ (hts (.fieldLink RX4 56 "OpticalJukebox$State" "uses" "I") (by decide +kernel)) (sv_S rfl (fun _ => rfl) rfl) dX4_useDrive_17 ?_
  obtain ⟨sd3, e_sd3, hf⟩ := x_letE hf
  refine x_put (i := i) (k := 0) (j := (a1).toNatClampNeg) (t := 2) (w' := wS w i sd3) hx hb hts i_0 tyX0 tyX0_ok nmX0 hown hK hW ⟨hi, (x_lt hg2)⟩ hS rfl ⟨by decide, by decide, rfl⟩ (hts (.fieldLink RX4 118 "OpticalJukebox$Drive" "lastUse" "I") (by decide +kernel)) rfl (ty := .int) (by decide +kernel) rfl rfl ⟨rfl, rfl⟩ dX4_useDrive_20 (fp_S e_sd3 rfl) (fun H locs hW hS => ?_)
  cases hf
  exact x_vret hx hb hr hlocks hK hW hS dX4_useDrive_23
abbrev rm_X4_bringInto : Room := { frames := 3, cells := 0, slots := 0, locals := 72 }
set_option maxRecDepth 100000 in
set_option maxHeartbeats 4000000 in
theorem ct_X4_bringInto (l : Launch) (g : GT) (w : WT) (i : Nat) (hi : i ∈ k_S w.1) (sd : SD) (a1 : Int32) (a2 : Int32) {q : SD} (hf : f_X4_bringInto sd a1 a2 = some q) : Met l yX4_bringInto wsX4_bringInto rm_X4_bringInto (cPre g (wS w i sd) [.ref (adr i 4 0), .int a1, .int a2]) (cQv g (wS w i q)) 0 0 (gA g) := by
  have i_0 : ∀ w ∈ u_ws RX0 TX0 3, w ∈ wsX4_bringInto := by decide +kernel
  have i_4 : ∀ w ∈ u_ws RX4 TX4 18, w ∈ wsX4_bringInto := by decide +kernel
  refine x_met (by decide) rfl (Nat.le_of_ble_eq_true rfl) ?_
  intro p e s m below meth c hx hb hr hml hts hown hlocks hK hW hS ls hl
  have hown : s.vm.findClass RX4 = some m.cls := hown
  have hl : lv_has ls 3 [(0, .ref (adr i 4 0)), (1, .int a1), (2, .int a2)] := hl
  rw [f_X4_bringInto] at hf
  refine lv_aload_n hx hb dX4_bringInto_0 rfl (lv_at hl 0 rfl) ?_
  refine x_get (i := i) (k := 4) (j := 0) (t := 2) hx hb hts i_4 hown hK hW ⟨hi, by decide⟩ rfl ⟨by decide, by decide, rfl⟩ (hts (.fieldLink RX4 17 "OpticalJukebox$State" "drives" "[LOpticalJukebox$Drive;") (by decide +kernel)) (v := .ref (adr i 11 0)) rfl dX4_bringInto_1 ?_
  refine lv_iload_n hx hb dX4_bringInto_4 rfl (lv_at hl 2 rfl) ?_
  obtain ⟨hg1, hf⟩ := x_guardE hf
  refine x_aald (i := i) (k := 11) (j := 0) hx hb hK hW ⟨hi, by decide⟩ (by decide) rfl rfl hg1 dX4_bringInto_5 ?_
  refine W.eq (g2 := F0 m 6 ls [.ref (adr i 0 (a2).toNatClampNeg)]) rfl ?_
  refine x_get (i := i) (k := 0) (j := (a2).toNatClampNeg) (t := 1) hx hb hts i_0 hown hK hW ⟨hi, (x_lt hg1)⟩ rfl ⟨by decide, by decide, rfl⟩ (hts (.fieldLink RX4 115 "OpticalJukebox$Drive" "platter" "I") (by decide +kernel)) (sv_S rfl (fun _ => rfl) rfl) dX4_bringInto_6 ?_
  refine lv_iload_n hx hb dX4_bringInto_9 rfl (lv_at hl 1 rfl) ?_
  obtain ⟨K2, eK2, hf⟩ := x_letE hf
  have KK2 : ∀ (sd3 : SD) (ls : Array Slot) (H : Heap) (locs : List Loc), lv_has ls 3 [(0, .ref (adr i 4 0)), (1, .int a1), (2, .int a2)] → World g (wS w i sd3) H → va_S (gA g) s.heap H locs → K2 sd3 = some q → W p l e rm_X4_bringInto s m [.ref (adr i 4 0), .int a1, .int a2].toArray below meth c H locs 0 0 (MQ below (cQv g (wS w i q)) [.ref (adr i 4 0), .int a1, .int a2].toArray s 0 0 (gA g)) (F0 m 76 ls []) := by
    intro sd3 ls H locs hl hW hS hf
    subst eK2
    refine lv_aload_n hx hb dX4_bringInto_76 rfl (lv_at hl 0 rfl) ?_
    refine lv_iload_n hx hb dX4_bringInto_77 rfl (lv_at hl 2 rfl) ?_
    obtain ⟨q4, h_q4, hf⟩ := x_bindE hf
    refine x_cv0 (x_rV ⟨hx, hb, hml, hown, hts⟩ (ct_X4_useDrive l g w i hi sd3 (a2) h_q4) (cwV 1 hts gX4_bringInto_X4_useDrive rfl rfl rfl (by decide +kernel) ⟨Nat.le_of_ble_eq_true rfl, Nat.le_of_ble_eq_true rfl⟩) hK hW hS (x_recv (i := i) (k := 4) (j := 0) hK hW ⟨hi, by decide⟩ rfl (by decide)) rfl hl.1 (rest := []) rfl (Nat.le_of_ble_eq_true rfl) dX4_bringInto_78 ⟨Nat.le_of_ble_eq_true rfl, Nat.le_of_ble_eq_true rfl⟩) hS (fun H locs hW hS => ?_)
    have hW : World g (wS w i q4) H := hW
    cases hf
    exact x_vret hx hb hr hlocks hK hW hS dX4_bringInto_81
  clear eK2
  refine lv_icmp_eq (tgt := 76) hx hb dX4_bringInto_10 (by decide) (fun hc => ?_) (fun hc => ?_)
  · have hf := x_iteT hf hc
    exact KK2 (sd) ls _ _ hl hW hS hf
  · have hf := x_iteF hf hc
    refine lv_aload_n hx hb dX4_bringInto_13 rfl (lv_at hl 0 rfl) ?_
    refine lv_dup hx hb dX4_bringInto_14 rfl ?_
    refine x_get (i := i) (k := 4) (j := 0) (t := 15) hx hb hts i_4 hown hK hW ⟨hi, by decide⟩ rfl ⟨by decide, by decide, rfl⟩ (hts (.fieldLink RX4 77 "OpticalJukebox$State" "clock" "I") (by decide +kernel)) (sv_S rfl (fun _ => rfl) rfl) dX4_bringInto_15 ?_
    refine lv_aload_n hx hb dX4_bringInto_18 rfl (lv_at hl 0 rfl) ?_
    refine lv_iload_n hx hb dX4_bringInto_19 rfl (lv_at hl 1 rfl) ?_
    refine lv_iload_n hx hb dX4_bringInto_20 rfl (lv_at hl 2 rfl) ?_
    obtain ⟨q5, h_q5, hf⟩ := x_bindE hf
    refine x_ci0 (x_rV ⟨hx, hb, hml, hown, hts⟩ (ct_X4_bringTime l g w i hi sd (a1) (a2) h_q5) (cwV 2 hts gX4_bringInto_X4_bringTime rfl rfl rfl (by decide +kernel) ⟨Nat.le_of_ble_eq_true rfl, Nat.le_of_ble_eq_true rfl⟩) hK hW hS (x_recv (i := i) (k := 4) (j := 0) hK hW ⟨hi, by decide⟩ rfl (by decide)) rfl hl.1 (rest := [.int (sd 4 0 15), .ref (adr i 4 0)]) rfl (Nat.le_of_ble_eq_true rfl) dX4_bringInto_21 ⟨Nat.le_of_ble_eq_true rfl, Nat.le_of_ble_eq_true rfl⟩) hS (fun H locs hW hS => ?_)
    have hW : World g (wS w i sd) H := hW
    refine W.eq (g2 := F0 m 24 ls [.int q5, .int (sd 4 0 15), .ref (adr i 4 0)]) rfl ?_
    refine lv_iadd hx hb dX4_bringInto_24 ?_
    obtain ⟨sd6, e_sd6, hf⟩ := x_letE hf
    refine x_put (i := i) (k := 4) (j := 0) (t := 15) (w' := wS w i sd6) hx hb hts i_4 tyX4 tyX4_ok nmX4 hown hK hW ⟨hi, by decide⟩ hS rfl ⟨by decide, by decide, rfl⟩ (hts (.fieldLink RX4 77 "OpticalJukebox$State" "clock" "I") (by decide +kernel)) rfl (ty := .int) (by decide +kernel) rfl rfl ⟨rfl, rfl⟩ dX4_bringInto_25 (fp_S e_sd6 rfl) (fun H locs hW hS => ?_)
    refine lv_aload_n hx hb dX4_bringInto_28 rfl (lv_at hl 0 rfl) ?_
    refine lv_dup hx hb dX4_bringInto_29 rfl ?_
    refine x_get (i := i) (k := 4) (j := 0) (t := 17) hx hb hts i_4 hown hK hW ⟨hi, by decide⟩ rfl ⟨by decide, by decide, rfl⟩ (hts (.fieldLink RX4 83 "OpticalJukebox$State" "travel" "I") (by decide +kernel)) (sv_S rfl (fun _ => rfl) rfl) dX4_bringInto_30 ?_
    refine lv_aload_n hx hb dX4_bringInto_33 rfl (lv_at hl 0 rfl) ?_
    refine lv_iload_n hx hb dX4_bringInto_34 rfl (lv_at hl 1 rfl) ?_
    refine lv_iload_n hx hb dX4_bringInto_35 rfl (lv_at hl 2 rfl) ?_
    obtain ⟨q7, h_q7, hf⟩ := x_bindE hf
    refine x_ci0 (x_rV ⟨hx, hb, hml, hown, hts⟩ (ct_X4_bringMoves l g w i hi sd6 (a1) (a2) h_q7) (cwV 2 hts gX4_bringInto_X4_bringMoves rfl rfl rfl (by decide +kernel) ⟨Nat.le_of_ble_eq_true rfl, Nat.le_of_ble_eq_true rfl⟩) hK hW hS (x_recv (i := i) (k := 4) (j := 0) hK hW ⟨hi, by decide⟩ rfl (by decide)) rfl hl.1 (rest := [.int (sd6 4 0 17), .ref (adr i 4 0)]) rfl (Nat.le_of_ble_eq_true rfl) dX4_bringInto_36 ⟨Nat.le_of_ble_eq_true rfl, Nat.le_of_ble_eq_true rfl⟩) hS (fun H locs hW hS => ?_)
    have hW : World g (wS w i sd6) H := hW
    refine W.eq (g2 := F0 m 39 ls [.int q7, .int (sd6 4 0 17), .ref (adr i 4 0)]) rfl ?_
    refine lv_iadd hx hb dX4_bringInto_39 ?_
    obtain ⟨sd8, e_sd8, hf⟩ := x_letE hf
    refine x_put (i := i) (k := 4) (j := 0) (t := 17) (w' := wS w i sd8) hx hb hts i_4 tyX4 tyX4_ok nmX4 hown hK hW ⟨hi, by decide⟩ hS rfl ⟨by decide, by decide, rfl⟩ (hts (.fieldLink RX4 83 "OpticalJukebox$State" "travel" "I") (by decide +kernel)) rfl (ty := .int) (by decide +kernel) rfl rfl ⟨rfl, rfl⟩ dX4_bringInto_40 (fp_S e_sd8 rfl) (fun H locs hW hS => ?_)
    refine lv_aload_n hx hb dX4_bringInto_43 rfl (lv_at hl 0 rfl) ?_
    refine lv_aload_n hx hb dX4_bringInto_44 rfl (lv_at hl 0 rfl) ?_
    refine x_get (i := i) (k := 4) (j := 0) (t := 2) hx hb hts i_4 hown hK hW ⟨hi, by decide⟩ rfl ⟨by decide, by decide, rfl⟩ (hts (.fieldLink RX4 17 "OpticalJukebox$State" "drives" "[LOpticalJukebox$Drive;") (by decide +kernel)) (v := .ref (adr i 11 0)) rfl dX4_bringInto_45 ?_
    refine lv_iload_n hx hb dX4_bringInto_48 rfl (lv_at hl 2 rfl) ?_
    obtain ⟨hg9, hf⟩ := x_guardE hf
    refine x_aald (i := i) (k := 11) (j := 0) hx hb hK hW ⟨hi, by decide⟩ (by decide) rfl rfl hg9 dX4_bringInto_49 ?_
    refine W.eq (g2 := F0 m 50 ls [.ref (adr i 0 (a2).toNatClampNeg), .ref (adr i 4 0)]) rfl ?_
    refine x_get (i := i) (k := 0) (j := (a2).toNatClampNeg) (t := 0) hx hb hts i_0 hown hK hW ⟨hi, (x_lt hg9)⟩ rfl ⟨by decide, by decide, rfl⟩ (hts (.fieldLink RX4 112 "OpticalJukebox$Drive" "position" "I") (by decide +kernel)) (sv_S rfl (fun _ => rfl) rfl) dX4_bringInto_50 ?_
    obtain ⟨sd10, e_sd10, hf⟩ := x_letE hf
    refine x_put (i := i) (k := 4) (j := 0) (t := 14) (w' := wS w i sd10) hx hb hts i_4 tyX4 tyX4_ok nmX4 hown hK hW ⟨hi, by decide⟩ hS rfl ⟨by decide, by decide, rfl⟩ (hts (.fieldLink RX4 74 "OpticalJukebox$State" "picker" "I") (by decide +kernel)) rfl (ty := .int) (by decide +kernel) rfl rfl ⟨rfl, rfl⟩ dX4_bringInto_53 (fp_S e_sd10 rfl) (fun H locs hW hS => ?_)
    refine lv_aload_n hx hb dX4_bringInto_56 rfl (lv_at hl 0 rfl) ?_
    refine x_get (i := i) (k := 4) (j := 0) (t := 2) hx hb hts i_4 hown hK hW ⟨hi, by decide⟩ rfl ⟨by decide, by decide, rfl⟩ (hts (.fieldLink RX4 17 "OpticalJukebox$State" "drives" "[LOpticalJukebox$Drive;") (by decide +kernel)) (v := .ref (adr i 11 0)) rfl dX4_bringInto_57 ?_
    refine lv_iload_n hx hb dX4_bringInto_60 rfl (lv_at hl 2 rfl) ?_
    obtain ⟨hg11, hf⟩ := x_guardE hf
    refine x_aald (i := i) (k := 11) (j := 0) hx hb hK hW ⟨hi, by decide⟩ (by decide) rfl rfl hg11 dX4_bringInto_61 ?_
    refine W.eq (g2 := F0 m 62 ls [.ref (adr i 0 (a2).toNatClampNeg)]) rfl ?_
    refine lv_iload_n hx hb dX4_bringInto_62 rfl (lv_at hl 1 rfl) ?_
    obtain ⟨sd12, e_sd12, hf⟩ := x_letE hf
    refine x_put (i := i) (k := 0) (j := (a2).toNatClampNeg) (t := 1) (w' := wS w i sd12) hx hb hts i_0 tyX0 tyX0_ok nmX0 hown hK hW ⟨hi, (x_lt hg11)⟩ hS rfl ⟨by decide, by decide, rfl⟩ (hts (.fieldLink RX4 115 "OpticalJukebox$Drive" "platter" "I") (by decide +kernel)) rfl (ty := .int) (by decide +kernel) rfl rfl ⟨rfl, rfl⟩ dX4_bringInto_63 (fp_S e_sd12 rfl) (fun H locs hW hS => ?_)
    refine lv_aload_n hx hb dX4_bringInto_66 rfl (lv_at hl 0 rfl) ?_
    refine lv_dup hx hb dX4_bringInto_67 rfl ?_
    refine x_get (i := i) (k := 4) (j := 0) (t := 16) hx hb hts i_4 hown hK hW ⟨hi, by decide⟩ rfl ⟨by decide, by decide, rfl⟩ (hts (.fieldLink RX4 80 "OpticalJukebox$State" "exchanges" "I") (by decide +kernel)) (sv_S rfl (fun _ => rfl) rfl) dX4_bringInto_68 ?_
    refine lv_iconst (v := 1) hx hb dX4_bringInto_71 (by decide) ?_
    refine lv_iadd hx hb dX4_bringInto_72 ?_
    obtain ⟨sd13, e_sd13, hf⟩ := x_letE hf
    refine x_put (i := i) (k := 4) (j := 0) (t := 16) (w' := wS w i sd13) hx hb hts i_4 tyX4 tyX4_ok nmX4 hown hK hW ⟨hi, by decide⟩ hS rfl ⟨by decide, by decide, rfl⟩ (hts (.fieldLink RX4 80 "OpticalJukebox$State" "exchanges" "I") (by decide +kernel)) rfl (ty := .int) (by decide +kernel) rfl rfl ⟨rfl, rfl⟩ dX4_bringInto_73 (fp_S e_sd13 rfl) (fun H locs hW hS => ?_)
    exact KK2 (sd13) ls _ _ hl hW hS hf
abbrev rm_X4_bringToChosen : Room := { frames := 4, cells := 0, slots := 0, locals := 94 }
set_option maxRecDepth 100000 in
set_option maxHeartbeats 4000000 in
theorem ct_X4_bringToChosen (l : Launch) (g : GT) (w : WT) (i : Nat) (hi : i ∈ k_S w.1) (sd : SD) (a1 : Int32) {q : SD} (hf : f_X4_bringToChosen sd a1 = some q) : Met l yX4_bringToChosen wsX4_bringToChosen rm_X4_bringToChosen (cPre g (wS w i sd) [.ref (adr i 4 0), .int a1]) (cQv g (wS w i q)) 0 0 (gA g) := by
  refine x_met (by decide) rfl (Nat.le_of_ble_eq_true rfl) ?_
  intro p e s m below meth c hx hb hr hml hts hown hlocks hK hW hS ls hl
  have hown : s.vm.findClass RX4 = some m.cls := hown
  have hl : lv_has ls 3 [(0, .ref (adr i 4 0)), (1, .int a1)] := hl
  rw [f_X4_bringToChosen] at hf
  refine lv_aload_n hx hb dX4_bringToChosen_0 rfl (lv_at hl 0 rfl) ?_
  refine lv_iload_n hx hb dX4_bringToChosen_1 rfl (lv_at hl 1 rfl) ?_
  obtain ⟨q1, h_q1, hf⟩ := x_bindE hf
  refine x_ci0 (x_rV ⟨hx, hb, hml, hown, hts⟩ (ct_X4_driveToChoose l g w i hi sd (a1) h_q1) (cwV 1 hts gX4_bringToChosen_X4_driveToChoose rfl rfl rfl (by decide +kernel) ⟨Nat.le_of_ble_eq_true rfl, Nat.le_of_ble_eq_true rfl⟩) hK hW hS (x_recv (i := i) (k := 4) (j := 0) hK hW ⟨hi, by decide⟩ rfl (by decide)) rfl hl.1 (rest := []) rfl (Nat.le_of_ble_eq_true rfl) dX4_bringToChosen_2 ⟨Nat.le_of_ble_eq_true rfl, Nat.le_of_ble_eq_true rfl⟩) hS (fun H locs hW hS => ?_)
  have hW : World g (wS w i sd) H := hW
  refine W.eq (g2 := F0 m 5 ls [.int q1]) rfl ?_
  refine lv_istore_n (lv' := [(2, .int q1), (0, .ref (adr i 4 0)), (1, .int a1)]) hx hb dX4_bringToChosen_5 rfl hl (by decide) rfl (fun ls hl => ?_)
  refine lv_iload_n hx hb dX4_bringToChosen_6 rfl (lv_at hl 0 rfl) ?_
  refine lv_iconst (v := -1) hx hb dX4_bringToChosen_7 (by decide) ?_
  refine lv_icmp_eq (tgt := 17) hx hb dX4_bringToChosen_8 (by decide) (fun hc => ?_) (fun hc => ?_)
  · have hf := x_iteT hf hc
    cases hf
    exact x_vret hx hb hr hlocks hK hW hS dX4_bringToChosen_17
  · have hf := x_iteF hf hc
    refine lv_aload_n hx hb dX4_bringToChosen_11 rfl (lv_at hl 1 rfl) ?_
    refine lv_iload_n hx hb dX4_bringToChosen_12 rfl (lv_at hl 2 rfl) ?_
    refine lv_iload_n hx hb dX4_bringToChosen_13 rfl (lv_at hl 0 rfl) ?_
    obtain ⟨q2, h_q2, hf⟩ := x_bindE hf
    refine x_cv0 (x_rV ⟨hx, hb, hml, hown, hts⟩ (ct_X4_bringInto l g w i hi sd (a1) (q1) h_q2) (cwV 2 hts gX4_bringToChosen_X4_bringInto rfl rfl rfl (by decide +kernel) ⟨Nat.le_of_ble_eq_true rfl, Nat.le_of_ble_eq_true rfl⟩) hK hW hS (x_recv (i := i) (k := 4) (j := 0) hK hW ⟨hi, by decide⟩ rfl (by decide)) rfl hl.1 (rest := []) rfl (Nat.le_of_ble_eq_true rfl) dX4_bringToChosen_14 ⟨Nat.le_of_ble_eq_true rfl, Nat.le_of_ble_eq_true rfl⟩) hS (fun H locs hW hS => ?_)
    have hW : World g (wS w i q2) H := hW
    cases hf
    exact x_vret hx hb hr hlocks hK hW hS dX4_bringToChosen_17
abbrev rm_X4_carryHome : Room := { frames := 1, cells := 0, slots := 0, locals := 21 }
set_option maxRecDepth 100000 in
set_option maxHeartbeats 4000000 in
theorem ct_X4_carryHome (l : Launch) (g : GT) (w : WT) (i : Nat) (hi : i ∈ k_S w.1) (sd : SD) (a1 : Int32) {q : SD} (hf : f_X4_carryHome sd a1 = some q) : Met l yX4_carryHome wsX4_carryHome rm_X4_carryHome (cPre g (wS w i sd) [.ref (adr i 4 0), .int a1]) (cQv g (wS w i q)) 0 0 (gA g) := by
  have i_0 : ∀ w ∈ u_ws RX0 TX0 3, w ∈ wsX4_carryHome := by decide +kernel
  have i_3 : ∀ w ∈ u_ws RX3 TX3 9, w ∈ wsX4_carryHome := by decide +kernel
  have i_4 : ∀ w ∈ u_ws RX4 TX4 18, w ∈ wsX4_carryHome := by decide +kernel
  refine x_met (by decide) rfl (Nat.le_of_ble_eq_true rfl) ?_
  intro p e s m below meth c hx hb hr hml hts hown hlocks hK hW hS ls hl
  have hown : s.vm.findClass RX4 = some m.cls := hown
  have hl : lv_has ls 6 [(0, .ref (adr i 4 0)), (1, .int a1)] := hl
  rw [f_X4_carryHome] at hf
  refine lv_aload_n hx hb dX4_carryHome_0 rfl (lv_at hl 0 rfl) ?_
  refine x_get (i := i) (k := 4) (j := 0) (t := 2) hx hb hts i_4 hown hK hW ⟨hi, by decide⟩ rfl ⟨by decide, by decide, rfl⟩ (hts (.fieldLink RX4 17 "OpticalJukebox$State" "drives" "[LOpticalJukebox$Drive;") (by decide +kernel)) (v := .ref (adr i 11 0)) rfl dX4_carryHome_1 ?_
  refine lv_iload_n hx hb dX4_carryHome_4 rfl (lv_at hl 1 rfl) ?_
  obtain ⟨hg1, hf⟩ := x_guardE hf
  refine x_aald (i := i) (k := 11) (j := 0) hx hb hK hW ⟨hi, by decide⟩ (by decide) rfl rfl hg1 dX4_carryHome_5 ?_
  refine W.eq (g2 := F0 m 6 ls [.ref (adr i 0 (a1).toNatClampNeg)]) rfl ?_
  refine x_get (i := i) (k := 0) (j := (a1).toNatClampNeg) (t := 1) hx hb hts i_0 hown hK hW ⟨hi, (x_lt hg1)⟩ rfl ⟨by decide, by decide, rfl⟩ (hts (.fieldLink RX4 115 "OpticalJukebox$Drive" "platter" "I") (by decide +kernel)) (sv_S rfl (fun _ => rfl) rfl) dX4_carryHome_6 ?_
  obtain ⟨x2, e_x2, hf⟩ := x_letE hf
  refine x_topi e_x2 ?_
  refine lv_istore_n (lv' := [(2, .int x2), (0, .ref (adr i 4 0)), (1, .int a1)]) hx hb dX4_carryHome_9 rfl hl (by decide) rfl (fun ls hl => ?_)
  refine lv_iload_n hx hb dX4_carryHome_10 rfl (lv_at hl 0 rfl) ?_
  refine lv_iconst (v := -1) hx hb dX4_carryHome_11 (by decide) ?_
  refine lv_icmp_eq (tgt := 109) hx hb dX4_carryHome_12 (by decide) (fun hc => ?_) (fun hc => ?_)
  · have hf := x_iteT hf hc
    cases hf
    exact x_vret hx hb hr hlocks hK hW hS dX4_carryHome_109
  · have hf := x_iteF hf hc
    refine lv_aload_n hx hb dX4_carryHome_15 rfl (lv_at hl 1 rfl) ?_
    refine x_get (i := i) (k := 4) (j := 0) (t := 2) hx hb hts i_4 hown hK hW ⟨hi, by decide⟩ rfl ⟨by decide, by decide, rfl⟩ (hts (.fieldLink RX4 17 "OpticalJukebox$State" "drives" "[LOpticalJukebox$Drive;") (by decide +kernel)) (v := .ref (adr i 11 0)) rfl dX4_carryHome_16 ?_
    refine lv_iload_n hx hb dX4_carryHome_19 rfl (lv_at hl 2 rfl) ?_
    obtain ⟨hg3, hf⟩ := x_guardE hf
    refine x_aald (i := i) (k := 11) (j := 0) hx hb hK hW ⟨hi, by decide⟩ (by decide) rfl rfl hg3 dX4_carryHome_20 ?_
    refine W.eq (g2 := F0 m 21 ls [.ref (adr i 0 (a1).toNatClampNeg)]) rfl ?_
    refine x_get (i := i) (k := 0) (j := (a1).toNatClampNeg) (t := 0) hx hb hts i_0 hown hK hW ⟨hi, (x_lt hg3)⟩ rfl ⟨by decide, by decide, rfl⟩ (hts (.fieldLink RX4 112 "OpticalJukebox$Drive" "position" "I") (by decide +kernel)) (sv_S rfl (fun _ => rfl) rfl) dX4_carryHome_21 ?_
    obtain ⟨x4, e_x4, hf⟩ := x_letE hf
    refine x_topi e_x4 ?_
    refine lv_istore_n (lv' := [(3, .int x4), (2, .int x2), (0, .ref (adr i 4 0)), (1, .int a1)]) hx hb dX4_carryHome_24 rfl hl (by decide) rfl (fun ls hl => ?_)
    refine lv_aload_n hx hb dX4_carryHome_25 rfl (lv_at hl 2 rfl) ?_
    refine x_get (i := i) (k := 4) (j := 0) (t := 5) hx hb hts i_4 hown hK hW ⟨hi, by decide⟩ rfl ⟨by decide, by decide, rfl⟩ (hts (.fieldLink RX4 23 "OpticalJukebox$State" "platters" "[LOpticalJukebox$Platter;") (by decide +kernel)) (v := .ref (adr i 12 0)) rfl dX4_carryHome_26 ?_
    refine lv_iload_n hx hb dX4_carryHome_29 rfl (lv_at hl 1 rfl) ?_
    obtain ⟨hg5, hf⟩ := x_guardE hf
    refine x_aald (i := i) (k := 12) (j := 0) hx hb hK hW ⟨hi, by decide⟩ (by decide) rfl rfl hg5 dX4_carryHome_30 ?_
    refine W.eq (g2 := F0 m 31 ls [.ref (adr i 3 (x2).toNatClampNeg)]) rfl ?_
    refine x_get (i := i) (k := 3) (j := (x2).toNatClampNeg) (t := 0) hx hb hts i_3 hown hK hW ⟨hi, (x_lt hg5)⟩ rfl ⟨by decide, by decide, rfl⟩ (hts (.fieldLink RX4 125 "OpticalJukebox$Platter" "home" "I") (by decide +kernel)) (sv_S rfl (fun _ => rfl) rfl) dX4_carryHome_31 ?_
    obtain ⟨x6, e_x6, hf⟩ := x_letE hf
    refine x_topi e_x6 ?_
    refine lv_istore (lv' := [(4, .int x6), (3, .int x4), (2, .int x2), (0, .ref (adr i 4 0)), (1, .int a1)]) hx hb dX4_carryHome_34 hl (by decide) rfl (fun ls hl => ?_)
    refine lv_aload_n hx hb dX4_carryHome_36 rfl (lv_at hl 3 rfl) ?_
    refine x_get (i := i) (k := 4) (j := 0) (t := 14) hx hb hts i_4 hown hK hW ⟨hi, by decide⟩ rfl ⟨by decide, by decide, rfl⟩ (hts (.fieldLink RX4 74 "OpticalJukebox$State" "picker" "I") (by decide +kernel)) (sv_S rfl (fun _ => rfl) rfl) dX4_carryHome_37 ?_
    refine lv_iload_n hx hb dX4_carryHome_40 rfl (lv_at hl 1 rfl) ?_
    refine lv_isub hx hb dX4_carryHome_41 ?_
    refine va_mabs hx hb (hml.trans hl.1.symm) hown (hts (.methodLink RX4 197 Lib.Math.abs.name) (by decide +kernel)) (hts (.static Lib.Math.abs.name) (by decide +kernel)) (hts (.initialized "java/lang/Math") (by decide +kernel)) (hts (.code Lib.Math.abs.name Lib.Math.abs.code 1 (some .int)) (by decide +kernel)) (Nat.le_of_ble_eq_true rfl) (Nat.le_of_ble_eq_true rfl) (Nat.le_of_ble_eq_true rfl) (Nat.le_of_ble_eq_true rfl) dX4_carryHome_42 ?_
    refine lv_iload_n hx hb dX4_carryHome_45 rfl (lv_at hl 1 rfl) ?_
    refine lv_iload hx hb dX4_carryHome_46 (lv_at hl 0 rfl) ?_
    refine lv_isub hx hb dX4_carryHome_48 ?_
    refine va_mabs hx hb (hml.trans hl.1.symm) hown (hts (.methodLink RX4 197 Lib.Math.abs.name) (by decide +kernel)) (hts (.static Lib.Math.abs.name) (by decide +kernel)) (hts (.initialized "java/lang/Math") (by decide +kernel)) (hts (.code Lib.Math.abs.name Lib.Math.abs.code 1 (some .int)) (by decide +kernel)) (Nat.le_of_ble_eq_true rfl) (Nat.le_of_ble_eq_true rfl) (Nat.le_of_ble_eq_true rfl) (Nat.le_of_ble_eq_true rfl) dX4_carryHome_49 ?_
    refine lv_iadd hx hb dX4_carryHome_52 ?_
    obtain ⟨x7, e_x7, hf⟩ := x_letE hf
    refine x_topi e_x7 ?_
    refine lv_istore (lv' := [(5, .int x7), (4, .int x6), (3, .int x4), (2, .int x2), (0, .ref (adr i 4 0)), (1, .int a1)]) hx hb dX4_carryHome_53 hl (by decide) rfl (fun ls hl => ?_)
    refine lv_aload_n hx hb dX4_carryHome_55 rfl (lv_at hl 4 rfl) ?_
    refine lv_dup hx hb dX4_carryHome_56 rfl ?_
    refine x_get (i := i) (k := 4) (j := 0) (t := 15) hx hb hts i_4 hown hK hW ⟨hi, by decide⟩ rfl ⟨by decide, by decide, rfl⟩ (hts (.fieldLink RX4 77 "OpticalJukebox$State" "clock" "I") (by decide +kernel)) (sv_S rfl (fun _ => rfl) rfl) dX4_carryHome_57 ?_
    refine lv_iload hx hb dX4_carryHome_60 (lv_at hl 0 rfl) ?_
    refine lv_aload_n hx hb dX4_carryHome_62 rfl (lv_at hl 4 rfl) ?_
    refine x_get (i := i) (k := 4) (j := 0) (t := 1) hx hb hts i_4 hown hK hW ⟨hi, by decide⟩ rfl ⟨by decide, by decide, rfl⟩ (hts (.fieldLink RX4 9 "OpticalJukebox$State" "times" "[I") (by decide +kernel)) (v := .ref (adr i 10 0)) rfl dX4_carryHome_63 ?_
    refine lv_iconst (v := 0) hx hb dX4_carryHome_66 (by decide) ?_
    refine x_iald (i := i) (k := 10) (j := 0) (f := sd 10 0) hx hb hK hW ⟨hi, by decide⟩ (by decide) (ct_S rfl (fun _ => rfl)) rfl (by unfold vp_in; decide) dX4_carryHome_67 ?_
    refine W.eq (g2 := F0 m 68 ls [.int (sd 10 0 0), .int x7, .int (sd 4 0 15), .ref (adr i 4 0)]) rfl ?_
    refine lv_imul hx hb dX4_carryHome_68 ?_
    refine lv_iconst (v := 2) hx hb dX4_carryHome_69 (by decide) ?_
    refine lv_aload_n hx hb dX4_carryHome_70 rfl (lv_at hl 4 rfl) ?_
    refine x_get (i := i) (k := 4) (j := 0) (t := 1) hx hb hts i_4 hown hK hW ⟨hi, by decide⟩ rfl ⟨by decide, by decide, rfl⟩ (hts (.fieldLink RX4 9 "OpticalJukebox$State" "times" "[I") (by decide +kernel)) (v := .ref (adr i 10 0)) rfl dX4_carryHome_71 ?_
    refine lv_iconst (v := 1) hx hb dX4_carryHome_74 (by decide) ?_
    refine x_iald (i := i) (k := 10) (j := 0) (f := sd 10 0) hx hb hK hW ⟨hi, by decide⟩ (by decide) (ct_S rfl (fun _ => rfl)) rfl (by unfold vp_in; decide) dX4_carryHome_75 ?_
    refine W.eq (g2 := F0 m 76 ls [.int (sd 10 0 1), .int (2 : Int32), .int (x7 * (sd 10 0 0)), .int (sd 4 0 15), .ref (adr i 4 0)]) rfl ?_
    refine lv_imul hx hb dX4_carryHome_76 ?_
    refine lv_iadd hx hb dX4_carryHome_77 ?_
    refine lv_iadd hx hb dX4_carryHome_78 ?_
    obtain ⟨sd8, e_sd8, hf⟩ := x_letE hf
    refine x_put (i := i) (k := 4) (j := 0) (t := 15) (w' := wS w i sd8) hx hb hts i_4 tyX4 tyX4_ok nmX4 hown hK hW ⟨hi, by decide⟩ hS rfl ⟨by decide, by decide, rfl⟩ (hts (.fieldLink RX4 77 "OpticalJukebox$State" "clock" "I") (by decide +kernel)) rfl (ty := .int) (by decide +kernel) rfl rfl ⟨rfl, rfl⟩ dX4_carryHome_79 (fp_S e_sd8 rfl) (fun H locs hW hS => ?_)
    refine lv_aload_n hx hb dX4_carryHome_82 rfl (lv_at hl 4 rfl) ?_
    refine lv_dup hx hb dX4_carryHome_83 rfl ?_
    refine x_get (i := i) (k := 4) (j := 0) (t := 17) hx hb hts i_4 hown hK hW ⟨hi, by decide⟩ rfl ⟨by decide, by decide, rfl⟩ (hts (.fieldLink RX4 83 "OpticalJukebox$State" "travel" "I") (by decide +kernel)) (sv_S rfl (fun _ => rfl) rfl) dX4_carryHome_84 ?_
    refine lv_iload hx hb dX4_carryHome_87 (lv_at hl 0 rfl) ?_
    refine lv_iadd hx hb dX4_carryHome_89 ?_
    obtain ⟨sd9, e_sd9, hf⟩ := x_letE hf
    refine x_put (i := i) (k := 4) (j := 0) (t := 17) (w' := wS w i sd9) hx hb hts i_4 tyX4 tyX4_ok nmX4 hown hK hW ⟨hi, by decide⟩ hS rfl ⟨by decide, by decide, rfl⟩ (hts (.fieldLink RX4 83 "OpticalJukebox$State" "travel" "I") (by decide +kernel)) rfl (ty := .int) (by decide +kernel) rfl rfl ⟨rfl, rfl⟩ dX4_carryHome_90 (fp_S e_sd9 rfl) (fun H locs hW hS => ?_)
    refine lv_aload_n hx hb dX4_carryHome_93 rfl (lv_at hl 4 rfl) ?_
    refine lv_iload hx hb dX4_carryHome_94 (lv_at hl 1 rfl) ?_
    obtain ⟨sd10, e_sd10, hf⟩ := x_letE hf
    refine x_put (i := i) (k := 4) (j := 0) (t := 14) (w' := wS w i sd10) hx hb hts i_4 tyX4 tyX4_ok nmX4 hown hK hW ⟨hi, by decide⟩ hS rfl ⟨by decide, by decide, rfl⟩ (hts (.fieldLink RX4 74 "OpticalJukebox$State" "picker" "I") (by decide +kernel)) rfl (ty := .int) (by decide +kernel) rfl rfl ⟨rfl, rfl⟩ dX4_carryHome_96 (fp_S e_sd10 rfl) (fun H locs hW hS => ?_)
    refine lv_aload_n hx hb dX4_carryHome_99 rfl (lv_at hl 4 rfl) ?_
    refine x_get (i := i) (k := 4) (j := 0) (t := 2) hx hb hts i_4 hown hK hW ⟨hi, by decide⟩ rfl ⟨by decide, by decide, rfl⟩ (hts (.fieldLink RX4 17 "OpticalJukebox$State" "drives" "[LOpticalJukebox$Drive;") (by decide +kernel)) (v := .ref (adr i 11 0)) rfl dX4_carryHome_100 ?_
    refine lv_iload_n hx hb dX4_carryHome_103 rfl (lv_at hl 5 rfl) ?_
    obtain ⟨hg11, hf⟩ := x_guardE hf
    refine x_aald (i := i) (k := 11) (j := 0) hx hb hK hW ⟨hi, by decide⟩ (by decide) rfl rfl hg11 dX4_carryHome_104 ?_
    refine W.eq (g2 := F0 m 105 ls [.ref (adr i 0 (a1).toNatClampNeg)]) rfl ?_
    refine lv_iconst (v := -1) hx hb dX4_carryHome_105 (by decide) ?_
    obtain ⟨sd12, e_sd12, hf⟩ := x_letE hf
    refine x_put (i := i) (k := 0) (j := (a1).toNatClampNeg) (t := 1) (w' := wS w i sd12) hx hb hts i_0 tyX0 tyX0_ok nmX0 hown hK hW ⟨hi, (x_lt hg11)⟩ hS rfl ⟨by decide, by decide, rfl⟩ (hts (.fieldLink RX4 115 "OpticalJukebox$Drive" "platter" "I") (by decide +kernel)) rfl (ty := .int) (by decide +kernel) rfl rfl ⟨rfl, rfl⟩ dX4_carryHome_106 (fp_S e_sd12 rfl) (fun H locs hW hS => ?_)
    cases hf
    exact x_vret hx hb hr hlocks hK hW hS dX4_carryHome_109
abbrev rm_X4_readFile : Room := { frames := 5, cells := 0, slots := 0, locals := 116 }
set_option maxRecDepth 100000 in
set_option maxHeartbeats 4000000 in
theorem ct_X4_readFile (l : Launch) (g : GT) (w : WT) (i : Nat) (hi : i ∈ k_S w.1) (sd : SD) (a1 : Int32) {q : SD} (hf : f_X4_readFile sd a1 = some q) : Met l yX4_readFile wsX4_readFile rm_X4_readFile (cPre g (wS w i sd) [.ref (adr i 4 0), .int a1]) (cQv g (wS w i q)) 0 0 (gA g) := by
  have i_4 : ∀ w ∈ u_ws RX4 TX4 18, w ∈ wsX4_readFile := by decide +kernel
  have i_6 : ∀ w ∈ u_ws RX6 TX6 7, w ∈ wsX4_readFile := by decide +kernel
  refine x_met (by decide) rfl (Nat.le_of_ble_eq_true rfl) ?_
  intro p e s m below meth c hx hb hr hml hts hown hlocks hK hW hS ls hl
  have hown : s.vm.findClass RX4 = some m.cls := hown
  have hl : lv_has ls 3 [(0, .ref (adr i 4 0)), (1, .int a1)] := hl
  rw [f_X4_readFile] at hf
  refine lv_aload_n hx hb dX4_readFile_0 rfl (lv_at hl 0 rfl) ?_
  refine lv_iload_n hx hb dX4_readFile_1 rfl (lv_at hl 1 rfl) ?_
  obtain ⟨q1, h_q1, hf⟩ := x_bindE hf
  refine x_cr0 (x_rV ⟨hx, hb, hml, hown, hts⟩ (ct_X4_currentVersion l g w i hi sd (a1) h_q1) (cwV 1 hts gX4_readFile_X4_currentVersion rfl rfl rfl (by decide +kernel) ⟨Nat.le_of_ble_eq_true rfl, Nat.le_of_ble_eq_true rfl⟩) hK hW hS (x_recv (i := i) (k := 4) (j := 0) hK hW ⟨hi, by decide⟩ rfl (by decide)) rfl hl.1 (rest := []) rfl (Nat.le_of_ble_eq_true rfl) dX4_readFile_2 ⟨Nat.le_of_ble_eq_true rfl, Nat.le_of_ble_eq_true rfl⟩) hS (fun H locs hW hS => ?_)
  have hW : World g (wS w i sd) H := hW
  refine W.eq (g2 := F0 m 5 ls [.ref (adr i 6 q1)]) rfl ?_
  refine lv_astore_n (lv' := [(2, .ref (adr i 6 q1)), (0, .ref (adr i 4 0)), (1, .int a1)]) hx hb dX4_readFile_5 rfl hl (by decide) rfl (fun ls hl => ?_)
  refine lv_aload_n hx hb dX4_readFile_6 rfl (lv_at hl 1 rfl) ?_
  refine lv_aload_n hx hb dX4_readFile_7 rfl (lv_at hl 0 rfl) ?_
  refine x_get (i := i) (k := 6) (j := q1) (t := 1) hx hb hts i_6 hown hK hW ⟨hi, (b_X4_currentVersion h_q1)⟩ rfl ⟨by decide, by decide, rfl⟩ (hts (.fieldLink RX4 134 "OpticalJukebox$Version" "platter" "I") (by decide +kernel)) (sv_S rfl (fun _ => rfl) rfl) dX4_readFile_8 ?_
  obtain ⟨q2, h_q2, hf⟩ := x_bindE hf
  refine x_cv0 (x_rV ⟨hx, hb, hml, hown, hts⟩ (ct_X4_bringToChosen l g w i hi sd ((sd 6 q1 1)) h_q2) (cwV 1 hts gX4_readFile_X4_bringToChosen rfl rfl rfl (by decide +kernel) ⟨Nat.le_of_ble_eq_true rfl, Nat.le_of_ble_eq_true rfl⟩) hK hW hS (x_recv (i := i) (k := 4) (j := 0) hK hW ⟨hi, by decide⟩ rfl (by decide)) rfl hl.1 (rest := []) rfl (Nat.le_of_ble_eq_true rfl) dX4_readFile_11 ⟨Nat.le_of_ble_eq_true rfl, Nat.le_of_ble_eq_true rfl⟩) hS (fun H locs hW hS => ?_)
  have hW : World g (wS w i q2) H := hW
  refine lv_aload_n hx hb dX4_readFile_14 rfl (lv_at hl 1 rfl) ?_
  refine lv_dup hx hb dX4_readFile_15 rfl ?_
  refine x_get (i := i) (k := 4) (j := 0) (t := 15) hx hb hts i_4 hown hK hW ⟨hi, by decide⟩ rfl ⟨by decide, by decide, rfl⟩ (hts (.fieldLink RX4 77 "OpticalJukebox$State" "clock" "I") (by decide +kernel)) (sv_S rfl (fun _ => rfl) rfl) dX4_readFile_16 ?_
  refine lv_aload_n hx hb dX4_readFile_19 rfl (lv_at hl 1 rfl) ?_
  refine lv_aload_n hx hb dX4_readFile_20 rfl (lv_at hl 0 rfl) ?_
  obtain ⟨q3, h_q3, hf⟩ := x_bindE hf
  refine x_ci0 (x_rV ⟨hx, hb, hml, hown, hts⟩ (ct_X4_sectorsReadTime l g w i hi q2 (q1) ((b_X4_currentVersion h_q1)) h_q3) (cwV 1 hts gX4_readFile_X4_sectorsReadTime rfl rfl rfl (by decide +kernel) ⟨Nat.le_of_ble_eq_true rfl, Nat.le_of_ble_eq_true rfl⟩) hK hW hS (x_recv (i := i) (k := 4) (j := 0) hK hW ⟨hi, by decide⟩ rfl (by decide)) rfl hl.1 (rest := [.int (q2 4 0 15), .ref (adr i 4 0)]) rfl (Nat.le_of_ble_eq_true rfl) dX4_readFile_21 ⟨Nat.le_of_ble_eq_true rfl, Nat.le_of_ble_eq_true rfl⟩) hS (fun H locs hW hS => ?_)
  have hW : World g (wS w i q2) H := hW
  refine W.eq (g2 := F0 m 24 ls [.int q3, .int (q2 4 0 15), .ref (adr i 4 0)]) rfl ?_
  refine lv_iadd hx hb dX4_readFile_24 ?_
  obtain ⟨sd4, e_sd4, hf⟩ := x_letE hf
  refine x_put (i := i) (k := 4) (j := 0) (t := 15) (w' := wS w i sd4) hx hb hts i_4 tyX4 tyX4_ok nmX4 hown hK hW ⟨hi, by decide⟩ hS rfl ⟨by decide, by decide, rfl⟩ (hts (.fieldLink RX4 77 "OpticalJukebox$State" "clock" "I") (by decide +kernel)) rfl (ty := .int) (by decide +kernel) rfl rfl ⟨rfl, rfl⟩ dX4_readFile_25 (fp_S e_sd4 rfl) (fun H locs hW hS => ?_)
  cases hf
  exact x_vret hx hb hr hlocks hK hW hS dX4_readFile_28
abbrev rm_X4_writeVersion : Room := { frames := 5, cells := 0, slots := 0, locals := 116 }
set_option maxRecDepth 100000 in
set_option maxHeartbeats 4000000 in
theorem ct_X4_writeVersion (l : Launch) (g : GT) (w : WT) (i : Nat) (hi : i ∈ k_S w.1) (sd : SD) (a1 : Int32) (a2 : Int32) (a3 : Int32) {q : SD} (hf : f_X4_writeVersion sd a1 a2 a3 = some q) : Met l yX4_writeVersion wsX4_writeVersion rm_X4_writeVersion (cPre g (wS w i sd) [.ref (adr i 4 0), .int a1, .int a2, .int a3]) (cQv g (wS w i q)) 0 0 (gA g) := by
  have i_4 : ∀ w ∈ u_ws RX4 TX4 18, w ∈ wsX4_writeVersion := by decide +kernel
  refine x_met (by decide) rfl (Nat.le_of_ble_eq_true rfl) ?_
  intro p e s m below meth c hx hb hr hml hts hown hlocks hK hW hS ls hl
  have hown : s.vm.findClass RX4 = some m.cls := hown
  have hl : lv_has ls 4 [(0, .ref (adr i 4 0)), (1, .int a1), (2, .int a2), (3, .int a3)] := hl
  rw [f_X4_writeVersion] at hf
  refine lv_aload_n hx hb dX4_writeVersion_0 rfl (lv_at hl 0 rfl) ?_
  refine lv_iload_n hx hb dX4_writeVersion_1 rfl (lv_at hl 3 rfl) ?_
  obtain ⟨q1, h_q1, hf⟩ := x_bindE hf
  refine x_cv0 (x_rV ⟨hx, hb, hml, hown, hts⟩ (ct_X4_bringToChosen l g w i hi sd (a3) h_q1) (cwV 1 hts gX4_writeVersion_X4_bringToChosen rfl rfl rfl (by decide +kernel) ⟨Nat.le_of_ble_eq_true rfl, Nat.le_of_ble_eq_true rfl⟩) hK hW hS (x_recv (i := i) (k := 4) (j := 0) hK hW ⟨hi, by decide⟩ rfl (by decide)) rfl hl.1 (rest := []) rfl (Nat.le_of_ble_eq_true rfl) dX4_writeVersion_2 ⟨Nat.le_of_ble_eq_true rfl, Nat.le_of_ble_eq_true rfl⟩) hS (fun H locs hW hS => ?_)
  have hW : World g (wS w i q1) H := hW
  refine lv_aload_n hx hb dX4_writeVersion_5 rfl (lv_at hl 0 rfl) ?_
  refine lv_dup hx hb dX4_writeVersion_6 rfl ?_
  refine x_get (i := i) (k := 4) (j := 0) (t := 15) hx hb hts i_4 hown hK hW ⟨hi, by decide⟩ rfl ⟨by decide, by decide, rfl⟩ (hts (.fieldLink RX4 77 "OpticalJukebox$State" "clock" "I") (by decide +kernel)) (sv_S rfl (fun _ => rfl) rfl) dX4_writeVersion_7 ?_
  refine lv_aload_n hx hb dX4_writeVersion_10 rfl (lv_at hl 0 rfl) ?_
  refine x_get (i := i) (k := 4) (j := 0) (t := 1) hx hb hts i_4 hown hK hW ⟨hi, by decide⟩ rfl ⟨by decide, by decide, rfl⟩ (hts (.fieldLink RX4 9 "OpticalJukebox$State" "times" "[I") (by decide +kernel)) (v := .ref (adr i 10 0)) rfl dX4_writeVersion_11 ?_
  refine lv_iconst (v := 4) hx hb dX4_writeVersion_14 (by decide) ?_
  refine x_iald (i := i) (k := 10) (j := 0) (f := q1 10 0) hx hb hK hW ⟨hi, by decide⟩ (by decide) (ct_S rfl (fun _ => rfl)) rfl (by unfold vp_in; decide) dX4_writeVersion_15 ?_
  refine W.eq (g2 := F0 m 16 ls [.int (q1 10 0 4), .int (q1 4 0 15), .ref (adr i 4 0)]) rfl ?_
  refine lv_iload_n hx hb dX4_writeVersion_16 rfl (lv_at hl 2 rfl) ?_
  refine lv_imul hx hb dX4_writeVersion_17 ?_
  refine lv_iadd hx hb dX4_writeVersion_18 ?_
  obtain ⟨sd2, e_sd2, hf⟩ := x_letE hf
  refine x_put (i := i) (k := 4) (j := 0) (t := 15) (w' := wS w i sd2) hx hb hts i_4 tyX4 tyX4_ok nmX4 hown hK hW ⟨hi, by decide⟩ hS rfl ⟨by decide, by decide, rfl⟩ (hts (.fieldLink RX4 77 "OpticalJukebox$State" "clock" "I") (by decide +kernel)) rfl (ty := .int) (by decide +kernel) rfl rfl ⟨rfl, rfl⟩ dX4_writeVersion_19 (fp_S e_sd2 rfl) (fun H locs hW hS => ?_)
  refine lv_aload_n hx hb dX4_writeVersion_22 rfl (lv_at hl 0 rfl) ?_
  refine lv_iload_n hx hb dX4_writeVersion_23 rfl (lv_at hl 1 rfl) ?_
  refine lv_iload_n hx hb dX4_writeVersion_24 rfl (lv_at hl 2 rfl) ?_
  refine lv_iload_n hx hb dX4_writeVersion_25 rfl (lv_at hl 3 rfl) ?_
  obtain ⟨q3, h_q3, hf⟩ := x_bindE hf
  refine x_cv0 (x_rV ⟨hx, hb, hml, hown, hts⟩ (ct_X4_addVersion l g w i hi sd2 (a1) (a2) (a3) h_q3) (cwV 3 hts gX4_writeVersion_X4_addVersion rfl rfl rfl (by decide +kernel) ⟨Nat.le_of_ble_eq_true rfl, Nat.le_of_ble_eq_true rfl⟩) hK hW hS (x_recv (i := i) (k := 4) (j := 0) hK hW ⟨hi, by decide⟩ rfl (by decide)) rfl hl.1 (rest := []) rfl (Nat.le_of_ble_eq_true rfl) dX4_writeVersion_26 ⟨Nat.le_of_ble_eq_true rfl, Nat.le_of_ble_eq_true rfl⟩) hS (fun H locs hW hS => ?_)
  have hW : World g (wS w i q3) H := hW
  cases hf
  exact x_vret hx hb hr hlocks hK hW hS dX4_writeVersion_29
abbrev rm_X4_closeInDrive : Room := { frames := 5, cells := 0, slots := 0, locals := 116 }
set_option maxRecDepth 100000 in
set_option maxHeartbeats 4000000 in
theorem ct_X4_closeInDrive (l : Launch) (g : GT) (w : WT) (i : Nat) (hi : i ∈ k_S w.1) (sd : SD) (a1 : Int32) {q : (Int32 × SD)} (hf : f_X4_closeInDrive sd a1 = some q) : Met l yX4_closeInDrive wsX4_closeInDrive rm_X4_closeInDrive (cPre g (wS w i sd) [.ref (adr i 4 0), .int a1]) (cQi g q.1 (wS w i q.2)) 0 0 (gA g) := by
  have i_4 : ∀ w ∈ u_ws RX4 TX4 18, w ∈ wsX4_closeInDrive := by decide +kernel
  refine x_met (by decide) rfl (Nat.le_of_ble_eq_true rfl) ?_
  intro p e s m below meth c hx hb hr hml hts hown hlocks hK hW hS ls hl
  have hown : s.vm.findClass RX4 = some m.cls := hown
  have hl : lv_has ls 3 [(0, .ref (adr i 4 0)), (1, .int a1)] := hl
  rw [f_X4_closeInDrive] at hf
  refine lv_aload_n hx hb dX4_closeInDrive_0 rfl (lv_at hl 0 rfl) ?_
  refine lv_iload_n hx hb dX4_closeInDrive_1 rfl (lv_at hl 1 rfl) ?_
  obtain ⟨q1, h_q1, hf⟩ := x_bindE hf
  refine x_cv0 (x_rV ⟨hx, hb, hml, hown, hts⟩ (ct_X4_bringToChosen l g w i hi sd (a1) h_q1) (cwV 1 hts gX4_closeInDrive_X4_bringToChosen rfl rfl rfl (by decide +kernel) ⟨Nat.le_of_ble_eq_true rfl, Nat.le_of_ble_eq_true rfl⟩) hK hW hS (x_recv (i := i) (k := 4) (j := 0) hK hW ⟨hi, by decide⟩ rfl (by decide)) rfl hl.1 (rest := []) rfl (Nat.le_of_ble_eq_true rfl) dX4_closeInDrive_2 ⟨Nat.le_of_ble_eq_true rfl, Nat.le_of_ble_eq_true rfl⟩) hS (fun H locs hW hS => ?_)
  have hW : World g (wS w i q1) H := hW
  refine lv_aload_n hx hb dX4_closeInDrive_5 rfl (lv_at hl 0 rfl) ?_
  refine x_get (i := i) (k := 4) (j := 0) (t := 5) hx hb hts i_4 hown hK hW ⟨hi, by decide⟩ rfl ⟨by decide, by decide, rfl⟩ (hts (.fieldLink RX4 23 "OpticalJukebox$State" "platters" "[LOpticalJukebox$Platter;") (by decide +kernel)) (v := .ref (adr i 12 0)) rfl dX4_closeInDrive_6 ?_
  refine lv_iload_n hx hb dX4_closeInDrive_9 rfl (lv_at hl 1 rfl) ?_
  obtain ⟨hg2, hf⟩ := x_guardE hf
  refine x_aald (i := i) (k := 12) (j := 0) hx hb hK hW ⟨hi, by decide⟩ (by decide) rfl rfl hg2 dX4_closeInDrive_10 ?_
  refine W.eq (g2 := F0 m 11 ls [.ref (adr i 3 (a1).toNatClampNeg)]) rfl ?_
  obtain ⟨q3, h_q3, hf⟩ := x_bindE hf
  refine x_ci0 (x_rV ⟨hx, hb, hml, hown, hts⟩ (ct_X3_addLeadOut l g w i hi q1 ((a1).toNatClampNeg) ((x_lt hg2)) h_q3) (cwV 0 hts gX4_closeInDrive_X3_addLeadOut rfl rfl rfl (by decide +kernel) ⟨Nat.le_of_ble_eq_true rfl, Nat.le_of_ble_eq_true rfl⟩) hK hW hS (x_recv (i := i) (k := 3) (j := (a1).toNatClampNeg) hK hW ⟨hi, (x_lt hg2)⟩ rfl (by decide)) rfl hl.1 (rest := []) rfl (Nat.le_of_ble_eq_true rfl) dX4_closeInDrive_11 ⟨Nat.le_of_ble_eq_true rfl, Nat.le_of_ble_eq_true rfl⟩) hS (fun H locs hW hS => ?_)
  have hW : World g (wS w i q3.2) H := hW
  refine W.eq (g2 := F0 m 14 ls [.int q3.1]) rfl ?_
  obtain ⟨x4, e_x4, hf⟩ := x_letE hf
  refine x_topi e_x4 ?_
  refine lv_istore_n (lv' := [(2, .int x4), (0, .ref (adr i 4 0)), (1, .int a1)]) hx hb dX4_closeInDrive_14 rfl hl (by decide) rfl (fun ls hl => ?_)
  refine lv_aload_n hx hb dX4_closeInDrive_15 rfl (lv_at hl 1 rfl) ?_
  refine lv_dup hx hb dX4_closeInDrive_16 rfl ?_
  refine x_get (i := i) (k := 4) (j := 0) (t := 15) hx hb hts i_4 hown hK hW ⟨hi, by decide⟩ rfl ⟨by decide, by decide, rfl⟩ (hts (.fieldLink RX4 77 "OpticalJukebox$State" "clock" "I") (by decide +kernel)) (sv_S rfl (fun _ => rfl) rfl) dX4_closeInDrive_17 ?_
  refine lv_aload_n hx hb dX4_closeInDrive_20 rfl (lv_at hl 1 rfl) ?_
  refine x_get (i := i) (k := 4) (j := 0) (t := 1) hx hb hts i_4 hown hK hW ⟨hi, by decide⟩ rfl ⟨by decide, by decide, rfl⟩ (hts (.fieldLink RX4 9 "OpticalJukebox$State" "times" "[I") (by decide +kernel)) (v := .ref (adr i 10 0)) rfl dX4_closeInDrive_21 ?_
  refine lv_iconst (v := 4) hx hb dX4_closeInDrive_24 (by decide) ?_
  refine x_iald (i := i) (k := 10) (j := 0) (f := q3.2 10 0) hx hb hK hW ⟨hi, by decide⟩ (by decide) (ct_S rfl (fun _ => rfl)) rfl (by unfold vp_in; decide) dX4_closeInDrive_25 ?_
  refine W.eq (g2 := F0 m 26 ls [.int (q3.2 10 0 4), .int (q3.2 4 0 15), .ref (adr i 4 0)]) rfl ?_
  refine lv_iload_n hx hb dX4_closeInDrive_26 rfl (lv_at hl 0 rfl) ?_
  refine lv_imul hx hb dX4_closeInDrive_27 ?_
  refine lv_iadd hx hb dX4_closeInDrive_28 ?_
  obtain ⟨sd5, e_sd5, hf⟩ := x_letE hf
  refine x_put (i := i) (k := 4) (j := 0) (t := 15) (w' := wS w i sd5) hx hb hts i_4 tyX4 tyX4_ok nmX4 hown hK hW ⟨hi, by decide⟩ hS rfl ⟨by decide, by decide, rfl⟩ (hts (.fieldLink RX4 77 "OpticalJukebox$State" "clock" "I") (by decide +kernel)) rfl (ty := .int) (by decide +kernel) rfl rfl ⟨rfl, rfl⟩ dX4_closeInDrive_29 (fp_S e_sd5 rfl) (fun H locs hW hS => ?_)
  refine lv_iload_n hx hb dX4_closeInDrive_32 rfl (lv_at hl 0 rfl) ?_
  cases hf
  exact x_iret hx hb hr hlocks hK hW hS rfl dX4_closeInDrive_33
abbrev rm_X4_removeRequest : Room := { frames := 0, cells := 0, slots := 0, locals := 0 }
set_option maxRecDepth 100000 in
set_option maxHeartbeats 4000000 in
theorem ct_X4_removeRequest (l : Launch) (g : GT) (w : WT) (i : Nat) (hi : i ∈ k_S w.1) (sd : SD) (a1 : Int32) {q : (Int32 × SD)} (hf : f_X4_removeRequest sd a1 = some q) : Met l yX4_removeRequest wsX4_removeRequest rm_X4_removeRequest (cPre g (wS w i sd) [.ref (adr i 4 0), .int a1]) (cQi g q.1 (wS w i q.2)) 0 0 (gA g) := by
  have i_4 : ∀ w ∈ u_ws RX4 TX4 18, w ∈ wsX4_removeRequest := by decide +kernel
  refine x_met (by decide) rfl (Nat.le_of_ble_eq_true rfl) ?_
  intro p e s m below meth c hx hb hr hml hts hown hlocks hK hW hS ls hl
  have hown : s.vm.findClass RX4 = some m.cls := hown
  have hl : lv_has ls 4 [(0, .ref (adr i 4 0)), (1, .int a1)] := hl
  rw [f_X4_removeRequest] at hf
  refine lv_aload_n hx hb dX4_removeRequest_0 rfl (lv_at hl 0 rfl) ?_
  refine x_get (i := i) (k := 4) (j := 0) (t := 12) hx hb hts i_4 hown hK hW ⟨hi, by decide⟩ rfl ⟨by decide, by decide, rfl⟩ (hts (.fieldLink RX4 36 "OpticalJukebox$State" "requests" "[I") (by decide +kernel)) (v := .ref (adr i 15 0)) rfl dX4_removeRequest_1 ?_
  refine lv_iload_n hx hb dX4_removeRequest_4 rfl (lv_at hl 1 rfl) ?_
  obtain ⟨hg1, hf⟩ := x_guardE hf
  refine x_iald (i := i) (k := 15) (j := 0) (f := sd 15 0) hx hb hK hW ⟨hi, by decide⟩ (by decide) (ct_S rfl (fun _ => rfl)) rfl hg1 dX4_removeRequest_5 ?_
  obtain ⟨x2, e_x2, hf⟩ := x_letE hf
  refine x_topi e_x2 ?_
  refine lv_istore_n (lv' := [(2, .int x2), (0, .ref (adr i 4 0)), (1, .int a1)]) hx hb dX4_removeRequest_6 rfl hl (by decide) rfl (fun ls hl => ?_)
  refine lv_aload_n hx hb dX4_removeRequest_7 rfl (lv_at hl 1 rfl) ?_
  refine lv_dup hx hb dX4_removeRequest_8 rfl ?_
  refine x_get (i := i) (k := 4) (j := 0) (t := 13) hx hb hts i_4 hown hK hW ⟨hi, by decide⟩ rfl ⟨by decide, by decide, rfl⟩ (hts (.fieldLink RX4 71 "OpticalJukebox$State" "requestCount" "I") (by decide +kernel)) (sv_S rfl (fun _ => rfl) rfl) dX4_removeRequest_9 ?_
  refine lv_iconst (v := 1) hx hb dX4_removeRequest_12 (by decide) ?_
  refine lv_isub hx hb dX4_removeRequest_13 ?_
  obtain ⟨sd3, e_sd3, hf⟩ := x_letE hf
  refine x_put (i := i) (k := 4) (j := 0) (t := 13) (w' := wS w i sd3) hx hb hts i_4 tyX4 tyX4_ok nmX4 hown hK hW ⟨hi, by decide⟩ hS rfl ⟨by decide, by decide, rfl⟩ (hts (.fieldLink RX4 71 "OpticalJukebox$State" "requestCount" "I") (by decide +kernel)) rfl (ty := .int) (by decide +kernel) rfl rfl ⟨rfl, rfl⟩ dX4_removeRequest_14 (fp_S e_sd3 rfl) (fun H locs hW hS => ?_)
  refine lv_iload_n hx hb dX4_removeRequest_17 rfl (lv_at hl 2 rfl) ?_
  refine lv_istore_n (lv' := [(3, .int a1), (2, .int x2), (0, .ref (adr i 4 0)), (1, .int a1)]) hx hb dX4_removeRequest_18 rfl hl (by decide) rfl (fun ls hl => ?_)
  have L19 : ∀ (n : Nat) (v3_19 : Int32) (sd_19 : SD) (ls : Array Slot) (H : Heap) (locs : List Loc), lv_has ls 4 [(0, .ref (adr i 4 0)), (1, .int a1), (2, .int x2), (3, .int v3_19)] → World g (wS w i sd_19) H → va_S (gA g) s.heap H locs → f_X4_removeRequest_L19 x2 n v3_19 sd_19 = some q → W p l e rm_X4_removeRequest s m [.ref (adr i 4 0), .int a1].toArray below meth c H locs 0 0 (MQ below (cQi g q.1 (wS w i q.2)) [.ref (adr i 4 0), .int a1].toArray s 0 0 (gA g)) (F0 m 19 ls []) := by
    clear hW hS hl
    intro n
    induction n with
    | zero => intro v3_19 sd_19 ls H locs hl hW hS hf; cases hf
    | succ n_19 ih =>
      intro v3_19 sd_19 ls H locs hl hW hS hf
      rw [f_X4_removeRequest_L19] at hf
      refine lv_iload_n hx hb dX4_removeRequest_19 rfl (lv_at hl 3 rfl) ?_
      refine lv_aload_n hx hb dX4_removeRequest_20 rfl (lv_at hl 0 rfl) ?_
      refine x_get (i := i) (k := 4) (j := 0) (t := 13) hx hb hts i_4 hown hK hW ⟨hi, by decide⟩ rfl ⟨by decide, by decide, rfl⟩ (hts (.fieldLink RX4 71 "OpticalJukebox$State" "requestCount" "I") (by decide +kernel)) (sv_S rfl (fun _ => rfl) rfl) dX4_removeRequest_21 ?_
      refine lv_icmp_ge (tgt := 47) hx hb dX4_removeRequest_24 (by decide) (fun hc => ?_) (fun hc => ?_)
      · have hf := x_iteT hf hc
        refine lv_iload_n hx hb dX4_removeRequest_47 rfl (lv_at hl 2 rfl) ?_
        cases hf
        exact x_iret hx hb hr hlocks hK hW hS rfl dX4_removeRequest_48
      · have hf := x_iteF hf hc
        refine lv_aload_n hx hb dX4_removeRequest_27 rfl (lv_at hl 0 rfl) ?_
        refine x_get (i := i) (k := 4) (j := 0) (t := 12) hx hb hts i_4 hown hK hW ⟨hi, by decide⟩ rfl ⟨by decide, by decide, rfl⟩ (hts (.fieldLink RX4 36 "OpticalJukebox$State" "requests" "[I") (by decide +kernel)) (v := .ref (adr i 15 0)) rfl dX4_removeRequest_28 ?_
        refine lv_iload_n hx hb dX4_removeRequest_31 rfl (lv_at hl 3 rfl) ?_
        refine lv_aload_n hx hb dX4_removeRequest_32 rfl (lv_at hl 0 rfl) ?_
        refine x_get (i := i) (k := 4) (j := 0) (t := 12) hx hb hts i_4 hown hK hW ⟨hi, by decide⟩ rfl ⟨by decide, by decide, rfl⟩ (hts (.fieldLink RX4 36 "OpticalJukebox$State" "requests" "[I") (by decide +kernel)) (v := .ref (adr i 15 0)) rfl dX4_removeRequest_33 ?_
        refine lv_iload_n hx hb dX4_removeRequest_36 rfl (lv_at hl 3 rfl) ?_
        refine lv_iconst (v := 1) hx hb dX4_removeRequest_37 (by decide) ?_
        refine lv_iadd hx hb dX4_removeRequest_38 ?_
        obtain ⟨hg4, hf⟩ := x_guardE hf
        refine x_iald (i := i) (k := 15) (j := 0) (f := sd_19 15 0) hx hb hK hW ⟨hi, by decide⟩ (by decide) (ct_S rfl (fun _ => rfl)) rfl hg4 dX4_removeRequest_39 ?_
        obtain ⟨hg5, hf⟩ := x_guardE hf
        obtain ⟨sd6, e_sd6, hf⟩ := x_letE hf
        refine x_iast (i := i) (k := 15) (j := 0) (w' := wS w i sd6) hx hb hK hW ⟨hi, by decide⟩ hS (by decide) rfl rfl rfl hg5 dX4_removeRequest_40 (fp_S e_sd6 rfl) (fun H locs hW hS => ?_)
        obtain ⟨x7, e_x7, hf⟩ := x_letE hf
        refine lv_iinc (v := x7) (lv' := [(3, .int x7), (0, .ref (adr i 4 0)), (1, .int a1), (2, .int x2)]) hx hb dX4_removeRequest_41 hl (k := 3) rfl (by rw [e_x7]; rfl) (by decide) rfl (fun ls hl => ?_)
        refine lv_goto (tgt := 19) hx hb dX4_removeRequest_44 (by decide) ?_
        exact ih (x7) (sd6) ls _ _ (lv_sub hl [1, 2, 3, 0] rfl) hW hS hf
  exact L19 fuel (a1) (sd3) ls _ _ (lv_sub hl [2, 3, 1, 0] rfl) hW hS hf
abbrev rm_X4_readRequestsIn : Room := { frames := 1, cells := 0, slots := 0, locals := 21 }
set_option maxRecDepth 100000 in
set_option maxHeartbeats 4000000 in
theorem ct_X4_readRequestsIn (l : Launch) (g : GT) (w : WT) (i : Nat) (hi : i ∈ k_S w.1) (sd : SD) (a1 : Int32) {q : SD} (hf : f_X4_readRequestsIn sd a1 = some q) : Met l yX4_readRequestsIn wsX4_readRequestsIn rm_X4_readRequestsIn (cPre g (wS w i sd) [.ref (adr i 4 0), .int a1]) (cQv g (wS w i q)) 0 0 (gA g) := by
  have i_0 : ∀ w ∈ u_ws RX0 TX0 3, w ∈ wsX4_readRequestsIn := by decide +kernel
  have i_4 : ∀ w ∈ u_ws RX4 TX4 18, w ∈ wsX4_readRequestsIn := by decide +kernel
  have i_6 : ∀ w ∈ u_ws RX6 TX6 7, w ∈ wsX4_readRequestsIn := by decide +kernel
  refine x_met (by decide) rfl (Nat.le_of_ble_eq_true rfl) ?_
  intro p e s m below meth c hx hb hr hml hts hown hlocks hK hW hS ls hl
  have hown : s.vm.findClass RX4 = some m.cls := hown
  have hl : lv_has ls 4 [(0, .ref (adr i 4 0)), (1, .int a1)] := hl
  rw [f_X4_readRequestsIn] at hf
  refine lv_iconst (v := 0) hx hb dX4_readRequestsIn_0 (by decide) ?_
  refine lv_istore_n (lv' := [(2, .int (0 : Int32)), (0, .ref (adr i 4 0)), (1, .int a1)]) hx hb dX4_readRequestsIn_1 rfl hl (by decide) rfl (fun ls hl => ?_)
  have L2 : ∀ (n : Nat) (v2_2 : Int32) (sd_2 : SD) (ls : Array Slot) (H : Heap) (locs : List Loc), lv_has ls 4 [(0, .ref (adr i 4 0)), (1, .int a1), (2, .int v2_2)] → World g (wS w i sd_2) H → va_S (gA g) s.heap H locs → f_X4_readRequestsIn_L2 a1 n v2_2 sd_2 = some q → W p l e rm_X4_readRequestsIn s m [.ref (adr i 4 0), .int a1].toArray below meth c H locs 0 0 (MQ below (cQv g (wS w i q)) [.ref (adr i 4 0), .int a1].toArray s 0 0 (gA g)) (F0 m 2 ls []) := by
    clear hW hS hl
    intro n
    induction n with
    | zero => intro v2_2 sd_2 ls H locs hl hW hS hf; cases hf
    | succ n_2 ih =>
      intro v2_2 sd_2 ls H locs hl hW hS hf
      rw [f_X4_readRequestsIn_L2] at hf
      refine lv_iload_n hx hb dX4_readRequestsIn_2 rfl (lv_at hl 2 rfl) ?_
      refine lv_aload_n hx hb dX4_readRequestsIn_3 rfl (lv_at hl 0 rfl) ?_
      refine x_get (i := i) (k := 4) (j := 0) (t := 13) hx hb hts i_4 hown hK hW ⟨hi, by decide⟩ rfl ⟨by decide, by decide, rfl⟩ (hts (.fieldLink RX4 71 "OpticalJukebox$State" "requestCount" "I") (by decide +kernel)) (sv_S rfl (fun _ => rfl) rfl) dX4_readRequestsIn_4 ?_
      refine lv_icmp_ge (tgt := 62) hx hb dX4_readRequestsIn_7 (by decide) (fun hc => ?_) (fun hc => ?_)
      · have hf := x_iteT hf hc
        cases hf
        exact x_vret hx hb hr hlocks hK hW hS dX4_readRequestsIn_62
      · have hf := x_iteF hf hc
        refine lv_aload_n hx hb dX4_readRequestsIn_10 rfl (lv_at hl 0 rfl) ?_
        refine lv_aload_n hx hb dX4_readRequestsIn_11 rfl (lv_at hl 0 rfl) ?_
        refine x_get (i := i) (k := 4) (j := 0) (t := 12) hx hb hts i_4 hown hK hW ⟨hi, by decide⟩ rfl ⟨by decide, by decide, rfl⟩ (hts (.fieldLink RX4 36 "OpticalJukebox$State" "requests" "[I") (by decide +kernel)) (v := .ref (adr i 15 0)) rfl dX4_readRequestsIn_12 ?_
        refine lv_iload_n hx hb dX4_readRequestsIn_15 rfl (lv_at hl 2 rfl) ?_
        obtain ⟨hg1, hf⟩ := x_guardE hf
        refine x_iald (i := i) (k := 15) (j := 0) (f := sd_2 15 0) hx hb hK hW ⟨hi, by decide⟩ (by decide) (ct_S rfl (fun _ => rfl)) rfl hg1 dX4_readRequestsIn_16 ?_
        obtain ⟨q2, h_q2, hf⟩ := x_bindE hf
        refine x_cr0 (x_rV ⟨hx, hb, hml, hown, hts⟩ (ct_X4_currentVersion l g w i hi sd_2 ((sd_2 15 0 (v2_2).toNatClampNeg)) h_q2) (cwV 1 hts gX4_readRequestsIn_X4_currentVersion rfl rfl rfl (by decide +kernel) ⟨Nat.le_of_ble_eq_true rfl, Nat.le_of_ble_eq_true rfl⟩) hK hW hS (x_recv (i := i) (k := 4) (j := 0) hK hW ⟨hi, by decide⟩ rfl (by decide)) rfl hl.1 (rest := []) rfl (Nat.le_of_ble_eq_true rfl) dX4_readRequestsIn_17 ⟨Nat.le_of_ble_eq_true rfl, Nat.le_of_ble_eq_true rfl⟩) hS (fun H locs hW hS => ?_)
        have hW : World g (wS w i sd_2) H := hW
        refine W.eq (g2 := F0 m 20 ls [.ref (adr i 6 q2)]) rfl ?_
        refine lv_astore_n (lv' := [(3, .ref (adr i 6 q2)), (0, .ref (adr i 4 0)), (1, .int a1), (2, .int v2_2)]) hx hb dX4_readRequestsIn_20 rfl hl (by decide) rfl (fun ls hl => ?_)
        refine lv_aload_n hx hb dX4_readRequestsIn_21 rfl (lv_at hl 0 rfl) ?_
        refine x_get (i := i) (k := 6) (j := q2) (t := 1) hx hb hts i_6 hown hK hW ⟨hi, (b_X4_currentVersion h_q2)⟩ rfl ⟨by decide, by decide, rfl⟩ (hts (.fieldLink RX4 134 "OpticalJukebox$Version" "platter" "I") (by decide +kernel)) (sv_S rfl (fun _ => rfl) rfl) dX4_readRequestsIn_22 ?_
        refine lv_aload_n hx hb dX4_readRequestsIn_25 rfl (lv_at hl 1 rfl) ?_
        refine x_get (i := i) (k := 4) (j := 0) (t := 2) hx hb hts i_4 hown hK hW ⟨hi, by decide⟩ rfl ⟨by decide, by decide, rfl⟩ (hts (.fieldLink RX4 17 "OpticalJukebox$State" "drives" "[LOpticalJukebox$Drive;") (by decide +kernel)) (v := .ref (adr i 11 0)) rfl dX4_readRequestsIn_26 ?_
        refine lv_iload_n hx hb dX4_readRequestsIn_29 rfl (lv_at hl 2 rfl) ?_
        obtain ⟨hg3, hf⟩ := x_guardE hf
        refine x_aald (i := i) (k := 11) (j := 0) hx hb hK hW ⟨hi, by decide⟩ (by decide) rfl rfl hg3 dX4_readRequestsIn_30 ?_
        refine W.eq (g2 := F0 m 31 ls [.ref (adr i 0 (a1).toNatClampNeg), .int (sd_2 6 q2 1)]) rfl ?_
        refine x_get (i := i) (k := 0) (j := (a1).toNatClampNeg) (t := 1) hx hb hts i_0 hown hK hW ⟨hi, (x_lt hg3)⟩ rfl ⟨by decide, by decide, rfl⟩ (hts (.fieldLink RX4 115 "OpticalJukebox$Drive" "platter" "I") (by decide +kernel)) (sv_S rfl (fun _ => rfl) rfl) dX4_readRequestsIn_31 ?_
        refine lv_icmp_ne (tgt := 56) hx hb dX4_readRequestsIn_34 (by decide) (fun hc => ?_) (fun hc => ?_)
        · have hf := x_iteF hf hc
          obtain ⟨x4, e_x4, hf⟩ := x_letE hf
          refine lv_iinc (v := x4) (lv' := [(2, .int x4), (3, .ref (adr i 6 q2)), (0, .ref (adr i 4 0)), (1, .int a1)]) hx hb dX4_readRequestsIn_56 hl (k := 3) rfl (by rw [e_x4]; rfl) (by decide) rfl (fun ls hl => ?_)
          refine lv_goto (tgt := 2) hx hb dX4_readRequestsIn_59 (by decide) ?_
          exact ih (x4) (sd_2) ls _ _ (lv_sub hl [2, 3, 0] rfl) hW hS hf
        · have hf := x_iteT hf hc
          refine lv_aload_n hx hb dX4_readRequestsIn_37 rfl (lv_at hl 1 rfl) ?_
          refine lv_dup hx hb dX4_readRequestsIn_38 rfl ?_
          refine x_get (i := i) (k := 4) (j := 0) (t := 15) hx hb hts i_4 hown hK hW ⟨hi, by decide⟩ rfl ⟨by decide, by decide, rfl⟩ (hts (.fieldLink RX4 77 "OpticalJukebox$State" "clock" "I") (by decide +kernel)) (sv_S rfl (fun _ => rfl) rfl) dX4_readRequestsIn_39 ?_
          refine lv_aload_n hx hb dX4_readRequestsIn_42 rfl (lv_at hl 1 rfl) ?_
          refine lv_aload_n hx hb dX4_readRequestsIn_43 rfl (lv_at hl 0 rfl) ?_
          obtain ⟨q5, h_q5, hf⟩ := x_bindE hf
          refine x_ci0 (x_rV ⟨hx, hb, hml, hown, hts⟩ (ct_X4_sectorsReadTime l g w i hi sd_2 (q2) ((b_X4_currentVersion h_q2)) h_q5) (cwV 1 hts gX4_readRequestsIn_X4_sectorsReadTime rfl rfl rfl (by decide +kernel) ⟨Nat.le_of_ble_eq_true rfl, Nat.le_of_ble_eq_true rfl⟩) hK hW hS (x_recv (i := i) (k := 4) (j := 0) hK hW ⟨hi, by decide⟩ rfl (by decide)) rfl hl.1 (rest := [.int (sd_2 4 0 15), .ref (adr i 4 0)]) rfl (Nat.le_of_ble_eq_true rfl) dX4_readRequestsIn_44 ⟨Nat.le_of_ble_eq_true rfl, Nat.le_of_ble_eq_true rfl⟩) hS (fun H locs hW hS => ?_)
          have hW : World g (wS w i sd_2) H := hW
          refine W.eq (g2 := F0 m 47 ls [.int q5, .int (sd_2 4 0 15), .ref (adr i 4 0)]) rfl ?_
          refine lv_iadd hx hb dX4_readRequestsIn_47 ?_
          obtain ⟨sd6, e_sd6, hf⟩ := x_letE hf
          refine x_put (i := i) (k := 4) (j := 0) (t := 15) (w' := wS w i sd6) hx hb hts i_4 tyX4 tyX4_ok nmX4 hown hK hW ⟨hi, by decide⟩ hS rfl ⟨by decide, by decide, rfl⟩ (hts (.fieldLink RX4 77 "OpticalJukebox$State" "clock" "I") (by decide +kernel)) rfl (ty := .int) (by decide +kernel) rfl rfl ⟨rfl, rfl⟩ dX4_readRequestsIn_48 (fp_S e_sd6 rfl) (fun H locs hW hS => ?_)
          refine lv_aload_n hx hb dX4_readRequestsIn_51 rfl (lv_at hl 1 rfl) ?_
          refine lv_iload_n hx hb dX4_readRequestsIn_52 rfl (lv_at hl 2 rfl) ?_
          obtain ⟨q7, h_q7, hf⟩ := x_bindE hf
          refine x_cv0 (x_rV ⟨hx, hb, hml, hown, hts⟩ (ct_X4_useDrive l g w i hi sd6 (a1) h_q7) (cwV 1 hts gX4_readRequestsIn_X4_useDrive rfl rfl rfl (by decide +kernel) ⟨Nat.le_of_ble_eq_true rfl, Nat.le_of_ble_eq_true rfl⟩) hK hW hS (x_recv (i := i) (k := 4) (j := 0) hK hW ⟨hi, by decide⟩ rfl (by decide)) rfl hl.1 (rest := []) rfl (Nat.le_of_ble_eq_true rfl) dX4_readRequestsIn_53 ⟨Nat.le_of_ble_eq_true rfl, Nat.le_of_ble_eq_true rfl⟩) hS (fun H locs hW hS => ?_)
          have hW : World g (wS w i q7) H := hW
          obtain ⟨x8, e_x8, hf⟩ := x_letE hf
          refine lv_iinc (v := x8) (lv' := [(2, .int x8), (3, .ref (adr i 6 q2)), (0, .ref (adr i 4 0)), (1, .int a1)]) hx hb dX4_readRequestsIn_56 hl (k := 3) rfl (by rw [e_x8]; rfl) (by decide) rfl (fun ls hl => ?_)
          refine lv_goto (tgt := 2) hx hb dX4_readRequestsIn_59 (by decide) ?_
          exact ih (x8) (q7) ls _ _ (lv_sub hl [2, 3, 0] rfl) hW hS hf
  exact L2 fuel ((0 : Int32)) (sd) ls _ _ (lv_sub hl [1, 2, 0] rfl) hW hS hf
abbrev rm_X4_readInDrives : Room := { frames := 2, cells := 0, slots := 0, locals := 44 }
set_option maxRecDepth 100000 in
set_option maxHeartbeats 4000000 in
theorem ct_X4_readInDrives (l : Launch) (g : GT) (w : WT) (i : Nat) (hi : i ∈ k_S w.1) (sd : SD) {q : SD} (hf : f_X4_readInDrives sd  = some q) : Met l yX4_readInDrives wsX4_readInDrives rm_X4_readInDrives (cPre g (wS w i sd) [.ref (adr i 4 0)]) (cQv g (wS w i q)) 0 0 (gA g) := by
  have i_4 : ∀ w ∈ u_ws RX4 TX4 18, w ∈ wsX4_readInDrives := by decide +kernel
  refine x_met (by decide) rfl (Nat.le_of_ble_eq_true rfl) ?_
  intro p e s m below meth c hx hb hr hml hts hown hlocks hK hW hS ls hl
  have hown : s.vm.findClass RX4 = some m.cls := hown
  have hl : lv_has ls 2 [(0, .ref (adr i 4 0))] := hl
  rw [f_X4_readInDrives] at hf
  refine lv_iconst (v := 0) hx hb dX4_readInDrives_0 (by decide) ?_
  refine lv_istore_n (lv' := [(1, .int (0 : Int32)), (0, .ref (adr i 4 0))]) hx hb dX4_readInDrives_1 rfl hl (by decide) rfl (fun ls hl => ?_)
  have L2 : ∀ (n : Nat) (v1_2 : Int32) (sd_2 : SD) (ls : Array Slot) (H : Heap) (locs : List Loc), lv_has ls 2 [(0, .ref (adr i 4 0)), (1, .int v1_2)] → World g (wS w i sd_2) H → va_S (gA g) s.heap H locs → f_X4_readInDrives_L2  n v1_2 sd_2 = some q → W p l e rm_X4_readInDrives s m [.ref (adr i 4 0)].toArray below meth c H locs 0 0 (MQ below (cQv g (wS w i q)) [.ref (adr i 4 0)].toArray s 0 0 (gA g)) (F0 m 2 ls []) := by
    clear hW hS hl
    intro n
    induction n with
    | zero => intro v1_2 sd_2 ls H locs hl hW hS hf; cases hf
    | succ n_2 ih =>
      intro v1_2 sd_2 ls H locs hl hW hS hf
      rw [f_X4_readInDrives_L2] at hf
      refine lv_iload_n hx hb dX4_readInDrives_2 rfl (lv_at hl 1 rfl) ?_
      refine lv_aload_n hx hb dX4_readInDrives_3 rfl (lv_at hl 0 rfl) ?_
      refine x_get (i := i) (k := 4) (j := 0) (t := 3) hx hb hts i_4 hown hK hW ⟨hi, by decide⟩ rfl ⟨by decide, by decide, rfl⟩ (hts (.fieldLink RX4 53 "OpticalJukebox$State" "driveCount" "I") (by decide +kernel)) (sv_S rfl (fun _ => rfl) rfl) dX4_readInDrives_4 ?_
      refine lv_icmp_ge (tgt := 21) hx hb dX4_readInDrives_7 (by decide) (fun hc => ?_) (fun hc => ?_)
      · have hf := x_iteT hf hc
        cases hf
        exact x_vret hx hb hr hlocks hK hW hS dX4_readInDrives_21
      · have hf := x_iteF hf hc
        refine lv_aload_n hx hb dX4_readInDrives_10 rfl (lv_at hl 0 rfl) ?_
        refine lv_iload_n hx hb dX4_readInDrives_11 rfl (lv_at hl 1 rfl) ?_
        obtain ⟨q1, h_q1, hf⟩ := x_bindE hf
        refine x_cv0 (x_rV ⟨hx, hb, hml, hown, hts⟩ (ct_X4_readRequestsIn l g w i hi sd_2 (v1_2) h_q1) (cwV 1 hts gX4_readInDrives_X4_readRequestsIn rfl rfl rfl (by decide +kernel) ⟨Nat.le_of_ble_eq_true rfl, Nat.le_of_ble_eq_true rfl⟩) hK hW hS (x_recv (i := i) (k := 4) (j := 0) hK hW ⟨hi, by decide⟩ rfl (by decide)) rfl hl.1 (rest := []) rfl (Nat.le_of_ble_eq_true rfl) dX4_readInDrives_12 ⟨Nat.le_of_ble_eq_true rfl, Nat.le_of_ble_eq_true rfl⟩) hS (fun H locs hW hS => ?_)
        have hW : World g (wS w i q1) H := hW
        obtain ⟨x2, e_x2, hf⟩ := x_letE hf
        refine lv_iinc (v := x2) (lv' := [(1, .int x2), (0, .ref (adr i 4 0))]) hx hb dX4_readInDrives_15 hl (k := 1) rfl (by rw [e_x2]; rfl) (by decide) rfl (fun ls hl => ?_)
        refine lv_goto (tgt := 2) hx hb dX4_readInDrives_18 (by decide) ?_
        exact ih (x2) (q1) ls _ _ (lv_sub hl [1, 0] rfl) hW hS hf
  exact L2 fuel ((0 : Int32)) (sd) ls _ _ (lv_sub hl [1, 0] rfl) hW hS hf
