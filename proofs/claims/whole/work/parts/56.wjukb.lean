theorem keepc_st {cs c1 : CT} {q : Nat} (h : f_X1_keep_c cs q = some c1) : k_st c1 = k_st cs := by
  unfold f_X1_keep_c at h
  obtain ⟨-, h⟩ := x_guardE h
  obtain ⟨sd, -, h⟩ := x_bindE h
  obtain ⟨c2, rfl, h⟩ := x_letE h
  split at h <;> cases h <;> rfl
theorem keep_st {cs c1 : CT} (h : f_X1_keep cs = some c1) : k_st c1 = k_st cs := by
  unfold f_X1_keep at h
  obtain ⟨p, rfl, h⟩ := x_letE h
  obtain ⟨-, h⟩ := x_guardE h
  split at h
  · exact keepc_st h
  · obtain ⟨c2, h2, h⟩ := x_bindE h
    obtain ⟨c3, rfl, h⟩ := x_letE h
    have h1 := keepc_st h
    unfold f_newState at h2
    obtain ⟨sd, -, h2⟩ := x_bindE h2
    cases h2
    exact h1
theorem remember_st {cs c1 : CT} (h : f_X7_remember cs = some c1) : k_st c1 = k_st cs := by
  unfold f_X7_remember at h
  obtain ⟨c2, h2, h⟩ := x_bindE h
  rw [← keep_st h2]
  unfold f_X7_forgetPlan at h
  split at h
  · cases h; rfl
  · obtain ⟨pd, -, h⟩ := x_bindE h
    cases h
    rfl
theorem remember_in {cs c1 : CT} {S : List Nat} (h : f_X7_remember cs = some c1) (hs : k_st c1 ∈ S) : k_st cs ∈ S := by
  rw [← remember_st h]
  exact hs
set_option maxRecDepth 20000 in
theorem ggX7_filesOn_X4_hasPlatter : GoodIn wsX7_filesOn wsX4_hasPlatter := goodIn_r _ [7, 8, 30, 31, 32, 33, 34, 35, 36, 37, 38, 39, 40, 41, 42, 43, 44, 45, 46, 47] (by decide +kernel) (by decide +kernel)
set_option maxRecDepth 20000 in
theorem gX7_filesOn_X4_hasPlatter : GoodIn wsX7_filesOn (wsV RX7 74 RX4 yX4_hasPlatter wsX4_hasPlatter) := goodIn_app (goodIn_of _ (by decide +kernel)) ggX7_filesOn_X4_hasPlatter
set_option maxRecDepth 20000 in
theorem ggX7_filesOn_X4_countFiles : GoodIn wsX7_filesOn wsX4_countFiles := goodIn_r _ [12, 13, 14, 15, 16, 17, 6, 18, 19, 20, 30, 31, 32, 33, 34, 35, 36, 37, 38, 39, 40, 41, 42, 43, 44, 45, 46, 47, 48, 49, 50, 51, 52, 53, 54] (by decide +kernel) (by decide +kernel)
set_option maxRecDepth 20000 in
theorem gX7_filesOn_X4_countFiles : GoodIn wsX7_filesOn (wsV RX7 253 RX4 yX4_countFiles wsX4_countFiles) := goodIn_app (goodIn_of _ (by decide +kernel)) ggX7_filesOn_X4_countFiles
theorem dX7_filesOn_0 : decode cX7_filesOn 0 = .ok (.aload_n 0, 1) := by decide +kernel
theorem dX7_filesOn_1 : decode cX7_filesOn 1 = .ok (.getfield 19, 3) := by decide +kernel
theorem dX7_filesOn_4 : decode cX7_filesOn 4 = .ok (.iload_n 1, 1) := by decide +kernel
theorem dX7_filesOn_5 : decode cX7_filesOn 5 = .ok (.invokevirtual 74, 3) := by decide +kernel
theorem dX7_filesOn_8 : decode cX7_filesOn 8 = .ok (.ifCond .eq 14, 3) := by decide +kernel
theorem dX7_filesOn_11 : decode cX7_filesOn 11 = .ok (.aload_n 0, 1) := by decide +kernel
theorem dX7_filesOn_12 : decode cX7_filesOn 12 = .ok (.getfield 19, 3) := by decide +kernel
theorem dX7_filesOn_15 : decode cX7_filesOn 15 = .ok (.iload_n 1, 1) := by decide +kernel
theorem dX7_filesOn_16 : decode cX7_filesOn 16 = .ok (.invokevirtual 253, 3) := by decide +kernel
theorem dX7_filesOn_19 : decode cX7_filesOn 19 = .ok (.goto 5, 3) := by decide +kernel
theorem dX7_filesOn_22 : decode cX7_filesOn 22 = .ok (.ldc 87, 2) := by decide +kernel
theorem dX7_filesOn_24 : decode cX7_filesOn 24 = .ok (.ireturn, 1) := by decide +kernel
set_option maxRecDepth 20000 in
theorem ggX7_mount_X7_mountProblem : GoodIn wsX7_mount wsX7_mountProblem := goodIn_r _ [7, 1, 8, 9, 10, 11, 12, 13, 14, 15, 16, 173, 174, 175, 176, 177, 178, 179, 180, 181, 182, 183, 184, 185, 186, 187, 188, 189, 190, 191, 192, 193, 194, 195, 196, 197, 198, 199] (by decide +kernel) (by decide +kernel)
set_option maxRecDepth 20000 in
theorem gX7_mount_X7_mountProblem : GoodIn wsX7_mount (wsV RX7 125 RX7 yX7_mountProblem wsX7_mountProblem) := goodIn_app (goodIn_of _ (by decide +kernel)) ggX7_mount_X7_mountProblem
set_option maxRecDepth 20000 in
theorem ggX7_mount_X7_remember : GoodIn wsX7_mount wsX7_remember := goodIn_r _ [20, 21, 1, 22, 23, 24, 25, 26, 27, 28, 29, 30, 31, 14, 32, 33, 34, 35, 36, 37, 38, 39, 40, 41, 42, 43, 44, 45, 46, 47, 48, 49, 50, 51, 52, 53, 54, 55, 56, 57, 58, 59, 60, 61, 62, 63, 64, 65, 66, 67, 68, 69, 70, 71, 72, 16, 73, 74, 75, 76, 77, 78, 79, 80, 81, 82, 83, 84, 85, 86, 87, 88, 89, 90, 91, 92, 93, 94, 95, 96, 97, 98, 99, 100, 101, 102, 103, 104, 105, 106, 107, 108, 109, 110, 111, 112, 113, 114, 115, 116, 117, 118, 119, 120, 121, 122, 123, 124, 6, 125, 126, 127, 128, 129, 130, 131, 132, 173, 174, 175, 176, 177, 178, 179, 180, 181, 200, 201, 202, 182, 183, 184, 185, 186, 187, 188, 189, 190, 191, 192, 193, 194, 195, 196, 197, 198, 199, 203, 204, 205, 206, 207, 208, 209, 210, 211, 212, 213, 214, 215, 216, 217, 218, 219, 220, 221, 222, 223, 224, 225, 226, 227] (by decide +kernel) (by decide +kernel)
set_option maxRecDepth 20000 in
theorem gX7_mount_X7_remember : GoodIn wsX7_mount (wsV RX7 256 RX7 yX7_remember wsX7_remember) := goodIn_app (goodIn_of _ (by decide +kernel)) ggX7_mount_X7_remember
set_option maxRecDepth 20000 in
theorem ggX7_mount_X4_bringToChosen : GoodIn wsX7_mount wsX4_bringToChosen := goodIn_r _ [136, 137, 138, 139, 14, 140, 141, 142, 143, 144, 71, 41, 145, 146, 147, 148, 149, 72, 150, 151, 152, 153, 154, 78, 80, 155, 77, 79, 156, 157, 158, 159, 39, 160, 161, 162, 163, 43, 164, 165, 166, 167, 168, 169, 170, 171, 172, 182, 183, 184, 185, 186, 187, 188, 189, 190, 191, 192, 193, 194, 195, 196, 197, 198, 199, 203, 204, 205, 206, 207, 208, 209, 210, 211, 212, 213, 214] (by decide +kernel) (by decide +kernel)
set_option maxRecDepth 20000 in
theorem gX7_mount_X4_bringToChosen : GoodIn wsX7_mount (wsV RX7 259 RX4 yX4_bringToChosen wsX4_bringToChosen) := goodIn_app (goodIn_of _ (by decide +kernel)) ggX7_mount_X4_bringToChosen
theorem dX7_mount_0 : decode cX7_mount 0 = .ok (.aload_n 0, 1) := by decide +kernel
theorem dX7_mount_1 : decode cX7_mount 1 = .ok (.iload_n 1, 1) := by decide +kernel
theorem dX7_mount_2 : decode cX7_mount 2 = .ok (.invokevirtual 125, 3) := by decide +kernel
theorem dX7_mount_5 : decode cX7_mount 5 = .ok (.istore_n 2, 1) := by decide +kernel
theorem dX7_mount_6 : decode cX7_mount 6 = .ok (.iload_n 2, 1) := by decide +kernel
theorem dX7_mount_7 : decode cX7_mount 7 = .ok (.ifCond .eq 5, 3) := by decide +kernel
theorem dX7_mount_10 : decode cX7_mount 10 = .ok (.iload_n 2, 1) := by decide +kernel
theorem dX7_mount_11 : decode cX7_mount 11 = .ok (.ireturn, 1) := by decide +kernel
theorem dX7_mount_12 : decode cX7_mount 12 = .ok (.aload_n 0, 1) := by decide +kernel
theorem dX7_mount_13 : decode cX7_mount 13 = .ok (.invokevirtual 256, 3) := by decide +kernel
theorem dX7_mount_16 : decode cX7_mount 16 = .ok (.aload_n 0, 1) := by decide +kernel
theorem dX7_mount_17 : decode cX7_mount 17 = .ok (.getfield 19, 3) := by decide +kernel
theorem dX7_mount_20 : decode cX7_mount 20 = .ok (.getfield 116, 3) := by decide +kernel
theorem dX7_mount_23 : decode cX7_mount 23 = .ok (.istore_n 3, 1) := by decide +kernel
theorem dX7_mount_24 : decode cX7_mount 24 = .ok (.aload_n 0, 1) := by decide +kernel
theorem dX7_mount_25 : decode cX7_mount 25 = .ok (.getfield 19, 3) := by decide +kernel
theorem dX7_mount_28 : decode cX7_mount 28 = .ok (.iload_n 1, 1) := by decide +kernel
theorem dX7_mount_29 : decode cX7_mount 29 = .ok (.invokevirtual 259, 3) := by decide +kernel
theorem dX7_mount_32 : decode cX7_mount 32 = .ok (.aload_n 0, 1) := by decide +kernel
theorem dX7_mount_33 : decode cX7_mount 33 = .ok (.getfield 19, 3) := by decide +kernel
theorem dX7_mount_36 : decode cX7_mount 36 = .ok (.getfield 116, 3) := by decide +kernel
theorem dX7_mount_39 : decode cX7_mount 39 = .ok (.iload_n 3, 1) := by decide +kernel
theorem dX7_mount_40 : decode cX7_mount 40 = .ok (.isub, 1) := by decide +kernel
theorem dX7_mount_41 : decode cX7_mount 41 = .ok (.ireturn, 1) := by decide +kernel
set_option maxRecDepth 20000 in
theorem ggX7_eject_X4_hasDrive : GoodIn wsX7_eject wsX4_hasDrive := goodIn_r _ [11, 12, 150, 151, 152, 153, 154, 155, 156, 157, 158, 159, 160, 161, 162, 163, 164, 165, 166, 167] (by decide +kernel) (by decide +kernel)
set_option maxRecDepth 20000 in
theorem gX7_eject_X4_hasDrive : GoodIn wsX7_eject (wsV RX7 101 RX4 yX4_hasDrive wsX4_hasDrive) := goodIn_app (goodIn_of _ (by decide +kernel)) ggX7_eject_X4_hasDrive
set_option maxRecDepth 20000 in
theorem ggX7_eject_X7_remember : GoodIn wsX7_eject wsX7_remember := goodIn_r _ [17, 18, 1, 19, 20, 21, 22, 23, 24, 25, 26, 27, 28, 10, 29, 30, 31, 32, 33, 34, 35, 36, 37, 38, 39, 40, 41, 42, 43, 44, 45, 46, 47, 48, 49, 50, 51, 52, 53, 54, 55, 56, 57, 58, 59, 60, 61, 62, 63, 64, 65, 66, 67, 12, 68, 69, 70, 71, 72, 73, 74, 75, 76, 77, 78, 79, 80, 81, 82, 83, 84, 85, 86, 87, 88, 89, 90, 91, 92, 93, 94, 95, 96, 97, 98, 99, 100, 101, 102, 103, 104, 105, 106, 107, 108, 109, 110, 111, 112, 113, 114, 115, 116, 117, 118, 119, 120, 121, 16, 122, 123, 124, 125, 126, 127, 128, 129, 141, 142, 143, 144, 145, 146, 147, 148, 149, 171, 172, 173, 150, 151, 152, 153, 154, 155, 156, 157, 158, 159, 160, 161, 162, 163, 164, 165, 166, 167, 168, 169, 170, 174, 175, 176, 177, 178, 179, 180, 181, 182, 183, 184, 185, 186, 187, 188, 189, 190, 191, 192, 193, 194, 195] (by decide +kernel) (by decide +kernel)
set_option maxRecDepth 20000 in
theorem gX7_eject_X7_remember : GoodIn wsX7_eject (wsV RX7 256 RX7 yX7_remember wsX7_remember) := goodIn_app (goodIn_of _ (by decide +kernel)) ggX7_eject_X7_remember
set_option maxRecDepth 20000 in
theorem ggX7_eject_X4_carryHome : GoodIn wsX7_eject wsX4_carryHome := goodIn_r _ [133, 38, 134, 135, 40, 136, 74, 137, 138, 139, 140, 75, 36, 77, 150, 151, 152, 153, 154, 155, 156, 157, 158, 159, 160, 161, 162, 163, 164, 165, 166, 167, 168, 169, 170, 174, 175, 176, 177, 178, 179, 180, 181, 182] (by decide +kernel) (by decide +kernel)
set_option maxRecDepth 20000 in
theorem gX7_eject_X4_carryHome : GoodIn wsX7_eject (wsV RX7 262 RX4 yX4_carryHome wsX4_carryHome) := goodIn_app (goodIn_of _ (by decide +kernel)) ggX7_eject_X4_carryHome
theorem dX7_eject_0 : decode cX7_eject 0 = .ok (.aload_n 0, 1) := by decide +kernel
theorem dX7_eject_1 : decode cX7_eject 1 = .ok (.getfield 19, 3) := by decide +kernel
theorem dX7_eject_4 : decode cX7_eject 4 = .ok (.iload_n 1, 1) := by decide +kernel
theorem dX7_eject_5 : decode cX7_eject 5 = .ok (.invokevirtual 101, 3) := by decide +kernel
theorem dX7_eject_8 : decode cX7_eject 8 = .ok (.ifCond .ne 6, 3) := by decide +kernel
theorem dX7_eject_11 : decode cX7_eject 11 = .ok (.ldc 87, 2) := by decide +kernel
theorem dX7_eject_13 : decode cX7_eject 13 = .ok (.ireturn, 1) := by decide +kernel
theorem dX7_eject_14 : decode cX7_eject 14 = .ok (.aload_n 0, 1) := by decide +kernel
theorem dX7_eject_15 : decode cX7_eject 15 = .ok (.getfield 19, 3) := by decide +kernel
theorem dX7_eject_18 : decode cX7_eject 18 = .ok (.getfield 104, 3) := by decide +kernel
theorem dX7_eject_21 : decode cX7_eject 21 = .ok (.iload_n 1, 1) := by decide +kernel
theorem dX7_eject_22 : decode cX7_eject 22 = .ok (.aaload, 1) := by decide +kernel
theorem dX7_eject_23 : decode cX7_eject 23 = .ok (.getfield 108, 3) := by decide +kernel
theorem dX7_eject_26 : decode cX7_eject 26 = .ok (.iconst (-1), 1) := by decide +kernel
theorem dX7_eject_27 : decode cX7_eject 27 = .ok (.if_icmp .ne 6, 3) := by decide +kernel
theorem dX7_eject_30 : decode cX7_eject 30 = .ok (.ldc 73, 2) := by decide +kernel
theorem dX7_eject_32 : decode cX7_eject 32 = .ok (.ireturn, 1) := by decide +kernel
theorem dX7_eject_33 : decode cX7_eject 33 = .ok (.aload_n 0, 1) := by decide +kernel
theorem dX7_eject_34 : decode cX7_eject 34 = .ok (.invokevirtual 256, 3) := by decide +kernel
theorem dX7_eject_37 : decode cX7_eject 37 = .ok (.aload_n 0, 1) := by decide +kernel
theorem dX7_eject_38 : decode cX7_eject 38 = .ok (.getfield 19, 3) := by decide +kernel
theorem dX7_eject_41 : decode cX7_eject 41 = .ok (.getfield 116, 3) := by decide +kernel
theorem dX7_eject_44 : decode cX7_eject 44 = .ok (.istore_n 2, 1) := by decide +kernel
theorem dX7_eject_45 : decode cX7_eject 45 = .ok (.aload_n 0, 1) := by decide +kernel
theorem dX7_eject_46 : decode cX7_eject 46 = .ok (.getfield 19, 3) := by decide +kernel
theorem dX7_eject_49 : decode cX7_eject 49 = .ok (.iload_n 1, 1) := by decide +kernel
theorem dX7_eject_50 : decode cX7_eject 50 = .ok (.invokevirtual 262, 3) := by decide +kernel
theorem dX7_eject_53 : decode cX7_eject 53 = .ok (.aload_n 0, 1) := by decide +kernel
theorem dX7_eject_54 : decode cX7_eject 54 = .ok (.getfield 19, 3) := by decide +kernel
theorem dX7_eject_57 : decode cX7_eject 57 = .ok (.getfield 116, 3) := by decide +kernel
theorem dX7_eject_60 : decode cX7_eject 60 = .ok (.iload_n 2, 1) := by decide +kernel
theorem dX7_eject_61 : decode cX7_eject 61 = .ok (.isub, 1) := by decide +kernel
theorem dX7_eject_62 : decode cX7_eject 62 = .ok (.ireturn, 1) := by decide +kernel
set_option maxRecDepth 20000 in
theorem ggX7_read_X7_readProblem : GoodIn wsX7_read wsX7_readProblem := goodIn_r _ [7, 1, 8, 9, 10, 11, 12, 13, 14, 15, 16, 17, 18, 19, 20, 21, 22, 23, 24, 25, 26, 27, 28, 29, 30, 31, 32, 33, 34, 35, 36, 37, 38, 39, 40, 41, 42, 203, 204, 205, 206, 207, 208, 209, 210, 211, 212, 213, 214, 215, 216, 217, 218, 219, 220, 221, 222, 223, 224, 225, 226, 227, 228, 229, 230, 231, 232, 233, 234, 235, 236, 237, 238, 239, 240, 241, 242, 243, 244, 245] (by decide +kernel) (by decide +kernel)
set_option maxRecDepth 20000 in
theorem gX7_read_X7_readProblem : GoodIn wsX7_read (wsV RX7 232 RX7 yX7_readProblem wsX7_readProblem) := goodIn_app (goodIn_of _ (by decide +kernel)) ggX7_read_X7_readProblem
set_option maxRecDepth 20000 in
theorem ggX7_read_X7_remember : GoodIn wsX7_read wsX7_remember := goodIn_r _ [46, 47, 1, 48, 49, 50, 51, 52, 53, 54, 55, 56, 57, 15, 58, 59, 60, 61, 62, 63, 64, 65, 66, 67, 68, 33, 69, 26, 27, 70, 71, 72, 73, 39, 74, 75, 76, 77, 78, 79, 80, 81, 82, 83, 84, 85, 86, 87, 88, 89, 90, 91, 92, 93, 94, 95, 96, 97, 17, 98, 99, 100, 101, 102, 103, 104, 105, 106, 107, 108, 109, 110, 111, 112, 113, 114, 115, 116, 117, 118, 119, 120, 121, 122, 123, 124, 125, 126, 127, 128, 129, 42, 41, 130, 131, 132, 133, 134, 135, 136, 137, 138, 139, 140, 141, 142, 143, 144, 6, 145, 146, 147, 148, 149, 150, 151, 152, 203, 204, 205, 206, 207, 208, 209, 210, 211, 246, 247, 248, 212, 213, 214, 215, 216, 217, 218, 219, 220, 221, 222, 223, 224, 225, 226, 227, 228, 229, 249, 250, 251, 237, 238, 239, 240, 241, 242, 243, 244, 245, 230, 231, 232, 233, 234, 235, 236, 252, 253, 254, 255, 256, 257] (by decide +kernel) (by decide +kernel)
set_option maxRecDepth 20000 in
theorem gX7_read_X7_remember : GoodIn wsX7_read (wsV RX7 256 RX7 yX7_remember wsX7_remember) := goodIn_app (goodIn_of _ (by decide +kernel)) ggX7_read_X7_remember
set_option maxRecDepth 20000 in
theorem ggX7_read_X4_readFile : GoodIn wsX7_read wsX4_readFile := goodIn_r _ [156, 34, 100, 22, 23, 24, 15, 25, 26, 27, 157, 158, 159, 160, 161, 162, 163, 164, 165, 166, 167, 168, 93, 67, 169, 170, 171, 172, 173, 94, 174, 175, 176, 177, 178, 102, 179, 99, 101, 180, 181, 182, 183, 65, 184, 185, 186, 187, 33, 188, 189, 190, 191, 192, 193, 194, 195, 196, 197, 198, 199, 200, 201, 202, 230, 231, 232, 233, 234, 235, 236, 212, 213, 214, 215, 216, 217, 218, 219, 220, 221, 222, 223, 224, 225, 226, 227, 228, 229, 249, 250, 251, 237, 238, 239, 240, 241, 242, 243, 244, 245] (by decide +kernel) (by decide +kernel)
set_option maxRecDepth 20000 in
theorem gX7_read_X4_readFile : GoodIn wsX7_read (wsV RX7 265 RX4 yX4_readFile wsX4_readFile) := goodIn_app (goodIn_of _ (by decide +kernel)) ggX7_read_X4_readFile
theorem dX7_read_0 : decode cX7_read 0 = .ok (.aload_n 0, 1) := by decide +kernel
theorem dX7_read_1 : decode cX7_read 1 = .ok (.iload_n 1, 1) := by decide +kernel
theorem dX7_read_2 : decode cX7_read 2 = .ok (.invokevirtual 232, 3) := by decide +kernel
theorem dX7_read_5 : decode cX7_read 5 = .ok (.istore_n 2, 1) := by decide +kernel
theorem dX7_read_6 : decode cX7_read 6 = .ok (.iload_n 2, 1) := by decide +kernel
theorem dX7_read_7 : decode cX7_read 7 = .ok (.ifCond .eq 5, 3) := by decide +kernel
theorem dX7_read_10 : decode cX7_read 10 = .ok (.iload_n 2, 1) := by decide +kernel
theorem dX7_read_11 : decode cX7_read 11 = .ok (.ireturn, 1) := by decide +kernel
theorem dX7_read_12 : decode cX7_read 12 = .ok (.aload_n 0, 1) := by decide +kernel
theorem dX7_read_13 : decode cX7_read 13 = .ok (.invokevirtual 256, 3) := by decide +kernel
theorem dX7_read_16 : decode cX7_read 16 = .ok (.aload_n 0, 1) := by decide +kernel
theorem dX7_read_17 : decode cX7_read 17 = .ok (.getfield 19, 3) := by decide +kernel
theorem dX7_read_20 : decode cX7_read 20 = .ok (.getfield 116, 3) := by decide +kernel
theorem dX7_read_23 : decode cX7_read 23 = .ok (.istore_n 3, 1) := by decide +kernel
theorem dX7_read_24 : decode cX7_read 24 = .ok (.aload_n 0, 1) := by decide +kernel
theorem dX7_read_25 : decode cX7_read 25 = .ok (.getfield 19, 3) := by decide +kernel
theorem dX7_read_28 : decode cX7_read 28 = .ok (.iload_n 1, 1) := by decide +kernel
theorem dX7_read_29 : decode cX7_read 29 = .ok (.invokevirtual 265, 3) := by decide +kernel
theorem dX7_read_32 : decode cX7_read 32 = .ok (.aload_n 0, 1) := by decide +kernel
theorem dX7_read_33 : decode cX7_read 33 = .ok (.getfield 19, 3) := by decide +kernel
theorem dX7_read_36 : decode cX7_read 36 = .ok (.getfield 116, 3) := by decide +kernel
theorem dX7_read_39 : decode cX7_read 39 = .ok (.iload_n 3, 1) := by decide +kernel
theorem dX7_read_40 : decode cX7_read 40 = .ok (.isub, 1) := by decide +kernel
theorem dX7_read_41 : decode cX7_read 41 = .ok (.ireturn, 1) := by decide +kernel
set_option maxRecDepth 20000 in
theorem ggX7_writeProblem_X3_canTake : GoodIn wsX7_writeProblem wsX3_canTake := goodIn_r _ [12, 13, 14, 15, 16, 17, 18, 11, 19, 20, 21, 22, 23, 24, 25, 26, 27, 28, 29, 30, 58, 59, 60, 61, 62, 63, 64, 65, 66] (by decide +kernel) (by decide +kernel)
set_option maxRecDepth 20000 in
theorem gX7_writeProblem_X3_canTake : GoodIn wsX7_writeProblem (wsV RX7 198 RX3 yX3_canTake wsX3_canTake) := goodIn_app (goodIn_of _ (by decide +kernel)) ggX7_writeProblem_X3_canTake
theorem dX7_writeProblem_0 : decode cX7_writeProblem 0 = .ok (.aload_n 0, 1) := by decide +kernel
theorem dX7_writeProblem_1 : decode cX7_writeProblem 1 = .ok (.getfield 19, 3) := by decide +kernel
theorem dX7_writeProblem_4 : decode cX7_writeProblem 4 = .ok (.getfield 275, 3) := by decide +kernel
theorem dX7_writeProblem_7 : decode cX7_writeProblem 7 = .ok (.bipush 40, 2) := by decide +kernel
theorem dX7_writeProblem_9 : decode cX7_writeProblem 9 = .ok (.if_icmp .lt 6, 3) := by decide +kernel
theorem dX7_writeProblem_12 : decode cX7_writeProblem 12 = .ok (.ldc 41, 2) := by decide +kernel
theorem dX7_writeProblem_14 : decode cX7_writeProblem 14 = .ok (.ireturn, 1) := by decide +kernel
theorem dX7_writeProblem_15 : decode cX7_writeProblem 15 = .ok (.aload_n 0, 1) := by decide +kernel
theorem dX7_writeProblem_16 : decode cX7_writeProblem 16 = .ok (.getfield 19, 3) := by decide +kernel
theorem dX7_writeProblem_19 : decode cX7_writeProblem 19 = .ok (.getfield 134, 3) := by decide +kernel
theorem dX7_writeProblem_22 : decode cX7_writeProblem 22 = .ok (.ifCond .ne 6, 3) := by decide +kernel
theorem dX7_writeProblem_25 : decode cX7_writeProblem 25 = .ok (.ldc 137, 2) := by decide +kernel
theorem dX7_writeProblem_27 : decode cX7_writeProblem 27 = .ok (.ireturn, 1) := by decide +kernel
theorem dX7_writeProblem_28 : decode cX7_writeProblem 28 = .ok (.aload_n 0, 1) := by decide +kernel
theorem dX7_writeProblem_29 : decode cX7_writeProblem 29 = .ok (.getfield 19, 3) := by decide +kernel
theorem dX7_writeProblem_32 : decode cX7_writeProblem 32 = .ok (.getfield 78, 3) := by decide +kernel
theorem dX7_writeProblem_35 : decode cX7_writeProblem 35 = .ok (.iload_n 2, 1) := by decide +kernel
theorem dX7_writeProblem_36 : decode cX7_writeProblem 36 = .ok (.aaload, 1) := by decide +kernel
theorem dX7_writeProblem_37 : decode cX7_writeProblem 37 = .ok (.iload_n 1, 1) := by decide +kernel
theorem dX7_writeProblem_38 : decode cX7_writeProblem 38 = .ok (.invokevirtual 198, 3) := by decide +kernel
theorem dX7_writeProblem_41 : decode cX7_writeProblem 41 = .ok (.ifCond .eq 7, 3) := by decide +kernel
theorem dX7_writeProblem_44 : decode cX7_writeProblem 44 = .ok (.iconst 0, 1) := by decide +kernel
theorem dX7_writeProblem_45 : decode cX7_writeProblem 45 = .ok (.goto 5, 3) := by decide +kernel
theorem dX7_writeProblem_48 : decode cX7_writeProblem 48 = .ok (.ldc 239, 2) := by decide +kernel
theorem dX7_writeProblem_50 : decode cX7_writeProblem 50 = .ok (.ireturn, 1) := by decide +kernel
set_option maxRecDepth 20000 in
theorem ggX7_write_X4_hasFile : GoodIn wsX7_write wsX4_hasFile := goodIn_r _ [9, 10, 238, 239, 240, 241, 242, 243, 244, 245, 246, 247, 248, 249, 250, 251, 252, 253, 254, 255] (by decide +kernel) (by decide +kernel)
set_option maxRecDepth 20000 in
theorem gX7_write_X4_hasFile : GoodIn wsX7_write (wsV RX7 201 RX4 yX4_hasFile wsX4_hasFile) := goodIn_app (goodIn_of _ (by decide +kernel)) ggX7_write_X4_hasFile
set_option maxRecDepth 20000 in
theorem ggX7_write_X4_hasPlatter : GoodIn wsX7_write wsX4_hasPlatter := goodIn_r _ [14, 15, 238, 239, 240, 241, 242, 243, 244, 245, 246, 247, 248, 249, 250, 251, 252, 253, 254, 255] (by decide +kernel) (by decide +kernel)
set_option maxRecDepth 20000 in
theorem gX7_write_X4_hasPlatter : GoodIn wsX7_write (wsV RX7 74 RX4 yX4_hasPlatter wsX4_hasPlatter) := goodIn_app (goodIn_of _ (by decide +kernel)) ggX7_write_X4_hasPlatter
set_option maxRecDepth 20000 in
theorem ggX7_write_X7_isSize : GoodIn wsX7_write wsX7_isSize := goodIn_r _ [19] (by decide +kernel) (by decide +kernel)
set_option maxRecDepth 20000 in
theorem gX7_write_X7_isSize : GoodIn wsX7_write (va_wsS RX7 192 yX7_isSize wsX7_isSize) := goodIn_app (goodIn_of _ (by decide +kernel)) ggX7_write_X7_isSize
set_option maxRecDepth 20000 in
theorem ggX7_write_X7_writeProblem : GoodIn wsX7_write wsX7_writeProblem := goodIn_r _ [23, 1, 24, 25, 26, 27, 28, 29, 30, 31, 32, 33, 34, 35, 36, 37, 38, 39, 40, 41, 42, 43, 44, 45, 46, 47, 48, 49, 50, 51, 52, 229, 230, 231, 232, 233, 234, 235, 236, 237, 238, 239, 240, 241, 242, 243, 244, 245, 246, 247, 248, 249, 250, 251, 252, 253, 254, 255, 256, 257, 258, 259, 260, 261, 262, 263, 264] (by decide +kernel) (by decide +kernel)
set_option maxRecDepth 20000 in
theorem gX7_write_X7_writeProblem : GoodIn wsX7_write (wsV RX7 268 RX7 yX7_writeProblem wsX7_writeProblem) := goodIn_app (goodIn_of _ (by decide +kernel)) ggX7_write_X7_writeProblem
set_option maxRecDepth 20000 in
theorem ggX7_write_X7_remember : GoodIn wsX7_write wsX7_remember := goodIn_r _ [56, 57, 1, 58, 59, 60, 61, 62, 63, 64, 65, 66, 67, 8, 68, 69, 70, 71, 72, 73, 74, 75, 76, 77, 78, 79, 80, 81, 82, 83, 84, 85, 86, 33, 87, 88, 89, 90, 91, 92, 93, 94, 95, 96, 52, 97, 98, 99, 100, 101, 102, 103, 104, 105, 106, 15, 107, 108, 10, 109, 110, 111, 112, 113, 114, 115, 116, 117, 118, 119, 120, 121, 122, 123, 124, 125, 126, 127, 128, 129, 130, 131, 132, 133, 134, 135, 136, 137, 42, 37, 43, 36, 35, 138, 139, 140, 141, 142, 143, 144, 145, 146, 147, 148, 149, 150, 151, 152, 18, 153, 154, 155, 156, 157, 158, 159, 160, 229, 230, 231, 232, 233, 234, 235, 236, 237, 265, 266, 267, 238, 239, 240, 241, 242, 243, 244, 245, 246, 247, 248, 249, 250, 251, 252, 253, 254, 255, 268, 269, 270, 256, 257, 258, 259, 260, 261, 262, 263, 264, 271, 272, 273, 274, 275, 276, 277, 278, 279, 280, 281, 282, 283] (by decide +kernel) (by decide +kernel)
set_option maxRecDepth 20000 in
theorem gX7_write_X7_remember : GoodIn wsX7_write (wsV RX7 256 RX7 yX7_remember wsX7_remember) := goodIn_app (goodIn_of _ (by decide +kernel)) ggX7_write_X7_remember
set_option maxRecDepth 20000 in
theorem ggX7_write_X4_writeVersion : GoodIn wsX7_write wsX4_writeVersion := goodIn_r _ [164, 111, 75, 165, 166, 167, 8, 168, 169, 170, 171, 172, 173, 174, 175, 176, 105, 77, 177, 178, 179, 180, 181, 106, 182, 183, 184, 185, 186, 113, 187, 110, 112, 188, 189, 190, 191, 192, 193, 194, 195, 79, 196, 197, 198, 199, 200, 201, 202, 203, 204, 205, 206, 207, 208, 108, 81, 209, 210, 211, 212, 213, 214, 215, 216, 217, 82, 218, 6, 7, 9, 10, 219, 12, 13, 14, 15, 220, 45, 46, 33, 47, 43, 48, 49, 50, 51, 52, 221, 222, 223, 224, 35, 36, 95, 96, 37, 225, 226, 227, 228, 238, 239, 240, 241, 242, 243, 244, 245, 246, 247, 248, 249, 250, 251, 252, 253, 254, 255, 268, 269, 270, 256, 257, 258, 259, 260, 261, 262, 263, 264, 271, 272, 273, 274, 275, 276, 277] (by decide +kernel) (by decide +kernel)
set_option maxRecDepth 20000 in
theorem gX7_write_X4_writeVersion : GoodIn wsX7_write (wsV RX7 271 RX4 yX4_writeVersion wsX4_writeVersion) := goodIn_app (goodIn_of _ (by decide +kernel)) ggX7_write_X4_writeVersion
theorem dX7_write_0 : decode cX7_write 0 = .ok (.aload_n 0, 1) := by decide +kernel
theorem dX7_write_1 : decode cX7_write 1 = .ok (.getfield 19, 3) := by decide +kernel
theorem dX7_write_4 : decode cX7_write 4 = .ok (.iload_n 1, 1) := by decide +kernel
theorem dX7_write_5 : decode cX7_write 5 = .ok (.invokevirtual 201, 3) := by decide +kernel
theorem dX7_write_8 : decode cX7_write 8 = .ok (.ifCond .eq 14, 3) := by decide +kernel
theorem dX7_write_11 : decode cX7_write 11 = .ok (.aload_n 0, 1) := by decide +kernel
theorem dX7_write_12 : decode cX7_write 12 = .ok (.getfield 19, 3) := by decide +kernel
theorem dX7_write_15 : decode cX7_write 15 = .ok (.iload_n 3, 1) := by decide +kernel
theorem dX7_write_16 : decode cX7_write 16 = .ok (.invokevirtual 74, 3) := by decide +kernel
theorem dX7_write_19 : decode cX7_write 19 = .ok (.ifCond .ne 6, 3) := by decide +kernel
theorem dX7_write_22 : decode cX7_write 22 = .ok (.ldc 87, 2) := by decide +kernel
theorem dX7_write_24 : decode cX7_write 24 = .ok (.ireturn, 1) := by decide +kernel
theorem dX7_write_25 : decode cX7_write 25 = .ok (.iload_n 2, 1) := by decide +kernel
theorem dX7_write_26 : decode cX7_write 26 = .ok (.invokestatic 192, 3) := by decide +kernel
theorem dX7_write_29 : decode cX7_write 29 = .ok (.ifCond .ne 6, 3) := by decide +kernel
theorem dX7_write_32 : decode cX7_write 32 = .ok (.ldc 46, 2) := by decide +kernel
theorem dX7_write_34 : decode cX7_write 34 = .ok (.ireturn, 1) := by decide +kernel
theorem dX7_write_35 : decode cX7_write 35 = .ok (.aload_n 0, 1) := by decide +kernel
theorem dX7_write_36 : decode cX7_write 36 = .ok (.iload_n 2, 1) := by decide +kernel
theorem dX7_write_37 : decode cX7_write 37 = .ok (.iload_n 3, 1) := by decide +kernel
theorem dX7_write_38 : decode cX7_write 38 = .ok (.invokevirtual 268, 3) := by decide +kernel
theorem dX7_write_41 : decode cX7_write 41 = .ok (.istore 4, 2) := by decide +kernel
theorem dX7_write_43 : decode cX7_write 43 = .ok (.iload 4, 2) := by decide +kernel
theorem dX7_write_45 : decode cX7_write 45 = .ok (.ifCond .eq 6, 3) := by decide +kernel
theorem dX7_write_48 : decode cX7_write 48 = .ok (.iload 4, 2) := by decide +kernel
theorem dX7_write_50 : decode cX7_write 50 = .ok (.ireturn, 1) := by decide +kernel
theorem dX7_write_51 : decode cX7_write 51 = .ok (.aload_n 0, 1) := by decide +kernel
theorem dX7_write_52 : decode cX7_write 52 = .ok (.invokevirtual 256, 3) := by decide +kernel
theorem dX7_write_55 : decode cX7_write 55 = .ok (.aload_n 0, 1) := by decide +kernel
theorem dX7_write_56 : decode cX7_write 56 = .ok (.getfield 19, 3) := by decide +kernel
theorem dX7_write_59 : decode cX7_write 59 = .ok (.getfield 116, 3) := by decide +kernel
theorem dX7_write_62 : decode cX7_write 62 = .ok (.istore 5, 2) := by decide +kernel
theorem dX7_write_64 : decode cX7_write 64 = .ok (.aload_n 0, 1) := by decide +kernel
theorem dX7_write_65 : decode cX7_write 65 = .ok (.getfield 19, 3) := by decide +kernel
theorem dX7_write_68 : decode cX7_write 68 = .ok (.iload_n 1, 1) := by decide +kernel
theorem dX7_write_69 : decode cX7_write 69 = .ok (.iload_n 2, 1) := by decide +kernel
theorem dX7_write_70 : decode cX7_write 70 = .ok (.iload_n 3, 1) := by decide +kernel
theorem dX7_write_71 : decode cX7_write 71 = .ok (.invokevirtual 271, 3) := by decide +kernel
theorem dX7_write_74 : decode cX7_write 74 = .ok (.aload_n 0, 1) := by decide +kernel
theorem dX7_write_75 : decode cX7_write 75 = .ok (.getfield 19, 3) := by decide +kernel
theorem dX7_write_78 : decode cX7_write 78 = .ok (.getfield 116, 3) := by decide +kernel
theorem dX7_write_81 : decode cX7_write 81 = .ok (.iload 5, 2) := by decide +kernel
theorem dX7_write_83 : decode cX7_write 83 = .ok (.isub, 1) := by decide +kernel
theorem dX7_write_84 : decode cX7_write 84 = .ok (.ireturn, 1) := by decide +kernel
set_option maxRecDepth 20000 in
theorem ggX7_create_X4_hasPlatter : GoodIn wsX7_create wsX4_hasPlatter := goodIn_r _ [10, 11, 237, 238, 239, 240, 241, 242, 243, 244, 245, 246, 247, 248, 249, 250, 251, 252, 253, 254] (by decide +kernel) (by decide +kernel)
set_option maxRecDepth 20000 in
theorem gX7_create_X4_hasPlatter : GoodIn wsX7_create (wsV RX7 74 RX4 yX4_hasPlatter wsX4_hasPlatter) := goodIn_app (goodIn_of _ (by decide +kernel)) ggX7_create_X4_hasPlatter
set_option maxRecDepth 20000 in
theorem ggX7_create_X7_isSize : GoodIn wsX7_create wsX7_isSize := goodIn_r _ [15] (by decide +kernel) (by decide +kernel)
set_option maxRecDepth 20000 in
theorem gX7_create_X7_isSize : GoodIn wsX7_create (va_wsS RX7 192 yX7_isSize wsX7_isSize) := goodIn_app (goodIn_of _ (by decide +kernel)) ggX7_create_X7_isSize
set_option maxRecDepth 20000 in
theorem ggX7_create_X7_writeProblem : GoodIn wsX7_create wsX7_writeProblem := goodIn_r _ [19, 1, 20, 5, 21, 22, 23, 24, 25, 26, 27, 28, 29, 30, 31, 32, 33, 34, 35, 36, 37, 38, 39, 40, 41, 42, 43, 44, 45, 46, 47, 228, 229, 230, 231, 232, 233, 234, 235, 236, 237, 238, 239, 240, 241, 242, 243, 244, 245, 246, 247, 248, 249, 250, 251, 252, 253, 254, 255, 256, 257, 258, 259, 260, 261, 262, 263] (by decide +kernel) (by decide +kernel)
set_option maxRecDepth 20000 in
theorem gX7_create_X7_writeProblem : GoodIn wsX7_create (wsV RX7 268 RX7 yX7_writeProblem wsX7_writeProblem) := goodIn_app (goodIn_of _ (by decide +kernel)) ggX7_create_X7_writeProblem
set_option maxRecDepth 20000 in
theorem ggX7_create_X7_remember : GoodIn wsX7_create wsX7_remember := goodIn_r _ [51, 52, 1, 53, 54, 55, 56, 57, 58, 59, 60, 61, 62, 9, 63, 64, 65, 66, 67, 68, 69, 70, 71, 72, 73, 74, 75, 76, 77, 78, 79, 80, 81, 28, 82, 83, 84, 85, 86, 87, 88, 89, 90, 91, 47, 92, 93, 94, 95, 96, 97, 98, 99, 100, 101, 11, 102, 103, 104, 105, 106, 107, 108, 109, 110, 111, 112, 113, 114, 115, 116, 117, 118, 119, 120, 121, 122, 123, 124, 125, 126, 127, 128, 129, 130, 131, 132, 133, 37, 32, 38, 31, 30, 134, 135, 136, 137, 138, 139, 140, 141, 142, 143, 144, 145, 146, 147, 148, 14, 149, 150, 151, 152, 153, 154, 155, 156, 228, 229, 230, 231, 232, 233, 234, 235, 236, 264, 265, 266, 237, 238, 239, 240, 241, 242, 243, 244, 245, 246, 247, 248, 249, 250, 251, 252, 253, 254, 267, 268, 269, 255, 256, 257, 258, 259, 260, 261, 262, 263, 270, 271, 272, 273, 274, 275, 276, 277, 278, 279, 280, 281, 282] (by decide +kernel) (by decide +kernel)
set_option maxRecDepth 20000 in
theorem gX7_create_X7_remember : GoodIn wsX7_create (wsV RX7 256 RX7 yX7_remember wsX7_remember) := goodIn_app (goodIn_of _ (by decide +kernel)) ggX7_create_X7_remember
set_option maxRecDepth 20000 in
theorem ggX7_create_X4_writeVersion : GoodIn wsX7_create wsX4_writeVersion := goodIn_r _ [160, 107, 70, 161, 162, 163, 9, 164, 165, 166, 167, 168, 169, 170, 171, 172, 100, 72, 173, 174, 175, 176, 177, 101, 178, 179, 180, 181, 182, 109, 183, 106, 108, 184, 185, 186, 187, 188, 189, 190, 191, 74, 192, 193, 194, 195, 196, 197, 198, 199, 200, 201, 202, 203, 204, 103, 76, 205, 206, 207, 208, 209, 210, 211, 212, 213, 77, 214, 215, 216, 217, 104, 218, 7, 8, 10, 11, 219, 40, 41, 28, 42, 38, 43, 44, 45, 46, 47, 220, 221, 222, 223, 30, 31, 90, 91, 32, 224, 225, 226, 227, 237, 238, 239, 240, 241, 242, 243, 244, 245, 246, 247, 248, 249, 250, 251, 252, 253, 254, 267, 268, 269, 255, 256, 257, 258, 259, 260, 261, 262, 263, 270, 271, 272, 273, 274, 275, 276] (by decide +kernel) (by decide +kernel)
set_option maxRecDepth 20000 in
theorem gX7_create_X4_writeVersion : GoodIn wsX7_create (wsV RX7 271 RX4 yX4_writeVersion wsX4_writeVersion) := goodIn_app (goodIn_of _ (by decide +kernel)) ggX7_create_X4_writeVersion
theorem dX7_create_0 : decode cX7_create 0 = .ok (.aload_n 0, 1) := by decide +kernel
theorem dX7_create_1 : decode cX7_create 1 = .ok (.getfield 19, 3) := by decide +kernel
theorem dX7_create_4 : decode cX7_create 4 = .ok (.iload_n 2, 1) := by decide +kernel
theorem dX7_create_5 : decode cX7_create 5 = .ok (.invokevirtual 74, 3) := by decide +kernel
theorem dX7_create_8 : decode cX7_create 8 = .ok (.ifCond .ne 6, 3) := by decide +kernel
theorem dX7_create_11 : decode cX7_create 11 = .ok (.ldc 87, 2) := by decide +kernel
theorem dX7_create_13 : decode cX7_create 13 = .ok (.ireturn, 1) := by decide +kernel
theorem dX7_create_14 : decode cX7_create 14 = .ok (.iload_n 1, 1) := by decide +kernel
theorem dX7_create_15 : decode cX7_create 15 = .ok (.invokestatic 192, 3) := by decide +kernel
theorem dX7_create_18 : decode cX7_create 18 = .ok (.ifCond .ne 6, 3) := by decide +kernel
theorem dX7_create_21 : decode cX7_create 21 = .ok (.ldc 46, 2) := by decide +kernel
theorem dX7_create_23 : decode cX7_create 23 = .ok (.ireturn, 1) := by decide +kernel
theorem dX7_create_24 : decode cX7_create 24 = .ok (.aload_n 0, 1) := by decide +kernel
theorem dX7_create_25 : decode cX7_create 25 = .ok (.getfield 19, 3) := by decide +kernel
theorem dX7_create_28 : decode cX7_create 28 = .ok (.getfield 70, 3) := by decide +kernel
theorem dX7_create_31 : decode cX7_create 31 = .ok (.bipush 20, 2) := by decide +kernel
theorem dX7_create_33 : decode cX7_create 33 = .ok (.if_icmp .lt 6, 3) := by decide +kernel
theorem dX7_create_36 : decode cX7_create 36 = .ok (.ldc 41, 2) := by decide +kernel
theorem dX7_create_38 : decode cX7_create 38 = .ok (.ireturn, 1) := by decide +kernel
theorem dX7_create_39 : decode cX7_create 39 = .ok (.aload_n 0, 1) := by decide +kernel
theorem dX7_create_40 : decode cX7_create 40 = .ok (.iload_n 1, 1) := by decide +kernel
theorem dX7_create_41 : decode cX7_create 41 = .ok (.iload_n 2, 1) := by decide +kernel
theorem dX7_create_42 : decode cX7_create 42 = .ok (.invokevirtual 268, 3) := by decide +kernel
theorem dX7_create_45 : decode cX7_create 45 = .ok (.istore_n 3, 1) := by decide +kernel
theorem dX7_create_46 : decode cX7_create 46 = .ok (.iload_n 3, 1) := by decide +kernel
theorem dX7_create_47 : decode cX7_create 47 = .ok (.ifCond .eq 5, 3) := by decide +kernel
theorem dX7_create_50 : decode cX7_create 50 = .ok (.iload_n 3, 1) := by decide +kernel
theorem dX7_create_51 : decode cX7_create 51 = .ok (.ireturn, 1) := by decide +kernel
theorem dX7_create_52 : decode cX7_create 52 = .ok (.aload_n 0, 1) := by decide +kernel
theorem dX7_create_53 : decode cX7_create 53 = .ok (.invokevirtual 256, 3) := by decide +kernel
theorem dX7_create_56 : decode cX7_create 56 = .ok (.aload_n 0, 1) := by decide +kernel
theorem dX7_create_57 : decode cX7_create 57 = .ok (.getfield 19, 3) := by decide +kernel
theorem dX7_create_60 : decode cX7_create 60 = .ok (.getfield 70, 3) := by decide +kernel
theorem dX7_create_63 : decode cX7_create 63 = .ok (.istore 4, 2) := by decide +kernel
theorem dX7_create_65 : decode cX7_create 65 = .ok (.aload_n 0, 1) := by decide +kernel
theorem dX7_create_66 : decode cX7_create 66 = .ok (.getfield 19, 3) := by decide +kernel
theorem dX7_create_69 : decode cX7_create 69 = .ok (.dup, 1) := by decide +kernel
theorem dX7_create_70 : decode cX7_create 70 = .ok (.getfield 70, 3) := by decide +kernel
theorem dX7_create_73 : decode cX7_create 73 = .ok (.iconst 1, 1) := by decide +kernel
theorem dX7_create_74 : decode cX7_create 74 = .ok (.iadd, 1) := by decide +kernel
theorem dX7_create_75 : decode cX7_create 75 = .ok (.putfield 70, 3) := by decide +kernel
theorem dX7_create_78 : decode cX7_create 78 = .ok (.aload_n 0, 1) := by decide +kernel
theorem dX7_create_79 : decode cX7_create 79 = .ok (.getfield 19, 3) := by decide +kernel
theorem dX7_create_82 : decode cX7_create 82 = .ok (.iload 4, 2) := by decide +kernel
theorem dX7_create_84 : decode cX7_create 84 = .ok (.iload_n 1, 1) := by decide +kernel
theorem dX7_create_85 : decode cX7_create 85 = .ok (.iload_n 2, 1) := by decide +kernel
theorem dX7_create_86 : decode cX7_create 86 = .ok (.invokevirtual 271, 3) := by decide +kernel
theorem dX7_create_89 : decode cX7_create 89 = .ok (.iload 4, 2) := by decide +kernel
theorem dX7_create_91 : decode cX7_create 91 = .ok (.ireturn, 1) := by decide +kernel
set_option maxRecDepth 20000 in
theorem ggX7_closeSession_X4_hasPlatter : GoodIn wsX7_closeSession wsX4_hasPlatter := goodIn_r _ [12, 13, 199, 200, 201, 202, 203, 204, 205, 206, 207, 208, 209, 210, 211, 212, 213, 214, 215, 216] (by decide +kernel) (by decide +kernel)
set_option maxRecDepth 20000 in
theorem gX7_closeSession_X4_hasPlatter : GoodIn wsX7_closeSession (wsV RX7 74 RX4 yX4_hasPlatter wsX4_hasPlatter) := goodIn_app (goodIn_of _ (by decide +kernel)) ggX7_closeSession_X4_hasPlatter
set_option maxRecDepth 20000 in
theorem ggX7_closeSession_X7_remember : GoodIn wsX7_closeSession wsX7_remember := goodIn_r _ [18, 19, 1, 20, 21, 22, 23, 24, 25, 26, 27, 28, 29, 11, 30, 31, 32, 33, 34, 35, 36, 37, 38, 39, 40, 41, 42, 43, 44, 45, 46, 47, 48, 49, 50, 51, 52, 53, 54, 55, 56, 57, 58, 59, 60, 61, 62, 63, 64, 65, 66, 67, 68, 69, 70, 13, 71, 72, 73, 74, 75, 76, 77, 78, 79, 80, 81, 82, 83, 84, 85, 86, 87, 88, 89, 90, 91, 92, 93, 94, 95, 96, 97, 98, 99, 100, 101, 102, 103, 104, 105, 106, 107, 108, 109, 110, 111, 112, 113, 114, 115, 116, 117, 118, 119, 120, 121, 122, 17, 123, 124, 125, 126, 127, 128, 129, 130, 190, 191, 192, 193, 194, 195, 196, 197, 198, 226, 227, 228, 199, 200, 201, 202, 203, 204, 205, 206, 207, 208, 209, 210, 211, 212, 213, 214, 215, 216, 229, 230, 231, 217, 218, 219, 220, 221, 222, 223, 224, 225, 232, 233, 234, 235, 236, 237, 238, 239, 240, 241, 242, 243, 244] (by decide +kernel) (by decide +kernel)
set_option maxRecDepth 20000 in
theorem gX7_closeSession_X7_remember : GoodIn wsX7_closeSession (wsV RX7 256 RX7 yX7_remember wsX7_remember) := goodIn_app (goodIn_of _ (by decide +kernel)) ggX7_closeSession_X7_remember
set_option maxRecDepth 20000 in
theorem ggX7_closeSession_X4_closeInDrive : GoodIn wsX7_closeSession wsX4_closeInDrive := goodIn_r _ [134, 41, 76, 37, 135, 136, 137, 11, 138, 139, 140, 141, 142, 143, 144, 145, 146, 69, 39, 147, 148, 149, 150, 151, 70, 152, 153, 154, 155, 156, 78, 157, 75, 77, 158, 159, 160, 161, 162, 163, 164, 165, 166, 167, 168, 169, 170, 171, 172, 173, 174, 175, 176, 177, 49, 178, 179, 180, 181, 107, 182, 183, 184, 185, 103, 105, 186, 187, 188, 189, 106, 59, 199, 200, 201, 202, 203, 204, 205, 206, 207, 208, 209, 210, 211, 212, 213, 214, 215, 216, 229, 230, 231, 217, 218, 219, 220, 221, 222, 223, 224, 225] (by decide +kernel) (by decide +kernel)
set_option maxRecDepth 20000 in
theorem gX7_closeSession_X4_closeInDrive : GoodIn wsX7_closeSession (wsV RX7 278 RX4 yX4_closeInDrive wsX4_closeInDrive) := goodIn_app (goodIn_of _ (by decide +kernel)) ggX7_closeSession_X4_closeInDrive
theorem dX7_closeSession_0 : decode cX7_closeSession 0 = .ok (.aload_n 0, 1) := by decide +kernel
theorem dX7_closeSession_1 : decode cX7_closeSession 1 = .ok (.getfield 19, 3) := by decide +kernel
theorem dX7_closeSession_4 : decode cX7_closeSession 4 = .ok (.iload_n 1, 1) := by decide +kernel
theorem dX7_closeSession_5 : decode cX7_closeSession 5 = .ok (.invokevirtual 74, 3) := by decide +kernel
theorem dX7_closeSession_8 : decode cX7_closeSession 8 = .ok (.ifCond .ne 6, 3) := by decide +kernel
theorem dX7_closeSession_11 : decode cX7_closeSession 11 = .ok (.ldc 87, 2) := by decide +kernel
theorem dX7_closeSession_13 : decode cX7_closeSession 13 = .ok (.ireturn, 1) := by decide +kernel
theorem dX7_closeSession_14 : decode cX7_closeSession 14 = .ok (.aload_n 0, 1) := by decide +kernel
theorem dX7_closeSession_15 : decode cX7_closeSession 15 = .ok (.getfield 19, 3) := by decide +kernel
theorem dX7_closeSession_18 : decode cX7_closeSession 18 = .ok (.getfield 78, 3) := by decide +kernel
theorem dX7_closeSession_21 : decode cX7_closeSession 21 = .ok (.iload_n 1, 1) := by decide +kernel
theorem dX7_closeSession_22 : decode cX7_closeSession 22 = .ok (.aaload, 1) := by decide +kernel
theorem dX7_closeSession_23 : decode cX7_closeSession 23 = .ok (.getfield 149, 3) := by decide +kernel
theorem dX7_closeSession_26 : decode cX7_closeSession 26 = .ok (.ifCond .ne 6, 3) := by decide +kernel
theorem dX7_closeSession_29 : decode cX7_closeSession 29 = .ok (.ldc 73, 2) := by decide +kernel
theorem dX7_closeSession_31 : decode cX7_closeSession 31 = .ok (.ireturn, 1) := by decide +kernel
theorem dX7_closeSession_32 : decode cX7_closeSession 32 = .ok (.aload_n 0, 1) := by decide +kernel
theorem dX7_closeSession_33 : decode cX7_closeSession 33 = .ok (.getfield 19, 3) := by decide +kernel
theorem dX7_closeSession_36 : decode cX7_closeSession 36 = .ok (.getfield 134, 3) := by decide +kernel
theorem dX7_closeSession_39 : decode cX7_closeSession 39 = .ok (.ifCond .ne 6, 3) := by decide +kernel
theorem dX7_closeSession_42 : decode cX7_closeSession 42 = .ok (.ldc 137, 2) := by decide +kernel
theorem dX7_closeSession_44 : decode cX7_closeSession 44 = .ok (.ireturn, 1) := by decide +kernel
theorem dX7_closeSession_45 : decode cX7_closeSession 45 = .ok (.aload_n 0, 1) := by decide +kernel
theorem dX7_closeSession_46 : decode cX7_closeSession 46 = .ok (.invokevirtual 256, 3) := by decide +kernel
theorem dX7_closeSession_49 : decode cX7_closeSession 49 = .ok (.aload_n 0, 1) := by decide +kernel
theorem dX7_closeSession_50 : decode cX7_closeSession 50 = .ok (.getfield 19, 3) := by decide +kernel
theorem dX7_closeSession_53 : decode cX7_closeSession 53 = .ok (.iload_n 1, 1) := by decide +kernel
theorem dX7_closeSession_54 : decode cX7_closeSession 54 = .ok (.invokevirtual 278, 3) := by decide +kernel
theorem dX7_closeSession_57 : decode cX7_closeSession 57 = .ok (.ireturn, 1) := by decide +kernel
set_option maxRecDepth 20000 in
theorem ggX7_markBad_X4_hasSector : GoodIn wsX7_markBad wsX4_hasSector := goodIn_r _ [11, 12, 13, 14, 15, 16, 10, 17, 18, 169, 170, 171, 172, 173, 174, 175, 176, 177, 178, 179, 180, 181, 182, 183, 184, 185, 186, 187, 188, 189, 190, 191, 192, 193, 194, 195] (by decide +kernel) (by decide +kernel)
set_option maxRecDepth 20000 in
theorem gX7_markBad_X4_hasSector : GoodIn wsX7_markBad (wsV RX7 170 RX4 yX4_hasSector wsX4_hasSector) := goodIn_app (goodIn_of _ (by decide +kernel)) ggX7_markBad_X4_hasSector
set_option maxRecDepth 20000 in
theorem ggX7_markBad_X3_isBad : GoodIn wsX7_markBad wsX3_isBad := goodIn_r _ [23, 24, 187, 188, 189, 190, 191, 192, 193, 194, 195] (by decide +kernel) (by decide +kernel)
set_option maxRecDepth 20000 in
theorem gX7_markBad_X3_isBad : GoodIn wsX7_markBad (wsV RX7 281 RX3 yX3_isBad wsX3_isBad) := goodIn_app (goodIn_of _ (by decide +kernel)) ggX7_markBad_X3_isBad
set_option maxRecDepth 20000 in
theorem ggX7_markBad_X7_remember : GoodIn wsX7_markBad wsX7_remember := goodIn_r _ [29, 30, 1, 31, 32, 33, 34, 35, 36, 37, 38, 39, 40, 10, 41, 42, 43, 44, 45, 46, 47, 48, 49, 50, 51, 12, 52, 53, 54, 55, 56, 57, 58, 22, 59, 60, 61, 62, 63, 64, 65, 66, 67, 68, 24, 69, 70, 71, 72, 73, 74, 75, 76, 77, 78, 18, 79, 80, 81, 82, 83, 84, 85, 86, 87, 88, 89, 90, 91, 92, 93, 94, 95, 96, 97, 98, 99, 100, 101, 102, 103, 104, 105, 106, 107, 108, 109, 110, 111, 112, 113, 114, 115, 116, 117, 118, 119, 120, 121, 122, 123, 124, 125, 126, 127, 128, 129, 130, 28, 131, 132, 133, 134, 135, 136, 137, 138, 160, 161, 162, 163, 164, 165, 166, 167, 168, 196, 197, 198, 169, 170, 171, 172, 173, 174, 175, 176, 177, 178, 179, 180, 181, 182, 183, 184, 185, 186, 199, 200, 201, 187, 188, 189, 190, 191, 192, 193, 194, 195, 202, 203, 204, 205, 206, 207, 208, 209, 210, 211, 212, 213, 214] (by decide +kernel) (by decide +kernel)
set_option maxRecDepth 20000 in
theorem gX7_markBad_X7_remember : GoodIn wsX7_markBad (wsV RX7 256 RX7 yX7_remember wsX7_remember) := goodIn_app (goodIn_of _ (by decide +kernel)) ggX7_markBad_X7_remember
set_option maxRecDepth 20000 in
theorem ggX7_markBad_X4_spoil : GoodIn wsX7_markBad wsX4_spoil := goodIn_r _ [142, 12, 79, 53, 143, 144, 145, 146, 22, 147, 24, 148, 149, 150, 10, 151, 80, 152, 153, 154, 60, 155, 122, 123, 124, 169, 170, 171, 172, 173, 174, 175, 176, 177, 178, 179, 180, 181, 182, 183, 184, 185, 186, 202, 203, 204, 205, 206, 207, 208, 187, 188, 189, 190, 191, 192, 193, 194, 195] (by decide +kernel) (by decide +kernel)
set_option maxRecDepth 20000 in
theorem gX7_markBad_X4_spoil : GoodIn wsX7_markBad (wsV RX7 288 RX4 yX4_spoil wsX4_spoil) := goodIn_app (goodIn_of _ (by decide +kernel)) ggX7_markBad_X4_spoil
set_option maxRecDepth 20000 in
theorem ggX7_markBad_X4_countDamaged : GoodIn wsX7_markBad wsX4_countDamaged := goodIn_r _ [159, 80, 53, 143, 169, 170, 171, 172, 173, 174, 175, 176, 177, 178, 179, 180, 181, 182, 183, 184, 185, 186, 202, 203, 204, 205, 206, 207, 208] (by decide +kernel) (by decide +kernel)
set_option maxRecDepth 20000 in
theorem gX7_markBad_X4_countDamaged : GoodIn wsX7_markBad (wsV RX7 292 RX4 yX4_countDamaged wsX4_countDamaged) := goodIn_app (goodIn_of _ (by decide +kernel)) ggX7_markBad_X4_countDamaged
theorem dX7_markBad_0 : decode cX7_markBad 0 = .ok (.aload_n 0, 1) := by decide +kernel
theorem dX7_markBad_1 : decode cX7_markBad 1 = .ok (.getfield 19, 3) := by decide +kernel
theorem dX7_markBad_4 : decode cX7_markBad 4 = .ok (.iload_n 1, 1) := by decide +kernel
theorem dX7_markBad_5 : decode cX7_markBad 5 = .ok (.iload_n 2, 1) := by decide +kernel
theorem dX7_markBad_6 : decode cX7_markBad 6 = .ok (.invokevirtual 170, 3) := by decide +kernel
theorem dX7_markBad_9 : decode cX7_markBad 9 = .ok (.ifCond .ne 6, 3) := by decide +kernel
theorem dX7_markBad_12 : decode cX7_markBad 12 = .ok (.ldc 87, 2) := by decide +kernel
theorem dX7_markBad_14 : decode cX7_markBad 14 = .ok (.ireturn, 1) := by decide +kernel
theorem dX7_markBad_15 : decode cX7_markBad 15 = .ok (.aload_n 0, 1) := by decide +kernel
theorem dX7_markBad_16 : decode cX7_markBad 16 = .ok (.getfield 19, 3) := by decide +kernel
theorem dX7_markBad_19 : decode cX7_markBad 19 = .ok (.getfield 78, 3) := by decide +kernel
theorem dX7_markBad_22 : decode cX7_markBad 22 = .ok (.iload_n 1, 1) := by decide +kernel
theorem dX7_markBad_23 : decode cX7_markBad 23 = .ok (.aaload, 1) := by decide +kernel
theorem dX7_markBad_24 : decode cX7_markBad 24 = .ok (.iload_n 2, 1) := by decide +kernel
theorem dX7_markBad_25 : decode cX7_markBad 25 = .ok (.invokevirtual 281, 3) := by decide +kernel
theorem dX7_markBad_28 : decode cX7_markBad 28 = .ok (.ifCond .eq 7, 3) := by decide +kernel
theorem dX7_markBad_31 : decode cX7_markBad 31 = .ok (.ldc_w 284, 3) := by decide +kernel
theorem dX7_markBad_34 : decode cX7_markBad 34 = .ok (.ireturn, 1) := by decide +kernel
theorem dX7_markBad_35 : decode cX7_markBad 35 = .ok (.aload_n 0, 1) := by decide +kernel
theorem dX7_markBad_36 : decode cX7_markBad 36 = .ok (.getfield 19, 3) := by decide +kernel
theorem dX7_markBad_39 : decode cX7_markBad 39 = .ok (.getfield 285, 3) := by decide +kernel
theorem dX7_markBad_42 : decode cX7_markBad 42 = .ok (.bipush 20, 2) := by decide +kernel
theorem dX7_markBad_44 : decode cX7_markBad 44 = .ok (.if_icmp .lt 6, 3) := by decide +kernel
theorem dX7_markBad_47 : decode cX7_markBad 47 = .ok (.ldc 41, 2) := by decide +kernel
theorem dX7_markBad_49 : decode cX7_markBad 49 = .ok (.ireturn, 1) := by decide +kernel
theorem dX7_markBad_50 : decode cX7_markBad 50 = .ok (.aload_n 0, 1) := by decide +kernel
theorem dX7_markBad_51 : decode cX7_markBad 51 = .ok (.invokevirtual 256, 3) := by decide +kernel
theorem dX7_markBad_54 : decode cX7_markBad 54 = .ok (.aload_n 0, 1) := by decide +kernel
theorem dX7_markBad_55 : decode cX7_markBad 55 = .ok (.getfield 19, 3) := by decide +kernel
theorem dX7_markBad_58 : decode cX7_markBad 58 = .ok (.iload_n 1, 1) := by decide +kernel
theorem dX7_markBad_59 : decode cX7_markBad 59 = .ok (.iload_n 2, 1) := by decide +kernel
theorem dX7_markBad_60 : decode cX7_markBad 60 = .ok (.invokevirtual 288, 3) := by decide +kernel
theorem dX7_markBad_63 : decode cX7_markBad 63 = .ok (.aload_n 0, 1) := by decide +kernel
theorem dX7_markBad_64 : decode cX7_markBad 64 = .ok (.getfield 19, 3) := by decide +kernel
theorem dX7_markBad_67 : decode cX7_markBad 67 = .ok (.invokevirtual 292, 3) := by decide +kernel
theorem dX7_markBad_70 : decode cX7_markBad 70 = .ok (.ireturn, 1) := by decide +kernel
set_option maxRecDepth 20000 in
theorem ggX7_moveHome_X4_hasPlatter : GoodIn wsX7_moveHome wsX4_hasPlatter := goodIn_r _ [12, 13, 154, 155, 156, 157, 158, 159, 160, 161, 162, 163, 164, 165, 166, 167, 168, 169, 170, 171] (by decide +kernel) (by decide +kernel)
set_option maxRecDepth 20000 in
theorem gX7_moveHome_X4_hasPlatter : GoodIn wsX7_moveHome (wsV RX7 74 RX4 yX4_hasPlatter wsX4_hasPlatter) := goodIn_app (goodIn_of _ (by decide +kernel)) ggX7_moveHome_X4_hasPlatter
set_option maxRecDepth 20000 in
theorem ggX7_moveHome_X4_hasSlot : GoodIn wsX7_moveHome wsX4_hasSlot := goodIn_r _ [17, 18, 154, 155, 156, 157, 158, 159, 160, 161, 162, 163, 164, 165, 166, 167, 168, 169, 170, 171] (by decide +kernel) (by decide +kernel)
set_option maxRecDepth 20000 in
theorem gX7_moveHome_X4_hasSlot : GoodIn wsX7_moveHome (wsV RX7 88 RX4 yX4_hasSlot wsX4_hasSlot) := goodIn_app (goodIn_of _ (by decide +kernel)) ggX7_moveHome_X4_hasSlot
set_option maxRecDepth 20000 in
theorem ggX7_moveHome_X4_driveHolding : GoodIn wsX7_moveHome wsX4_driveHolding := goodIn_r _ [22, 23, 24, 25, 154, 155, 156, 157, 158, 159, 160, 161, 162, 163, 164, 165, 166, 167, 168, 169, 170, 171, 181, 182, 183] (by decide +kernel) (by decide +kernel)
set_option maxRecDepth 20000 in
theorem gX7_moveHome_X4_driveHolding : GoodIn wsX7_moveHome (wsV RX7 95 RX4 yX4_driveHolding wsX4_driveHolding) := goodIn_app (goodIn_of _ (by decide +kernel)) ggX7_moveHome_X4_driveHolding
set_option maxRecDepth 20000 in
theorem ggX7_moveHome_X4_platterWithHome : GoodIn wsX7_moveHome wsX4_platterWithHome := goodIn_r _ [29, 13, 30, 31, 154, 155, 156, 157, 158, 159, 160, 161, 162, 163, 164, 165, 166, 167, 168, 169, 170, 171, 172, 173, 174, 175, 176, 177, 178, 179, 180] (by decide +kernel) (by decide +kernel)
set_option maxRecDepth 20000 in
theorem gX7_moveHome_X4_platterWithHome : GoodIn wsX7_moveHome (wsV RX7 91 RX4 yX4_platterWithHome wsX4_platterWithHome) := goodIn_app (goodIn_of _ (by decide +kernel)) ggX7_moveHome_X4_platterWithHome
set_option maxRecDepth 20000 in
theorem ggX7_moveHome_X7_remember : GoodIn wsX7_moveHome wsX7_remember := goodIn_r _ [36, 37, 1, 38, 39, 40, 41, 42, 43, 44, 45, 46, 47, 11, 48, 49, 50, 51, 52, 53, 54, 55, 56, 24, 57, 30, 58, 59, 60, 61, 62, 63, 64, 65, 66, 67, 68, 69, 70, 71, 72, 73, 74, 75, 76, 77, 78, 79, 80, 81, 82, 83, 18, 23, 84, 13, 85, 86, 87, 88, 89, 90, 91, 92, 93, 94, 95, 96, 97, 98, 99, 100, 101, 102, 103, 104, 105, 106, 107, 108, 109, 110, 111, 112, 113, 114, 115, 116, 117, 118, 119, 120, 121, 122, 123, 124, 125, 126, 127, 128, 129, 130, 131, 132, 133, 134, 135, 136, 35, 137, 138, 139, 140, 141, 142, 143, 144, 145, 146, 147, 148, 149, 150, 151, 152, 153, 184, 185, 186, 154, 155, 156, 157, 158, 159, 160, 161, 162, 163, 164, 165, 166, 167, 168, 169, 170, 171, 181, 182, 183, 172, 173, 174, 175, 176, 177, 178, 179, 180, 187, 188, 189, 190, 191, 192, 193, 194, 195, 196, 197, 198, 199] (by decide +kernel) (by decide +kernel)
set_option maxRecDepth 20000 in
theorem gX7_moveHome_X7_remember : GoodIn wsX7_moveHome (wsV RX7 256 RX7 yX7_remember wsX7_remember) := goodIn_app (goodIn_of _ (by decide +kernel)) ggX7_moveHome_X7_remember
theorem dX7_moveHome_0 : decode cX7_moveHome 0 = .ok (.aload_n 0, 1) := by decide +kernel
theorem dX7_moveHome_1 : decode cX7_moveHome 1 = .ok (.getfield 19, 3) := by decide +kernel
theorem dX7_moveHome_4 : decode cX7_moveHome 4 = .ok (.iload_n 1, 1) := by decide +kernel
theorem dX7_moveHome_5 : decode cX7_moveHome 5 = .ok (.invokevirtual 74, 3) := by decide +kernel
theorem dX7_moveHome_8 : decode cX7_moveHome 8 = .ok (.ifCond .eq 14, 3) := by decide +kernel
theorem dX7_moveHome_11 : decode cX7_moveHome 11 = .ok (.aload_n 0, 1) := by decide +kernel
theorem dX7_moveHome_12 : decode cX7_moveHome 12 = .ok (.getfield 19, 3) := by decide +kernel
theorem dX7_moveHome_15 : decode cX7_moveHome 15 = .ok (.iload_n 2, 1) := by decide +kernel
theorem dX7_moveHome_16 : decode cX7_moveHome 16 = .ok (.invokevirtual 88, 3) := by decide +kernel
theorem dX7_moveHome_19 : decode cX7_moveHome 19 = .ok (.ifCond .ne 6, 3) := by decide +kernel
theorem dX7_moveHome_22 : decode cX7_moveHome 22 = .ok (.ldc 87, 2) := by decide +kernel
theorem dX7_moveHome_24 : decode cX7_moveHome 24 = .ok (.ireturn, 1) := by decide +kernel
theorem dX7_moveHome_25 : decode cX7_moveHome 25 = .ok (.aload_n 0, 1) := by decide +kernel
theorem dX7_moveHome_26 : decode cX7_moveHome 26 = .ok (.getfield 19, 3) := by decide +kernel
theorem dX7_moveHome_29 : decode cX7_moveHome 29 = .ok (.getfield 78, 3) := by decide +kernel
theorem dX7_moveHome_32 : decode cX7_moveHome 32 = .ok (.iload_n 1, 1) := by decide +kernel
theorem dX7_moveHome_33 : decode cX7_moveHome 33 = .ok (.aaload, 1) := by decide +kernel
theorem dX7_moveHome_34 : decode cX7_moveHome 34 = .ok (.getfield 82, 3) := by decide +kernel
theorem dX7_moveHome_37 : decode cX7_moveHome 37 = .ok (.istore_n 3, 1) := by decide +kernel
theorem dX7_moveHome_38 : decode cX7_moveHome 38 = .ok (.iload_n 3, 1) := by decide +kernel
theorem dX7_moveHome_39 : decode cX7_moveHome 39 = .ok (.iload_n 2, 1) := by decide +kernel
theorem dX7_moveHome_40 : decode cX7_moveHome 40 = .ok (.if_icmp .ne 7, 3) := by decide +kernel
theorem dX7_moveHome_43 : decode cX7_moveHome 43 = .ok (.ldc_w 284, 3) := by decide +kernel
theorem dX7_moveHome_46 : decode cX7_moveHome 46 = .ok (.ireturn, 1) := by decide +kernel
theorem dX7_moveHome_47 : decode cX7_moveHome 47 = .ok (.aload_n 0, 1) := by decide +kernel
theorem dX7_moveHome_48 : decode cX7_moveHome 48 = .ok (.getfield 19, 3) := by decide +kernel
theorem dX7_moveHome_51 : decode cX7_moveHome 51 = .ok (.iload_n 1, 1) := by decide +kernel
theorem dX7_moveHome_52 : decode cX7_moveHome 52 = .ok (.invokevirtual 95, 3) := by decide +kernel
theorem dX7_moveHome_55 : decode cX7_moveHome 55 = .ok (.iconst (-1), 1) := by decide +kernel
theorem dX7_moveHome_56 : decode cX7_moveHome 56 = .ok (.if_icmp .eq 6, 3) := by decide +kernel
theorem dX7_moveHome_59 : decode cX7_moveHome 59 = .ok (.ldc 73, 2) := by decide +kernel
theorem dX7_moveHome_61 : decode cX7_moveHome 61 = .ok (.ireturn, 1) := by decide +kernel
theorem dX7_moveHome_62 : decode cX7_moveHome 62 = .ok (.aload_n 0, 1) := by decide +kernel
theorem dX7_moveHome_63 : decode cX7_moveHome 63 = .ok (.getfield 19, 3) := by decide +kernel
theorem dX7_moveHome_66 : decode cX7_moveHome 66 = .ok (.iload_n 2, 1) := by decide +kernel
theorem dX7_moveHome_67 : decode cX7_moveHome 67 = .ok (.invokevirtual 91, 3) := by decide +kernel
theorem dX7_moveHome_70 : decode cX7_moveHome 70 = .ok (.iconst (-1), 1) := by decide +kernel
theorem dX7_moveHome_71 : decode cX7_moveHome 71 = .ok (.if_icmp .eq 6, 3) := by decide +kernel
theorem dX7_moveHome_74 : decode cX7_moveHome 74 = .ok (.ldc 41, 2) := by decide +kernel
theorem dX7_moveHome_76 : decode cX7_moveHome 76 = .ok (.ireturn, 1) := by decide +kernel
theorem dX7_moveHome_77 : decode cX7_moveHome 77 = .ok (.aload_n 0, 1) := by decide +kernel
theorem dX7_moveHome_78 : decode cX7_moveHome 78 = .ok (.invokevirtual 256, 3) := by decide +kernel
theorem dX7_moveHome_81 : decode cX7_moveHome 81 = .ok (.aload_n 0, 1) := by decide +kernel
theorem dX7_moveHome_82 : decode cX7_moveHome 82 = .ok (.getfield 19, 3) := by decide +kernel
theorem dX7_moveHome_85 : decode cX7_moveHome 85 = .ok (.getfield 78, 3) := by decide +kernel
theorem dX7_moveHome_88 : decode cX7_moveHome 88 = .ok (.iload_n 1, 1) := by decide +kernel
theorem dX7_moveHome_89 : decode cX7_moveHome 89 = .ok (.aaload, 1) := by decide +kernel
theorem dX7_moveHome_90 : decode cX7_moveHome 90 = .ok (.iload_n 2, 1) := by decide +kernel
theorem dX7_moveHome_91 : decode cX7_moveHome 91 = .ok (.putfield 82, 3) := by decide +kernel
theorem dX7_moveHome_94 : decode cX7_moveHome 94 = .ok (.iload_n 3, 1) := by decide +kernel
theorem dX7_moveHome_95 : decode cX7_moveHome 95 = .ok (.ireturn, 1) := by decide +kernel
theorem dX7_isTime_0 : decode cX7_isTime 0 = .ok (.iload_n 0, 1) := by decide +kernel
theorem dX7_isTime_1 : decode cX7_isTime 1 = .ok (.ifCond .lt 13, 3) := by decide +kernel
theorem dX7_isTime_4 : decode cX7_isTime 4 = .ok (.iload_n 0, 1) := by decide +kernel
theorem dX7_isTime_5 : decode cX7_isTime 5 = .ok (.bipush 99, 2) := by decide +kernel
theorem dX7_isTime_7 : decode cX7_isTime 7 = .ok (.if_icmp .gt 7, 3) := by decide +kernel
theorem dX7_isTime_10 : decode cX7_isTime 10 = .ok (.iconst 1, 1) := by decide +kernel
theorem dX7_isTime_11 : decode cX7_isTime 11 = .ok (.goto 4, 3) := by decide +kernel
theorem dX7_isTime_14 : decode cX7_isTime 14 = .ok (.iconst 0, 1) := by decide +kernel
theorem dX7_isTime_15 : decode cX7_isTime 15 = .ok (.ireturn, 1) := by decide +kernel
set_option maxRecDepth 20000 in
theorem ggX7_setTimes_X7_isTime : GoodIn wsX7_setTimes wsX7_isTime := goodIn_r _ [8] (by decide +kernel) (by decide +kernel)
set_option maxRecDepth 20000 in
theorem gX7_setTimes_X7_isTime : GoodIn wsX7_setTimes (va_wsS RX7 295 yX7_isTime wsX7_isTime) := goodIn_app (goodIn_of _ (by decide +kernel)) ggX7_setTimes_X7_isTime
set_option maxRecDepth 20000 in
theorem ggX7_setTimes_X7_remember : GoodIn wsX7_setTimes wsX7_remember := goodIn_r _ [12, 13, 2, 14, 15, 16, 17, 18, 19, 20, 21, 22, 23, 24, 25, 26, 27, 28, 29, 30, 31, 32, 33, 34, 35, 36, 37, 38, 39, 40, 41, 42, 43, 44, 45, 46, 47, 48, 49, 50, 51, 52, 53, 54, 55, 56, 57, 58, 59, 60, 61, 62, 63, 64, 65, 66, 67, 68, 69, 70, 71, 72, 73, 74, 75, 76, 77, 78, 79, 80, 81, 82, 83, 84, 85, 86, 87, 88, 89, 90, 91, 92, 93, 94, 95, 96, 97, 98, 99, 100, 101, 102, 103, 104, 105, 106, 107, 108, 109, 110, 111, 112, 113, 114, 115, 116, 117, 118, 7, 119, 120, 121, 122, 123, 124, 125, 126, 128, 129, 130, 131, 132, 133, 134, 135, 136, 155, 156, 157, 137, 138, 139, 140, 141, 142, 143, 144, 145, 146, 147, 148, 149, 150, 151, 152, 153, 154, 158, 159, 160, 161, 162, 163, 164, 165, 166, 167, 168, 169, 170, 171, 172, 173, 174, 175, 176, 177, 178, 179, 180, 181, 182] (by decide +kernel) (by decide +kernel)
set_option maxRecDepth 20000 in
theorem gX7_setTimes_X7_remember : GoodIn wsX7_setTimes (wsV RX7 256 RX7 yX7_remember wsX7_remember) := goodIn_app (goodIn_of _ (by decide +kernel)) ggX7_setTimes_X7_remember
set_option maxRecDepth 20000 in
theorem ggX7_setTimes_X4_putTimes : GoodIn wsX7_setTimes wsX4_putTimes := goodIn_r _ [78, 32, 137, 138, 139, 140, 141, 142, 143, 144, 145, 146, 147, 148, 149, 150, 151, 152, 153, 154] (by decide +kernel) (by decide +kernel)
set_option maxRecDepth 20000 in
theorem gX7_setTimes_X4_putTimes : GoodIn wsX7_setTimes (wsV RX7 301 RX4 yX4_putTimes wsX4_putTimes) := goodIn_app (goodIn_of _ (by decide +kernel)) ggX7_setTimes_X4_putTimes
theorem dX7_setTimes_0 : decode cX7_setTimes 0 = .ok (.iload_n 1, 1) := by decide +kernel
theorem dX7_setTimes_1 : decode cX7_setTimes 1 = .ok (.invokestatic 295, 3) := by decide +kernel
theorem dX7_setTimes_4 : decode cX7_setTimes 4 = .ok (.ifCond .eq 33, 3) := by decide +kernel
theorem dX7_setTimes_7 : decode cX7_setTimes 7 = .ok (.iload_n 2, 1) := by decide +kernel
theorem dX7_setTimes_8 : decode cX7_setTimes 8 = .ok (.invokestatic 295, 3) := by decide +kernel
theorem dX7_setTimes_11 : decode cX7_setTimes 11 = .ok (.ifCond .eq 26, 3) := by decide +kernel
theorem dX7_setTimes_14 : decode cX7_setTimes 14 = .ok (.iload_n 3, 1) := by decide +kernel
theorem dX7_setTimes_15 : decode cX7_setTimes 15 = .ok (.invokestatic 295, 3) := by decide +kernel
theorem dX7_setTimes_18 : decode cX7_setTimes 18 = .ok (.ifCond .eq 19, 3) := by decide +kernel
theorem dX7_setTimes_21 : decode cX7_setTimes 21 = .ok (.iload 4, 2) := by decide +kernel
theorem dX7_setTimes_23 : decode cX7_setTimes 23 = .ok (.invokestatic 295, 3) := by decide +kernel
theorem dX7_setTimes_26 : decode cX7_setTimes 26 = .ok (.ifCond .eq 11, 3) := by decide +kernel
theorem dX7_setTimes_29 : decode cX7_setTimes 29 = .ok (.iload 5, 2) := by decide +kernel
theorem dX7_setTimes_31 : decode cX7_setTimes 31 = .ok (.invokestatic 295, 3) := by decide +kernel
theorem dX7_setTimes_34 : decode cX7_setTimes 34 = .ok (.ifCond .ne 6, 3) := by decide +kernel
theorem dX7_setTimes_37 : decode cX7_setTimes 37 = .ok (.ldc 46, 2) := by decide +kernel
theorem dX7_setTimes_39 : decode cX7_setTimes 39 = .ok (.ireturn, 1) := by decide +kernel
theorem dX7_setTimes_40 : decode cX7_setTimes 40 = .ok (.aload_n 0, 1) := by decide +kernel
theorem dX7_setTimes_41 : decode cX7_setTimes 41 = .ok (.getfield 19, 3) := by decide +kernel
theorem dX7_setTimes_44 : decode cX7_setTimes 44 = .ok (.getfield 298, 3) := by decide +kernel
theorem dX7_setTimes_47 : decode cX7_setTimes 47 = .ok (.astore 6, 2) := by decide +kernel
theorem dX7_setTimes_49 : decode cX7_setTimes 49 = .ok (.aload 6, 2) := by decide +kernel
theorem dX7_setTimes_51 : decode cX7_setTimes 51 = .ok (.iconst 0, 1) := by decide +kernel
theorem dX7_setTimes_52 : decode cX7_setTimes 52 = .ok (.iaload, 1) := by decide +kernel
theorem dX7_setTimes_53 : decode cX7_setTimes 53 = .ok (.iload_n 1, 1) := by decide +kernel
theorem dX7_setTimes_54 : decode cX7_setTimes 54 = .ok (.if_icmp .ne 41, 3) := by decide +kernel
theorem dX7_setTimes_57 : decode cX7_setTimes 57 = .ok (.aload 6, 2) := by decide +kernel
theorem dX7_setTimes_59 : decode cX7_setTimes 59 = .ok (.iconst 1, 1) := by decide +kernel
theorem dX7_setTimes_60 : decode cX7_setTimes 60 = .ok (.iaload, 1) := by decide +kernel
theorem dX7_setTimes_61 : decode cX7_setTimes 61 = .ok (.iload_n 2, 1) := by decide +kernel
theorem dX7_setTimes_62 : decode cX7_setTimes 62 = .ok (.if_icmp .ne 33, 3) := by decide +kernel
theorem dX7_setTimes_65 : decode cX7_setTimes 65 = .ok (.aload 6, 2) := by decide +kernel
theorem dX7_setTimes_67 : decode cX7_setTimes 67 = .ok (.iconst 2, 1) := by decide +kernel
theorem dX7_setTimes_68 : decode cX7_setTimes 68 = .ok (.iaload, 1) := by decide +kernel
theorem dX7_setTimes_69 : decode cX7_setTimes 69 = .ok (.iload_n 3, 1) := by decide +kernel
theorem dX7_setTimes_70 : decode cX7_setTimes 70 = .ok (.if_icmp .ne 25, 3) := by decide +kernel
theorem dX7_setTimes_73 : decode cX7_setTimes 73 = .ok (.aload 6, 2) := by decide +kernel
theorem dX7_setTimes_75 : decode cX7_setTimes 75 = .ok (.iconst 3, 1) := by decide +kernel
theorem dX7_setTimes_76 : decode cX7_setTimes 76 = .ok (.iaload, 1) := by decide +kernel
theorem dX7_setTimes_77 : decode cX7_setTimes 77 = .ok (.iload 4, 2) := by decide +kernel
theorem dX7_setTimes_79 : decode cX7_setTimes 79 = .ok (.if_icmp .ne 16, 3) := by decide +kernel
theorem dX7_setTimes_82 : decode cX7_setTimes 82 = .ok (.aload 6, 2) := by decide +kernel
theorem dX7_setTimes_84 : decode cX7_setTimes 84 = .ok (.iconst 4, 1) := by decide +kernel
theorem dX7_setTimes_85 : decode cX7_setTimes 85 = .ok (.iaload, 1) := by decide +kernel
theorem dX7_setTimes_86 : decode cX7_setTimes 86 = .ok (.iload 5, 2) := by decide +kernel
theorem dX7_setTimes_88 : decode cX7_setTimes 88 = .ok (.if_icmp .ne 7, 3) := by decide +kernel
theorem dX7_setTimes_91 : decode cX7_setTimes 91 = .ok (.ldc_w 284, 3) := by decide +kernel
theorem dX7_setTimes_94 : decode cX7_setTimes 94 = .ok (.ireturn, 1) := by decide +kernel
theorem dX7_setTimes_95 : decode cX7_setTimes 95 = .ok (.aload_n 0, 1) := by decide +kernel
theorem dX7_setTimes_96 : decode cX7_setTimes 96 = .ok (.invokevirtual 256, 3) := by decide +kernel
theorem dX7_setTimes_99 : decode cX7_setTimes 99 = .ok (.aload 6, 2) := by decide +kernel
theorem dX7_setTimes_101 : decode cX7_setTimes 101 = .ok (.iconst 0, 1) := by decide +kernel
theorem dX7_setTimes_102 : decode cX7_setTimes 102 = .ok (.iaload, 1) := by decide +kernel
theorem dX7_setTimes_103 : decode cX7_setTimes 103 = .ok (.aload 6, 2) := by decide +kernel
theorem dX7_setTimes_105 : decode cX7_setTimes 105 = .ok (.iconst 1, 1) := by decide +kernel
theorem dX7_setTimes_106 : decode cX7_setTimes 106 = .ok (.iaload, 1) := by decide +kernel
theorem dX7_setTimes_107 : decode cX7_setTimes 107 = .ok (.iadd, 1) := by decide +kernel
theorem dX7_setTimes_108 : decode cX7_setTimes 108 = .ok (.aload 6, 2) := by decide +kernel
theorem dX7_setTimes_110 : decode cX7_setTimes 110 = .ok (.iconst 2, 1) := by decide +kernel
theorem dX7_setTimes_111 : decode cX7_setTimes 111 = .ok (.iaload, 1) := by decide +kernel
theorem dX7_setTimes_112 : decode cX7_setTimes 112 = .ok (.iadd, 1) := by decide +kernel
theorem dX7_setTimes_113 : decode cX7_setTimes 113 = .ok (.aload 6, 2) := by decide +kernel
theorem dX7_setTimes_115 : decode cX7_setTimes 115 = .ok (.iconst 3, 1) := by decide +kernel
theorem dX7_setTimes_116 : decode cX7_setTimes 116 = .ok (.iaload, 1) := by decide +kernel
theorem dX7_setTimes_117 : decode cX7_setTimes 117 = .ok (.iadd, 1) := by decide +kernel
theorem dX7_setTimes_118 : decode cX7_setTimes 118 = .ok (.aload 6, 2) := by decide +kernel
theorem dX7_setTimes_120 : decode cX7_setTimes 120 = .ok (.iconst 4, 1) := by decide +kernel
theorem dX7_setTimes_121 : decode cX7_setTimes 121 = .ok (.iaload, 1) := by decide +kernel
theorem dX7_setTimes_122 : decode cX7_setTimes 122 = .ok (.iadd, 1) := by decide +kernel
theorem dX7_setTimes_123 : decode cX7_setTimes 123 = .ok (.istore 7, 2) := by decide +kernel
theorem dX7_setTimes_125 : decode cX7_setTimes 125 = .ok (.aload_n 0, 1) := by decide +kernel
theorem dX7_setTimes_126 : decode cX7_setTimes 126 = .ok (.getfield 19, 3) := by decide +kernel
theorem dX7_setTimes_129 : decode cX7_setTimes 129 = .ok (.iload_n 1, 1) := by decide +kernel
theorem dX7_setTimes_130 : decode cX7_setTimes 130 = .ok (.iload_n 2, 1) := by decide +kernel
theorem dX7_setTimes_131 : decode cX7_setTimes 131 = .ok (.iload_n 3, 1) := by decide +kernel
theorem dX7_setTimes_132 : decode cX7_setTimes 132 = .ok (.iload 4, 2) := by decide +kernel
theorem dX7_setTimes_134 : decode cX7_setTimes 134 = .ok (.iload 5, 2) := by decide +kernel
theorem dX7_setTimes_136 : decode cX7_setTimes 136 = .ok (.invokevirtual 301, 3) := by decide +kernel
theorem dX7_setTimes_139 : decode cX7_setTimes 139 = .ok (.iload 7, 2) := by decide +kernel
theorem dX7_setTimes_141 : decode cX7_setTimes 141 = .ok (.ireturn, 1) := by decide +kernel
set_option maxRecDepth 20000 in
theorem ggX7_request_X4_hasFile : GoodIn wsX7_request wsX4_hasFile := goodIn_r _ [11, 12, 158, 159, 160, 161, 162, 163, 164, 165, 166, 167, 168, 169, 170, 171, 172, 173, 174, 175] (by decide +kernel) (by decide +kernel)
set_option maxRecDepth 20000 in
theorem gX7_request_X4_hasFile : GoodIn wsX7_request (wsV RX7 201 RX4 yX4_hasFile wsX4_hasFile) := goodIn_app (goodIn_of _ (by decide +kernel)) ggX7_request_X4_hasFile
set_option maxRecDepth 20000 in
theorem ggX7_request_X4_isReadable : GoodIn wsX7_request wsX4_isReadable := goodIn_r _ [16, 17, 18, 19, 10, 20, 21, 22, 23, 24, 25, 26, 27, 28, 29, 30, 31, 32, 33, 34, 35, 36, 37, 158, 159, 160, 161, 162, 163, 164, 165, 166, 167, 168, 169, 170, 171, 172, 173, 174, 175, 176, 177, 178, 179, 180, 181, 182, 183, 184, 185, 186, 187, 188, 189, 190, 191] (by decide +kernel) (by decide +kernel)
set_option maxRecDepth 20000 in
theorem gX7_request_X4_isReadable : GoodIn wsX7_request (wsV RX7 229 RX4 yX4_isReadable wsX4_isReadable) := goodIn_app (goodIn_of _ (by decide +kernel)) ggX7_request_X4_isReadable
set_option maxRecDepth 20000 in
theorem ggX7_request_X7_remember : GoodIn wsX7_request wsX7_remember := goodIn_r _ [42, 43, 1, 44, 45, 46, 47, 48, 49, 50, 51, 52, 53, 10, 54, 55, 56, 57, 58, 59, 60, 61, 62, 63, 64, 28, 65, 21, 22, 66, 67, 68, 69, 34, 70, 71, 72, 73, 74, 75, 76, 77, 78, 79, 80, 81, 82, 83, 84, 85, 86, 87, 88, 89, 90, 91, 92, 93, 12, 94, 95, 96, 97, 98, 99, 100, 101, 102, 103, 104, 105, 106, 107, 108, 109, 110, 111, 112, 113, 114, 115, 116, 117, 118, 119, 120, 121, 122, 123, 124, 125, 37, 36, 126, 127, 128, 129, 130, 131, 132, 133, 134, 135, 136, 137, 138, 139, 140, 41, 141, 142, 143, 144, 145, 146, 147, 148, 149, 150, 151, 152, 153, 154, 155, 156, 157, 192, 193, 194, 158, 159, 160, 161, 162, 163, 164, 165, 166, 167, 168, 169, 170, 171, 172, 173, 174, 175, 195, 196, 197, 183, 184, 185, 186, 187, 188, 189, 190, 191, 176, 177, 178, 179, 180, 181, 182, 198, 199, 200, 201, 202, 203] (by decide +kernel) (by decide +kernel)
set_option maxRecDepth 20000 in
theorem gX7_request_X7_remember : GoodIn wsX7_request (wsV RX7 256 RX7 yX7_remember wsX7_remember) := goodIn_app (goodIn_of _ (by decide +kernel)) ggX7_request_X7_remember
theorem dX7_request_0 : decode cX7_request 0 = .ok (.aload_n 0, 1) := by decide +kernel
theorem dX7_request_1 : decode cX7_request 1 = .ok (.getfield 19, 3) := by decide +kernel
theorem dX7_request_4 : decode cX7_request 4 = .ok (.iload_n 1, 1) := by decide +kernel
theorem dX7_request_5 : decode cX7_request 5 = .ok (.invokevirtual 201, 3) := by decide +kernel
theorem dX7_request_8 : decode cX7_request 8 = .ok (.ifCond .ne 6, 3) := by decide +kernel
theorem dX7_request_11 : decode cX7_request 11 = .ok (.ldc 87, 2) := by decide +kernel
theorem dX7_request_13 : decode cX7_request 13 = .ok (.ireturn, 1) := by decide +kernel
theorem dX7_request_14 : decode cX7_request 14 = .ok (.aload_n 0, 1) := by decide +kernel
theorem dX7_request_15 : decode cX7_request 15 = .ok (.getfield 19, 3) := by decide +kernel
theorem dX7_request_18 : decode cX7_request 18 = .ok (.iload_n 1, 1) := by decide +kernel
theorem dX7_request_19 : decode cX7_request 19 = .ok (.invokevirtual 229, 3) := by decide +kernel
theorem dX7_request_22 : decode cX7_request 22 = .ok (.ifCond .ne 6, 3) := by decide +kernel
theorem dX7_request_25 : decode cX7_request 25 = .ok (.ldc 239, 2) := by decide +kernel
theorem dX7_request_27 : decode cX7_request 27 = .ok (.ireturn, 1) := by decide +kernel
theorem dX7_request_28 : decode cX7_request 28 = .ok (.aload_n 0, 1) := by decide +kernel
theorem dX7_request_29 : decode cX7_request 29 = .ok (.getfield 19, 3) := by decide +kernel
theorem dX7_request_32 : decode cX7_request 32 = .ok (.getfield 305, 3) := by decide +kernel
theorem dX7_request_35 : decode cX7_request 35 = .ok (.bipush 16, 2) := by decide +kernel
theorem dX7_request_37 : decode cX7_request 37 = .ok (.if_icmp .lt 6, 3) := by decide +kernel
theorem dX7_request_40 : decode cX7_request 40 = .ok (.ldc 41, 2) := by decide +kernel
theorem dX7_request_42 : decode cX7_request 42 = .ok (.ireturn, 1) := by decide +kernel
theorem dX7_request_43 : decode cX7_request 43 = .ok (.aload_n 0, 1) := by decide +kernel
theorem dX7_request_44 : decode cX7_request 44 = .ok (.invokevirtual 256, 3) := by decide +kernel
theorem dX7_request_47 : decode cX7_request 47 = .ok (.aload_n 0, 1) := by decide +kernel
theorem dX7_request_48 : decode cX7_request 48 = .ok (.getfield 19, 3) := by decide +kernel
theorem dX7_request_51 : decode cX7_request 51 = .ok (.getfield 308, 3) := by decide +kernel
theorem dX7_request_54 : decode cX7_request 54 = .ok (.aload_n 0, 1) := by decide +kernel
theorem dX7_request_55 : decode cX7_request 55 = .ok (.getfield 19, 3) := by decide +kernel
theorem dX7_request_58 : decode cX7_request 58 = .ok (.getfield 305, 3) := by decide +kernel
theorem dX7_request_61 : decode cX7_request 61 = .ok (.iload_n 1, 1) := by decide +kernel
theorem dX7_request_62 : decode cX7_request 62 = .ok (.iastore, 1) := by decide +kernel
theorem dX7_request_63 : decode cX7_request 63 = .ok (.aload_n 0, 1) := by decide +kernel
theorem dX7_request_64 : decode cX7_request 64 = .ok (.getfield 19, 3) := by decide +kernel
theorem dX7_request_67 : decode cX7_request 67 = .ok (.dup, 1) := by decide +kernel
theorem dX7_request_68 : decode cX7_request 68 = .ok (.getfield 305, 3) := by decide +kernel
theorem dX7_request_71 : decode cX7_request 71 = .ok (.iconst 1, 1) := by decide +kernel
theorem dX7_request_72 : decode cX7_request 72 = .ok (.iadd, 1) := by decide +kernel
theorem dX7_request_73 : decode cX7_request 73 = .ok (.putfield 305, 3) := by decide +kernel
theorem dX7_request_76 : decode cX7_request 76 = .ok (.aload_n 0, 1) := by decide +kernel
theorem dX7_request_77 : decode cX7_request 77 = .ok (.getfield 19, 3) := by decide +kernel
theorem dX7_request_80 : decode cX7_request 80 = .ok (.getfield 305, 3) := by decide +kernel
theorem dX7_request_83 : decode cX7_request 83 = .ok (.ireturn, 1) := by decide +kernel
set_option maxRecDepth 20000 in
theorem ggX7_dropRequest_X4_hasRequest : GoodIn wsX7_dropRequest wsX4_hasRequest := goodIn_r _ [7, 8, 139, 140, 141, 142, 143, 144, 145, 146, 147, 148, 149, 150, 151, 152, 153, 154, 155, 156] (by decide +kernel) (by decide +kernel)
set_option maxRecDepth 20000 in
theorem gX7_dropRequest_X4_hasRequest : GoodIn wsX7_dropRequest (wsV RX7 311 RX4 yX4_hasRequest wsX4_hasRequest) := goodIn_app (goodIn_of _ (by decide +kernel)) ggX7_dropRequest_X4_hasRequest
set_option maxRecDepth 20000 in
theorem ggX7_dropRequest_X7_remember : GoodIn wsX7_dropRequest wsX7_remember := goodIn_r _ [13, 14, 1, 15, 16, 17, 18, 19, 20, 21, 22, 23, 24, 6, 25, 26, 27, 28, 29, 30, 31, 32, 33, 34, 35, 36, 37, 38, 39, 40, 41, 42, 43, 44, 45, 46, 47, 48, 49, 50, 51, 52, 53, 54, 55, 56, 57, 58, 59, 60, 61, 62, 63, 64, 65, 66, 67, 68, 69, 8, 70, 71, 72, 73, 74, 75, 76, 77, 78, 79, 80, 81, 82, 83, 84, 85, 86, 87, 88, 89, 90, 91, 92, 93, 94, 95, 96, 97, 98, 99, 100, 101, 102, 103, 104, 105, 106, 107, 108, 109, 110, 111, 112, 113, 114, 115, 116, 117, 12, 118, 119, 120, 121, 122, 123, 124, 125, 130, 131, 132, 133, 134, 135, 136, 137, 138, 157, 158, 159, 139, 140, 141, 142, 143, 144, 145, 146, 147, 148, 149, 150, 151, 152, 153, 154, 155, 156, 160, 161, 162, 163, 164, 165, 166, 167, 168, 169, 170, 171, 172, 173, 174, 175, 176, 177, 178, 179, 180, 181, 182, 183, 184] (by decide +kernel) (by decide +kernel)
set_option maxRecDepth 20000 in
theorem gX7_dropRequest_X7_remember : GoodIn wsX7_dropRequest (wsV RX7 256 RX7 yX7_remember wsX7_remember) := goodIn_app (goodIn_of _ (by decide +kernel)) ggX7_dropRequest_X7_remember
set_option maxRecDepth 20000 in
theorem ggX7_dropRequest_X4_removeRequest : GoodIn wsX7_dropRequest wsX4_removeRequest := goodIn_r _ [129, 40, 8, 139, 140, 141, 142, 143, 144, 145, 146, 147, 148, 149, 150, 151, 152, 153, 154, 155, 156] (by decide +kernel) (by decide +kernel)
set_option maxRecDepth 20000 in
theorem gX7_dropRequest_X4_removeRequest : GoodIn wsX7_dropRequest (wsV RX7 314 RX4 yX4_removeRequest wsX4_removeRequest) := goodIn_app (goodIn_of _ (by decide +kernel)) ggX7_dropRequest_X4_removeRequest
theorem dX7_dropRequest_0 : decode cX7_dropRequest 0 = .ok (.aload_n 0, 1) := by decide +kernel
theorem dX7_dropRequest_1 : decode cX7_dropRequest 1 = .ok (.getfield 19, 3) := by decide +kernel
theorem dX7_dropRequest_4 : decode cX7_dropRequest 4 = .ok (.iload_n 1, 1) := by decide +kernel
theorem dX7_dropRequest_5 : decode cX7_dropRequest 5 = .ok (.invokevirtual 311, 3) := by decide +kernel
theorem dX7_dropRequest_8 : decode cX7_dropRequest 8 = .ok (.ifCond .ne 6, 3) := by decide +kernel
theorem dX7_dropRequest_11 : decode cX7_dropRequest 11 = .ok (.ldc 87, 2) := by decide +kernel
theorem dX7_dropRequest_13 : decode cX7_dropRequest 13 = .ok (.ireturn, 1) := by decide +kernel
theorem dX7_dropRequest_14 : decode cX7_dropRequest 14 = .ok (.aload_n 0, 1) := by decide +kernel
theorem dX7_dropRequest_15 : decode cX7_dropRequest 15 = .ok (.invokevirtual 256, 3) := by decide +kernel
theorem dX7_dropRequest_18 : decode cX7_dropRequest 18 = .ok (.aload_n 0, 1) := by decide +kernel
theorem dX7_dropRequest_19 : decode cX7_dropRequest 19 = .ok (.getfield 19, 3) := by decide +kernel
theorem dX7_dropRequest_22 : decode cX7_dropRequest 22 = .ok (.iload_n 1, 1) := by decide +kernel
theorem dX7_dropRequest_23 : decode cX7_dropRequest 23 = .ok (.invokevirtual 314, 3) := by decide +kernel
theorem dX7_dropRequest_26 : decode cX7_dropRequest 26 = .ok (.ireturn, 1) := by decide +kernel
set_option maxRecDepth 20000 in
theorem ggX7_batchProblem_X4_isReadable : GoodIn wsX7_batchProblem wsX4_isReadable := goodIn_r _ [12, 13, 14, 15, 11, 16, 17, 18, 19, 20, 21, 22, 23, 24, 25, 26, 27, 28, 29, 30, 31, 32, 33, 43, 44, 45, 46, 47, 48, 49, 50, 51, 52, 53, 54, 55, 56, 57, 58, 59, 60, 61, 62, 63, 64, 65, 66, 67, 68, 69, 70, 71, 72, 73, 74, 75, 76] (by decide +kernel) (by decide +kernel)
set_option maxRecDepth 20000 in
theorem gX7_batchProblem_X4_isReadable : GoodIn wsX7_batchProblem (wsV RX7 229 RX4 yX4_isReadable wsX4_isReadable) := goodIn_app (goodIn_of _ (by decide +kernel)) ggX7_batchProblem_X4_isReadable
theorem dX7_batchProblem_0 : decode cX7_batchProblem 0 = .ok (.aload_n 0, 1) := by decide +kernel
theorem dX7_batchProblem_1 : decode cX7_batchProblem 1 = .ok (.getfield 19, 3) := by decide +kernel
theorem dX7_batchProblem_4 : decode cX7_batchProblem 4 = .ok (.getfield 305, 3) := by decide +kernel
theorem dX7_batchProblem_7 : decode cX7_batchProblem 7 = .ok (.iload_n 1, 1) := by decide +kernel
theorem dX7_batchProblem_8 : decode cX7_batchProblem 8 = .ok (.if_icmp .ge 6, 3) := by decide +kernel
theorem dX7_batchProblem_11 : decode cX7_batchProblem 11 = .ok (.ldc 73, 2) := by decide +kernel
theorem dX7_batchProblem_13 : decode cX7_batchProblem 13 = .ok (.ireturn, 1) := by decide +kernel
theorem dX7_batchProblem_14 : decode cX7_batchProblem 14 = .ok (.aload_n 0, 1) := by decide +kernel
theorem dX7_batchProblem_15 : decode cX7_batchProblem 15 = .ok (.getfield 19, 3) := by decide +kernel
theorem dX7_batchProblem_18 : decode cX7_batchProblem 18 = .ok (.getfield 134, 3) := by decide +kernel
theorem dX7_batchProblem_21 : decode cX7_batchProblem 21 = .ok (.ifCond .ne 6, 3) := by decide +kernel
theorem dX7_batchProblem_24 : decode cX7_batchProblem 24 = .ok (.ldc 137, 2) := by decide +kernel
theorem dX7_batchProblem_26 : decode cX7_batchProblem 26 = .ok (.ireturn, 1) := by decide +kernel
theorem dX7_batchProblem_27 : decode cX7_batchProblem 27 = .ok (.iconst 0, 1) := by decide +kernel
theorem dX7_batchProblem_28 : decode cX7_batchProblem 28 = .ok (.istore_n 2, 1) := by decide +kernel
theorem dX7_batchProblem_29 : decode cX7_batchProblem 29 = .ok (.iload_n 2, 1) := by decide +kernel
theorem dX7_batchProblem_30 : decode cX7_batchProblem 30 = .ok (.aload_n 0, 1) := by decide +kernel
theorem dX7_batchProblem_31 : decode cX7_batchProblem 31 = .ok (.getfield 19, 3) := by decide +kernel
theorem dX7_batchProblem_34 : decode cX7_batchProblem 34 = .ok (.getfield 305, 3) := by decide +kernel
theorem dX7_batchProblem_37 : decode cX7_batchProblem 37 = .ok (.if_icmp .ge 31, 3) := by decide +kernel
theorem dX7_batchProblem_40 : decode cX7_batchProblem 40 = .ok (.aload_n 0, 1) := by decide +kernel
theorem dX7_batchProblem_41 : decode cX7_batchProblem 41 = .ok (.getfield 19, 3) := by decide +kernel
theorem dX7_batchProblem_44 : decode cX7_batchProblem 44 = .ok (.aload_n 0, 1) := by decide +kernel
theorem dX7_batchProblem_45 : decode cX7_batchProblem 45 = .ok (.getfield 19, 3) := by decide +kernel
theorem dX7_batchProblem_48 : decode cX7_batchProblem 48 = .ok (.getfield 308, 3) := by decide +kernel
theorem dX7_batchProblem_51 : decode cX7_batchProblem 51 = .ok (.iload_n 2, 1) := by decide +kernel
theorem dX7_batchProblem_52 : decode cX7_batchProblem 52 = .ok (.iaload, 1) := by decide +kernel
theorem dX7_batchProblem_53 : decode cX7_batchProblem 53 = .ok (.invokevirtual 229, 3) := by decide +kernel
theorem dX7_batchProblem_56 : decode cX7_batchProblem 56 = .ok (.ifCond .ne 6, 3) := by decide +kernel
theorem dX7_batchProblem_59 : decode cX7_batchProblem 59 = .ok (.ldc 239, 2) := by decide +kernel
theorem dX7_batchProblem_61 : decode cX7_batchProblem 61 = .ok (.ireturn, 1) := by decide +kernel
theorem dX7_batchProblem_62 : decode cX7_batchProblem 62 = .ok (.iinc 2 1, 3) := by decide +kernel
theorem dX7_batchProblem_65 : decode cX7_batchProblem 65 = .ok (.goto (-36), 3) := by decide +kernel
theorem dX7_batchProblem_68 : decode cX7_batchProblem 68 = .ok (.iconst 0, 1) := by decide +kernel
theorem dX7_batchProblem_69 : decode cX7_batchProblem 69 = .ok (.ireturn, 1) := by decide +kernel
set_option maxRecDepth 20000 in
theorem ggX7_requestedFile_X4_hasRequest : GoodIn wsX7_requestedFile wsX4_hasRequest := goodIn_r _ [8, 9, 19, 20, 21, 22, 23, 24, 25, 26, 27, 28, 29, 30, 31, 32, 33, 34, 35, 36] (by decide +kernel) (by decide +kernel)
set_option maxRecDepth 20000 in
theorem gX7_requestedFile_X4_hasRequest : GoodIn wsX7_requestedFile (wsV RX7 311 RX4 yX4_hasRequest wsX4_hasRequest) := goodIn_app (goodIn_of _ (by decide +kernel)) ggX7_requestedFile_X4_hasRequest
theorem dX7_requestedFile_0 : decode cX7_requestedFile 0 = .ok (.aload_n 0, 1) := by decide +kernel
theorem dX7_requestedFile_1 : decode cX7_requestedFile 1 = .ok (.getfield 19, 3) := by decide +kernel
theorem dX7_requestedFile_4 : decode cX7_requestedFile 4 = .ok (.iload_n 1, 1) := by decide +kernel
theorem dX7_requestedFile_5 : decode cX7_requestedFile 5 = .ok (.invokevirtual 311, 3) := by decide +kernel
theorem dX7_requestedFile_8 : decode cX7_requestedFile 8 = .ok (.ifCond .eq 15, 3) := by decide +kernel
theorem dX7_requestedFile_11 : decode cX7_requestedFile 11 = .ok (.aload_n 0, 1) := by decide +kernel
theorem dX7_requestedFile_12 : decode cX7_requestedFile 12 = .ok (.getfield 19, 3) := by decide +kernel
theorem dX7_requestedFile_15 : decode cX7_requestedFile 15 = .ok (.getfield 308, 3) := by decide +kernel
theorem dX7_requestedFile_18 : decode cX7_requestedFile 18 = .ok (.iload_n 1, 1) := by decide +kernel
theorem dX7_requestedFile_19 : decode cX7_requestedFile 19 = .ok (.iaload, 1) := by decide +kernel
theorem dX7_requestedFile_20 : decode cX7_requestedFile 20 = .ok (.goto 5, 3) := by decide +kernel
theorem dX7_requestedFile_23 : decode cX7_requestedFile 23 = .ok (.ldc 87, 2) := by decide +kernel
theorem dX7_requestedFile_25 : decode cX7_requestedFile 25 = .ok (.ireturn, 1) := by decide +kernel
set_option maxRecDepth 20000 in
theorem ggX7_nearestHome_X7_mountProblem : GoodIn wsX7_nearestHome wsX7_mountProblem := goodIn_r _ [7, 1, 8, 9, 10, 11, 12, 13, 14, 15, 16, 41, 42, 43, 44, 45, 46, 47, 48, 49, 50, 51, 52, 53, 54, 55, 56, 57, 58, 59, 60, 61, 62, 63, 64, 65, 66, 67] (by decide +kernel) (by decide +kernel)
set_option maxRecDepth 20000 in
theorem gX7_nearestHome_X7_mountProblem : GoodIn wsX7_nearestHome (wsV RX7 125 RX7 yX7_mountProblem wsX7_mountProblem) := goodIn_app (goodIn_of _ (by decide +kernel)) ggX7_nearestHome_X7_mountProblem
set_option maxRecDepth 20000 in
theorem ggX7_nearestHome_X4_platterWithHome : GoodIn wsX7_nearestHome wsX4_platterWithHome := goodIn_r _ [20, 16, 21, 22, 50, 51, 52, 53, 54, 55, 56, 57, 58, 59, 60, 61, 62, 63, 64, 65, 66, 67, 68, 69, 70, 71, 72, 73, 74, 75, 76] (by decide +kernel) (by decide +kernel)
set_option maxRecDepth 20000 in
theorem gX7_nearestHome_X4_platterWithHome : GoodIn wsX7_nearestHome (wsV RX7 91 RX4 yX4_platterWithHome wsX4_platterWithHome) := goodIn_app (goodIn_of _ (by decide +kernel)) ggX7_nearestHome_X4_platterWithHome
set_option maxRecDepth 20000 in
theorem ggX7_nearestHome_X4_distanceToDrive : GoodIn wsX7_nearestHome wsX4_distanceToDrive := goodIn_r _ [26, 27, 28, 29, 30, 31, 32, 33, 34, 35, 36, 50, 51, 52, 53, 54, 55, 56, 57, 58, 59, 60, 61, 62, 63, 64, 65, 66, 67, 77, 78, 79] (by decide +kernel) (by decide +kernel)
set_option maxRecDepth 20000 in
theorem gX7_nearestHome_X4_distanceToDrive : GoodIn wsX7_nearestHome (wsV RX7 387 RX4 yX4_distanceToDrive wsX4_distanceToDrive) := goodIn_app (goodIn_of _ (by decide +kernel)) ggX7_nearestHome_X4_distanceToDrive
set_option maxRecDepth 20000 in
theorem ggX7_nearestHome_X7_foundOrNot : GoodIn wsX7_nearestHome wsX7_foundOrNot := goodIn_r _ [39, 40] (by decide +kernel) (by decide +kernel)
set_option maxRecDepth 20000 in
theorem gX7_nearestHome_X7_foundOrNot : GoodIn wsX7_nearestHome (va_wsS RX7 98 yX7_foundOrNot wsX7_foundOrNot) := goodIn_app (goodIn_of _ (by decide +kernel)) ggX7_nearestHome_X7_foundOrNot
theorem dX7_nearestHome_0 : decode cX7_nearestHome 0 = .ok (.aload_n 0, 1) := by decide +kernel
theorem dX7_nearestHome_1 : decode cX7_nearestHome 1 = .ok (.iload_n 1, 1) := by decide +kernel
theorem dX7_nearestHome_2 : decode cX7_nearestHome 2 = .ok (.invokevirtual 125, 3) := by decide +kernel
theorem dX7_nearestHome_5 : decode cX7_nearestHome 5 = .ok (.istore_n 2, 1) := by decide +kernel
theorem dX7_nearestHome_6 : decode cX7_nearestHome 6 = .ok (.iload_n 2, 1) := by decide +kernel
theorem dX7_nearestHome_7 : decode cX7_nearestHome 7 = .ok (.ifCond .eq 5, 3) := by decide +kernel
theorem dX7_nearestHome_10 : decode cX7_nearestHome 10 = .ok (.iload_n 2, 1) := by decide +kernel
theorem dX7_nearestHome_11 : decode cX7_nearestHome 11 = .ok (.ireturn, 1) := by decide +kernel
theorem dX7_nearestHome_12 : decode cX7_nearestHome 12 = .ok (.iconst (-1), 1) := by decide +kernel
theorem dX7_nearestHome_13 : decode cX7_nearestHome 13 = .ok (.istore_n 3, 1) := by decide +kernel
theorem dX7_nearestHome_14 : decode cX7_nearestHome 14 = .ok (.iconst 0, 1) := by decide +kernel
theorem dX7_nearestHome_15 : decode cX7_nearestHome 15 = .ok (.istore 4, 2) := by decide +kernel
theorem dX7_nearestHome_17 : decode cX7_nearestHome 17 = .ok (.iconst 0, 1) := by decide +kernel
theorem dX7_nearestHome_18 : decode cX7_nearestHome 18 = .ok (.istore 5, 2) := by decide +kernel
theorem dX7_nearestHome_20 : decode cX7_nearestHome 20 = .ok (.iload 5, 2) := by decide +kernel
theorem dX7_nearestHome_22 : decode cX7_nearestHome 22 = .ok (.aload_n 0, 1) := by decide +kernel
theorem dX7_nearestHome_23 : decode cX7_nearestHome 23 = .ok (.getfield 19, 3) := by decide +kernel
theorem dX7_nearestHome_26 : decode cX7_nearestHome 26 = .ok (.getfield 384, 3) := by decide +kernel
theorem dX7_nearestHome_29 : decode cX7_nearestHome 29 = .ok (.if_icmp .ge 62, 3) := by decide +kernel
theorem dX7_nearestHome_32 : decode cX7_nearestHome 32 = .ok (.aload_n 0, 1) := by decide +kernel
theorem dX7_nearestHome_33 : decode cX7_nearestHome 33 = .ok (.getfield 19, 3) := by decide +kernel
theorem dX7_nearestHome_36 : decode cX7_nearestHome 36 = .ok (.iload 5, 2) := by decide +kernel
theorem dX7_nearestHome_38 : decode cX7_nearestHome 38 = .ok (.invokevirtual 91, 3) := by decide +kernel
theorem dX7_nearestHome_41 : decode cX7_nearestHome 41 = .ok (.istore 6, 2) := by decide +kernel
theorem dX7_nearestHome_43 : decode cX7_nearestHome 43 = .ok (.aload_n 0, 1) := by decide +kernel
theorem dX7_nearestHome_44 : decode cX7_nearestHome 44 = .ok (.getfield 19, 3) := by decide +kernel
theorem dX7_nearestHome_47 : decode cX7_nearestHome 47 = .ok (.iload 5, 2) := by decide +kernel
theorem dX7_nearestHome_49 : decode cX7_nearestHome 49 = .ok (.invokevirtual 387, 3) := by decide +kernel
theorem dX7_nearestHome_52 : decode cX7_nearestHome 52 = .ok (.istore 7, 2) := by decide +kernel
theorem dX7_nearestHome_54 : decode cX7_nearestHome 54 = .ok (.iload 6, 2) := by decide +kernel
theorem dX7_nearestHome_56 : decode cX7_nearestHome 56 = .ok (.iconst (-1), 1) := by decide +kernel
theorem dX7_nearestHome_57 : decode cX7_nearestHome 57 = .ok (.if_icmp .eq 9, 3) := by decide +kernel
theorem dX7_nearestHome_60 : decode cX7_nearestHome 60 = .ok (.iload 6, 2) := by decide +kernel
theorem dX7_nearestHome_62 : decode cX7_nearestHome 62 = .ok (.iload_n 1, 1) := by decide +kernel
theorem dX7_nearestHome_63 : decode cX7_nearestHome 63 = .ok (.if_icmp .ne 22, 3) := by decide +kernel
theorem dX7_nearestHome_66 : decode cX7_nearestHome 66 = .ok (.iload_n 3, 1) := by decide +kernel
theorem dX7_nearestHome_67 : decode cX7_nearestHome 67 = .ok (.iconst (-1), 1) := by decide +kernel
theorem dX7_nearestHome_68 : decode cX7_nearestHome 68 = .ok (.if_icmp .eq 10, 3) := by decide +kernel
theorem dX7_nearestHome_71 : decode cX7_nearestHome 71 = .ok (.iload 7, 2) := by decide +kernel
theorem dX7_nearestHome_73 : decode cX7_nearestHome 73 = .ok (.iload 4, 2) := by decide +kernel
theorem dX7_nearestHome_75 : decode cX7_nearestHome 75 = .ok (.if_icmp .ge 10, 3) := by decide +kernel
theorem dX7_nearestHome_78 : decode cX7_nearestHome 78 = .ok (.iload 5, 2) := by decide +kernel
theorem dX7_nearestHome_80 : decode cX7_nearestHome 80 = .ok (.istore_n 3, 1) := by decide +kernel
theorem dX7_nearestHome_81 : decode cX7_nearestHome 81 = .ok (.iload 7, 2) := by decide +kernel
theorem dX7_nearestHome_83 : decode cX7_nearestHome 83 = .ok (.istore 4, 2) := by decide +kernel
theorem dX7_nearestHome_85 : decode cX7_nearestHome 85 = .ok (.iinc 5 1, 3) := by decide +kernel
theorem dX7_nearestHome_88 : decode cX7_nearestHome 88 = .ok (.goto (-68), 3) := by decide +kernel
theorem dX7_nearestHome_91 : decode cX7_nearestHome 91 = .ok (.iload_n 3, 1) := by decide +kernel
theorem dX7_nearestHome_92 : decode cX7_nearestHome 92 = .ok (.invokestatic 98, 3) := by decide +kernel
theorem dX7_nearestHome_95 : decode cX7_nearestHome 95 = .ok (.ireturn, 1) := by decide +kernel
theorem dX7_putByte_0 : decode cX7_putByte 0 = .ok (.aload_n 0, 1) := by decide +kernel
theorem dX7_putByte_1 : decode cX7_putByte 1 = .ok (.getfield 390, 3) := by decide +kernel
theorem dX7_putByte_4 : decode cX7_putByte 4 = .ok (.sipush 280, 3) := by decide +kernel
theorem dX7_putByte_7 : decode cX7_putByte 7 = .ok (.if_icmp .ge 24, 3) := by decide +kernel
theorem dX7_putByte_10 : decode cX7_putByte 10 = .ok (.aload_n 0, 1) := by decide +kernel
theorem dX7_putByte_11 : decode cX7_putByte 11 = .ok (.getfield 33, 3) := by decide +kernel
theorem dX7_putByte_14 : decode cX7_putByte 14 = .ok (.aload_n 0, 1) := by decide +kernel
theorem dX7_putByte_15 : decode cX7_putByte 15 = .ok (.getfield 390, 3) := by decide +kernel
theorem dX7_putByte_18 : decode cX7_putByte 18 = .ok (.iload_n 1, 1) := by decide +kernel
theorem dX7_putByte_19 : decode cX7_putByte 19 = .ok (.i2b, 1) := by decide +kernel
theorem dX7_putByte_20 : decode cX7_putByte 20 = .ok (.bastore, 1) := by decide +kernel
theorem dX7_putByte_21 : decode cX7_putByte 21 = .ok (.aload_n 0, 1) := by decide +kernel
theorem dX7_putByte_22 : decode cX7_putByte 22 = .ok (.dup, 1) := by decide +kernel
theorem dX7_putByte_23 : decode cX7_putByte 23 = .ok (.getfield 390, 3) := by decide +kernel
theorem dX7_putByte_26 : decode cX7_putByte 26 = .ok (.iconst 1, 1) := by decide +kernel
theorem dX7_putByte_27 : decode cX7_putByte 27 = .ok (.iadd, 1) := by decide +kernel
theorem dX7_putByte_28 : decode cX7_putByte 28 = .ok (.putfield 390, 3) := by decide +kernel
theorem dX7_putByte_31 : decode cX7_putByte 31 = .ok (.return_, 1) := by decide +kernel
set_option maxRecDepth 20000 in
theorem ggX7_putNumber_X7_putByte : GoodIn wsX7_putNumber wsX7_putByte := goodIn_r _ [5, 6, 7, 8, 9, 10, 11, 12, 13, 14, 15, 16] (by decide +kernel) (by decide +kernel)
set_option maxRecDepth 20000 in
theorem gX7_putNumber_X7_putByte : GoodIn wsX7_putNumber (wsV RX7 396 RX7 yX7_putByte wsX7_putByte) := goodIn_app (goodIn_of _ (by decide +kernel)) ggX7_putNumber_X7_putByte
theorem dX7_putNumber_0 : decode cX7_putNumber 0 = .ok (.iload_n 1, 1) := by decide +kernel
theorem dX7_putNumber_1 : decode cX7_putNumber 1 = .ok (.bipush 100, 2) := by decide +kernel
theorem dX7_putNumber_3 : decode cX7_putNumber 3 = .ok (.if_icmp .lt 17, 3) := by decide +kernel
theorem dX7_putNumber_6 : decode cX7_putNumber 6 = .ok (.aload_n 0, 1) := by decide +kernel
theorem dX7_putNumber_7 : decode cX7_putNumber 7 = .ok (.bipush 48, 2) := by decide +kernel
theorem dX7_putNumber_9 : decode cX7_putNumber 9 = .ok (.iload_n 1, 1) := by decide +kernel
theorem dX7_putNumber_10 : decode cX7_putNumber 10 = .ok (.bipush 100, 2) := by decide +kernel
theorem dX7_putNumber_12 : decode cX7_putNumber 12 = .ok (.idiv, 1) := by decide +kernel
theorem dX7_putNumber_13 : decode cX7_putNumber 13 = .ok (.bipush 10, 2) := by decide +kernel
theorem dX7_putNumber_15 : decode cX7_putNumber 15 = .ok (.irem, 1) := by decide +kernel
theorem dX7_putNumber_16 : decode cX7_putNumber 16 = .ok (.iadd, 1) := by decide +kernel
theorem dX7_putNumber_17 : decode cX7_putNumber 17 = .ok (.invokevirtual 396, 3) := by decide +kernel
theorem dX7_putNumber_20 : decode cX7_putNumber 20 = .ok (.iload_n 1, 1) := by decide +kernel
theorem dX7_putNumber_21 : decode cX7_putNumber 21 = .ok (.bipush 10, 2) := by decide +kernel
theorem dX7_putNumber_23 : decode cX7_putNumber 23 = .ok (.if_icmp .lt 17, 3) := by decide +kernel
theorem dX7_putNumber_26 : decode cX7_putNumber 26 = .ok (.aload_n 0, 1) := by decide +kernel
theorem dX7_putNumber_27 : decode cX7_putNumber 27 = .ok (.bipush 48, 2) := by decide +kernel
theorem dX7_putNumber_29 : decode cX7_putNumber 29 = .ok (.iload_n 1, 1) := by decide +kernel
theorem dX7_putNumber_30 : decode cX7_putNumber 30 = .ok (.bipush 10, 2) := by decide +kernel
theorem dX7_putNumber_32 : decode cX7_putNumber 32 = .ok (.idiv, 1) := by decide +kernel
theorem dX7_putNumber_33 : decode cX7_putNumber 33 = .ok (.bipush 10, 2) := by decide +kernel
theorem dX7_putNumber_35 : decode cX7_putNumber 35 = .ok (.irem, 1) := by decide +kernel
theorem dX7_putNumber_36 : decode cX7_putNumber 36 = .ok (.iadd, 1) := by decide +kernel
theorem dX7_putNumber_37 : decode cX7_putNumber 37 = .ok (.invokevirtual 396, 3) := by decide +kernel
theorem dX7_putNumber_40 : decode cX7_putNumber 40 = .ok (.aload_n 0, 1) := by decide +kernel
theorem dX7_putNumber_41 : decode cX7_putNumber 41 = .ok (.bipush 48, 2) := by decide +kernel
theorem dX7_putNumber_43 : decode cX7_putNumber 43 = .ok (.iload_n 1, 1) := by decide +kernel
theorem dX7_putNumber_44 : decode cX7_putNumber 44 = .ok (.bipush 10, 2) := by decide +kernel
theorem dX7_putNumber_46 : decode cX7_putNumber 46 = .ok (.irem, 1) := by decide +kernel
theorem dX7_putNumber_47 : decode cX7_putNumber 47 = .ok (.iadd, 1) := by decide +kernel
theorem dX7_putNumber_48 : decode cX7_putNumber 48 = .ok (.invokevirtual 396, 3) := by decide +kernel
theorem dX7_putNumber_51 : decode cX7_putNumber 51 = .ok (.return_, 1) := by decide +kernel
set_option maxRecDepth 20000 in
theorem ggX7_writeCatalogue_X4_currentVersion : GoodIn wsX7_writeCatalogue wsX4_currentVersion := goodIn_r _ [11, 12, 13, 53, 54, 55, 56, 57, 58, 59, 60, 61, 62, 63, 64, 65, 66, 67, 68, 69, 70] (by decide +kernel) (by decide +kernel)
set_option maxRecDepth 20000 in
theorem gX7_writeCatalogue_X4_currentVersion : GoodIn wsX7_writeCatalogue (wsV RX7 207 RX4 yX4_currentVersion wsX4_currentVersion) := goodIn_app (goodIn_of _ (by decide +kernel)) ggX7_writeCatalogue_X4_currentVersion
set_option maxRecDepth 20000 in
theorem ggX7_writeCatalogue_X7_putNumber : GoodIn wsX7_writeCatalogue wsX7_putNumber := goodIn_r _ [18, 19, 20, 21, 17, 22, 1, 23, 44, 45, 46, 47, 48, 49, 50, 51, 52] (by decide +kernel) (by decide +kernel)
set_option maxRecDepth 20000 in
theorem gX7_writeCatalogue_X7_putNumber : GoodIn wsX7_writeCatalogue (wsV RX7 393 RX7 yX7_putNumber wsX7_putNumber) := goodIn_app (goodIn_of _ (by decide +kernel)) ggX7_writeCatalogue_X7_putNumber
set_option maxRecDepth 20000 in
theorem ggX7_writeCatalogue_X7_putByte : GoodIn wsX7_writeCatalogue wsX7_putByte := goodIn_r _ [22, 1, 23, 44, 45, 46, 47, 48, 49, 50, 51, 52] (by decide +kernel) (by decide +kernel)
set_option maxRecDepth 20000 in
theorem gX7_writeCatalogue_X7_putByte : GoodIn wsX7_writeCatalogue (wsV RX7 396 RX7 yX7_putByte wsX7_putByte) := goodIn_app (goodIn_of _ (by decide +kernel)) ggX7_writeCatalogue_X7_putByte
set_option maxRecDepth 20000 in
theorem ggX7_writeCatalogue_X4_isReadable : GoodIn wsX7_writeCatalogue wsX4_isReadable := goodIn_r _ [27, 28, 8, 9, 10, 11, 12, 13, 29, 30, 31, 32, 33, 34, 35, 36, 37, 38, 39, 40, 41, 42, 43, 53, 54, 55, 56, 57, 58, 59, 60, 61, 62, 63, 64, 65, 66, 67, 68, 69, 70, 71, 72, 73, 74, 75, 76, 77, 78, 79, 80, 81, 82, 83, 84, 85, 86] (by decide +kernel) (by decide +kernel)
set_option maxRecDepth 20000 in
theorem gX7_writeCatalogue_X4_isReadable : GoodIn wsX7_writeCatalogue (wsV RX7 229 RX4 yX4_isReadable wsX4_isReadable) := goodIn_app (goodIn_of _ (by decide +kernel)) ggX7_writeCatalogue_X4_isReadable
theorem dX7_writeCatalogue_0 : decode cX7_writeCatalogue 0 = .ok (.aload_n 0, 1) := by decide +kernel
theorem dX7_writeCatalogue_1 : decode cX7_writeCatalogue 1 = .ok (.iconst 0, 1) := by decide +kernel
theorem dX7_writeCatalogue_2 : decode cX7_writeCatalogue 2 = .ok (.putfield 390, 3) := by decide +kernel
theorem dX7_writeCatalogue_5 : decode cX7_writeCatalogue 5 = .ok (.iconst 0, 1) := by decide +kernel
theorem dX7_writeCatalogue_6 : decode cX7_writeCatalogue 6 = .ok (.istore_n 1, 1) := by decide +kernel
theorem dX7_writeCatalogue_7 : decode cX7_writeCatalogue 7 = .ok (.iload_n 1, 1) := by decide +kernel
theorem dX7_writeCatalogue_8 : decode cX7_writeCatalogue 8 = .ok (.aload_n 0, 1) := by decide +kernel
theorem dX7_writeCatalogue_9 : decode cX7_writeCatalogue 9 = .ok (.getfield 19, 3) := by decide +kernel
theorem dX7_writeCatalogue_12 : decode cX7_writeCatalogue 12 = .ok (.getfield 70, 3) := by decide +kernel
theorem dX7_writeCatalogue_15 : decode cX7_writeCatalogue 15 = .ok (.if_icmp .ge 88, 3) := by decide +kernel
theorem dX7_writeCatalogue_18 : decode cX7_writeCatalogue 18 = .ok (.aload_n 0, 1) := by decide +kernel
theorem dX7_writeCatalogue_19 : decode cX7_writeCatalogue 19 = .ok (.getfield 19, 3) := by decide +kernel
theorem dX7_writeCatalogue_22 : decode cX7_writeCatalogue 22 = .ok (.iload_n 1, 1) := by decide +kernel
theorem dX7_writeCatalogue_23 : decode cX7_writeCatalogue 23 = .ok (.invokevirtual 207, 3) := by decide +kernel
theorem dX7_writeCatalogue_26 : decode cX7_writeCatalogue 26 = .ok (.astore_n 2, 1) := by decide +kernel
theorem dX7_writeCatalogue_27 : decode cX7_writeCatalogue 27 = .ok (.aload_n 0, 1) := by decide +kernel
theorem dX7_writeCatalogue_28 : decode cX7_writeCatalogue 28 = .ok (.iload_n 1, 1) := by decide +kernel
theorem dX7_writeCatalogue_29 : decode cX7_writeCatalogue 29 = .ok (.invokevirtual 393, 3) := by decide +kernel
theorem dX7_writeCatalogue_32 : decode cX7_writeCatalogue 32 = .ok (.aload_n 0, 1) := by decide +kernel
theorem dX7_writeCatalogue_33 : decode cX7_writeCatalogue 33 = .ok (.bipush 58, 2) := by decide +kernel
theorem dX7_writeCatalogue_35 : decode cX7_writeCatalogue 35 = .ok (.invokevirtual 396, 3) := by decide +kernel
theorem dX7_writeCatalogue_38 : decode cX7_writeCatalogue 38 = .ok (.aload_n 0, 1) := by decide +kernel
theorem dX7_writeCatalogue_39 : decode cX7_writeCatalogue 39 = .ok (.aload_n 2, 1) := by decide +kernel
theorem dX7_writeCatalogue_40 : decode cX7_writeCatalogue 40 = .ok (.getfield 211, 3) := by decide +kernel
theorem dX7_writeCatalogue_43 : decode cX7_writeCatalogue 43 = .ok (.invokevirtual 393, 3) := by decide +kernel
theorem dX7_writeCatalogue_46 : decode cX7_writeCatalogue 46 = .ok (.aload_n 0, 1) := by decide +kernel
theorem dX7_writeCatalogue_47 : decode cX7_writeCatalogue 47 = .ok (.bipush 44, 2) := by decide +kernel
theorem dX7_writeCatalogue_49 : decode cX7_writeCatalogue 49 = .ok (.invokevirtual 396, 3) := by decide +kernel
theorem dX7_writeCatalogue_52 : decode cX7_writeCatalogue 52 = .ok (.aload_n 0, 1) := by decide +kernel
theorem dX7_writeCatalogue_53 : decode cX7_writeCatalogue 53 = .ok (.aload_n 2, 1) := by decide +kernel
theorem dX7_writeCatalogue_54 : decode cX7_writeCatalogue 54 = .ok (.getfield 214, 3) := by decide +kernel
theorem dX7_writeCatalogue_57 : decode cX7_writeCatalogue 57 = .ok (.invokevirtual 393, 3) := by decide +kernel
theorem dX7_writeCatalogue_60 : decode cX7_writeCatalogue 60 = .ok (.aload_n 0, 1) := by decide +kernel
theorem dX7_writeCatalogue_61 : decode cX7_writeCatalogue 61 = .ok (.bipush 44, 2) := by decide +kernel
theorem dX7_writeCatalogue_63 : decode cX7_writeCatalogue 63 = .ok (.invokevirtual 396, 3) := by decide +kernel
theorem dX7_writeCatalogue_66 : decode cX7_writeCatalogue 66 = .ok (.aload_n 0, 1) := by decide +kernel
theorem dX7_writeCatalogue_67 : decode cX7_writeCatalogue 67 = .ok (.aload_n 2, 1) := by decide +kernel
theorem dX7_writeCatalogue_68 : decode cX7_writeCatalogue 68 = .ok (.getfield 217, 3) := by decide +kernel
theorem dX7_writeCatalogue_71 : decode cX7_writeCatalogue 71 = .ok (.invokevirtual 393, 3) := by decide +kernel
theorem dX7_writeCatalogue_74 : decode cX7_writeCatalogue 74 = .ok (.aload_n 0, 1) := by decide +kernel
theorem dX7_writeCatalogue_75 : decode cX7_writeCatalogue 75 = .ok (.getfield 19, 3) := by decide +kernel
theorem dX7_writeCatalogue_78 : decode cX7_writeCatalogue 78 = .ok (.iload_n 1, 1) := by decide +kernel
theorem dX7_writeCatalogue_79 : decode cX7_writeCatalogue 79 = .ok (.invokevirtual 229, 3) := by decide +kernel
theorem dX7_writeCatalogue_82 : decode cX7_writeCatalogue 82 = .ok (.ifCond .eq 9, 3) := by decide +kernel
theorem dX7_writeCatalogue_85 : decode cX7_writeCatalogue 85 = .ok (.aload_n 0, 1) := by decide +kernel
theorem dX7_writeCatalogue_86 : decode cX7_writeCatalogue 86 = .ok (.bipush 42, 2) := by decide +kernel
theorem dX7_writeCatalogue_88 : decode cX7_writeCatalogue 88 = .ok (.invokevirtual 396, 3) := by decide +kernel
theorem dX7_writeCatalogue_91 : decode cX7_writeCatalogue 91 = .ok (.aload_n 0, 1) := by decide +kernel
theorem dX7_writeCatalogue_92 : decode cX7_writeCatalogue 92 = .ok (.bipush 59, 2) := by decide +kernel
theorem dX7_writeCatalogue_94 : decode cX7_writeCatalogue 94 = .ok (.invokevirtual 396, 3) := by decide +kernel
theorem dX7_writeCatalogue_97 : decode cX7_writeCatalogue 97 = .ok (.iinc 1 1, 3) := by decide +kernel
theorem dX7_writeCatalogue_100 : decode cX7_writeCatalogue 100 = .ok (.goto (-93), 3) := by decide +kernel
theorem dX7_writeCatalogue_103 : decode cX7_writeCatalogue 103 = .ok (.aload_n 0, 1) := by decide +kernel
theorem dX7_writeCatalogue_104 : decode cX7_writeCatalogue 104 = .ok (.getfield 390, 3) := by decide +kernel
theorem dX7_writeCatalogue_107 : decode cX7_writeCatalogue 107 = .ok (.ireturn, 1) := by decide +kernel
theorem dX7_outputByte_0 : decode cX7_outputByte 0 = .ok (.iload_n 1, 1) := by decide +kernel
theorem dX7_outputByte_1 : decode cX7_outputByte 1 = .ok (.ifCond .lt 11, 3) := by decide +kernel
theorem dX7_outputByte_4 : decode cX7_outputByte 4 = .ok (.iload_n 1, 1) := by decide +kernel
theorem dX7_outputByte_5 : decode cX7_outputByte 5 = .ok (.aload_n 0, 1) := by decide +kernel
theorem dX7_outputByte_6 : decode cX7_outputByte 6 = .ok (.getfield 390, 3) := by decide +kernel
theorem dX7_outputByte_9 : decode cX7_outputByte 9 = .ok (.if_icmp .lt 8, 3) := by decide +kernel
theorem dX7_outputByte_12 : decode cX7_outputByte 12 = .ok (.ldc 87, 2) := by decide +kernel
theorem dX7_outputByte_14 : decode cX7_outputByte 14 = .ok (.goto 9, 3) := by decide +kernel
theorem dX7_outputByte_17 : decode cX7_outputByte 17 = .ok (.aload_n 0, 1) := by decide +kernel
theorem dX7_outputByte_18 : decode cX7_outputByte 18 = .ok (.getfield 33, 3) := by decide +kernel
theorem dX7_outputByte_21 : decode cX7_outputByte 21 = .ok (.iload_n 1, 1) := by decide +kernel
theorem dX7_outputByte_22 : decode cX7_outputByte 22 = .ok (.baload, 1) := by decide +kernel
theorem dX7_outputByte_23 : decode cX7_outputByte 23 = .ok (.ireturn, 1) := by decide +kernel
abbrev rm_X7_filesOn : Room := { frames := 2, cells := 0, slots := 0, locals := 44 }
set_option maxRecDepth 100000 in
set_option maxHeartbeats 4000000 in
theorem ct_X7_filesOn (l : Launch) (g : GT) (hfl : 1 ≤ gf g) (cs : CT) (mt : MT) (a1 : Int32) {q : Int32} (hf : f_X7_filesOn (k_xs cs (k_st cs)) a1 = some q) : Met l yX7_filesOn wsX7_filesOn rm_X7_filesOn (cPre g ((cs, mt)) [.ref (adr g.1 7 0), .int a1]) (cQi g q ((cs, mt))) 0 0 (gA g) := by
  have i_7 : ∀ w ∈ u_ws RX7 TX7 9, w ∈ wsX7_filesOn := by decide +kernel
  refine x_met (by decide) rfl (Nat.le_of_ble_eq_true rfl) ?_
  intro p e s m below meth c hx hb hr hml hts hown hlocks hK hW hS ls hl
  have hown : s.vm.findClass RX7 = some m.cls := hown
  have hl : lv_has ls 2 [(0, .ref (adr g.1 7 0)), (1, .int a1)] := hl
  rw [f_X7_filesOn] at hf
  refine lv_aload_n hx hb dX7_filesOn_0 rfl (lv_at hl 0 rfl) ?_
  refine x_get (i := g.1) (k := 7) (j := 0) (t := 3) hx hb hts i_7 hown hK hW ⟨⟨hfl, rfl⟩, by decide⟩ rfl ⟨by decide, by decide, rfl⟩ (hts (.fieldLink RX7 19 "OpticalJukebox" "state" "LOpticalJukebox$State;") (by decide +kernel)) (v := .ref (adr (k_st cs) 4 0)) rfl dX7_filesOn_1 ?_
  refine lv_iload_n hx hb dX7_filesOn_4 rfl (lv_at hl 1 rfl) ?_
  obtain ⟨q1, h_q1, hf⟩ := x_bindE hf
  refine x_ci0 (x_rV ⟨hx, hb, hml, hown, hts⟩ (ct_X4_hasPlatter l g (cs, mt) (k_st cs) hW.2.2.2.1 (k_xs cs (k_st cs)) (a1) h_q1) (cwV 1 hts gX7_filesOn_X4_hasPlatter rfl rfl rfl (by decide +kernel) ⟨Nat.le_of_ble_eq_true rfl, Nat.le_of_ble_eq_true rfl⟩) hK (w_self_sd hW) hS (x_recv (i := (k_st cs)) (k := 4) (j := 0) hK hW ⟨hW.2.2.2.1, by decide⟩ rfl (by decide)) rfl hl.1 (rest := []) rfl (Nat.le_of_ble_eq_true rfl) dX7_filesOn_5 ⟨Nat.le_of_ble_eq_true rfl, Nat.le_of_ble_eq_true rfl⟩) hS (fun H locs hW hS => ?_)
  have hW := w_unself_sd hW
  have hW : World g ((cs, mt)) H := hW
  refine W.eq (g2 := F0 m 8 ls [.int q1]) rfl ?_
  refine lv_if_eq (tgt := 22) hx hb dX7_filesOn_8 (by decide) (fun hc => ?_) (fun hc => ?_)
  · have hf := x_iteT hf hc
    refine lv_ldc (v := -1000001) hx hb hown (hts (.constant RX7 87 (-1000001)) (by decide +kernel)) dX7_filesOn_22 ?_
    cases hf
    exact x_iret hx hb hr hlocks hK hW hS rfl dX7_filesOn_24
  · have hf := x_iteF hf hc
    refine lv_aload_n hx hb dX7_filesOn_11 rfl (lv_at hl 0 rfl) ?_
    refine x_get (i := g.1) (k := 7) (j := 0) (t := 3) hx hb hts i_7 hown hK hW ⟨⟨hfl, rfl⟩, by decide⟩ rfl ⟨by decide, by decide, rfl⟩ (hts (.fieldLink RX7 19 "OpticalJukebox" "state" "LOpticalJukebox$State;") (by decide +kernel)) (v := .ref (adr (k_st cs) 4 0)) rfl dX7_filesOn_12 ?_
    refine lv_iload_n hx hb dX7_filesOn_15 rfl (lv_at hl 1 rfl) ?_
    obtain ⟨q2, h_q2, hf⟩ := x_bindE hf
    refine x_ci0 (x_rV ⟨hx, hb, hml, hown, hts⟩ (ct_X4_countFiles l g (cs, mt) (k_st cs) hW.2.2.2.1 (k_xs cs (k_st cs)) (a1) h_q2) (cwV 1 hts gX7_filesOn_X4_countFiles rfl rfl rfl (by decide +kernel) ⟨Nat.le_of_ble_eq_true rfl, Nat.le_of_ble_eq_true rfl⟩) hK (w_self_sd hW) hS (x_recv (i := (k_st cs)) (k := 4) (j := 0) hK hW ⟨hW.2.2.2.1, by decide⟩ rfl (by decide)) rfl hl.1 (rest := []) rfl (Nat.le_of_ble_eq_true rfl) dX7_filesOn_16 ⟨Nat.le_of_ble_eq_true rfl, Nat.le_of_ble_eq_true rfl⟩) hS (fun H locs hW hS => ?_)
    have hW := w_unself_sd hW
    have hW : World g ((cs, mt)) H := hW
    refine W.eq (g2 := F0 m 19 ls [.int q2]) rfl ?_
    refine lv_goto (tgt := 24) hx hb dX7_filesOn_19 (by decide) ?_
    cases hf
    exact x_iret hx hb hr hlocks hK hW hS rfl dX7_filesOn_24
abbrev rm_X7_mount : Room := { frames := 5, cells := 91, slots := 755, locals := 152 }
set_option maxRecDepth 100000 in
set_option maxHeartbeats 4000000 in
theorem ct_X7_mount (l : Launch) (g : GT) (hfl : 1 ≤ gf g) (cs : CT) (mt : MT) (a1 : Int32) {q : (Int32 × CT)} (hf : f_X7_mount cs a1 = some q) : Met l yX7_mount wsX7_mount rm_X7_mount (cPre g ((cs, mt)) [.ref (adr g.1 7 0), .int a1]) (cQi g q.1 ((q.2, mt))) 91 755 (gA g) := by
  have i_4 : ∀ w ∈ u_ws RX4 TX4 18, w ∈ wsX7_mount := by decide +kernel
  have i_7 : ∀ w ∈ u_ws RX7 TX7 9, w ∈ wsX7_mount := by decide +kernel
  refine x_met (by decide) rfl (Nat.le_of_ble_eq_true rfl) ?_
  intro p e s m below meth c hx hb hr hml hts hown hlocks hK hW hS ls hl
  have hown : s.vm.findClass RX7 = some m.cls := hown
  have hl : lv_has ls 4 [(0, .ref (adr g.1 7 0)), (1, .int a1)] := hl
  rw [f_X7_mount] at hf
  refine lv_aload_n hx hb dX7_mount_0 rfl (lv_at hl 0 rfl) ?_
  refine lv_iload_n hx hb dX7_mount_1 rfl (lv_at hl 1 rfl) ?_
  obtain ⟨q1, h_q1, hf⟩ := x_bindE hf
  refine x_ci0 (x_rV ⟨hx, hb, hml, hown, hts⟩ (ct_X7_mountProblem l g hfl cs mt (a1) h_q1) (cwV 1 hts gX7_mount_X7_mountProblem rfl rfl rfl (by decide +kernel) ⟨Nat.le_of_ble_eq_true rfl, Nat.le_of_ble_eq_true rfl⟩) hK hW hS (x_recv (i := g.1) (k := 7) (j := 0) hK hW ⟨⟨hfl, rfl⟩, by decide⟩ rfl (by decide)) rfl hl.1 (rest := []) rfl (Nat.le_of_ble_eq_true rfl) dX7_mount_2 ⟨Nat.le_of_ble_eq_true rfl, Nat.le_of_ble_eq_true rfl⟩) hS (fun H locs hW hS => ?_)
  have hW : World g ((cs, mt)) H := hW
  refine W.eq (g2 := F0 m 5 ls [.int q1]) rfl ?_
  refine lv_istore_n (lv' := [(2, .int q1), (0, .ref (adr g.1 7 0)), (1, .int a1)]) hx hb dX7_mount_5 rfl hl (by decide) rfl (fun ls hl => ?_)
  refine lv_iload_n hx hb dX7_mount_6 rfl (lv_at hl 0 rfl) ?_
  refine lv_if_eq (tgt := 12) hx hb dX7_mount_7 (by decide) (fun hc => ?_) (fun hc => ?_)
  · have hf := x_iteT hf hc
    refine lv_aload_n hx hb dX7_mount_12 rfl (lv_at hl 1 rfl) ?_
    obtain ⟨q2, h_q2, hf⟩ := x_bindE hf
    refine x_cv (x_rV ⟨hx, hb, hml, hown, hts⟩ (ct_X7_remember l g hfl cs mt  h_q2) (cwV 0 hts gX7_mount_X7_remember rfl rfl rfl (by decide +kernel) ⟨Nat.le_of_ble_eq_true rfl, Nat.le_of_ble_eq_true rfl⟩) hK hW hS (x_recv (i := g.1) (k := 7) (j := 0) hK hW ⟨⟨hfl, rfl⟩, by decide⟩ rfl (by decide)) rfl hl.1 (rest := []) rfl (Nat.le_of_ble_eq_true rfl) dX7_mount_13 ⟨Nat.le_of_ble_eq_true rfl, Nat.le_of_ble_eq_true rfl⟩) hS (fun H locs hW hS => ?_)
    have hW : World g ((q2, mt)) H := hW
    refine lv_aload_n hx hb dX7_mount_16 rfl (lv_at hl 1 rfl) ?_
    refine x_get (i := g.1) (k := 7) (j := 0) (t := 3) hx hb hts i_7 hown hK hW ⟨⟨hfl, rfl⟩, by decide⟩ rfl ⟨by decide, by decide, rfl⟩ (hts (.fieldLink RX7 19 "OpticalJukebox" "state" "LOpticalJukebox$State;") (by decide +kernel)) (v := .ref (adr (k_st q2) 4 0)) rfl dX7_mount_17 ?_
    refine x_get (i := (k_st q2)) (k := 4) (j := 0) (t := 15) hx hb hts i_4 hown hK hW ⟨hW.2.2.2.1, by decide⟩ rfl ⟨by decide, by decide, rfl⟩ (hts (.fieldLink RX7 116 "OpticalJukebox$State" "clock" "I") (by decide +kernel)) (rfl) dX7_mount_20 ?_
    obtain ⟨x3, e_x3, hf⟩ := x_letE hf
    refine x_topi e_x3 ?_
    refine lv_istore_n (lv' := [(3, .int x3), (2, .int q1), (0, .ref (adr g.1 7 0)), (1, .int a1)]) hx hb dX7_mount_23 rfl hl (by decide) rfl (fun ls hl => ?_)
    refine lv_aload_n hx hb dX7_mount_24 rfl (lv_at hl 2 rfl) ?_
    refine x_get (i := g.1) (k := 7) (j := 0) (t := 3) hx hb hts i_7 hown hK hW ⟨⟨hfl, rfl⟩, by decide⟩ rfl ⟨by decide, by decide, rfl⟩ (hts (.fieldLink RX7 19 "OpticalJukebox" "state" "LOpticalJukebox$State;") (by decide +kernel)) (v := .ref (adr (k_st q2) 4 0)) rfl dX7_mount_25 ?_
    refine lv_iload_n hx hb dX7_mount_28 rfl (lv_at hl 3 rfl) ?_
    obtain ⟨q4, h_q4, hf⟩ := x_bindE hf
    refine x_cv0 (x_rV ⟨hx, hb, hml, hown, hts⟩ (ct_X4_bringToChosen l g (q2, mt) (k_st q2) hW.2.2.2.1 (k_xs q2 (k_st q2)) (a1) h_q4) (cwV 1 hts gX7_mount_X4_bringToChosen rfl rfl rfl (by decide +kernel) ⟨Nat.le_of_ble_eq_true rfl, Nat.le_of_ble_eq_true rfl⟩) hK (w_self_sd hW) hS (x_recv (i := (k_st q2)) (k := 4) (j := 0) hK hW ⟨hW.2.2.2.1, by decide⟩ rfl (by decide)) rfl hl.1 (rest := []) rfl (Nat.le_of_ble_eq_true rfl) dX7_mount_29 ⟨Nat.le_of_ble_eq_true rfl, Nat.le_of_ble_eq_true rfl⟩) hS (fun H locs hW hS => ?_)
    have hW : World g (((kS q2 (k_st q2) q4), mt)) H := hW
    refine lv_aload_n hx hb dX7_mount_32 rfl (lv_at hl 2 rfl) ?_
    refine x_get (i := g.1) (k := 7) (j := 0) (t := 3) hx hb hts i_7 hown hK hW ⟨⟨hfl, rfl⟩, by decide⟩ rfl ⟨by decide, by decide, rfl⟩ (hts (.fieldLink RX7 19 "OpticalJukebox" "state" "LOpticalJukebox$State;") (by decide +kernel)) (v := .ref (adr (k_st q2) 4 0)) rfl dX7_mount_33 ?_
    refine x_get (i := (k_st q2)) (k := 4) (j := 0) (t := 15) hx hb hts i_4 hown hK hW ⟨hW.2.2.2.1, by decide⟩ rfl ⟨by decide, by decide, rfl⟩ (hts (.fieldLink RX7 116 "OpticalJukebox$State" "clock" "I") (by decide +kernel)) (sv_S (w := (q2, mt)) rfl (fun _ => rfl) rfl) dX7_mount_36 ?_
    refine lv_iload_n hx hb dX7_mount_39 rfl (lv_at hl 0 rfl) ?_
    refine lv_isub hx hb dX7_mount_40 ?_
    cases hf
    exact x_iret hx hb hr hlocks hK hW hS rfl dX7_mount_41
  · have hf := x_iteF hf hc
    refine lv_iload_n hx hb dX7_mount_10 rfl (lv_at hl 0 rfl) ?_
    refine W.widen (k := 91) (n := 755) (by decide) (by decide) ?_
    cases hf
    exact x_iret hx hb hr hlocks hK hW hS rfl dX7_mount_11
abbrev rm_X7_eject : Room := { frames := 5, cells := 91, slots := 755, locals := 152 }
set_option maxRecDepth 100000 in
set_option maxHeartbeats 4000000 in
theorem ct_X7_eject (l : Launch) (g : GT) (hfl : 1 ≤ gf g) (cs : CT) (mt : MT) (a1 : Int32) {q : (Int32 × CT)} (hf : f_X7_eject cs a1 = some q) : Met l yX7_eject wsX7_eject rm_X7_eject (cPre g ((cs, mt)) [.ref (adr g.1 7 0), .int a1]) (cQi g q.1 ((q.2, mt))) 91 755 (gA g) := by
  have i_0 : ∀ w ∈ u_ws RX0 TX0 3, w ∈ wsX7_eject := by decide +kernel
  have i_4 : ∀ w ∈ u_ws RX4 TX4 18, w ∈ wsX7_eject := by decide +kernel
  have i_7 : ∀ w ∈ u_ws RX7 TX7 9, w ∈ wsX7_eject := by decide +kernel
  refine x_met (by decide) rfl (Nat.le_of_ble_eq_true rfl) ?_
  intro p e s m below meth c hx hb hr hml hts hown hlocks hK hW hS ls hl
  have hown : s.vm.findClass RX7 = some m.cls := hown
  have hl : lv_has ls 3 [(0, .ref (adr g.1 7 0)), (1, .int a1)] := hl
  rw [f_X7_eject] at hf
  refine lv_aload_n hx hb dX7_eject_0 rfl (lv_at hl 0 rfl) ?_
  refine x_get (i := g.1) (k := 7) (j := 0) (t := 3) hx hb hts i_7 hown hK hW ⟨⟨hfl, rfl⟩, by decide⟩ rfl ⟨by decide, by decide, rfl⟩ (hts (.fieldLink RX7 19 "OpticalJukebox" "state" "LOpticalJukebox$State;") (by decide +kernel)) (v := .ref (adr (k_st cs) 4 0)) rfl dX7_eject_1 ?_
  refine lv_iload_n hx hb dX7_eject_4 rfl (lv_at hl 1 rfl) ?_
  obtain ⟨q1, h_q1, hf⟩ := x_bindE hf
  refine x_ci0 (x_rV ⟨hx, hb, hml, hown, hts⟩ (ct_X4_hasDrive l g (cs, mt) (k_st cs) hW.2.2.2.1 (k_xs cs (k_st cs)) (a1) h_q1) (cwV 1 hts gX7_eject_X4_hasDrive rfl rfl rfl (by decide +kernel) ⟨Nat.le_of_ble_eq_true rfl, Nat.le_of_ble_eq_true rfl⟩) hK (w_self_sd hW) hS (x_recv (i := (k_st cs)) (k := 4) (j := 0) hK hW ⟨hW.2.2.2.1, by decide⟩ rfl (by decide)) rfl hl.1 (rest := []) rfl (Nat.le_of_ble_eq_true rfl) dX7_eject_5 ⟨Nat.le_of_ble_eq_true rfl, Nat.le_of_ble_eq_true rfl⟩) hS (fun H locs hW hS => ?_)
  have hW := w_unself_sd hW
  have hW : World g ((cs, mt)) H := hW
  refine W.eq (g2 := F0 m 8 ls [.int q1]) rfl ?_
  refine lv_if_ne (tgt := 14) hx hb dX7_eject_8 (by decide) (fun hc => ?_) (fun hc => ?_)
  · have hf := x_iteF hf hc
    refine lv_aload_n hx hb dX7_eject_14 rfl (lv_at hl 0 rfl) ?_
    refine x_get (i := g.1) (k := 7) (j := 0) (t := 3) hx hb hts i_7 hown hK hW ⟨⟨hfl, rfl⟩, by decide⟩ rfl ⟨by decide, by decide, rfl⟩ (hts (.fieldLink RX7 19 "OpticalJukebox" "state" "LOpticalJukebox$State;") (by decide +kernel)) (v := .ref (adr (k_st cs) 4 0)) rfl dX7_eject_15 ?_
    refine x_get (i := (k_st cs)) (k := 4) (j := 0) (t := 2) hx hb hts i_4 hown hK hW ⟨hW.2.2.2.1, by decide⟩ rfl ⟨by decide, by decide, rfl⟩ (hts (.fieldLink RX7 104 "OpticalJukebox$State" "drives" "[LOpticalJukebox$Drive;") (by decide +kernel)) (v := .ref (adr (k_st cs) 11 0)) rfl dX7_eject_18 ?_
    refine lv_iload_n hx hb dX7_eject_21 rfl (lv_at hl 1 rfl) ?_
    obtain ⟨hg2, hf⟩ := x_guardE hf
    refine x_aald (i := (k_st cs)) (k := 11) (j := 0) hx hb hK hW ⟨hW.2.2.2.1, by decide⟩ (by decide) rfl rfl hg2 dX7_eject_22 ?_
    refine W.eq (g2 := F0 m 23 ls [.ref (adr (k_st cs) 0 (a1).toNatClampNeg)]) rfl ?_
    refine x_get (i := (k_st cs)) (k := 0) (j := (a1).toNatClampNeg) (t := 1) hx hb hts i_0 hown hK hW ⟨hW.2.2.2.1, (x_lt hg2)⟩ rfl ⟨by decide, by decide, rfl⟩ (hts (.fieldLink RX7 108 "OpticalJukebox$Drive" "platter" "I") (by decide +kernel)) (rfl) dX7_eject_23 ?_
    refine lv_iconst (v := -1) hx hb dX7_eject_26 (by decide) ?_
    refine lv_icmp_ne (tgt := 33) hx hb dX7_eject_27 (by decide) (fun hc => ?_) (fun hc => ?_)
    · have hf := x_iteF hf hc
      refine lv_aload_n hx hb dX7_eject_33 rfl (lv_at hl 0 rfl) ?_
      obtain ⟨q3, h_q3, hf⟩ := x_bindE hf
      refine x_cv (x_rV ⟨hx, hb, hml, hown, hts⟩ (ct_X7_remember l g hfl cs mt  h_q3) (cwV 0 hts gX7_eject_X7_remember rfl rfl rfl (by decide +kernel) ⟨Nat.le_of_ble_eq_true rfl, Nat.le_of_ble_eq_true rfl⟩) hK hW hS (x_recv (i := g.1) (k := 7) (j := 0) hK hW ⟨⟨hfl, rfl⟩, by decide⟩ rfl (by decide)) rfl hl.1 (rest := []) rfl (Nat.le_of_ble_eq_true rfl) dX7_eject_34 ⟨Nat.le_of_ble_eq_true rfl, Nat.le_of_ble_eq_true rfl⟩) hS (fun H locs hW hS => ?_)
      have hW : World g ((q3, mt)) H := hW
      refine lv_aload_n hx hb dX7_eject_37 rfl (lv_at hl 0 rfl) ?_
      refine x_get (i := g.1) (k := 7) (j := 0) (t := 3) hx hb hts i_7 hown hK hW ⟨⟨hfl, rfl⟩, by decide⟩ rfl ⟨by decide, by decide, rfl⟩ (hts (.fieldLink RX7 19 "OpticalJukebox" "state" "LOpticalJukebox$State;") (by decide +kernel)) (v := .ref (adr (k_st q3) 4 0)) rfl dX7_eject_38 ?_
      refine x_get (i := (k_st q3)) (k := 4) (j := 0) (t := 15) hx hb hts i_4 hown hK hW ⟨hW.2.2.2.1, by decide⟩ rfl ⟨by decide, by decide, rfl⟩ (hts (.fieldLink RX7 116 "OpticalJukebox$State" "clock" "I") (by decide +kernel)) (rfl) dX7_eject_41 ?_
      obtain ⟨x4, e_x4, hf⟩ := x_letE hf
      refine x_topi e_x4 ?_
      refine lv_istore_n (lv' := [(2, .int x4), (0, .ref (adr g.1 7 0)), (1, .int a1)]) hx hb dX7_eject_44 rfl hl (by decide) rfl (fun ls hl => ?_)
      refine lv_aload_n hx hb dX7_eject_45 rfl (lv_at hl 1 rfl) ?_
      refine x_get (i := g.1) (k := 7) (j := 0) (t := 3) hx hb hts i_7 hown hK hW ⟨⟨hfl, rfl⟩, by decide⟩ rfl ⟨by decide, by decide, rfl⟩ (hts (.fieldLink RX7 19 "OpticalJukebox" "state" "LOpticalJukebox$State;") (by decide +kernel)) (v := .ref (adr (k_st q3) 4 0)) rfl dX7_eject_46 ?_
      refine lv_iload_n hx hb dX7_eject_49 rfl (lv_at hl 2 rfl) ?_
      obtain ⟨q5, h_q5, hf⟩ := x_bindE hf
      refine x_cv0 (x_rV ⟨hx, hb, hml, hown, hts⟩ (ct_X4_carryHome l g (q3, mt) (k_st q3) hW.2.2.2.1 (k_xs q3 (k_st q3)) (a1) h_q5) (cwV 1 hts gX7_eject_X4_carryHome rfl rfl rfl (by decide +kernel) ⟨Nat.le_of_ble_eq_true rfl, Nat.le_of_ble_eq_true rfl⟩) hK (w_self_sd hW) hS (x_recv (i := (k_st q3)) (k := 4) (j := 0) hK hW ⟨hW.2.2.2.1, by decide⟩ rfl (by decide)) rfl hl.1 (rest := []) rfl (Nat.le_of_ble_eq_true rfl) dX7_eject_50 ⟨Nat.le_of_ble_eq_true rfl, Nat.le_of_ble_eq_true rfl⟩) hS (fun H locs hW hS => ?_)
      have hW : World g (((kS q3 (k_st q3) q5), mt)) H := hW
      refine lv_aload_n hx hb dX7_eject_53 rfl (lv_at hl 1 rfl) ?_
      refine x_get (i := g.1) (k := 7) (j := 0) (t := 3) hx hb hts i_7 hown hK hW ⟨⟨hfl, rfl⟩, by decide⟩ rfl ⟨by decide, by decide, rfl⟩ (hts (.fieldLink RX7 19 "OpticalJukebox" "state" "LOpticalJukebox$State;") (by decide +kernel)) (v := .ref (adr (k_st q3) 4 0)) rfl dX7_eject_54 ?_
      refine x_get (i := (k_st q3)) (k := 4) (j := 0) (t := 15) hx hb hts i_4 hown hK hW ⟨hW.2.2.2.1, by decide⟩ rfl ⟨by decide, by decide, rfl⟩ (hts (.fieldLink RX7 116 "OpticalJukebox$State" "clock" "I") (by decide +kernel)) (sv_S (w := (q3, mt)) rfl (fun _ => rfl) rfl) dX7_eject_57 ?_
      refine lv_iload_n hx hb dX7_eject_60 rfl (lv_at hl 0 rfl) ?_
      refine lv_isub hx hb dX7_eject_61 ?_
      cases hf
      exact x_iret hx hb hr hlocks hK hW hS rfl dX7_eject_62
    · have hf := x_iteT hf hc
      refine lv_ldc (v := -1000005) hx hb hown (hts (.constant RX7 73 (-1000005)) (by decide +kernel)) dX7_eject_30 ?_
      refine W.widen (k := 91) (n := 755) (by decide) (by decide) ?_
      cases hf
      exact x_iret hx hb hr hlocks hK hW hS rfl dX7_eject_32
  · have hf := x_iteT hf hc
    refine lv_ldc (v := -1000001) hx hb hown (hts (.constant RX7 87 (-1000001)) (by decide +kernel)) dX7_eject_11 ?_
    refine W.widen (k := 91) (n := 755) (by decide) (by decide) ?_
    cases hf
    exact x_iret hx hb hr hlocks hK hW hS rfl dX7_eject_13
abbrev rm_X7_read : Room := { frames := 6, cells := 91, slots := 755, locals := 152 }
set_option maxRecDepth 100000 in
set_option maxHeartbeats 4000000 in
theorem ct_X7_read (l : Launch) (g : GT) (hfl : 1 ≤ gf g) (cs : CT) (mt : MT) (a1 : Int32) {q : (Int32 × CT)} (hf : f_X7_read cs a1 = some q) : Met l yX7_read wsX7_read rm_X7_read (cPre g ((cs, mt)) [.ref (adr g.1 7 0), .int a1]) (cQi g q.1 ((q.2, mt))) 91 755 (gA g) := by
  have i_4 : ∀ w ∈ u_ws RX4 TX4 18, w ∈ wsX7_read := by decide +kernel
  have i_7 : ∀ w ∈ u_ws RX7 TX7 9, w ∈ wsX7_read := by decide +kernel
  refine x_met (by decide) rfl (Nat.le_of_ble_eq_true rfl) ?_
  intro p e s m below meth c hx hb hr hml hts hown hlocks hK hW hS ls hl
  have hown : s.vm.findClass RX7 = some m.cls := hown
  have hl : lv_has ls 4 [(0, .ref (adr g.1 7 0)), (1, .int a1)] := hl
  rw [f_X7_read] at hf
  refine lv_aload_n hx hb dX7_read_0 rfl (lv_at hl 0 rfl) ?_
  refine lv_iload_n hx hb dX7_read_1 rfl (lv_at hl 1 rfl) ?_
  obtain ⟨q1, h_q1, hf⟩ := x_bindE hf
  refine x_ci0 (x_rV ⟨hx, hb, hml, hown, hts⟩ (ct_X7_readProblem l g hfl cs mt (a1) h_q1) (cwV 1 hts gX7_read_X7_readProblem rfl rfl rfl (by decide +kernel) ⟨Nat.le_of_ble_eq_true rfl, Nat.le_of_ble_eq_true rfl⟩) hK hW hS (x_recv (i := g.1) (k := 7) (j := 0) hK hW ⟨⟨hfl, rfl⟩, by decide⟩ rfl (by decide)) rfl hl.1 (rest := []) rfl (Nat.le_of_ble_eq_true rfl) dX7_read_2 ⟨Nat.le_of_ble_eq_true rfl, Nat.le_of_ble_eq_true rfl⟩) hS (fun H locs hW hS => ?_)
  have hW : World g ((cs, mt)) H := hW
  refine W.eq (g2 := F0 m 5 ls [.int q1]) rfl ?_
  refine lv_istore_n (lv' := [(2, .int q1), (0, .ref (adr g.1 7 0)), (1, .int a1)]) hx hb dX7_read_5 rfl hl (by decide) rfl (fun ls hl => ?_)
  refine lv_iload_n hx hb dX7_read_6 rfl (lv_at hl 0 rfl) ?_
  refine lv_if_eq (tgt := 12) hx hb dX7_read_7 (by decide) (fun hc => ?_) (fun hc => ?_)
  · have hf := x_iteT hf hc
    refine lv_aload_n hx hb dX7_read_12 rfl (lv_at hl 1 rfl) ?_
    obtain ⟨q2, h_q2, hf⟩ := x_bindE hf
    refine x_cv (x_rV ⟨hx, hb, hml, hown, hts⟩ (ct_X7_remember l g hfl cs mt  h_q2) (cwV 0 hts gX7_read_X7_remember rfl rfl rfl (by decide +kernel) ⟨Nat.le_of_ble_eq_true rfl, Nat.le_of_ble_eq_true rfl⟩) hK hW hS (x_recv (i := g.1) (k := 7) (j := 0) hK hW ⟨⟨hfl, rfl⟩, by decide⟩ rfl (by decide)) rfl hl.1 (rest := []) rfl (Nat.le_of_ble_eq_true rfl) dX7_read_13 ⟨Nat.le_of_ble_eq_true rfl, Nat.le_of_ble_eq_true rfl⟩) hS (fun H locs hW hS => ?_)
    have hW : World g ((q2, mt)) H := hW
    refine lv_aload_n hx hb dX7_read_16 rfl (lv_at hl 1 rfl) ?_
    refine x_get (i := g.1) (k := 7) (j := 0) (t := 3) hx hb hts i_7 hown hK hW ⟨⟨hfl, rfl⟩, by decide⟩ rfl ⟨by decide, by decide, rfl⟩ (hts (.fieldLink RX7 19 "OpticalJukebox" "state" "LOpticalJukebox$State;") (by decide +kernel)) (v := .ref (adr (k_st q2) 4 0)) rfl dX7_read_17 ?_
    refine x_get (i := (k_st q2)) (k := 4) (j := 0) (t := 15) hx hb hts i_4 hown hK hW ⟨hW.2.2.2.1, by decide⟩ rfl ⟨by decide, by decide, rfl⟩ (hts (.fieldLink RX7 116 "OpticalJukebox$State" "clock" "I") (by decide +kernel)) (rfl) dX7_read_20 ?_
    obtain ⟨x3, e_x3, hf⟩ := x_letE hf
    refine x_topi e_x3 ?_
    refine lv_istore_n (lv' := [(3, .int x3), (2, .int q1), (0, .ref (adr g.1 7 0)), (1, .int a1)]) hx hb dX7_read_23 rfl hl (by decide) rfl (fun ls hl => ?_)
    refine lv_aload_n hx hb dX7_read_24 rfl (lv_at hl 2 rfl) ?_
    refine x_get (i := g.1) (k := 7) (j := 0) (t := 3) hx hb hts i_7 hown hK hW ⟨⟨hfl, rfl⟩, by decide⟩ rfl ⟨by decide, by decide, rfl⟩ (hts (.fieldLink RX7 19 "OpticalJukebox" "state" "LOpticalJukebox$State;") (by decide +kernel)) (v := .ref (adr (k_st q2) 4 0)) rfl dX7_read_25 ?_
    refine lv_iload_n hx hb dX7_read_28 rfl (lv_at hl 3 rfl) ?_
    obtain ⟨q4, h_q4, hf⟩ := x_bindE hf
    refine x_cv0 (x_rV ⟨hx, hb, hml, hown, hts⟩ (ct_X4_readFile l g (q2, mt) (k_st q2) hW.2.2.2.1 (k_xs q2 (k_st q2)) (a1) h_q4) (cwV 1 hts gX7_read_X4_readFile rfl rfl rfl (by decide +kernel) ⟨Nat.le_of_ble_eq_true rfl, Nat.le_of_ble_eq_true rfl⟩) hK (w_self_sd hW) hS (x_recv (i := (k_st q2)) (k := 4) (j := 0) hK hW ⟨hW.2.2.2.1, by decide⟩ rfl (by decide)) rfl hl.1 (rest := []) rfl (Nat.le_of_ble_eq_true rfl) dX7_read_29 ⟨Nat.le_of_ble_eq_true rfl, Nat.le_of_ble_eq_true rfl⟩) hS (fun H locs hW hS => ?_)
    have hW : World g (((kS q2 (k_st q2) q4), mt)) H := hW
    refine lv_aload_n hx hb dX7_read_32 rfl (lv_at hl 2 rfl) ?_
    refine x_get (i := g.1) (k := 7) (j := 0) (t := 3) hx hb hts i_7 hown hK hW ⟨⟨hfl, rfl⟩, by decide⟩ rfl ⟨by decide, by decide, rfl⟩ (hts (.fieldLink RX7 19 "OpticalJukebox" "state" "LOpticalJukebox$State;") (by decide +kernel)) (v := .ref (adr (k_st q2) 4 0)) rfl dX7_read_33 ?_
    refine x_get (i := (k_st q2)) (k := 4) (j := 0) (t := 15) hx hb hts i_4 hown hK hW ⟨hW.2.2.2.1, by decide⟩ rfl ⟨by decide, by decide, rfl⟩ (hts (.fieldLink RX7 116 "OpticalJukebox$State" "clock" "I") (by decide +kernel)) (sv_S (w := (q2, mt)) rfl (fun _ => rfl) rfl) dX7_read_36 ?_
    refine lv_iload_n hx hb dX7_read_39 rfl (lv_at hl 0 rfl) ?_
    refine lv_isub hx hb dX7_read_40 ?_
    cases hf
    exact x_iret hx hb hr hlocks hK hW hS rfl dX7_read_41
  · have hf := x_iteF hf hc
    refine lv_iload_n hx hb dX7_read_10 rfl (lv_at hl 0 rfl) ?_
    refine W.widen (k := 91) (n := 755) (by decide) (by decide) ?_
    cases hf
    exact x_iret hx hb hr hlocks hK hW hS rfl dX7_read_11
abbrev rm_X7_writeProblem : Room := { frames := 3, cells := 0, slots := 0, locals := 65 }
set_option maxRecDepth 100000 in
set_option maxHeartbeats 4000000 in
theorem ct_X7_writeProblem (l : Launch) (g : GT) (hfl : 1 ≤ gf g) (cs : CT) (mt : MT) (a1 : Int32) (a2 : Int32) {q : Int32} (hf : f_X7_writeProblem (k_xs cs (k_st cs)) a1 a2 = some q) : Met l yX7_writeProblem wsX7_writeProblem rm_X7_writeProblem (cPre g ((cs, mt)) [.ref (adr g.1 7 0), .int a1, .int a2]) (cQi g q ((cs, mt))) 0 0 (gA g) := by
  have i_4 : ∀ w ∈ u_ws RX4 TX4 18, w ∈ wsX7_writeProblem := by decide +kernel
  have i_7 : ∀ w ∈ u_ws RX7 TX7 9, w ∈ wsX7_writeProblem := by decide +kernel
  refine x_met (by decide) rfl (Nat.le_of_ble_eq_true rfl) ?_
  intro p e s m below meth c hx hb hr hml hts hown hlocks hK hW hS ls hl
  have hown : s.vm.findClass RX7 = some m.cls := hown
  have hl : lv_has ls 3 [(0, .ref (adr g.1 7 0)), (1, .int a1), (2, .int a2)] := hl
  rw [f_X7_writeProblem] at hf
  refine lv_aload_n hx hb dX7_writeProblem_0 rfl (lv_at hl 0 rfl) ?_
  refine x_get (i := g.1) (k := 7) (j := 0) (t := 3) hx hb hts i_7 hown hK hW ⟨⟨hfl, rfl⟩, by decide⟩ rfl ⟨by decide, by decide, rfl⟩ (hts (.fieldLink RX7 19 "OpticalJukebox" "state" "LOpticalJukebox$State;") (by decide +kernel)) (v := .ref (adr (k_st cs) 4 0)) rfl dX7_writeProblem_1 ?_
  refine x_get (i := (k_st cs)) (k := 4) (j := 0) (t := 9) hx hb hts i_4 hown hK hW ⟨hW.2.2.2.1, by decide⟩ rfl ⟨by decide, by decide, rfl⟩ (hts (.fieldLink RX7 275 "OpticalJukebox$State" "versionCount" "I") (by decide +kernel)) (rfl) dX7_writeProblem_4 ?_
  refine lv_bipush (v := 40) hx hb dX7_writeProblem_7 (by decide) ?_
  refine lv_icmp_lt (tgt := 15) hx hb dX7_writeProblem_9 (by decide) (fun hc => ?_) (fun hc => ?_)
  · have hf := x_iteT hf hc
    refine lv_aload_n hx hb dX7_writeProblem_15 rfl (lv_at hl 0 rfl) ?_
    refine x_get (i := g.1) (k := 7) (j := 0) (t := 3) hx hb hts i_7 hown hK hW ⟨⟨hfl, rfl⟩, by decide⟩ rfl ⟨by decide, by decide, rfl⟩ (hts (.fieldLink RX7 19 "OpticalJukebox" "state" "LOpticalJukebox$State;") (by decide +kernel)) (v := .ref (adr (k_st cs) 4 0)) rfl dX7_writeProblem_16 ?_
    refine x_get (i := (k_st cs)) (k := 4) (j := 0) (t := 3) hx hb hts i_4 hown hK hW ⟨hW.2.2.2.1, by decide⟩ rfl ⟨by decide, by decide, rfl⟩ (hts (.fieldLink RX7 134 "OpticalJukebox$State" "driveCount" "I") (by decide +kernel)) (rfl) dX7_writeProblem_19 ?_
    refine lv_if_ne (tgt := 28) hx hb dX7_writeProblem_22 (by decide) (fun hc => ?_) (fun hc => ?_)
    · have hf := x_iteF hf hc
      refine lv_aload_n hx hb dX7_writeProblem_28 rfl (lv_at hl 0 rfl) ?_
      refine x_get (i := g.1) (k := 7) (j := 0) (t := 3) hx hb hts i_7 hown hK hW ⟨⟨hfl, rfl⟩, by decide⟩ rfl ⟨by decide, by decide, rfl⟩ (hts (.fieldLink RX7 19 "OpticalJukebox" "state" "LOpticalJukebox$State;") (by decide +kernel)) (v := .ref (adr (k_st cs) 4 0)) rfl dX7_writeProblem_29 ?_
      refine x_get (i := (k_st cs)) (k := 4) (j := 0) (t := 5) hx hb hts i_4 hown hK hW ⟨hW.2.2.2.1, by decide⟩ rfl ⟨by decide, by decide, rfl⟩ (hts (.fieldLink RX7 78 "OpticalJukebox$State" "platters" "[LOpticalJukebox$Platter;") (by decide +kernel)) (v := .ref (adr (k_st cs) 12 0)) rfl dX7_writeProblem_32 ?_
      refine lv_iload_n hx hb dX7_writeProblem_35 rfl (lv_at hl 2 rfl) ?_
      obtain ⟨hg1, hf⟩ := x_guardE hf
      refine x_aald (i := (k_st cs)) (k := 12) (j := 0) hx hb hK hW ⟨hW.2.2.2.1, by decide⟩ (by decide) rfl rfl hg1 dX7_writeProblem_36 ?_
      refine W.eq (g2 := F0 m 37 ls [.ref (adr (k_st cs) 3 (a2).toNatClampNeg)]) rfl ?_
      refine lv_iload_n hx hb dX7_writeProblem_37 rfl (lv_at hl 1 rfl) ?_
      obtain ⟨q2, h_q2, hf⟩ := x_bindE hf
      refine x_ci0 (x_rV ⟨hx, hb, hml, hown, hts⟩ (ct_X3_canTake l g (cs, mt) (k_st cs) hW.2.2.2.1 (k_xs cs (k_st cs)) ((a2).toNatClampNeg) ((x_lt hg1)) (a1) h_q2) (cwV 1 hts gX7_writeProblem_X3_canTake rfl rfl rfl (by decide +kernel) ⟨Nat.le_of_ble_eq_true rfl, Nat.le_of_ble_eq_true rfl⟩) hK (w_self_sd hW) hS (x_recv (i := (k_st cs)) (k := 3) (j := (a2).toNatClampNeg) hK hW ⟨hW.2.2.2.1, (x_lt hg1)⟩ rfl (by decide)) rfl hl.1 (rest := []) rfl (Nat.le_of_ble_eq_true rfl) dX7_writeProblem_38 ⟨Nat.le_of_ble_eq_true rfl, Nat.le_of_ble_eq_true rfl⟩) hS (fun H locs hW hS => ?_)
      have hW := w_unself_sd hW
      have hW : World g ((cs, mt)) H := hW
      refine W.eq (g2 := F0 m 41 ls [.int q2]) rfl ?_
      refine lv_if_eq (tgt := 48) hx hb dX7_writeProblem_41 (by decide) (fun hc => ?_) (fun hc => ?_)
      · have hf := x_iteT hf hc
        refine lv_ldc (v := -1000008) hx hb hown (hts (.constant RX7 239 (-1000008)) (by decide +kernel)) dX7_writeProblem_48 ?_
        cases hf
        exact x_iret hx hb hr hlocks hK hW hS rfl dX7_writeProblem_50
      · have hf := x_iteF hf hc
        refine lv_iconst (v := 0) hx hb dX7_writeProblem_44 (by decide) ?_
        refine lv_goto (tgt := 50) hx hb dX7_writeProblem_45 (by decide) ?_
        cases hf
        exact x_iret hx hb hr hlocks hK hW hS rfl dX7_writeProblem_50
    · have hf := x_iteT hf hc
      refine lv_ldc (v := -1000007) hx hb hown (hts (.constant RX7 137 (-1000007)) (by decide +kernel)) dX7_writeProblem_25 ?_
      cases hf
      exact x_iret hx hb hr hlocks hK hW hS rfl dX7_writeProblem_27
  · have hf := x_iteF hf hc
    refine lv_ldc (v := -1000003) hx hb hown (hts (.constant RX7 41 (-1000003)) (by decide +kernel)) dX7_writeProblem_12 ?_
    cases hf
    exact x_iret hx hb hr hlocks hK hW hS rfl dX7_writeProblem_14
abbrev rm_X7_write : Room := { frames := 6, cells := 91, slots := 755, locals := 152 }
set_option maxRecDepth 100000 in
set_option maxHeartbeats 4000000 in
theorem ct_X7_write (l : Launch) (g : GT) (hfl : 1 ≤ gf g) (cs : CT) (mt : MT) (a1 : Int32) (a2 : Int32) (a3 : Int32) {q : (Int32 × CT)} (hf : f_X7_write cs a1 a2 a3 = some q) : Met l yX7_write wsX7_write rm_X7_write (cPre g ((cs, mt)) [.ref (adr g.1 7 0), .int a1, .int a2, .int a3]) (cQi g q.1 ((q.2, mt))) 91 755 (gA g) := by
  have i_4 : ∀ w ∈ u_ws RX4 TX4 18, w ∈ wsX7_write := by decide +kernel
  have i_7 : ∀ w ∈ u_ws RX7 TX7 9, w ∈ wsX7_write := by decide +kernel
  refine x_met (by decide) rfl (Nat.le_of_ble_eq_true rfl) ?_
  intro p e s m below meth c hx hb hr hml hts hown hlocks hK hW hS ls hl
  have hown : s.vm.findClass RX7 = some m.cls := hown
  have hl : lv_has ls 6 [(0, .ref (adr g.1 7 0)), (1, .int a1), (2, .int a2), (3, .int a3)] := hl
  rw [f_X7_write] at hf
  refine lv_aload_n hx hb dX7_write_0 rfl (lv_at hl 0 rfl) ?_
  refine x_get (i := g.1) (k := 7) (j := 0) (t := 3) hx hb hts i_7 hown hK hW ⟨⟨hfl, rfl⟩, by decide⟩ rfl ⟨by decide, by decide, rfl⟩ (hts (.fieldLink RX7 19 "OpticalJukebox" "state" "LOpticalJukebox$State;") (by decide +kernel)) (v := .ref (adr (k_st cs) 4 0)) rfl dX7_write_1 ?_
  refine lv_iload_n hx hb dX7_write_4 rfl (lv_at hl 1 rfl) ?_
  obtain ⟨q1, h_q1, hf⟩ := x_bindE hf
  refine x_ci0 (x_rV ⟨hx, hb, hml, hown, hts⟩ (ct_X4_hasFile l g (cs, mt) (k_st cs) hW.2.2.2.1 (k_xs cs (k_st cs)) (a1) h_q1) (cwV 1 hts gX7_write_X4_hasFile rfl rfl rfl (by decide +kernel) ⟨Nat.le_of_ble_eq_true rfl, Nat.le_of_ble_eq_true rfl⟩) hK (w_self_sd hW) hS (x_recv (i := (k_st cs)) (k := 4) (j := 0) hK hW ⟨hW.2.2.2.1, by decide⟩ rfl (by decide)) rfl hl.1 (rest := []) rfl (Nat.le_of_ble_eq_true rfl) dX7_write_5 ⟨Nat.le_of_ble_eq_true rfl, Nat.le_of_ble_eq_true rfl⟩) hS (fun H locs hW hS => ?_)
  have hW := w_unself_sd hW
  have hW : World g ((cs, mt)) H := hW
  refine W.eq (g2 := F0 m 8 ls [.int q1]) rfl ?_
  refine lv_if_eq (tgt := 22) hx hb dX7_write_8 (by decide) (fun hc => ?_) (fun hc => ?_)
  · have hf := x_iteT hf hc
    refine lv_ldc (v := -1000001) hx hb hown (hts (.constant RX7 87 (-1000001)) (by decide +kernel)) dX7_write_22 ?_
    refine W.widen (k := 91) (n := 755) (by decide) (by decide) ?_
    cases hf
    exact x_iret hx hb hr hlocks hK hW hS rfl dX7_write_24
  · have hf := x_iteF hf hc
    refine lv_aload_n hx hb dX7_write_11 rfl (lv_at hl 0 rfl) ?_
    refine x_get (i := g.1) (k := 7) (j := 0) (t := 3) hx hb hts i_7 hown hK hW ⟨⟨hfl, rfl⟩, by decide⟩ rfl ⟨by decide, by decide, rfl⟩ (hts (.fieldLink RX7 19 "OpticalJukebox" "state" "LOpticalJukebox$State;") (by decide +kernel)) (v := .ref (adr (k_st cs) 4 0)) rfl dX7_write_12 ?_
    refine lv_iload_n hx hb dX7_write_15 rfl (lv_at hl 3 rfl) ?_
    obtain ⟨q2, h_q2, hf⟩ := x_bindE hf
    refine x_ci0 (x_rV ⟨hx, hb, hml, hown, hts⟩ (ct_X4_hasPlatter l g (cs, mt) (k_st cs) hW.2.2.2.1 (k_xs cs (k_st cs)) (a3) h_q2) (cwV 1 hts gX7_write_X4_hasPlatter rfl rfl rfl (by decide +kernel) ⟨Nat.le_of_ble_eq_true rfl, Nat.le_of_ble_eq_true rfl⟩) hK (w_self_sd hW) hS (x_recv (i := (k_st cs)) (k := 4) (j := 0) hK hW ⟨hW.2.2.2.1, by decide⟩ rfl (by decide)) rfl hl.1 (rest := []) rfl (Nat.le_of_ble_eq_true rfl) dX7_write_16 ⟨Nat.le_of_ble_eq_true rfl, Nat.le_of_ble_eq_true rfl⟩) hS (fun H locs hW hS => ?_)
    have hW := w_unself_sd hW
    have hW : World g ((cs, mt)) H := hW
    refine W.eq (g2 := F0 m 19 ls [.int q2]) rfl ?_
    refine lv_if_ne (tgt := 25) hx hb dX7_write_19 (by decide) (fun hc => ?_) (fun hc => ?_)
    · have hf := x_iteF hf hc
      refine lv_iload_n hx hb dX7_write_25 rfl (lv_at hl 2 rfl) ?_
      obtain ⟨q3, h_q3, hf⟩ := x_bindE hf
      refine x_ci0 (x_rS ⟨hx, hb, hml, hown, hts⟩ (ct_X7_isSize l g ((cs, mt)) (a2) h_q3) (va_cwS 1 hts gX7_write_X7_isSize rfl rfl rfl (by decide +kernel) ⟨Nat.le_of_ble_eq_true rfl, Nat.le_of_ble_eq_true rfl⟩) hK hW hS rfl hl.1 (rest := []) rfl (Nat.le_of_ble_eq_true rfl) dX7_write_26 ⟨Nat.le_of_ble_eq_true rfl, Nat.le_of_ble_eq_true rfl⟩) hS (fun H locs hW hS => ?_)
      have hW : World g ((cs, mt)) H := hW
      refine W.eq (g2 := F0 m 29 ls [.int q3]) rfl ?_
      refine lv_if_ne (tgt := 35) hx hb dX7_write_29 (by decide) (fun hc => ?_) (fun hc => ?_)
      · have hf := x_iteF hf hc
        refine lv_aload_n hx hb dX7_write_35 rfl (lv_at hl 0 rfl) ?_
        refine lv_iload_n hx hb dX7_write_36 rfl (lv_at hl 2 rfl) ?_
        refine lv_iload_n hx hb dX7_write_37 rfl (lv_at hl 3 rfl) ?_
        obtain ⟨q4, h_q4, hf⟩ := x_bindE hf
        refine x_ci0 (x_rV ⟨hx, hb, hml, hown, hts⟩ (ct_X7_writeProblem l g hfl cs mt (a2) (a3) h_q4) (cwV 2 hts gX7_write_X7_writeProblem rfl rfl rfl (by decide +kernel) ⟨Nat.le_of_ble_eq_true rfl, Nat.le_of_ble_eq_true rfl⟩) hK hW hS (x_recv (i := g.1) (k := 7) (j := 0) hK hW ⟨⟨hfl, rfl⟩, by decide⟩ rfl (by decide)) rfl hl.1 (rest := []) rfl (Nat.le_of_ble_eq_true rfl) dX7_write_38 ⟨Nat.le_of_ble_eq_true rfl, Nat.le_of_ble_eq_true rfl⟩) hS (fun H locs hW hS => ?_)
        have hW : World g ((cs, mt)) H := hW
        refine W.eq (g2 := F0 m 41 ls [.int q4]) rfl ?_
        refine lv_istore (lv' := [(4, .int q4), (0, .ref (adr g.1 7 0)), (1, .int a1), (2, .int a2), (3, .int a3)]) hx hb dX7_write_41 hl (by decide) rfl (fun ls hl => ?_)
        refine lv_iload hx hb dX7_write_43 (lv_at hl 0 rfl) ?_
        refine lv_if_eq (tgt := 51) hx hb dX7_write_45 (by decide) (fun hc => ?_) (fun hc => ?_)
        · have hf := x_iteT hf hc
          refine lv_aload_n hx hb dX7_write_51 rfl (lv_at hl 1 rfl) ?_
          obtain ⟨q5, h_q5, hf⟩ := x_bindE hf
          refine x_cv (x_rV ⟨hx, hb, hml, hown, hts⟩ (ct_X7_remember l g hfl cs mt  h_q5) (cwV 0 hts gX7_write_X7_remember rfl rfl rfl (by decide +kernel) ⟨Nat.le_of_ble_eq_true rfl, Nat.le_of_ble_eq_true rfl⟩) hK hW hS (x_recv (i := g.1) (k := 7) (j := 0) hK hW ⟨⟨hfl, rfl⟩, by decide⟩ rfl (by decide)) rfl hl.1 (rest := []) rfl (Nat.le_of_ble_eq_true rfl) dX7_write_52 ⟨Nat.le_of_ble_eq_true rfl, Nat.le_of_ble_eq_true rfl⟩) hS (fun H locs hW hS => ?_)
          have hW : World g ((q5, mt)) H := hW
          refine lv_aload_n hx hb dX7_write_55 rfl (lv_at hl 1 rfl) ?_
          refine x_get (i := g.1) (k := 7) (j := 0) (t := 3) hx hb hts i_7 hown hK hW ⟨⟨hfl, rfl⟩, by decide⟩ rfl ⟨by decide, by decide, rfl⟩ (hts (.fieldLink RX7 19 "OpticalJukebox" "state" "LOpticalJukebox$State;") (by decide +kernel)) (v := .ref (adr (k_st q5) 4 0)) rfl dX7_write_56 ?_
          refine x_get (i := (k_st q5)) (k := 4) (j := 0) (t := 15) hx hb hts i_4 hown hK hW ⟨hW.2.2.2.1, by decide⟩ rfl ⟨by decide, by decide, rfl⟩ (hts (.fieldLink RX7 116 "OpticalJukebox$State" "clock" "I") (by decide +kernel)) (rfl) dX7_write_59 ?_
          obtain ⟨x6, e_x6, hf⟩ := x_letE hf
          refine x_topi e_x6 ?_
          refine lv_istore (lv' := [(5, .int x6), (4, .int q4), (0, .ref (adr g.1 7 0)), (1, .int a1), (2, .int a2), (3, .int a3)]) hx hb dX7_write_62 hl (by decide) rfl (fun ls hl => ?_)
          refine lv_aload_n hx hb dX7_write_64 rfl (lv_at hl 2 rfl) ?_
          refine x_get (i := g.1) (k := 7) (j := 0) (t := 3) hx hb hts i_7 hown hK hW ⟨⟨hfl, rfl⟩, by decide⟩ rfl ⟨by decide, by decide, rfl⟩ (hts (.fieldLink RX7 19 "OpticalJukebox" "state" "LOpticalJukebox$State;") (by decide +kernel)) (v := .ref (adr (k_st q5) 4 0)) rfl dX7_write_65 ?_
          refine lv_iload_n hx hb dX7_write_68 rfl (lv_at hl 3 rfl) ?_
          refine lv_iload_n hx hb dX7_write_69 rfl (lv_at hl 4 rfl) ?_
          refine lv_iload_n hx hb dX7_write_70 rfl (lv_at hl 5 rfl) ?_
          obtain ⟨q7, h_q7, hf⟩ := x_bindE hf
          refine x_cv0 (x_rV ⟨hx, hb, hml, hown, hts⟩ (ct_X4_writeVersion l g (q5, mt) (k_st q5) hW.2.2.2.1 (k_xs q5 (k_st q5)) (a1) (a2) (a3) h_q7) (cwV 3 hts gX7_write_X4_writeVersion rfl rfl rfl (by decide +kernel) ⟨Nat.le_of_ble_eq_true rfl, Nat.le_of_ble_eq_true rfl⟩) hK (w_self_sd hW) hS (x_recv (i := (k_st q5)) (k := 4) (j := 0) hK hW ⟨hW.2.2.2.1, by decide⟩ rfl (by decide)) rfl hl.1 (rest := []) rfl (Nat.le_of_ble_eq_true rfl) dX7_write_71 ⟨Nat.le_of_ble_eq_true rfl, Nat.le_of_ble_eq_true rfl⟩) hS (fun H locs hW hS => ?_)
          have hW : World g (((kS q5 (k_st q5) q7), mt)) H := hW
          refine lv_aload_n hx hb dX7_write_74 rfl (lv_at hl 2 rfl) ?_
          refine x_get (i := g.1) (k := 7) (j := 0) (t := 3) hx hb hts i_7 hown hK hW ⟨⟨hfl, rfl⟩, by decide⟩ rfl ⟨by decide, by decide, rfl⟩ (hts (.fieldLink RX7 19 "OpticalJukebox" "state" "LOpticalJukebox$State;") (by decide +kernel)) (v := .ref (adr (k_st q5) 4 0)) rfl dX7_write_75 ?_
          refine x_get (i := (k_st q5)) (k := 4) (j := 0) (t := 15) hx hb hts i_4 hown hK hW ⟨hW.2.2.2.1, by decide⟩ rfl ⟨by decide, by decide, rfl⟩ (hts (.fieldLink RX7 116 "OpticalJukebox$State" "clock" "I") (by decide +kernel)) (sv_S (w := (q5, mt)) rfl (fun _ => rfl) rfl) dX7_write_78 ?_
          refine lv_iload hx hb dX7_write_81 (lv_at hl 0 rfl) ?_
          refine lv_isub hx hb dX7_write_83 ?_
          cases hf
          exact x_iret hx hb hr hlocks hK hW hS rfl dX7_write_84
        · have hf := x_iteF hf hc
          refine lv_iload hx hb dX7_write_48 (lv_at hl 0 rfl) ?_
          refine W.widen (k := 91) (n := 755) (by decide) (by decide) ?_
          cases hf
          exact x_iret hx hb hr hlocks hK hW hS rfl dX7_write_50
      · have hf := x_iteT hf hc
        refine lv_ldc (v := -1000002) hx hb hown (hts (.constant RX7 46 (-1000002)) (by decide +kernel)) dX7_write_32 ?_
        refine W.widen (k := 91) (n := 755) (by decide) (by decide) ?_
        cases hf
        exact x_iret hx hb hr hlocks hK hW hS rfl dX7_write_34
    · have hf := x_iteT hf hc
      refine lv_ldc (v := -1000001) hx hb hown (hts (.constant RX7 87 (-1000001)) (by decide +kernel)) dX7_write_22 ?_
      refine W.widen (k := 91) (n := 755) (by decide) (by decide) ?_
      cases hf
      exact x_iret hx hb hr hlocks hK hW hS rfl dX7_write_24
abbrev rm_X7_create : Room := { frames := 6, cells := 91, slots := 755, locals := 152 }
set_option maxRecDepth 100000 in
set_option maxHeartbeats 4000000 in
theorem ct_X7_create (l : Launch) (g : GT) (hfl : 1 ≤ gf g) (cs : CT) (mt : MT) (a1 : Int32) (a2 : Int32) {q : (Int32 × CT)} (hf : f_X7_create cs a1 a2 = some q) : Met l yX7_create wsX7_create rm_X7_create (cPre g ((cs, mt)) [.ref (adr g.1 7 0), .int a1, .int a2]) (cQi g q.1 ((q.2, mt))) 91 755 (gA g) := by
  have i_4 : ∀ w ∈ u_ws RX4 TX4 18, w ∈ wsX7_create := by decide +kernel
  have i_7 : ∀ w ∈ u_ws RX7 TX7 9, w ∈ wsX7_create := by decide +kernel
  refine x_met (by decide) rfl (Nat.le_of_ble_eq_true rfl) ?_
  intro p e s m below meth c hx hb hr hml hts hown hlocks hK hW hS ls hl
  have hown : s.vm.findClass RX7 = some m.cls := hown
  have hl : lv_has ls 5 [(0, .ref (adr g.1 7 0)), (1, .int a1), (2, .int a2)] := hl
  rw [f_X7_create] at hf
  refine lv_aload_n hx hb dX7_create_0 rfl (lv_at hl 0 rfl) ?_
  refine x_get (i := g.1) (k := 7) (j := 0) (t := 3) hx hb hts i_7 hown hK hW ⟨⟨hfl, rfl⟩, by decide⟩ rfl ⟨by decide, by decide, rfl⟩ (hts (.fieldLink RX7 19 "OpticalJukebox" "state" "LOpticalJukebox$State;") (by decide +kernel)) (v := .ref (adr (k_st cs) 4 0)) rfl dX7_create_1 ?_
  refine lv_iload_n hx hb dX7_create_4 rfl (lv_at hl 2 rfl) ?_
  obtain ⟨q1, h_q1, hf⟩ := x_bindE hf
  refine x_ci0 (x_rV ⟨hx, hb, hml, hown, hts⟩ (ct_X4_hasPlatter l g (cs, mt) (k_st cs) hW.2.2.2.1 (k_xs cs (k_st cs)) (a2) h_q1) (cwV 1 hts gX7_create_X4_hasPlatter rfl rfl rfl (by decide +kernel) ⟨Nat.le_of_ble_eq_true rfl, Nat.le_of_ble_eq_true rfl⟩) hK (w_self_sd hW) hS (x_recv (i := (k_st cs)) (k := 4) (j := 0) hK hW ⟨hW.2.2.2.1, by decide⟩ rfl (by decide)) rfl hl.1 (rest := []) rfl (Nat.le_of_ble_eq_true rfl) dX7_create_5 ⟨Nat.le_of_ble_eq_true rfl, Nat.le_of_ble_eq_true rfl⟩) hS (fun H locs hW hS => ?_)
  have hW := w_unself_sd hW
  have hW : World g ((cs, mt)) H := hW
  refine W.eq (g2 := F0 m 8 ls [.int q1]) rfl ?_
  refine lv_if_ne (tgt := 14) hx hb dX7_create_8 (by decide) (fun hc => ?_) (fun hc => ?_)
  · have hf := x_iteF hf hc
    refine lv_iload_n hx hb dX7_create_14 rfl (lv_at hl 1 rfl) ?_
    obtain ⟨q2, h_q2, hf⟩ := x_bindE hf
    refine x_ci0 (x_rS ⟨hx, hb, hml, hown, hts⟩ (ct_X7_isSize l g ((cs, mt)) (a1) h_q2) (va_cwS 1 hts gX7_create_X7_isSize rfl rfl rfl (by decide +kernel) ⟨Nat.le_of_ble_eq_true rfl, Nat.le_of_ble_eq_true rfl⟩) hK hW hS rfl hl.1 (rest := []) rfl (Nat.le_of_ble_eq_true rfl) dX7_create_15 ⟨Nat.le_of_ble_eq_true rfl, Nat.le_of_ble_eq_true rfl⟩) hS (fun H locs hW hS => ?_)
    have hW : World g ((cs, mt)) H := hW
    refine W.eq (g2 := F0 m 18 ls [.int q2]) rfl ?_
    refine lv_if_ne (tgt := 24) hx hb dX7_create_18 (by decide) (fun hc => ?_) (fun hc => ?_)
    · have hf := x_iteF hf hc
      refine lv_aload_n hx hb dX7_create_24 rfl (lv_at hl 0 rfl) ?_
      refine x_get (i := g.1) (k := 7) (j := 0) (t := 3) hx hb hts i_7 hown hK hW ⟨⟨hfl, rfl⟩, by decide⟩ rfl ⟨by decide, by decide, rfl⟩ (hts (.fieldLink RX7 19 "OpticalJukebox" "state" "LOpticalJukebox$State;") (by decide +kernel)) (v := .ref (adr (k_st cs) 4 0)) rfl dX7_create_25 ?_
      refine x_get (i := (k_st cs)) (k := 4) (j := 0) (t := 11) hx hb hts i_4 hown hK hW ⟨hW.2.2.2.1, by decide⟩ rfl ⟨by decide, by decide, rfl⟩ (hts (.fieldLink RX7 70 "OpticalJukebox$State" "fileCount" "I") (by decide +kernel)) (rfl) dX7_create_28 ?_
      refine lv_bipush (v := 20) hx hb dX7_create_31 (by decide) ?_
      refine lv_icmp_lt (tgt := 39) hx hb dX7_create_33 (by decide) (fun hc => ?_) (fun hc => ?_)
      · have hf := x_iteT hf hc
        refine lv_aload_n hx hb dX7_create_39 rfl (lv_at hl 0 rfl) ?_
        refine lv_iload_n hx hb dX7_create_40 rfl (lv_at hl 1 rfl) ?_
        refine lv_iload_n hx hb dX7_create_41 rfl (lv_at hl 2 rfl) ?_
        obtain ⟨q3, h_q3, hf⟩ := x_bindE hf
        refine x_ci0 (x_rV ⟨hx, hb, hml, hown, hts⟩ (ct_X7_writeProblem l g hfl cs mt (a1) (a2) h_q3) (cwV 2 hts gX7_create_X7_writeProblem rfl rfl rfl (by decide +kernel) ⟨Nat.le_of_ble_eq_true rfl, Nat.le_of_ble_eq_true rfl⟩) hK hW hS (x_recv (i := g.1) (k := 7) (j := 0) hK hW ⟨⟨hfl, rfl⟩, by decide⟩ rfl (by decide)) rfl hl.1 (rest := []) rfl (Nat.le_of_ble_eq_true rfl) dX7_create_42 ⟨Nat.le_of_ble_eq_true rfl, Nat.le_of_ble_eq_true rfl⟩) hS (fun H locs hW hS => ?_)
        have hW : World g ((cs, mt)) H := hW
        refine W.eq (g2 := F0 m 45 ls [.int q3]) rfl ?_
        refine lv_istore_n (lv' := [(3, .int q3), (0, .ref (adr g.1 7 0)), (1, .int a1), (2, .int a2)]) hx hb dX7_create_45 rfl hl (by decide) rfl (fun ls hl => ?_)
        refine lv_iload_n hx hb dX7_create_46 rfl (lv_at hl 0 rfl) ?_
        refine lv_if_eq (tgt := 52) hx hb dX7_create_47 (by decide) (fun hc => ?_) (fun hc => ?_)
        · have hf := x_iteT hf hc
          refine lv_aload_n hx hb dX7_create_52 rfl (lv_at hl 1 rfl) ?_
          obtain ⟨q4, h_q4, hf⟩ := x_bindE hf
          refine x_cv (x_rV ⟨hx, hb, hml, hown, hts⟩ (ct_X7_remember l g hfl cs mt  h_q4) (cwV 0 hts gX7_create_X7_remember rfl rfl rfl (by decide +kernel) ⟨Nat.le_of_ble_eq_true rfl, Nat.le_of_ble_eq_true rfl⟩) hK hW hS (x_recv (i := g.1) (k := 7) (j := 0) hK hW ⟨⟨hfl, rfl⟩, by decide⟩ rfl (by decide)) rfl hl.1 (rest := []) rfl (Nat.le_of_ble_eq_true rfl) dX7_create_53 ⟨Nat.le_of_ble_eq_true rfl, Nat.le_of_ble_eq_true rfl⟩) hS (fun H locs hW hS => ?_)
          have hW : World g ((q4, mt)) H := hW
          refine lv_aload_n hx hb dX7_create_56 rfl (lv_at hl 1 rfl) ?_
          refine x_get (i := g.1) (k := 7) (j := 0) (t := 3) hx hb hts i_7 hown hK hW ⟨⟨hfl, rfl⟩, by decide⟩ rfl ⟨by decide, by decide, rfl⟩ (hts (.fieldLink RX7 19 "OpticalJukebox" "state" "LOpticalJukebox$State;") (by decide +kernel)) (v := .ref (adr (k_st q4) 4 0)) rfl dX7_create_57 ?_
          refine x_get (i := (k_st q4)) (k := 4) (j := 0) (t := 11) hx hb hts i_4 hown hK hW ⟨hW.2.2.2.1, by decide⟩ rfl ⟨by decide, by decide, rfl⟩ (hts (.fieldLink RX7 70 "OpticalJukebox$State" "fileCount" "I") (by decide +kernel)) (rfl) dX7_create_60 ?_
          obtain ⟨x5, e_x5, hf⟩ := x_letE hf
          refine x_topi e_x5 ?_
          refine lv_istore (lv' := [(4, .int x5), (3, .int q3), (0, .ref (adr g.1 7 0)), (1, .int a1), (2, .int a2)]) hx hb dX7_create_63 hl (by decide) rfl (fun ls hl => ?_)
          refine lv_aload_n hx hb dX7_create_65 rfl (lv_at hl 2 rfl) ?_
          refine x_get (i := g.1) (k := 7) (j := 0) (t := 3) hx hb hts i_7 hown hK hW ⟨⟨hfl, rfl⟩, by decide⟩ rfl ⟨by decide, by decide, rfl⟩ (hts (.fieldLink RX7 19 "OpticalJukebox" "state" "LOpticalJukebox$State;") (by decide +kernel)) (v := .ref (adr (k_st q4) 4 0)) rfl dX7_create_66 ?_
          refine lv_dup hx hb dX7_create_69 rfl ?_
          refine x_get (i := (k_st q4)) (k := 4) (j := 0) (t := 11) hx hb hts i_4 hown hK hW ⟨hW.2.2.2.1, by decide⟩ rfl ⟨by decide, by decide, rfl⟩ (hts (.fieldLink RX7 70 "OpticalJukebox$State" "fileCount" "I") (by decide +kernel)) (rfl) dX7_create_70 ?_
          refine lv_iconst (v := 1) hx hb dX7_create_73 (by decide) ?_
          refine lv_iadd hx hb dX7_create_74 ?_
          obtain ⟨sd6, e_sd6, hf⟩ := x_letE hf
          refine x_put (i := (k_st q4)) (k := 4) (j := 0) (t := 11) (w' := ((kS q4 (k_st q4) sd6), mt)) hx hb hts i_4 tyX4 tyX4_ok nmX4 hown hK hW ⟨hW.2.2.2.1, by decide⟩ hS rfl ⟨by decide, by decide, rfl⟩ (hts (.fieldLink RX7 70 "OpticalJukebox$State" "fileCount" "I") (by decide +kernel)) rfl (ty := .int) (by decide +kernel) rfl rfl ⟨rfl, rfl⟩ dX7_create_75 (fp_S0 e_sd6 rfl) (fun H locs hW hS => ?_)
          refine lv_aload_n hx hb dX7_create_78 rfl (lv_at hl 2 rfl) ?_
          refine x_get (i := g.1) (k := 7) (j := 0) (t := 3) hx hb hts i_7 hown hK hW ⟨⟨hfl, rfl⟩, by decide⟩ rfl ⟨by decide, by decide, rfl⟩ (hts (.fieldLink RX7 19 "OpticalJukebox" "state" "LOpticalJukebox$State;") (by decide +kernel)) (v := .ref (adr (k_st q4) 4 0)) rfl dX7_create_79 ?_
          refine lv_iload hx hb dX7_create_82 (lv_at hl 0 rfl) ?_
          refine lv_iload_n hx hb dX7_create_84 rfl (lv_at hl 3 rfl) ?_
          refine lv_iload_n hx hb dX7_create_85 rfl (lv_at hl 4 rfl) ?_
          obtain ⟨q7, h_q7, hf⟩ := x_bindE hf
          refine x_cv0 (x_rV ⟨hx, hb, hml, hown, hts⟩ (ct_X4_writeVersion l g (q4, mt) (k_st q4) hW.2.2.2.1 sd6 (x5) (a1) (a2) h_q7) (cwV 3 hts gX7_create_X4_writeVersion rfl rfl rfl (by decide +kernel) ⟨Nat.le_of_ble_eq_true rfl, Nat.le_of_ble_eq_true rfl⟩) hK hW hS (x_recv (i := (k_st q4)) (k := 4) (j := 0) hK hW ⟨hW.2.2.2.1, by decide⟩ rfl (by decide)) rfl hl.1 (rest := []) rfl (Nat.le_of_ble_eq_true rfl) dX7_create_86 ⟨Nat.le_of_ble_eq_true rfl, Nat.le_of_ble_eq_true rfl⟩) hS (fun H locs hW hS => ?_)
          have hW : World g (((kS q4 (k_st q4) q7), mt)) H := hW
          refine lv_iload hx hb dX7_create_89 (lv_at hl 0 rfl) ?_
          cases hf
          exact x_iret hx hb hr hlocks hK hW hS rfl dX7_create_91
        · have hf := x_iteF hf hc
          refine lv_iload_n hx hb dX7_create_50 rfl (lv_at hl 0 rfl) ?_
          refine W.widen (k := 91) (n := 755) (by decide) (by decide) ?_
          cases hf
          exact x_iret hx hb hr hlocks hK hW hS rfl dX7_create_51
      · have hf := x_iteF hf hc
        refine lv_ldc (v := -1000003) hx hb hown (hts (.constant RX7 41 (-1000003)) (by decide +kernel)) dX7_create_36 ?_
        refine W.widen (k := 91) (n := 755) (by decide) (by decide) ?_
        cases hf
        exact x_iret hx hb hr hlocks hK hW hS rfl dX7_create_38
    · have hf := x_iteT hf hc
      refine lv_ldc (v := -1000002) hx hb hown (hts (.constant RX7 46 (-1000002)) (by decide +kernel)) dX7_create_21 ?_
      refine W.widen (k := 91) (n := 755) (by decide) (by decide) ?_
      cases hf
      exact x_iret hx hb hr hlocks hK hW hS rfl dX7_create_23
  · have hf := x_iteT hf hc
    refine lv_ldc (v := -1000001) hx hb hown (hts (.constant RX7 87 (-1000001)) (by decide +kernel)) dX7_create_11 ?_
    refine W.widen (k := 91) (n := 755) (by decide) (by decide) ?_
    cases hf
    exact x_iret hx hb hr hlocks hK hW hS rfl dX7_create_13
abbrev rm_X7_closeSession : Room := { frames := 6, cells := 91, slots := 755, locals := 152 }
set_option maxRecDepth 100000 in
set_option maxHeartbeats 4000000 in
theorem ct_X7_closeSession (l : Launch) (g : GT) (hfl : 1 ≤ gf g) (cs : CT) (mt : MT) (a1 : Int32) {q : (Int32 × CT)} (hf : f_X7_closeSession cs a1 = some q) : Met l yX7_closeSession wsX7_closeSession rm_X7_closeSession (cPre g ((cs, mt)) [.ref (adr g.1 7 0), .int a1]) (cQi g q.1 ((q.2, mt))) 91 755 (gA g) := by
  have i_3 : ∀ w ∈ u_ws RX3 TX3 9, w ∈ wsX7_closeSession := by decide +kernel
  have i_4 : ∀ w ∈ u_ws RX4 TX4 18, w ∈ wsX7_closeSession := by decide +kernel
  have i_7 : ∀ w ∈ u_ws RX7 TX7 9, w ∈ wsX7_closeSession := by decide +kernel
  refine x_met (by decide) rfl (Nat.le_of_ble_eq_true rfl) ?_
  intro p e s m below meth c hx hb hr hml hts hown hlocks hK hW hS ls hl
  have hown : s.vm.findClass RX7 = some m.cls := hown
  have hl : lv_has ls 2 [(0, .ref (adr g.1 7 0)), (1, .int a1)] := hl
  rw [f_X7_closeSession] at hf
  refine lv_aload_n hx hb dX7_closeSession_0 rfl (lv_at hl 0 rfl) ?_
  refine x_get (i := g.1) (k := 7) (j := 0) (t := 3) hx hb hts i_7 hown hK hW ⟨⟨hfl, rfl⟩, by decide⟩ rfl ⟨by decide, by decide, rfl⟩ (hts (.fieldLink RX7 19 "OpticalJukebox" "state" "LOpticalJukebox$State;") (by decide +kernel)) (v := .ref (adr (k_st cs) 4 0)) rfl dX7_closeSession_1 ?_
  refine lv_iload_n hx hb dX7_closeSession_4 rfl (lv_at hl 1 rfl) ?_
  obtain ⟨q1, h_q1, hf⟩ := x_bindE hf
  refine x_ci0 (x_rV ⟨hx, hb, hml, hown, hts⟩ (ct_X4_hasPlatter l g (cs, mt) (k_st cs) hW.2.2.2.1 (k_xs cs (k_st cs)) (a1) h_q1) (cwV 1 hts gX7_closeSession_X4_hasPlatter rfl rfl rfl (by decide +kernel) ⟨Nat.le_of_ble_eq_true rfl, Nat.le_of_ble_eq_true rfl⟩) hK (w_self_sd hW) hS (x_recv (i := (k_st cs)) (k := 4) (j := 0) hK hW ⟨hW.2.2.2.1, by decide⟩ rfl (by decide)) rfl hl.1 (rest := []) rfl (Nat.le_of_ble_eq_true rfl) dX7_closeSession_5 ⟨Nat.le_of_ble_eq_true rfl, Nat.le_of_ble_eq_true rfl⟩) hS (fun H locs hW hS => ?_)
  have hW := w_unself_sd hW
  have hW : World g ((cs, mt)) H := hW
  refine W.eq (g2 := F0 m 8 ls [.int q1]) rfl ?_
  refine lv_if_ne (tgt := 14) hx hb dX7_closeSession_8 (by decide) (fun hc => ?_) (fun hc => ?_)
  · have hf := x_iteF hf hc
    refine lv_aload_n hx hb dX7_closeSession_14 rfl (lv_at hl 0 rfl) ?_
    refine x_get (i := g.1) (k := 7) (j := 0) (t := 3) hx hb hts i_7 hown hK hW ⟨⟨hfl, rfl⟩, by decide⟩ rfl ⟨by decide, by decide, rfl⟩ (hts (.fieldLink RX7 19 "OpticalJukebox" "state" "LOpticalJukebox$State;") (by decide +kernel)) (v := .ref (adr (k_st cs) 4 0)) rfl dX7_closeSession_15 ?_
    refine x_get (i := (k_st cs)) (k := 4) (j := 0) (t := 5) hx hb hts i_4 hown hK hW ⟨hW.2.2.2.1, by decide⟩ rfl ⟨by decide, by decide, rfl⟩ (hts (.fieldLink RX7 78 "OpticalJukebox$State" "platters" "[LOpticalJukebox$Platter;") (by decide +kernel)) (v := .ref (adr (k_st cs) 12 0)) rfl dX7_closeSession_18 ?_
    refine lv_iload_n hx hb dX7_closeSession_21 rfl (lv_at hl 1 rfl) ?_
    obtain ⟨hg2, hf⟩ := x_guardE hf
    refine x_aald (i := (k_st cs)) (k := 12) (j := 0) hx hb hK hW ⟨hW.2.2.2.1, by decide⟩ (by decide) rfl rfl hg2 dX7_closeSession_22 ?_
    refine W.eq (g2 := F0 m 23 ls [.ref (adr (k_st cs) 3 (a1).toNatClampNeg)]) rfl ?_
    refine x_get (i := (k_st cs)) (k := 3) (j := (a1).toNatClampNeg) (t := 5) hx hb hts i_3 hown hK hW ⟨hW.2.2.2.1, (x_lt hg2)⟩ rfl ⟨by decide, by decide, rfl⟩ (hts (.fieldLink RX7 149 "OpticalJukebox$Platter" "open" "Z") (by decide +kernel)) (rfl) dX7_closeSession_23 ?_
    refine lv_if_ne (tgt := 32) hx hb dX7_closeSession_26 (by decide) (fun hc => ?_) (fun hc => ?_)
    · have hf := x_iteF hf hc
      refine lv_aload_n hx hb dX7_closeSession_32 rfl (lv_at hl 0 rfl) ?_
      refine x_get (i := g.1) (k := 7) (j := 0) (t := 3) hx hb hts i_7 hown hK hW ⟨⟨hfl, rfl⟩, by decide⟩ rfl ⟨by decide, by decide, rfl⟩ (hts (.fieldLink RX7 19 "OpticalJukebox" "state" "LOpticalJukebox$State;") (by decide +kernel)) (v := .ref (adr (k_st cs) 4 0)) rfl dX7_closeSession_33 ?_
      refine x_get (i := (k_st cs)) (k := 4) (j := 0) (t := 3) hx hb hts i_4 hown hK hW ⟨hW.2.2.2.1, by decide⟩ rfl ⟨by decide, by decide, rfl⟩ (hts (.fieldLink RX7 134 "OpticalJukebox$State" "driveCount" "I") (by decide +kernel)) (rfl) dX7_closeSession_36 ?_
      refine lv_if_ne (tgt := 45) hx hb dX7_closeSession_39 (by decide) (fun hc => ?_) (fun hc => ?_)
      · have hf := x_iteF hf hc
        refine lv_aload_n hx hb dX7_closeSession_45 rfl (lv_at hl 0 rfl) ?_
        obtain ⟨q3, h_q3, hf⟩ := x_bindE hf
        refine x_cv (x_rV ⟨hx, hb, hml, hown, hts⟩ (ct_X7_remember l g hfl cs mt  h_q3) (cwV 0 hts gX7_closeSession_X7_remember rfl rfl rfl (by decide +kernel) ⟨Nat.le_of_ble_eq_true rfl, Nat.le_of_ble_eq_true rfl⟩) hK hW hS (x_recv (i := g.1) (k := 7) (j := 0) hK hW ⟨⟨hfl, rfl⟩, by decide⟩ rfl (by decide)) rfl hl.1 (rest := []) rfl (Nat.le_of_ble_eq_true rfl) dX7_closeSession_46 ⟨Nat.le_of_ble_eq_true rfl, Nat.le_of_ble_eq_true rfl⟩) hS (fun H locs hW hS => ?_)
        have hW : World g ((q3, mt)) H := hW
        refine lv_aload_n hx hb dX7_closeSession_49 rfl (lv_at hl 0 rfl) ?_
        refine x_get (i := g.1) (k := 7) (j := 0) (t := 3) hx hb hts i_7 hown hK hW ⟨⟨hfl, rfl⟩, by decide⟩ rfl ⟨by decide, by decide, rfl⟩ (hts (.fieldLink RX7 19 "OpticalJukebox" "state" "LOpticalJukebox$State;") (by decide +kernel)) (v := .ref (adr (k_st q3) 4 0)) rfl dX7_closeSession_50 ?_
        refine lv_iload_n hx hb dX7_closeSession_53 rfl (lv_at hl 1 rfl) ?_
        obtain ⟨q4, h_q4, hf⟩ := x_bindE hf
        refine x_ci0 (x_rV ⟨hx, hb, hml, hown, hts⟩ (ct_X4_closeInDrive l g (q3, mt) (k_st q3) hW.2.2.2.1 (k_xs q3 (k_st q3)) (a1) h_q4) (cwV 1 hts gX7_closeSession_X4_closeInDrive rfl rfl rfl (by decide +kernel) ⟨Nat.le_of_ble_eq_true rfl, Nat.le_of_ble_eq_true rfl⟩) hK (w_self_sd hW) hS (x_recv (i := (k_st q3)) (k := 4) (j := 0) hK hW ⟨hW.2.2.2.1, by decide⟩ rfl (by decide)) rfl hl.1 (rest := []) rfl (Nat.le_of_ble_eq_true rfl) dX7_closeSession_54 ⟨Nat.le_of_ble_eq_true rfl, Nat.le_of_ble_eq_true rfl⟩) hS (fun H locs hW hS => ?_)
        have hW : World g (((kS q3 (k_st q3) q4.2), mt)) H := hW
        refine W.eq (g2 := F0 m 57 ls [.int q4.1]) rfl ?_
        cases hf
        exact x_iret hx hb hr hlocks hK hW hS rfl dX7_closeSession_57
      · have hf := x_iteT hf hc
        refine lv_ldc (v := -1000007) hx hb hown (hts (.constant RX7 137 (-1000007)) (by decide +kernel)) dX7_closeSession_42 ?_
        refine W.widen (k := 91) (n := 755) (by decide) (by decide) ?_
        cases hf
        exact x_iret hx hb hr hlocks hK hW hS rfl dX7_closeSession_44
    · have hf := x_iteT hf hc
      refine lv_ldc (v := -1000005) hx hb hown (hts (.constant RX7 73 (-1000005)) (by decide +kernel)) dX7_closeSession_29 ?_
      refine W.widen (k := 91) (n := 755) (by decide) (by decide) ?_
      cases hf
      exact x_iret hx hb hr hlocks hK hW hS rfl dX7_closeSession_31
  · have hf := x_iteT hf hc
    refine lv_ldc (v := -1000001) hx hb hown (hts (.constant RX7 87 (-1000001)) (by decide +kernel)) dX7_closeSession_11 ?_
    refine W.widen (k := 91) (n := 755) (by decide) (by decide) ?_
    cases hf
    exact x_iret hx hb hr hlocks hK hW hS rfl dX7_closeSession_13
abbrev rm_X7_markBad : Room := { frames := 5, cells := 91, slots := 755, locals := 152 }
set_option maxRecDepth 100000 in
set_option maxHeartbeats 4000000 in
theorem ct_X7_markBad (l : Launch) (g : GT) (hfl : 1 ≤ gf g) (cs : CT) (mt : MT) (a1 : Int32) (a2 : Int32) {q : (Int32 × CT)} (hf : f_X7_markBad cs a1 a2 = some q) : Met l yX7_markBad wsX7_markBad rm_X7_markBad (cPre g ((cs, mt)) [.ref (adr g.1 7 0), .int a1, .int a2]) (cQi g q.1 ((q.2, mt))) 91 755 (gA g) := by
  have i_4 : ∀ w ∈ u_ws RX4 TX4 18, w ∈ wsX7_markBad := by decide +kernel
  have i_7 : ∀ w ∈ u_ws RX7 TX7 9, w ∈ wsX7_markBad := by decide +kernel
  refine x_met (by decide) rfl (Nat.le_of_ble_eq_true rfl) ?_
  intro p e s m below meth c hx hb hr hml hts hown hlocks hK hW hS ls hl
  have hown : s.vm.findClass RX7 = some m.cls := hown
  have hl : lv_has ls 3 [(0, .ref (adr g.1 7 0)), (1, .int a1), (2, .int a2)] := hl
  rw [f_X7_markBad] at hf
  refine lv_aload_n hx hb dX7_markBad_0 rfl (lv_at hl 0 rfl) ?_
  refine x_get (i := g.1) (k := 7) (j := 0) (t := 3) hx hb hts i_7 hown hK hW ⟨⟨hfl, rfl⟩, by decide⟩ rfl ⟨by decide, by decide, rfl⟩ (hts (.fieldLink RX7 19 "OpticalJukebox" "state" "LOpticalJukebox$State;") (by decide +kernel)) (v := .ref (adr (k_st cs) 4 0)) rfl dX7_markBad_1 ?_
  refine lv_iload_n hx hb dX7_markBad_4 rfl (lv_at hl 1 rfl) ?_
  refine lv_iload_n hx hb dX7_markBad_5 rfl (lv_at hl 2 rfl) ?_
  obtain ⟨q1, h_q1, hf⟩ := x_bindE hf
  refine x_ci0 (x_rV ⟨hx, hb, hml, hown, hts⟩ (ct_X4_hasSector l g (cs, mt) (k_st cs) hW.2.2.2.1 (k_xs cs (k_st cs)) (a1) (a2) h_q1) (cwV 2 hts gX7_markBad_X4_hasSector rfl rfl rfl (by decide +kernel) ⟨Nat.le_of_ble_eq_true rfl, Nat.le_of_ble_eq_true rfl⟩) hK (w_self_sd hW) hS (x_recv (i := (k_st cs)) (k := 4) (j := 0) hK hW ⟨hW.2.2.2.1, by decide⟩ rfl (by decide)) rfl hl.1 (rest := []) rfl (Nat.le_of_ble_eq_true rfl) dX7_markBad_6 ⟨Nat.le_of_ble_eq_true rfl, Nat.le_of_ble_eq_true rfl⟩) hS (fun H locs hW hS => ?_)
  have hW := w_unself_sd hW
  have hW : World g ((cs, mt)) H := hW
  refine W.eq (g2 := F0 m 9 ls [.int q1]) rfl ?_
  refine lv_if_ne (tgt := 15) hx hb dX7_markBad_9 (by decide) (fun hc => ?_) (fun hc => ?_)
  · have hf := x_iteF hf hc
    refine lv_aload_n hx hb dX7_markBad_15 rfl (lv_at hl 0 rfl) ?_
    refine x_get (i := g.1) (k := 7) (j := 0) (t := 3) hx hb hts i_7 hown hK hW ⟨⟨hfl, rfl⟩, by decide⟩ rfl ⟨by decide, by decide, rfl⟩ (hts (.fieldLink RX7 19 "OpticalJukebox" "state" "LOpticalJukebox$State;") (by decide +kernel)) (v := .ref (adr (k_st cs) 4 0)) rfl dX7_markBad_16 ?_
    refine x_get (i := (k_st cs)) (k := 4) (j := 0) (t := 5) hx hb hts i_4 hown hK hW ⟨hW.2.2.2.1, by decide⟩ rfl ⟨by decide, by decide, rfl⟩ (hts (.fieldLink RX7 78 "OpticalJukebox$State" "platters" "[LOpticalJukebox$Platter;") (by decide +kernel)) (v := .ref (adr (k_st cs) 12 0)) rfl dX7_markBad_19 ?_
    refine lv_iload_n hx hb dX7_markBad_22 rfl (lv_at hl 1 rfl) ?_
    obtain ⟨hg2, hf⟩ := x_guardE hf
    refine x_aald (i := (k_st cs)) (k := 12) (j := 0) hx hb hK hW ⟨hW.2.2.2.1, by decide⟩ (by decide) rfl rfl hg2 dX7_markBad_23 ?_
    refine W.eq (g2 := F0 m 24 ls [.ref (adr (k_st cs) 3 (a1).toNatClampNeg)]) rfl ?_
    refine lv_iload_n hx hb dX7_markBad_24 rfl (lv_at hl 2 rfl) ?_
    obtain ⟨q3, h_q3, hf⟩ := x_bindE hf
    refine x_ci0 (x_rV ⟨hx, hb, hml, hown, hts⟩ (ct_X3_isBad l g (cs, mt) (k_st cs) hW.2.2.2.1 (k_xs cs (k_st cs)) ((a1).toNatClampNeg) ((x_lt hg2)) (a2) h_q3) (cwV 1 hts gX7_markBad_X3_isBad rfl rfl rfl (by decide +kernel) ⟨Nat.le_of_ble_eq_true rfl, Nat.le_of_ble_eq_true rfl⟩) hK (w_self_sd hW) hS (x_recv (i := (k_st cs)) (k := 3) (j := (a1).toNatClampNeg) hK hW ⟨hW.2.2.2.1, (x_lt hg2)⟩ rfl (by decide)) rfl hl.1 (rest := []) rfl (Nat.le_of_ble_eq_true rfl) dX7_markBad_25 ⟨Nat.le_of_ble_eq_true rfl, Nat.le_of_ble_eq_true rfl⟩) hS (fun H locs hW hS => ?_)
    have hW := w_unself_sd hW
    have hW : World g ((cs, mt)) H := hW
    refine W.eq (g2 := F0 m 28 ls [.int q3]) rfl ?_
    refine lv_if_eq (tgt := 35) hx hb dX7_markBad_28 (by decide) (fun hc => ?_) (fun hc => ?_)
    · have hf := x_iteT hf hc
      refine lv_aload_n hx hb dX7_markBad_35 rfl (lv_at hl 0 rfl) ?_
      refine x_get (i := g.1) (k := 7) (j := 0) (t := 3) hx hb hts i_7 hown hK hW ⟨⟨hfl, rfl⟩, by decide⟩ rfl ⟨by decide, by decide, rfl⟩ (hts (.fieldLink RX7 19 "OpticalJukebox" "state" "LOpticalJukebox$State;") (by decide +kernel)) (v := .ref (adr (k_st cs) 4 0)) rfl dX7_markBad_36 ?_
      refine x_get (i := (k_st cs)) (k := 4) (j := 0) (t := 7) hx hb hts i_4 hown hK hW ⟨hW.2.2.2.1, by decide⟩ rfl ⟨by decide, by decide, rfl⟩ (hts (.fieldLink RX7 285 "OpticalJukebox$State" "badCount" "I") (by decide +kernel)) (rfl) dX7_markBad_39 ?_
      refine lv_bipush (v := 20) hx hb dX7_markBad_42 (by decide) ?_
      refine lv_icmp_lt (tgt := 50) hx hb dX7_markBad_44 (by decide) (fun hc => ?_) (fun hc => ?_)
      · have hf := x_iteT hf hc
        refine lv_aload_n hx hb dX7_markBad_50 rfl (lv_at hl 0 rfl) ?_
        obtain ⟨q4, h_q4, hf⟩ := x_bindE hf
        refine x_cv (x_rV ⟨hx, hb, hml, hown, hts⟩ (ct_X7_remember l g hfl cs mt  h_q4) (cwV 0 hts gX7_markBad_X7_remember rfl rfl rfl (by decide +kernel) ⟨Nat.le_of_ble_eq_true rfl, Nat.le_of_ble_eq_true rfl⟩) hK hW hS (x_recv (i := g.1) (k := 7) (j := 0) hK hW ⟨⟨hfl, rfl⟩, by decide⟩ rfl (by decide)) rfl hl.1 (rest := []) rfl (Nat.le_of_ble_eq_true rfl) dX7_markBad_51 ⟨Nat.le_of_ble_eq_true rfl, Nat.le_of_ble_eq_true rfl⟩) hS (fun H locs hW hS => ?_)
        have hW : World g ((q4, mt)) H := hW
        refine lv_aload_n hx hb dX7_markBad_54 rfl (lv_at hl 0 rfl) ?_
        refine x_get (i := g.1) (k := 7) (j := 0) (t := 3) hx hb hts i_7 hown hK hW ⟨⟨hfl, rfl⟩, by decide⟩ rfl ⟨by decide, by decide, rfl⟩ (hts (.fieldLink RX7 19 "OpticalJukebox" "state" "LOpticalJukebox$State;") (by decide +kernel)) (v := .ref (adr (k_st q4) 4 0)) rfl dX7_markBad_55 ?_
        refine lv_iload_n hx hb dX7_markBad_58 rfl (lv_at hl 1 rfl) ?_
        refine lv_iload_n hx hb dX7_markBad_59 rfl (lv_at hl 2 rfl) ?_
        obtain ⟨q5, h_q5, hf⟩ := x_bindE hf
        refine x_cv0 (x_rV ⟨hx, hb, hml, hown, hts⟩ (ct_X4_spoil l g (q4, mt) (k_st q4) hW.2.2.2.1 (k_xs q4 (k_st q4)) (a1) (a2) h_q5) (cwV 2 hts gX7_markBad_X4_spoil rfl rfl rfl (by decide +kernel) ⟨Nat.le_of_ble_eq_true rfl, Nat.le_of_ble_eq_true rfl⟩) hK (w_self_sd hW) hS (x_recv (i := (k_st q4)) (k := 4) (j := 0) hK hW ⟨hW.2.2.2.1, by decide⟩ rfl (by decide)) rfl hl.1 (rest := []) rfl (Nat.le_of_ble_eq_true rfl) dX7_markBad_60 ⟨Nat.le_of_ble_eq_true rfl, Nat.le_of_ble_eq_true rfl⟩) hS (fun H locs hW hS => ?_)
        have hW : World g (((kS q4 (k_st q4) q5), mt)) H := hW
        refine lv_aload_n hx hb dX7_markBad_63 rfl (lv_at hl 0 rfl) ?_
        refine x_get (i := g.1) (k := 7) (j := 0) (t := 3) hx hb hts i_7 hown hK hW ⟨⟨hfl, rfl⟩, by decide⟩ rfl ⟨by decide, by decide, rfl⟩ (hts (.fieldLink RX7 19 "OpticalJukebox" "state" "LOpticalJukebox$State;") (by decide +kernel)) (v := .ref (adr (k_st q4) 4 0)) rfl dX7_markBad_64 ?_
        obtain ⟨q6, h_q6, hf⟩ := x_bindE hf
        refine x_ci0 (x_rV ⟨hx, hb, hml, hown, hts⟩ (ct_X4_countDamaged l g (q4, mt) (k_st q4) hW.2.2.2.1 q5  h_q6) (cwV 0 hts gX7_markBad_X4_countDamaged rfl rfl rfl (by decide +kernel) ⟨Nat.le_of_ble_eq_true rfl, Nat.le_of_ble_eq_true rfl⟩) hK hW hS (x_recv (i := (k_st q4)) (k := 4) (j := 0) hK hW ⟨hW.2.2.2.1, by decide⟩ rfl (by decide)) rfl hl.1 (rest := []) rfl (Nat.le_of_ble_eq_true rfl) dX7_markBad_67 ⟨Nat.le_of_ble_eq_true rfl, Nat.le_of_ble_eq_true rfl⟩) hS (fun H locs hW hS => ?_)
        have hW : World g (((kS q4 (k_st q4) q5), mt)) H := hW
        refine W.eq (g2 := F0 m 70 ls [.int q6]) rfl ?_
        cases hf
        exact x_iret hx hb hr hlocks hK hW hS rfl dX7_markBad_70
      · have hf := x_iteF hf hc
        refine lv_ldc (v := -1000003) hx hb hown (hts (.constant RX7 41 (-1000003)) (by decide +kernel)) dX7_markBad_47 ?_
        refine W.widen (k := 91) (n := 755) (by decide) (by decide) ?_
        cases hf
        exact x_iret hx hb hr hlocks hK hW hS rfl dX7_markBad_49
    · have hf := x_iteF hf hc
      refine lv_ldcw (v := -1000004) hx hb hown (hts (.constant RX7 284 (-1000004)) (by decide +kernel)) dX7_markBad_31 ?_
      refine W.widen (k := 91) (n := 755) (by decide) (by decide) ?_
      cases hf
      exact x_iret hx hb hr hlocks hK hW hS rfl dX7_markBad_34
  · have hf := x_iteT hf hc
    refine lv_ldc (v := -1000001) hx hb hown (hts (.constant RX7 87 (-1000001)) (by decide +kernel)) dX7_markBad_12 ?_
    refine W.widen (k := 91) (n := 755) (by decide) (by decide) ?_
    cases hf
    exact x_iret hx hb hr hlocks hK hW hS rfl dX7_markBad_14
abbrev rm_X7_moveHome : Room := { frames := 5, cells := 91, slots := 755, locals := 152 }
set_option maxRecDepth 100000 in
set_option maxHeartbeats 4000000 in
theorem ct_X7_moveHome (l : Launch) (g : GT) (hfl : 1 ≤ gf g) (cs : CT) (mt : MT) (a1 : Int32) (a2 : Int32) {q : (Int32 × CT)} (hf : f_X7_moveHome cs a1 a2 = some q) : Met l yX7_moveHome wsX7_moveHome rm_X7_moveHome (cPre g ((cs, mt)) [.ref (adr g.1 7 0), .int a1, .int a2]) (cQi g q.1 ((q.2, mt))) 91 755 (gA g) := by
  have i_3 : ∀ w ∈ u_ws RX3 TX3 9, w ∈ wsX7_moveHome := by decide +kernel
  have i_4 : ∀ w ∈ u_ws RX4 TX4 18, w ∈ wsX7_moveHome := by decide +kernel
  have i_7 : ∀ w ∈ u_ws RX7 TX7 9, w ∈ wsX7_moveHome := by decide +kernel
  refine x_met (by decide) rfl (Nat.le_of_ble_eq_true rfl) ?_
  intro p e s m below meth c hx hb hr hml hts hown hlocks hK hW hS ls hl
  have hown : s.vm.findClass RX7 = some m.cls := hown
  have hl : lv_has ls 4 [(0, .ref (adr g.1 7 0)), (1, .int a1), (2, .int a2)] := hl
  rw [f_X7_moveHome] at hf
  refine lv_aload_n hx hb dX7_moveHome_0 rfl (lv_at hl 0 rfl) ?_
  refine x_get (i := g.1) (k := 7) (j := 0) (t := 3) hx hb hts i_7 hown hK hW ⟨⟨hfl, rfl⟩, by decide⟩ rfl ⟨by decide, by decide, rfl⟩ (hts (.fieldLink RX7 19 "OpticalJukebox" "state" "LOpticalJukebox$State;") (by decide +kernel)) (v := .ref (adr (k_st cs) 4 0)) rfl dX7_moveHome_1 ?_
  refine lv_iload_n hx hb dX7_moveHome_4 rfl (lv_at hl 1 rfl) ?_
  obtain ⟨q1, h_q1, hf⟩ := x_bindE hf
  refine x_ci0 (x_rV ⟨hx, hb, hml, hown, hts⟩ (ct_X4_hasPlatter l g (cs, mt) (k_st cs) hW.2.2.2.1 (k_xs cs (k_st cs)) (a1) h_q1) (cwV 1 hts gX7_moveHome_X4_hasPlatter rfl rfl rfl (by decide +kernel) ⟨Nat.le_of_ble_eq_true rfl, Nat.le_of_ble_eq_true rfl⟩) hK (w_self_sd hW) hS (x_recv (i := (k_st cs)) (k := 4) (j := 0) hK hW ⟨hW.2.2.2.1, by decide⟩ rfl (by decide)) rfl hl.1 (rest := []) rfl (Nat.le_of_ble_eq_true rfl) dX7_moveHome_5 ⟨Nat.le_of_ble_eq_true rfl, Nat.le_of_ble_eq_true rfl⟩) hS (fun H locs hW hS => ?_)
  have hW := w_unself_sd hW
  have hW : World g ((cs, mt)) H := hW
  refine W.eq (g2 := F0 m 8 ls [.int q1]) rfl ?_
  refine lv_if_eq (tgt := 22) hx hb dX7_moveHome_8 (by decide) (fun hc => ?_) (fun hc => ?_)
  · have hf := x_iteT hf hc
    refine lv_ldc (v := -1000001) hx hb hown (hts (.constant RX7 87 (-1000001)) (by decide +kernel)) dX7_moveHome_22 ?_
    refine W.widen (k := 91) (n := 755) (by decide) (by decide) ?_
    cases hf
    exact x_iret hx hb hr hlocks hK hW hS rfl dX7_moveHome_24
  · have hf := x_iteF hf hc
    refine lv_aload_n hx hb dX7_moveHome_11 rfl (lv_at hl 0 rfl) ?_
    refine x_get (i := g.1) (k := 7) (j := 0) (t := 3) hx hb hts i_7 hown hK hW ⟨⟨hfl, rfl⟩, by decide⟩ rfl ⟨by decide, by decide, rfl⟩ (hts (.fieldLink RX7 19 "OpticalJukebox" "state" "LOpticalJukebox$State;") (by decide +kernel)) (v := .ref (adr (k_st cs) 4 0)) rfl dX7_moveHome_12 ?_
    refine lv_iload_n hx hb dX7_moveHome_15 rfl (lv_at hl 2 rfl) ?_
    obtain ⟨q2, h_q2, hf⟩ := x_bindE hf
    refine x_ci0 (x_rV ⟨hx, hb, hml, hown, hts⟩ (ct_X4_hasSlot l g (cs, mt) (k_st cs) hW.2.2.2.1 (k_xs cs (k_st cs)) (a2) h_q2) (cwV 1 hts gX7_moveHome_X4_hasSlot rfl rfl rfl (by decide +kernel) ⟨Nat.le_of_ble_eq_true rfl, Nat.le_of_ble_eq_true rfl⟩) hK (w_self_sd hW) hS (x_recv (i := (k_st cs)) (k := 4) (j := 0) hK hW ⟨hW.2.2.2.1, by decide⟩ rfl (by decide)) rfl hl.1 (rest := []) rfl (Nat.le_of_ble_eq_true rfl) dX7_moveHome_16 ⟨Nat.le_of_ble_eq_true rfl, Nat.le_of_ble_eq_true rfl⟩) hS (fun H locs hW hS => ?_)
    have hW := w_unself_sd hW
    have hW : World g ((cs, mt)) H := hW
    refine W.eq (g2 := F0 m 19 ls [.int q2]) rfl ?_
    refine lv_if_ne (tgt := 25) hx hb dX7_moveHome_19 (by decide) (fun hc => ?_) (fun hc => ?_)
    · have hf := x_iteF hf hc
      refine lv_aload_n hx hb dX7_moveHome_25 rfl (lv_at hl 0 rfl) ?_
      refine x_get (i := g.1) (k := 7) (j := 0) (t := 3) hx hb hts i_7 hown hK hW ⟨⟨hfl, rfl⟩, by decide⟩ rfl ⟨by decide, by decide, rfl⟩ (hts (.fieldLink RX7 19 "OpticalJukebox" "state" "LOpticalJukebox$State;") (by decide +kernel)) (v := .ref (adr (k_st cs) 4 0)) rfl dX7_moveHome_26 ?_
      refine x_get (i := (k_st cs)) (k := 4) (j := 0) (t := 5) hx hb hts i_4 hown hK hW ⟨hW.2.2.2.1, by decide⟩ rfl ⟨by decide, by decide, rfl⟩ (hts (.fieldLink RX7 78 "OpticalJukebox$State" "platters" "[LOpticalJukebox$Platter;") (by decide +kernel)) (v := .ref (adr (k_st cs) 12 0)) rfl dX7_moveHome_29 ?_
      refine lv_iload_n hx hb dX7_moveHome_32 rfl (lv_at hl 1 rfl) ?_
      obtain ⟨hg3, hf⟩ := x_guardE hf
      refine x_aald (i := (k_st cs)) (k := 12) (j := 0) hx hb hK hW ⟨hW.2.2.2.1, by decide⟩ (by decide) rfl rfl hg3 dX7_moveHome_33 ?_
      refine W.eq (g2 := F0 m 34 ls [.ref (adr (k_st cs) 3 (a1).toNatClampNeg)]) rfl ?_
      refine x_get (i := (k_st cs)) (k := 3) (j := (a1).toNatClampNeg) (t := 0) hx hb hts i_3 hown hK hW ⟨hW.2.2.2.1, (x_lt hg3)⟩ rfl ⟨by decide, by decide, rfl⟩ (hts (.fieldLink RX7 82 "OpticalJukebox$Platter" "home" "I") (by decide +kernel)) (rfl) dX7_moveHome_34 ?_
      obtain ⟨x4, e_x4, hf⟩ := x_letE hf
      refine x_topi e_x4 ?_
      refine lv_istore_n (lv' := [(3, .int x4), (0, .ref (adr g.1 7 0)), (1, .int a1), (2, .int a2)]) hx hb dX7_moveHome_37 rfl hl (by decide) rfl (fun ls hl => ?_)
      refine lv_iload_n hx hb dX7_moveHome_38 rfl (lv_at hl 0 rfl) ?_
      refine lv_iload_n hx hb dX7_moveHome_39 rfl (lv_at hl 3 rfl) ?_
      refine lv_icmp_ne (tgt := 47) hx hb dX7_moveHome_40 (by decide) (fun hc => ?_) (fun hc => ?_)
      · have hf := x_iteF hf hc
        refine lv_aload_n hx hb dX7_moveHome_47 rfl (lv_at hl 1 rfl) ?_
        refine x_get (i := g.1) (k := 7) (j := 0) (t := 3) hx hb hts i_7 hown hK hW ⟨⟨hfl, rfl⟩, by decide⟩ rfl ⟨by decide, by decide, rfl⟩ (hts (.fieldLink RX7 19 "OpticalJukebox" "state" "LOpticalJukebox$State;") (by decide +kernel)) (v := .ref (adr (k_st cs) 4 0)) rfl dX7_moveHome_48 ?_
        refine lv_iload_n hx hb dX7_moveHome_51 rfl (lv_at hl 2 rfl) ?_
        obtain ⟨q5, h_q5, hf⟩ := x_bindE hf
        refine x_ci0 (x_rV ⟨hx, hb, hml, hown, hts⟩ (ct_X4_driveHolding l g (cs, mt) (k_st cs) hW.2.2.2.1 (k_xs cs (k_st cs)) (a1) h_q5) (cwV 1 hts gX7_moveHome_X4_driveHolding rfl rfl rfl (by decide +kernel) ⟨Nat.le_of_ble_eq_true rfl, Nat.le_of_ble_eq_true rfl⟩) hK (w_self_sd hW) hS (x_recv (i := (k_st cs)) (k := 4) (j := 0) hK hW ⟨hW.2.2.2.1, by decide⟩ rfl (by decide)) rfl hl.1 (rest := []) rfl (Nat.le_of_ble_eq_true rfl) dX7_moveHome_52 ⟨Nat.le_of_ble_eq_true rfl, Nat.le_of_ble_eq_true rfl⟩) hS (fun H locs hW hS => ?_)
        have hW := w_unself_sd hW
        have hW : World g ((cs, mt)) H := hW
        refine W.eq (g2 := F0 m 55 ls [.int q5]) rfl ?_
        refine lv_iconst (v := -1) hx hb dX7_moveHome_55 (by decide) ?_
        refine lv_icmp_eq (tgt := 62) hx hb dX7_moveHome_56 (by decide) (fun hc => ?_) (fun hc => ?_)
        · have hf := x_iteT hf hc
          refine lv_aload_n hx hb dX7_moveHome_62 rfl (lv_at hl 1 rfl) ?_
          refine x_get (i := g.1) (k := 7) (j := 0) (t := 3) hx hb hts i_7 hown hK hW ⟨⟨hfl, rfl⟩, by decide⟩ rfl ⟨by decide, by decide, rfl⟩ (hts (.fieldLink RX7 19 "OpticalJukebox" "state" "LOpticalJukebox$State;") (by decide +kernel)) (v := .ref (adr (k_st cs) 4 0)) rfl dX7_moveHome_63 ?_
          refine lv_iload_n hx hb dX7_moveHome_66 rfl (lv_at hl 3 rfl) ?_
          obtain ⟨q6, h_q6, hf⟩ := x_bindE hf
          refine x_ci0 (x_rV ⟨hx, hb, hml, hown, hts⟩ (ct_X4_platterWithHome l g (cs, mt) (k_st cs) hW.2.2.2.1 (k_xs cs (k_st cs)) (a2) h_q6) (cwV 1 hts gX7_moveHome_X4_platterWithHome rfl rfl rfl (by decide +kernel) ⟨Nat.le_of_ble_eq_true rfl, Nat.le_of_ble_eq_true rfl⟩) hK (w_self_sd hW) hS (x_recv (i := (k_st cs)) (k := 4) (j := 0) hK hW ⟨hW.2.2.2.1, by decide⟩ rfl (by decide)) rfl hl.1 (rest := []) rfl (Nat.le_of_ble_eq_true rfl) dX7_moveHome_67 ⟨Nat.le_of_ble_eq_true rfl, Nat.le_of_ble_eq_true rfl⟩) hS (fun H locs hW hS => ?_)
          have hW := w_unself_sd hW
          have hW : World g ((cs, mt)) H := hW
          refine W.eq (g2 := F0 m 70 ls [.int q6]) rfl ?_
          refine lv_iconst (v := -1) hx hb dX7_moveHome_70 (by decide) ?_
          refine lv_icmp_eq (tgt := 77) hx hb dX7_moveHome_71 (by decide) (fun hc => ?_) (fun hc => ?_)
          · have hf := x_iteT hf hc
            refine lv_aload_n hx hb dX7_moveHome_77 rfl (lv_at hl 1 rfl) ?_
            obtain ⟨q7, h_q7, hf⟩ := x_bindE hf
            refine x_cv (x_rV ⟨hx, hb, hml, hown, hts⟩ (ct_X7_remember l g hfl cs mt  h_q7) (cwV 0 hts gX7_moveHome_X7_remember rfl rfl rfl (by decide +kernel) ⟨Nat.le_of_ble_eq_true rfl, Nat.le_of_ble_eq_true rfl⟩) hK hW hS (x_recv (i := g.1) (k := 7) (j := 0) hK hW ⟨⟨hfl, rfl⟩, by decide⟩ rfl (by decide)) rfl hl.1 (rest := []) rfl (Nat.le_of_ble_eq_true rfl) dX7_moveHome_78 ⟨Nat.le_of_ble_eq_true rfl, Nat.le_of_ble_eq_true rfl⟩) hS (fun H locs hW hS => ?_)
            have hW : World g ((q7, mt)) H := hW
            refine lv_aload_n hx hb dX7_moveHome_81 rfl (lv_at hl 1 rfl) ?_
            refine x_get (i := g.1) (k := 7) (j := 0) (t := 3) hx hb hts i_7 hown hK hW ⟨⟨hfl, rfl⟩, by decide⟩ rfl ⟨by decide, by decide, rfl⟩ (hts (.fieldLink RX7 19 "OpticalJukebox" "state" "LOpticalJukebox$State;") (by decide +kernel)) (v := .ref (adr (k_st q7) 4 0)) rfl dX7_moveHome_82 ?_
            refine x_get (i := (k_st q7)) (k := 4) (j := 0) (t := 5) hx hb hts i_4 hown hK hW ⟨hW.2.2.2.1, by decide⟩ rfl ⟨by decide, by decide, rfl⟩ (hts (.fieldLink RX7 78 "OpticalJukebox$State" "platters" "[LOpticalJukebox$Platter;") (by decide +kernel)) (v := .ref (adr (k_st q7) 12 0)) rfl dX7_moveHome_85 ?_
            refine lv_iload_n hx hb dX7_moveHome_88 rfl (lv_at hl 2 rfl) ?_
            obtain ⟨hg8, hf⟩ := x_guardE hf
            refine x_aald (i := (k_st q7)) (k := 12) (j := 0) hx hb hK hW ⟨hW.2.2.2.1, by decide⟩ (by decide) rfl rfl hg8 dX7_moveHome_89 ?_
            refine W.eq (g2 := F0 m 90 ls [.ref (adr (k_st q7) 3 (a1).toNatClampNeg)]) rfl ?_
            refine lv_iload_n hx hb dX7_moveHome_90 rfl (lv_at hl 3 rfl) ?_
            obtain ⟨sd9, e_sd9, hf⟩ := x_letE hf
            refine x_put (i := (k_st q7)) (k := 3) (j := (a1).toNatClampNeg) (t := 0) (w' := ((kS q7 (k_st q7) sd9), mt)) hx hb hts i_3 tyX3 tyX3_ok nmX3 hown hK hW ⟨hW.2.2.2.1, (x_lt hg8)⟩ hS rfl ⟨by decide, by decide, rfl⟩ (hts (.fieldLink RX7 82 "OpticalJukebox$Platter" "home" "I") (by decide +kernel)) rfl (ty := .int) (by decide +kernel) rfl rfl ⟨rfl, rfl⟩ dX7_moveHome_91 (fp_S0 e_sd9 rfl) (fun H locs hW hS => ?_)
            refine lv_iload_n hx hb dX7_moveHome_94 rfl (lv_at hl 0 rfl) ?_
            cases hf
            exact x_iret hx hb hr hlocks hK hW hS rfl dX7_moveHome_95
          · have hf := x_iteF hf hc
            refine lv_ldc (v := -1000003) hx hb hown (hts (.constant RX7 41 (-1000003)) (by decide +kernel)) dX7_moveHome_74 ?_
            refine W.widen (k := 91) (n := 755) (by decide) (by decide) ?_
            cases hf
            exact x_iret hx hb hr hlocks hK hW hS rfl dX7_moveHome_76
        · have hf := x_iteF hf hc
          refine lv_ldc (v := -1000005) hx hb hown (hts (.constant RX7 73 (-1000005)) (by decide +kernel)) dX7_moveHome_59 ?_
          refine W.widen (k := 91) (n := 755) (by decide) (by decide) ?_
          cases hf
          exact x_iret hx hb hr hlocks hK hW hS rfl dX7_moveHome_61
      · have hf := x_iteT hf hc
        refine lv_ldcw (v := -1000004) hx hb hown (hts (.constant RX7 284 (-1000004)) (by decide +kernel)) dX7_moveHome_43 ?_
        refine W.widen (k := 91) (n := 755) (by decide) (by decide) ?_
        cases hf
        exact x_iret hx hb hr hlocks hK hW hS rfl dX7_moveHome_46
    · have hf := x_iteT hf hc
      refine lv_ldc (v := -1000001) hx hb hown (hts (.constant RX7 87 (-1000001)) (by decide +kernel)) dX7_moveHome_22 ?_
      refine W.widen (k := 91) (n := 755) (by decide) (by decide) ?_
      cases hf
      exact x_iret hx hb hr hlocks hK hW hS rfl dX7_moveHome_24
abbrev rm_X7_isTime : Room := { frames := 0, cells := 0, slots := 0, locals := 0 }
set_option maxRecDepth 100000 in
set_option maxHeartbeats 4000000 in
theorem ct_X7_isTime (l : Launch) (g : GT) (w : WT) (a0 : Int32) {q : Int32} (hf : f_X7_isTime  a0 = some q) : Met l yX7_isTime wsX7_isTime rm_X7_isTime (cPre g (w) [.int a0]) (cQi g q (w)) 0 0 (gA g) := by
  refine x_met (by decide) rfl (Nat.le_of_ble_eq_true rfl) ?_
  intro p e s m below meth c hx hb hr hml hts hown hlocks hK hW hS ls hl
  have hown : s.vm.findClass RX7 = some m.cls := hown
  have hl : lv_has ls 1 [(0, .int a0)] := hl
  rw [f_X7_isTime] at hf
  refine lv_iload_n hx hb dX7_isTime_0 rfl (lv_at hl 0 rfl) ?_
  refine lv_if_lt (tgt := 14) hx hb dX7_isTime_1 (by decide) (fun hc => ?_) (fun hc => ?_)
  · have hf := x_iteT hf hc
    refine lv_iconst (v := 0) hx hb dX7_isTime_14 (by decide) ?_
    cases hf
    exact x_zret hx hb hr hlocks hK hW hS (Or.inl rfl) rfl dX7_isTime_15
  · have hf := x_iteF hf hc
    refine lv_iload_n hx hb dX7_isTime_4 rfl (lv_at hl 0 rfl) ?_
    refine lv_bipush (v := 99) hx hb dX7_isTime_5 (by decide) ?_
    refine lv_icmp_gt (tgt := 14) hx hb dX7_isTime_7 (by decide) (fun hc => ?_) (fun hc => ?_)
    · have hf := x_iteT hf hc
      refine lv_iconst (v := 0) hx hb dX7_isTime_14 (by decide) ?_
      cases hf
      exact x_zret hx hb hr hlocks hK hW hS (Or.inl rfl) rfl dX7_isTime_15
    · have hf := x_iteF hf hc
      refine lv_iconst (v := 1) hx hb dX7_isTime_10 (by decide) ?_
      refine lv_goto (tgt := 15) hx hb dX7_isTime_11 (by decide) ?_
      cases hf
      exact x_zret hx hb hr hlocks hK hW hS (Or.inr rfl) rfl dX7_isTime_15
abbrev rm_X7_setTimes : Room := { frames := 5, cells := 91, slots := 755, locals := 152 }
set_option maxRecDepth 100000 in
set_option maxHeartbeats 4000000 in
theorem ct_X7_setTimes (l : Launch) (g : GT) (hfl : 1 ≤ gf g) (cs : CT) (mt : MT) (a1 : Int32) (a2 : Int32) (a3 : Int32) (a4 : Int32) (a5 : Int32) {q : (Int32 × CT)} (hf : f_X7_setTimes cs a1 a2 a3 a4 a5 = some q) : Met l yX7_setTimes wsX7_setTimes rm_X7_setTimes (cPre g ((cs, mt)) [.ref (adr g.1 7 0), .int a1, .int a2, .int a3, .int a4, .int a5]) (cQi g q.1 ((q.2, mt))) 91 755 (gA g) := by
  have i_4 : ∀ w ∈ u_ws RX4 TX4 18, w ∈ wsX7_setTimes := by decide +kernel
  have i_7 : ∀ w ∈ u_ws RX7 TX7 9, w ∈ wsX7_setTimes := by decide +kernel
  refine x_met (by decide) rfl (Nat.le_of_ble_eq_true rfl) ?_
  intro p e s m below meth c hx hb hr hml hts hown hlocks hK hW hS ls hl
  have hown : s.vm.findClass RX7 = some m.cls := hown
  have hl : lv_has ls 8 [(0, .ref (adr g.1 7 0)), (1, .int a1), (2, .int a2), (3, .int a3), (4, .int a4), (5, .int a5)] := hl
  rw [f_X7_setTimes] at hf
  refine lv_iload_n hx hb dX7_setTimes_0 rfl (lv_at hl 1 rfl) ?_
  obtain ⟨q1, h_q1, hf⟩ := x_bindE hf
  refine x_ci0 (x_rS ⟨hx, hb, hml, hown, hts⟩ (ct_X7_isTime l g ((cs, mt)) (a1) h_q1) (va_cwS 1 hts gX7_setTimes_X7_isTime rfl rfl rfl (by decide +kernel) ⟨Nat.le_of_ble_eq_true rfl, Nat.le_of_ble_eq_true rfl⟩) hK hW hS rfl hl.1 (rest := []) rfl (Nat.le_of_ble_eq_true rfl) dX7_setTimes_1 ⟨Nat.le_of_ble_eq_true rfl, Nat.le_of_ble_eq_true rfl⟩) hS (fun H locs hW hS => ?_)
  have hW : World g ((cs, mt)) H := hW
  refine W.eq (g2 := F0 m 4 ls [.int q1]) rfl ?_
  refine lv_if_eq (tgt := 37) hx hb dX7_setTimes_4 (by decide) (fun hc => ?_) (fun hc => ?_)
  · have hf := x_iteT hf hc
    refine lv_ldc (v := -1000002) hx hb hown (hts (.constant RX7 46 (-1000002)) (by decide +kernel)) dX7_setTimes_37 ?_
    refine W.widen (k := 91) (n := 755) (by decide) (by decide) ?_
    cases hf
    exact x_iret hx hb hr hlocks hK hW hS rfl dX7_setTimes_39
  · have hf := x_iteF hf hc
    refine lv_iload_n hx hb dX7_setTimes_7 rfl (lv_at hl 2 rfl) ?_
    obtain ⟨q2, h_q2, hf⟩ := x_bindE hf
    refine x_ci0 (x_rS ⟨hx, hb, hml, hown, hts⟩ (ct_X7_isTime l g ((cs, mt)) (a2) h_q2) (va_cwS 1 hts gX7_setTimes_X7_isTime rfl rfl rfl (by decide +kernel) ⟨Nat.le_of_ble_eq_true rfl, Nat.le_of_ble_eq_true rfl⟩) hK hW hS rfl hl.1 (rest := []) rfl (Nat.le_of_ble_eq_true rfl) dX7_setTimes_8 ⟨Nat.le_of_ble_eq_true rfl, Nat.le_of_ble_eq_true rfl⟩) hS (fun H locs hW hS => ?_)
    have hW : World g ((cs, mt)) H := hW
    refine W.eq (g2 := F0 m 11 ls [.int q2]) rfl ?_
    refine lv_if_eq (tgt := 37) hx hb dX7_setTimes_11 (by decide) (fun hc => ?_) (fun hc => ?_)
    · have hf := x_iteT hf hc
      refine lv_ldc (v := -1000002) hx hb hown (hts (.constant RX7 46 (-1000002)) (by decide +kernel)) dX7_setTimes_37 ?_
      refine W.widen (k := 91) (n := 755) (by decide) (by decide) ?_
      cases hf
      exact x_iret hx hb hr hlocks hK hW hS rfl dX7_setTimes_39
    · have hf := x_iteF hf hc
      refine lv_iload_n hx hb dX7_setTimes_14 rfl (lv_at hl 3 rfl) ?_
      obtain ⟨q3, h_q3, hf⟩ := x_bindE hf
      refine x_ci0 (x_rS ⟨hx, hb, hml, hown, hts⟩ (ct_X7_isTime l g ((cs, mt)) (a3) h_q3) (va_cwS 1 hts gX7_setTimes_X7_isTime rfl rfl rfl (by decide +kernel) ⟨Nat.le_of_ble_eq_true rfl, Nat.le_of_ble_eq_true rfl⟩) hK hW hS rfl hl.1 (rest := []) rfl (Nat.le_of_ble_eq_true rfl) dX7_setTimes_15 ⟨Nat.le_of_ble_eq_true rfl, Nat.le_of_ble_eq_true rfl⟩) hS (fun H locs hW hS => ?_)
      have hW : World g ((cs, mt)) H := hW
      refine W.eq (g2 := F0 m 18 ls [.int q3]) rfl ?_
      refine lv_if_eq (tgt := 37) hx hb dX7_setTimes_18 (by decide) (fun hc => ?_) (fun hc => ?_)
      · have hf := x_iteT hf hc
        refine lv_ldc (v := -1000002) hx hb hown (hts (.constant RX7 46 (-1000002)) (by decide +kernel)) dX7_setTimes_37 ?_
        refine W.widen (k := 91) (n := 755) (by decide) (by decide) ?_
        cases hf
        exact x_iret hx hb hr hlocks hK hW hS rfl dX7_setTimes_39
      · have hf := x_iteF hf hc
        refine lv_iload hx hb dX7_setTimes_21 (lv_at hl 4 rfl) ?_
        obtain ⟨q4, h_q4, hf⟩ := x_bindE hf
        refine x_ci0 (x_rS ⟨hx, hb, hml, hown, hts⟩ (ct_X7_isTime l g ((cs, mt)) (a4) h_q4) (va_cwS 1 hts gX7_setTimes_X7_isTime rfl rfl rfl (by decide +kernel) ⟨Nat.le_of_ble_eq_true rfl, Nat.le_of_ble_eq_true rfl⟩) hK hW hS rfl hl.1 (rest := []) rfl (Nat.le_of_ble_eq_true rfl) dX7_setTimes_23 ⟨Nat.le_of_ble_eq_true rfl, Nat.le_of_ble_eq_true rfl⟩) hS (fun H locs hW hS => ?_)
        have hW : World g ((cs, mt)) H := hW
        refine W.eq (g2 := F0 m 26 ls [.int q4]) rfl ?_
        refine lv_if_eq (tgt := 37) hx hb dX7_setTimes_26 (by decide) (fun hc => ?_) (fun hc => ?_)
        · have hf := x_iteT hf hc
          refine lv_ldc (v := -1000002) hx hb hown (hts (.constant RX7 46 (-1000002)) (by decide +kernel)) dX7_setTimes_37 ?_
          refine W.widen (k := 91) (n := 755) (by decide) (by decide) ?_
          cases hf
          exact x_iret hx hb hr hlocks hK hW hS rfl dX7_setTimes_39
        · have hf := x_iteF hf hc
          refine lv_iload hx hb dX7_setTimes_29 (lv_at hl 5 rfl) ?_
          obtain ⟨q5, h_q5, hf⟩ := x_bindE hf
          refine x_ci0 (x_rS ⟨hx, hb, hml, hown, hts⟩ (ct_X7_isTime l g ((cs, mt)) (a5) h_q5) (va_cwS 1 hts gX7_setTimes_X7_isTime rfl rfl rfl (by decide +kernel) ⟨Nat.le_of_ble_eq_true rfl, Nat.le_of_ble_eq_true rfl⟩) hK hW hS rfl hl.1 (rest := []) rfl (Nat.le_of_ble_eq_true rfl) dX7_setTimes_31 ⟨Nat.le_of_ble_eq_true rfl, Nat.le_of_ble_eq_true rfl⟩) hS (fun H locs hW hS => ?_)
          have hW : World g ((cs, mt)) H := hW
          refine W.eq (g2 := F0 m 34 ls [.int q5]) rfl ?_
          refine lv_if_ne (tgt := 40) hx hb dX7_setTimes_34 (by decide) (fun hc => ?_) (fun hc => ?_)
          · have hf := x_iteF hf hc
            refine lv_aload_n hx hb dX7_setTimes_40 rfl (lv_at hl 0 rfl) ?_
            refine x_get (i := g.1) (k := 7) (j := 0) (t := 3) hx hb hts i_7 hown hK hW ⟨⟨hfl, rfl⟩, by decide⟩ rfl ⟨by decide, by decide, rfl⟩ (hts (.fieldLink RX7 19 "OpticalJukebox" "state" "LOpticalJukebox$State;") (by decide +kernel)) (v := .ref (adr (k_st cs) 4 0)) rfl dX7_setTimes_41 ?_
            refine x_get (i := (k_st cs)) (k := 4) (j := 0) (t := 1) hx hb hts i_4 hown hK hW ⟨hW.2.2.2.1, by decide⟩ rfl ⟨by decide, by decide, rfl⟩ (hts (.fieldLink RX7 298 "OpticalJukebox$State" "times" "[I") (by decide +kernel)) (v := .ref (adr (k_st cs) 10 0)) rfl dX7_setTimes_44 ?_
            refine lv_astore (lv' := [(6, .ref (adr (k_st cs) 10 0)), (0, .ref (adr g.1 7 0)), (1, .int a1), (2, .int a2), (3, .int a3), (4, .int a4), (5, .int a5)]) hx hb dX7_setTimes_47 hl (by decide) rfl (fun ls hl => ?_)
            refine lv_aload hx hb dX7_setTimes_49 (lv_at hl 0 rfl) ?_
            refine lv_iconst (v := 0) hx hb dX7_setTimes_51 (by decide) ?_
            refine x_iald (i := (k_st cs)) (k := 10) (j := 0) (f := (k_xs cs (k_st cs)) 10 0) hx hb hK hW ⟨hW.2.2.2.1, by decide⟩ (by decide) (rfl) rfl (by unfold vp_in; decide) dX7_setTimes_52 ?_
            refine W.eq (g2 := F0 m 53 ls [.int ((k_xs cs (k_st cs)) 10 0 0)]) rfl ?_
            refine lv_iload_n hx hb dX7_setTimes_53 rfl (lv_at hl 2 rfl) ?_
            obtain ⟨K6, eK6, hf⟩ := x_letE hf
            have KK6 : ∀ (_u : Unit) (ls : Array Slot) (H : Heap) (locs : List Loc), lv_has ls 8 [(0, .ref (adr g.1 7 0)), (1, .int a1), (2, .int a2), (3, .int a3), (4, .int a4), (5, .int a5), (6, .ref (adr (k_st cs) 10 0))] → World g ((cs, mt)) H → va_S (gA g) s.heap H locs → K6 _u = some q → W p l e rm_X7_setTimes s m [.ref (adr g.1 7 0), .int a1, .int a2, .int a3, .int a4, .int a5].toArray below meth c H locs 0 0 (MQ below (cQi g q.1 ((q.2, mt))) [.ref (adr g.1 7 0), .int a1, .int a2, .int a3, .int a4, .int a5].toArray s 91 755 (gA g)) (F0 m 95 ls []) := by
              intro _u ls H locs hl hW hS hf
              subst eK6
              refine lv_aload_n hx hb dX7_setTimes_95 rfl (lv_at hl 0 rfl) ?_
              obtain ⟨q7, h_q7, hf⟩ := x_bindE hf
              refine x_cv (x_rV ⟨hx, hb, hml, hown, hts⟩ (ct_X7_remember l g hfl cs mt  h_q7) (cwV 0 hts gX7_setTimes_X7_remember rfl rfl rfl (by decide +kernel) ⟨Nat.le_of_ble_eq_true rfl, Nat.le_of_ble_eq_true rfl⟩) hK hW hS (x_recv (i := g.1) (k := 7) (j := 0) hK hW ⟨⟨hfl, rfl⟩, by decide⟩ rfl (by decide)) rfl hl.1 (rest := []) rfl (Nat.le_of_ble_eq_true rfl) dX7_setTimes_96 ⟨Nat.le_of_ble_eq_true rfl, Nat.le_of_ble_eq_true rfl⟩) hS (fun H locs hW hS => ?_)
              have hW : World g ((q7, mt)) H := hW
              refine lv_aload hx hb dX7_setTimes_99 (lv_at hl 6 rfl) ?_
              refine lv_iconst (v := 0) hx hb dX7_setTimes_101 (by decide) ?_
              refine x_iald (i := (k_st cs)) (k := 10) (j := 0) (f := (k_xs q7 (k_st q7)) 10 0) hx hb hK hW ⟨remember_in h_q7 hW.2.2.2.1, by decide⟩ (by decide) (by rw [remember_st h_q7]; rfl) rfl (by unfold vp_in; decide) dX7_setTimes_102 ?_
              refine W.eq (g2 := F0 m 103 ls [.int ((k_xs q7 (k_st q7)) 10 0 0)]) rfl ?_
              refine lv_aload hx hb dX7_setTimes_103 (lv_at hl 6 rfl) ?_
              refine lv_iconst (v := 1) hx hb dX7_setTimes_105 (by decide) ?_
              refine x_iald (i := (k_st cs)) (k := 10) (j := 0) (f := (k_xs q7 (k_st q7)) 10 0) hx hb hK hW ⟨remember_in h_q7 hW.2.2.2.1, by decide⟩ (by decide) (by rw [remember_st h_q7]; rfl) rfl (by unfold vp_in; decide) dX7_setTimes_106 ?_
              refine W.eq (g2 := F0 m 107 ls [.int ((k_xs q7 (k_st q7)) 10 0 1), .int ((k_xs q7 (k_st q7)) 10 0 0)]) rfl ?_
              refine lv_iadd hx hb dX7_setTimes_107 ?_
              refine lv_aload hx hb dX7_setTimes_108 (lv_at hl 6 rfl) ?_
              refine lv_iconst (v := 2) hx hb dX7_setTimes_110 (by decide) ?_
              refine x_iald (i := (k_st cs)) (k := 10) (j := 0) (f := (k_xs q7 (k_st q7)) 10 0) hx hb hK hW ⟨remember_in h_q7 hW.2.2.2.1, by decide⟩ (by decide) (by rw [remember_st h_q7]; rfl) rfl (by unfold vp_in; decide) dX7_setTimes_111 ?_
              refine W.eq (g2 := F0 m 112 ls [.int ((k_xs q7 (k_st q7)) 10 0 2), .int (((k_xs q7 (k_st q7)) 10 0 0) + ((k_xs q7 (k_st q7)) 10 0 1))]) rfl ?_
              refine lv_iadd hx hb dX7_setTimes_112 ?_
              refine lv_aload hx hb dX7_setTimes_113 (lv_at hl 6 rfl) ?_
              refine lv_iconst (v := 3) hx hb dX7_setTimes_115 (by decide) ?_
              refine x_iald (i := (k_st cs)) (k := 10) (j := 0) (f := (k_xs q7 (k_st q7)) 10 0) hx hb hK hW ⟨remember_in h_q7 hW.2.2.2.1, by decide⟩ (by decide) (by rw [remember_st h_q7]; rfl) rfl (by unfold vp_in; decide) dX7_setTimes_116 ?_
              refine W.eq (g2 := F0 m 117 ls [.int ((k_xs q7 (k_st q7)) 10 0 3), .int ((((k_xs q7 (k_st q7)) 10 0 0) + ((k_xs q7 (k_st q7)) 10 0 1)) + ((k_xs q7 (k_st q7)) 10 0 2))]) rfl ?_
              refine lv_iadd hx hb dX7_setTimes_117 ?_
              refine lv_aload hx hb dX7_setTimes_118 (lv_at hl 6 rfl) ?_
              refine lv_iconst (v := 4) hx hb dX7_setTimes_120 (by decide) ?_
              refine x_iald (i := (k_st cs)) (k := 10) (j := 0) (f := (k_xs q7 (k_st q7)) 10 0) hx hb hK hW ⟨remember_in h_q7 hW.2.2.2.1, by decide⟩ (by decide) (by rw [remember_st h_q7]; rfl) rfl (by unfold vp_in; decide) dX7_setTimes_121 ?_
              refine W.eq (g2 := F0 m 122 ls [.int ((k_xs q7 (k_st q7)) 10 0 4), .int (((((k_xs q7 (k_st q7)) 10 0 0) + ((k_xs q7 (k_st q7)) 10 0 1)) + ((k_xs q7 (k_st q7)) 10 0 2)) + ((k_xs q7 (k_st q7)) 10 0 3))]) rfl ?_
              refine lv_iadd hx hb dX7_setTimes_122 ?_
              obtain ⟨x8, e_x8, hf⟩ := x_letE hf
              refine x_topi e_x8 ?_
              refine lv_istore (lv' := [(7, .int x8), (0, .ref (adr g.1 7 0)), (1, .int a1), (2, .int a2), (3, .int a3), (4, .int a4), (5, .int a5), (6, .ref (adr (k_st cs) 10 0))]) hx hb dX7_setTimes_123 hl (by decide) rfl (fun ls hl => ?_)
              refine lv_aload_n hx hb dX7_setTimes_125 rfl (lv_at hl 1 rfl) ?_
              refine x_get (i := g.1) (k := 7) (j := 0) (t := 3) hx hb hts i_7 hown hK hW ⟨⟨hfl, rfl⟩, by decide⟩ rfl ⟨by decide, by decide, rfl⟩ (hts (.fieldLink RX7 19 "OpticalJukebox" "state" "LOpticalJukebox$State;") (by decide +kernel)) (v := .ref (adr (k_st q7) 4 0)) rfl dX7_setTimes_126 ?_
              refine lv_iload_n hx hb dX7_setTimes_129 rfl (lv_at hl 2 rfl) ?_
              refine lv_iload_n hx hb dX7_setTimes_130 rfl (lv_at hl 3 rfl) ?_
              refine lv_iload_n hx hb dX7_setTimes_131 rfl (lv_at hl 4 rfl) ?_
              refine lv_iload hx hb dX7_setTimes_132 (lv_at hl 5 rfl) ?_
              refine lv_iload hx hb dX7_setTimes_134 (lv_at hl 6 rfl) ?_
              obtain ⟨q9, h_q9, hf⟩ := x_bindE hf
              refine x_cv0 (x_rV ⟨hx, hb, hml, hown, hts⟩ (ct_X4_putTimes l g (q7, mt) (k_st q7) hW.2.2.2.1 (k_xs q7 (k_st q7)) (a1) (a2) (a3) (a4) (a5) h_q9) (cwV 5 hts gX7_setTimes_X4_putTimes rfl rfl rfl (by decide +kernel) ⟨Nat.le_of_ble_eq_true rfl, Nat.le_of_ble_eq_true rfl⟩) hK (w_self_sd hW) hS (x_recv (i := (k_st q7)) (k := 4) (j := 0) hK hW ⟨hW.2.2.2.1, by decide⟩ rfl (by decide)) rfl hl.1 (rest := []) rfl (Nat.le_of_ble_eq_true rfl) dX7_setTimes_136 ⟨Nat.le_of_ble_eq_true rfl, Nat.le_of_ble_eq_true rfl⟩) hS (fun H locs hW hS => ?_)
              have hW : World g (((kS q7 (k_st q7) q9), mt)) H := hW
              refine lv_iload hx hb dX7_setTimes_139 (lv_at hl 0 rfl) ?_
              cases hf
              exact x_iret hx hb hr hlocks hK hW hS rfl dX7_setTimes_141
            clear eK6
            refine lv_icmp_ne (tgt := 95) hx hb dX7_setTimes_54 (by decide) (fun hc => ?_) (fun hc => ?_)
            · have hf := x_iteF hf hc
              exact KK6 (()) ls _ _ (lv_sub hl [1, 2, 3, 4, 5, 6, 0] rfl) hW hS hf
            · have hf := x_iteT hf hc
              refine lv_aload hx hb dX7_setTimes_57 (lv_at hl 0 rfl) ?_
              refine lv_iconst (v := 1) hx hb dX7_setTimes_59 (by decide) ?_
              refine x_iald (i := (k_st cs)) (k := 10) (j := 0) (f := (k_xs cs (k_st cs)) 10 0) hx hb hK hW ⟨hW.2.2.2.1, by decide⟩ (by decide) (rfl) rfl (by unfold vp_in; decide) dX7_setTimes_60 ?_
              refine W.eq (g2 := F0 m 61 ls [.int ((k_xs cs (k_st cs)) 10 0 1)]) rfl ?_
              refine lv_iload_n hx hb dX7_setTimes_61 rfl (lv_at hl 3 rfl) ?_
              refine lv_icmp_ne (tgt := 95) hx hb dX7_setTimes_62 (by decide) (fun hc => ?_) (fun hc => ?_)
              · have hf := x_iteF hf hc
                exact KK6 (()) ls _ _ (lv_sub hl [1, 2, 3, 4, 5, 6, 0] rfl) hW hS hf
              · have hf := x_iteT hf hc
                refine lv_aload hx hb dX7_setTimes_65 (lv_at hl 0 rfl) ?_
                refine lv_iconst (v := 2) hx hb dX7_setTimes_67 (by decide) ?_
                refine x_iald (i := (k_st cs)) (k := 10) (j := 0) (f := (k_xs cs (k_st cs)) 10 0) hx hb hK hW ⟨hW.2.2.2.1, by decide⟩ (by decide) (rfl) rfl (by unfold vp_in; decide) dX7_setTimes_68 ?_
                refine W.eq (g2 := F0 m 69 ls [.int ((k_xs cs (k_st cs)) 10 0 2)]) rfl ?_
                refine lv_iload_n hx hb dX7_setTimes_69 rfl (lv_at hl 4 rfl) ?_
                refine lv_icmp_ne (tgt := 95) hx hb dX7_setTimes_70 (by decide) (fun hc => ?_) (fun hc => ?_)
                · have hf := x_iteF hf hc
                  exact KK6 (()) ls _ _ (lv_sub hl [1, 2, 3, 4, 5, 6, 0] rfl) hW hS hf
                · have hf := x_iteT hf hc
                  refine lv_aload hx hb dX7_setTimes_73 (lv_at hl 0 rfl) ?_
                  refine lv_iconst (v := 3) hx hb dX7_setTimes_75 (by decide) ?_
                  refine x_iald (i := (k_st cs)) (k := 10) (j := 0) (f := (k_xs cs (k_st cs)) 10 0) hx hb hK hW ⟨hW.2.2.2.1, by decide⟩ (by decide) (rfl) rfl (by unfold vp_in; decide) dX7_setTimes_76 ?_
                  refine W.eq (g2 := F0 m 77 ls [.int ((k_xs cs (k_st cs)) 10 0 3)]) rfl ?_
                  refine lv_iload hx hb dX7_setTimes_77 (lv_at hl 5 rfl) ?_
                  refine lv_icmp_ne (tgt := 95) hx hb dX7_setTimes_79 (by decide) (fun hc => ?_) (fun hc => ?_)
                  · have hf := x_iteF hf hc
                    exact KK6 (()) ls _ _ (lv_sub hl [1, 2, 3, 4, 5, 6, 0] rfl) hW hS hf
                  · have hf := x_iteT hf hc
                    refine lv_aload hx hb dX7_setTimes_82 (lv_at hl 0 rfl) ?_
                    refine lv_iconst (v := 4) hx hb dX7_setTimes_84 (by decide) ?_
                    refine x_iald (i := (k_st cs)) (k := 10) (j := 0) (f := (k_xs cs (k_st cs)) 10 0) hx hb hK hW ⟨hW.2.2.2.1, by decide⟩ (by decide) (rfl) rfl (by unfold vp_in; decide) dX7_setTimes_85 ?_
                    refine W.eq (g2 := F0 m 86 ls [.int ((k_xs cs (k_st cs)) 10 0 4)]) rfl ?_
                    refine lv_iload hx hb dX7_setTimes_86 (lv_at hl 6 rfl) ?_
                    refine lv_icmp_ne (tgt := 95) hx hb dX7_setTimes_88 (by decide) (fun hc => ?_) (fun hc => ?_)
                    · have hf := x_iteF hf hc
                      exact KK6 (()) ls _ _ (lv_sub hl [1, 2, 3, 4, 5, 6, 0] rfl) hW hS hf
                    · have hf := x_iteT hf hc
                      refine lv_ldcw (v := -1000004) hx hb hown (hts (.constant RX7 284 (-1000004)) (by decide +kernel)) dX7_setTimes_91 ?_
                      refine W.widen (k := 91) (n := 755) (by decide) (by decide) ?_
                      cases hf
                      exact x_iret hx hb hr hlocks hK hW hS rfl dX7_setTimes_94
          · have hf := x_iteT hf hc
            refine lv_ldc (v := -1000002) hx hb hown (hts (.constant RX7 46 (-1000002)) (by decide +kernel)) dX7_setTimes_37 ?_
            refine W.widen (k := 91) (n := 755) (by decide) (by decide) ?_
            cases hf
            exact x_iret hx hb hr hlocks hK hW hS rfl dX7_setTimes_39
abbrev rm_X7_request : Room := { frames := 5, cells := 91, slots := 755, locals := 152 }
set_option maxRecDepth 100000 in
set_option maxHeartbeats 4000000 in
theorem ct_X7_request (l : Launch) (g : GT) (hfl : 1 ≤ gf g) (cs : CT) (mt : MT) (a1 : Int32) {q : (Int32 × CT)} (hf : f_X7_request cs a1 = some q) : Met l yX7_request wsX7_request rm_X7_request (cPre g ((cs, mt)) [.ref (adr g.1 7 0), .int a1]) (cQi g q.1 ((q.2, mt))) 91 755 (gA g) := by
  have i_4 : ∀ w ∈ u_ws RX4 TX4 18, w ∈ wsX7_request := by decide +kernel
  have i_7 : ∀ w ∈ u_ws RX7 TX7 9, w ∈ wsX7_request := by decide +kernel
  refine x_met (by decide) rfl (Nat.le_of_ble_eq_true rfl) ?_
  intro p e s m below meth c hx hb hr hml hts hown hlocks hK hW hS ls hl
  have hown : s.vm.findClass RX7 = some m.cls := hown
  have hl : lv_has ls 2 [(0, .ref (adr g.1 7 0)), (1, .int a1)] := hl
  rw [f_X7_request] at hf
  refine lv_aload_n hx hb dX7_request_0 rfl (lv_at hl 0 rfl) ?_
  refine x_get (i := g.1) (k := 7) (j := 0) (t := 3) hx hb hts i_7 hown hK hW ⟨⟨hfl, rfl⟩, by decide⟩ rfl ⟨by decide, by decide, rfl⟩ (hts (.fieldLink RX7 19 "OpticalJukebox" "state" "LOpticalJukebox$State;") (by decide +kernel)) (v := .ref (adr (k_st cs) 4 0)) rfl dX7_request_1 ?_
  refine lv_iload_n hx hb dX7_request_4 rfl (lv_at hl 1 rfl) ?_
  obtain ⟨q1, h_q1, hf⟩ := x_bindE hf
  refine x_ci0 (x_rV ⟨hx, hb, hml, hown, hts⟩ (ct_X4_hasFile l g (cs, mt) (k_st cs) hW.2.2.2.1 (k_xs cs (k_st cs)) (a1) h_q1) (cwV 1 hts gX7_request_X4_hasFile rfl rfl rfl (by decide +kernel) ⟨Nat.le_of_ble_eq_true rfl, Nat.le_of_ble_eq_true rfl⟩) hK (w_self_sd hW) hS (x_recv (i := (k_st cs)) (k := 4) (j := 0) hK hW ⟨hW.2.2.2.1, by decide⟩ rfl (by decide)) rfl hl.1 (rest := []) rfl (Nat.le_of_ble_eq_true rfl) dX7_request_5 ⟨Nat.le_of_ble_eq_true rfl, Nat.le_of_ble_eq_true rfl⟩) hS (fun H locs hW hS => ?_)
  have hW := w_unself_sd hW
  have hW : World g ((cs, mt)) H := hW
  refine W.eq (g2 := F0 m 8 ls [.int q1]) rfl ?_
  refine lv_if_ne (tgt := 14) hx hb dX7_request_8 (by decide) (fun hc => ?_) (fun hc => ?_)
  · have hf := x_iteF hf hc
    refine lv_aload_n hx hb dX7_request_14 rfl (lv_at hl 0 rfl) ?_
    refine x_get (i := g.1) (k := 7) (j := 0) (t := 3) hx hb hts i_7 hown hK hW ⟨⟨hfl, rfl⟩, by decide⟩ rfl ⟨by decide, by decide, rfl⟩ (hts (.fieldLink RX7 19 "OpticalJukebox" "state" "LOpticalJukebox$State;") (by decide +kernel)) (v := .ref (adr (k_st cs) 4 0)) rfl dX7_request_15 ?_
    refine lv_iload_n hx hb dX7_request_18 rfl (lv_at hl 1 rfl) ?_
    obtain ⟨q2, h_q2, hf⟩ := x_bindE hf
    refine x_ci0 (x_rV ⟨hx, hb, hml, hown, hts⟩ (ct_X4_isReadable l g (cs, mt) (k_st cs) hW.2.2.2.1 (k_xs cs (k_st cs)) (a1) h_q2) (cwV 1 hts gX7_request_X4_isReadable rfl rfl rfl (by decide +kernel) ⟨Nat.le_of_ble_eq_true rfl, Nat.le_of_ble_eq_true rfl⟩) hK (w_self_sd hW) hS (x_recv (i := (k_st cs)) (k := 4) (j := 0) hK hW ⟨hW.2.2.2.1, by decide⟩ rfl (by decide)) rfl hl.1 (rest := []) rfl (Nat.le_of_ble_eq_true rfl) dX7_request_19 ⟨Nat.le_of_ble_eq_true rfl, Nat.le_of_ble_eq_true rfl⟩) hS (fun H locs hW hS => ?_)
    have hW := w_unself_sd hW
    have hW : World g ((cs, mt)) H := hW
    refine W.eq (g2 := F0 m 22 ls [.int q2]) rfl ?_
    refine lv_if_ne (tgt := 28) hx hb dX7_request_22 (by decide) (fun hc => ?_) (fun hc => ?_)
    · have hf := x_iteF hf hc
      refine lv_aload_n hx hb dX7_request_28 rfl (lv_at hl 0 rfl) ?_
      refine x_get (i := g.1) (k := 7) (j := 0) (t := 3) hx hb hts i_7 hown hK hW ⟨⟨hfl, rfl⟩, by decide⟩ rfl ⟨by decide, by decide, rfl⟩ (hts (.fieldLink RX7 19 "OpticalJukebox" "state" "LOpticalJukebox$State;") (by decide +kernel)) (v := .ref (adr (k_st cs) 4 0)) rfl dX7_request_29 ?_
      refine x_get (i := (k_st cs)) (k := 4) (j := 0) (t := 13) hx hb hts i_4 hown hK hW ⟨hW.2.2.2.1, by decide⟩ rfl ⟨by decide, by decide, rfl⟩ (hts (.fieldLink RX7 305 "OpticalJukebox$State" "requestCount" "I") (by decide +kernel)) (rfl) dX7_request_32 ?_
      refine lv_bipush (v := 16) hx hb dX7_request_35 (by decide) ?_
      refine lv_icmp_lt (tgt := 43) hx hb dX7_request_37 (by decide) (fun hc => ?_) (fun hc => ?_)
      · have hf := x_iteT hf hc
        refine lv_aload_n hx hb dX7_request_43 rfl (lv_at hl 0 rfl) ?_
        obtain ⟨q3, h_q3, hf⟩ := x_bindE hf
        refine x_cv (x_rV ⟨hx, hb, hml, hown, hts⟩ (ct_X7_remember l g hfl cs mt  h_q3) (cwV 0 hts gX7_request_X7_remember rfl rfl rfl (by decide +kernel) ⟨Nat.le_of_ble_eq_true rfl, Nat.le_of_ble_eq_true rfl⟩) hK hW hS (x_recv (i := g.1) (k := 7) (j := 0) hK hW ⟨⟨hfl, rfl⟩, by decide⟩ rfl (by decide)) rfl hl.1 (rest := []) rfl (Nat.le_of_ble_eq_true rfl) dX7_request_44 ⟨Nat.le_of_ble_eq_true rfl, Nat.le_of_ble_eq_true rfl⟩) hS (fun H locs hW hS => ?_)
        have hW : World g ((q3, mt)) H := hW
        refine lv_aload_n hx hb dX7_request_47 rfl (lv_at hl 0 rfl) ?_
        refine x_get (i := g.1) (k := 7) (j := 0) (t := 3) hx hb hts i_7 hown hK hW ⟨⟨hfl, rfl⟩, by decide⟩ rfl ⟨by decide, by decide, rfl⟩ (hts (.fieldLink RX7 19 "OpticalJukebox" "state" "LOpticalJukebox$State;") (by decide +kernel)) (v := .ref (adr (k_st q3) 4 0)) rfl dX7_request_48 ?_
        refine x_get (i := (k_st q3)) (k := 4) (j := 0) (t := 12) hx hb hts i_4 hown hK hW ⟨hW.2.2.2.1, by decide⟩ rfl ⟨by decide, by decide, rfl⟩ (hts (.fieldLink RX7 308 "OpticalJukebox$State" "requests" "[I") (by decide +kernel)) (v := .ref (adr (k_st q3) 15 0)) rfl dX7_request_51 ?_
        refine lv_aload_n hx hb dX7_request_54 rfl (lv_at hl 0 rfl) ?_
        refine x_get (i := g.1) (k := 7) (j := 0) (t := 3) hx hb hts i_7 hown hK hW ⟨⟨hfl, rfl⟩, by decide⟩ rfl ⟨by decide, by decide, rfl⟩ (hts (.fieldLink RX7 19 "OpticalJukebox" "state" "LOpticalJukebox$State;") (by decide +kernel)) (v := .ref (adr (k_st q3) 4 0)) rfl dX7_request_55 ?_
        refine x_get (i := (k_st q3)) (k := 4) (j := 0) (t := 13) hx hb hts i_4 hown hK hW ⟨hW.2.2.2.1, by decide⟩ rfl ⟨by decide, by decide, rfl⟩ (hts (.fieldLink RX7 305 "OpticalJukebox$State" "requestCount" "I") (by decide +kernel)) (rfl) dX7_request_58 ?_
        refine lv_iload_n hx hb dX7_request_61 rfl (lv_at hl 1 rfl) ?_
        obtain ⟨hg4, hf⟩ := x_guardE hf
        obtain ⟨sd5, e_sd5, hf⟩ := x_letE hf
        refine x_iast (i := (k_st q3)) (k := 15) (j := 0) (w' := ((kS q3 (k_st q3) sd5), mt)) hx hb hK hW ⟨hW.2.2.2.1, by decide⟩ hS (by decide) rfl rfl rfl hg4 dX7_request_62 (fp_S0 e_sd5 rfl) (fun H locs hW hS => ?_)
        refine lv_aload_n hx hb dX7_request_63 rfl (lv_at hl 0 rfl) ?_
        refine x_get (i := g.1) (k := 7) (j := 0) (t := 3) hx hb hts i_7 hown hK hW ⟨⟨hfl, rfl⟩, by decide⟩ rfl ⟨by decide, by decide, rfl⟩ (hts (.fieldLink RX7 19 "OpticalJukebox" "state" "LOpticalJukebox$State;") (by decide +kernel)) (v := .ref (adr (k_st q3) 4 0)) rfl dX7_request_64 ?_
        refine lv_dup hx hb dX7_request_67 rfl ?_
        refine x_get (i := (k_st q3)) (k := 4) (j := 0) (t := 13) hx hb hts i_4 hown hK hW ⟨hW.2.2.2.1, by decide⟩ rfl ⟨by decide, by decide, rfl⟩ (hts (.fieldLink RX7 305 "OpticalJukebox$State" "requestCount" "I") (by decide +kernel)) (sv_S (w := (q3, mt)) rfl (fun _ => rfl) rfl) dX7_request_68 ?_
        refine lv_iconst (v := 1) hx hb dX7_request_71 (by decide) ?_
        refine lv_iadd hx hb dX7_request_72 ?_
        obtain ⟨sd6, e_sd6, hf⟩ := x_letE hf
        refine x_put (i := (k_st q3)) (k := 4) (j := 0) (t := 13) (w' := ((kS q3 (k_st q3) sd6), mt)) hx hb hts i_4 tyX4 tyX4_ok nmX4 hown hK hW ⟨hW.2.2.2.1, by decide⟩ hS rfl ⟨by decide, by decide, rfl⟩ (hts (.fieldLink RX7 305 "OpticalJukebox$State" "requestCount" "I") (by decide +kernel)) rfl (ty := .int) (by decide +kernel) rfl rfl ⟨rfl, rfl⟩ dX7_request_73 (fp_S (w := (q3, mt)) e_sd6 rfl) (fun H locs hW hS => ?_)
        refine lv_aload_n hx hb dX7_request_76 rfl (lv_at hl 0 rfl) ?_
        refine x_get (i := g.1) (k := 7) (j := 0) (t := 3) hx hb hts i_7 hown hK hW ⟨⟨hfl, rfl⟩, by decide⟩ rfl ⟨by decide, by decide, rfl⟩ (hts (.fieldLink RX7 19 "OpticalJukebox" "state" "LOpticalJukebox$State;") (by decide +kernel)) (v := .ref (adr (k_st q3) 4 0)) rfl dX7_request_77 ?_
        refine x_get (i := (k_st q3)) (k := 4) (j := 0) (t := 13) hx hb hts i_4 hown hK hW ⟨hW.2.2.2.1, by decide⟩ rfl ⟨by decide, by decide, rfl⟩ (hts (.fieldLink RX7 305 "OpticalJukebox$State" "requestCount" "I") (by decide +kernel)) (sv_S (w := (q3, mt)) rfl (fun _ => rfl) rfl) dX7_request_80 ?_
        cases hf
        exact x_iret hx hb hr hlocks hK hW hS rfl dX7_request_83
      · have hf := x_iteF hf hc
        refine lv_ldc (v := -1000003) hx hb hown (hts (.constant RX7 41 (-1000003)) (by decide +kernel)) dX7_request_40 ?_
        refine W.widen (k := 91) (n := 755) (by decide) (by decide) ?_
        cases hf
        exact x_iret hx hb hr hlocks hK hW hS rfl dX7_request_42
    · have hf := x_iteT hf hc
      refine lv_ldc (v := -1000008) hx hb hown (hts (.constant RX7 239 (-1000008)) (by decide +kernel)) dX7_request_25 ?_
      refine W.widen (k := 91) (n := 755) (by decide) (by decide) ?_
      cases hf
      exact x_iret hx hb hr hlocks hK hW hS rfl dX7_request_27
  · have hf := x_iteT hf hc
    refine lv_ldc (v := -1000001) hx hb hown (hts (.constant RX7 87 (-1000001)) (by decide +kernel)) dX7_request_11 ?_
    refine W.widen (k := 91) (n := 755) (by decide) (by decide) ?_
    cases hf
    exact x_iret hx hb hr hlocks hK hW hS rfl dX7_request_13
abbrev rm_X7_dropRequest : Room := { frames := 5, cells := 91, slots := 755, locals := 152 }
set_option maxRecDepth 100000 in
set_option maxHeartbeats 4000000 in
theorem ct_X7_dropRequest (l : Launch) (g : GT) (hfl : 1 ≤ gf g) (cs : CT) (mt : MT) (a1 : Int32) {q : (Int32 × CT)} (hf : f_X7_dropRequest cs a1 = some q) : Met l yX7_dropRequest wsX7_dropRequest rm_X7_dropRequest (cPre g ((cs, mt)) [.ref (adr g.1 7 0), .int a1]) (cQi g q.1 ((q.2, mt))) 91 755 (gA g) := by
  have i_7 : ∀ w ∈ u_ws RX7 TX7 9, w ∈ wsX7_dropRequest := by decide +kernel
  refine x_met (by decide) rfl (Nat.le_of_ble_eq_true rfl) ?_
  intro p e s m below meth c hx hb hr hml hts hown hlocks hK hW hS ls hl
  have hown : s.vm.findClass RX7 = some m.cls := hown
  have hl : lv_has ls 2 [(0, .ref (adr g.1 7 0)), (1, .int a1)] := hl
  rw [f_X7_dropRequest] at hf
  refine lv_aload_n hx hb dX7_dropRequest_0 rfl (lv_at hl 0 rfl) ?_
  refine x_get (i := g.1) (k := 7) (j := 0) (t := 3) hx hb hts i_7 hown hK hW ⟨⟨hfl, rfl⟩, by decide⟩ rfl ⟨by decide, by decide, rfl⟩ (hts (.fieldLink RX7 19 "OpticalJukebox" "state" "LOpticalJukebox$State;") (by decide +kernel)) (v := .ref (adr (k_st cs) 4 0)) rfl dX7_dropRequest_1 ?_
  refine lv_iload_n hx hb dX7_dropRequest_4 rfl (lv_at hl 1 rfl) ?_
  obtain ⟨q1, h_q1, hf⟩ := x_bindE hf
  refine x_ci0 (x_rV ⟨hx, hb, hml, hown, hts⟩ (ct_X4_hasRequest l g (cs, mt) (k_st cs) hW.2.2.2.1 (k_xs cs (k_st cs)) (a1) h_q1) (cwV 1 hts gX7_dropRequest_X4_hasRequest rfl rfl rfl (by decide +kernel) ⟨Nat.le_of_ble_eq_true rfl, Nat.le_of_ble_eq_true rfl⟩) hK (w_self_sd hW) hS (x_recv (i := (k_st cs)) (k := 4) (j := 0) hK hW ⟨hW.2.2.2.1, by decide⟩ rfl (by decide)) rfl hl.1 (rest := []) rfl (Nat.le_of_ble_eq_true rfl) dX7_dropRequest_5 ⟨Nat.le_of_ble_eq_true rfl, Nat.le_of_ble_eq_true rfl⟩) hS (fun H locs hW hS => ?_)
  have hW := w_unself_sd hW
  have hW : World g ((cs, mt)) H := hW
  refine W.eq (g2 := F0 m 8 ls [.int q1]) rfl ?_
  refine lv_if_ne (tgt := 14) hx hb dX7_dropRequest_8 (by decide) (fun hc => ?_) (fun hc => ?_)
  · have hf := x_iteF hf hc
    refine lv_aload_n hx hb dX7_dropRequest_14 rfl (lv_at hl 0 rfl) ?_
    obtain ⟨q2, h_q2, hf⟩ := x_bindE hf
    refine x_cv (x_rV ⟨hx, hb, hml, hown, hts⟩ (ct_X7_remember l g hfl cs mt  h_q2) (cwV 0 hts gX7_dropRequest_X7_remember rfl rfl rfl (by decide +kernel) ⟨Nat.le_of_ble_eq_true rfl, Nat.le_of_ble_eq_true rfl⟩) hK hW hS (x_recv (i := g.1) (k := 7) (j := 0) hK hW ⟨⟨hfl, rfl⟩, by decide⟩ rfl (by decide)) rfl hl.1 (rest := []) rfl (Nat.le_of_ble_eq_true rfl) dX7_dropRequest_15 ⟨Nat.le_of_ble_eq_true rfl, Nat.le_of_ble_eq_true rfl⟩) hS (fun H locs hW hS => ?_)
    have hW : World g ((q2, mt)) H := hW
    refine lv_aload_n hx hb dX7_dropRequest_18 rfl (lv_at hl 0 rfl) ?_
    refine x_get (i := g.1) (k := 7) (j := 0) (t := 3) hx hb hts i_7 hown hK hW ⟨⟨hfl, rfl⟩, by decide⟩ rfl ⟨by decide, by decide, rfl⟩ (hts (.fieldLink RX7 19 "OpticalJukebox" "state" "LOpticalJukebox$State;") (by decide +kernel)) (v := .ref (adr (k_st q2) 4 0)) rfl dX7_dropRequest_19 ?_
    refine lv_iload_n hx hb dX7_dropRequest_22 rfl (lv_at hl 1 rfl) ?_
    obtain ⟨q3, h_q3, hf⟩ := x_bindE hf
    refine x_ci0 (x_rV ⟨hx, hb, hml, hown, hts⟩ (ct_X4_removeRequest l g (q2, mt) (k_st q2) hW.2.2.2.1 (k_xs q2 (k_st q2)) (a1) h_q3) (cwV 1 hts gX7_dropRequest_X4_removeRequest rfl rfl rfl (by decide +kernel) ⟨Nat.le_of_ble_eq_true rfl, Nat.le_of_ble_eq_true rfl⟩) hK (w_self_sd hW) hS (x_recv (i := (k_st q2)) (k := 4) (j := 0) hK hW ⟨hW.2.2.2.1, by decide⟩ rfl (by decide)) rfl hl.1 (rest := []) rfl (Nat.le_of_ble_eq_true rfl) dX7_dropRequest_23 ⟨Nat.le_of_ble_eq_true rfl, Nat.le_of_ble_eq_true rfl⟩) hS (fun H locs hW hS => ?_)
    have hW : World g (((kS q2 (k_st q2) q3.2), mt)) H := hW
    refine W.eq (g2 := F0 m 26 ls [.int q3.1]) rfl ?_
    cases hf
    exact x_iret hx hb hr hlocks hK hW hS rfl dX7_dropRequest_26
  · have hf := x_iteT hf hc
    refine lv_ldc (v := -1000001) hx hb hown (hts (.constant RX7 87 (-1000001)) (by decide +kernel)) dX7_dropRequest_11 ?_
    refine W.widen (k := 91) (n := 755) (by decide) (by decide) ?_
    cases hf
    exact x_iret hx hb hr hlocks hK hW hS rfl dX7_dropRequest_13
abbrev rm_X7_batchProblem : Room := { frames := 3, cells := 0, slots := 0, locals := 63 }
set_option maxRecDepth 100000 in
set_option maxHeartbeats 4000000 in
theorem ct_X7_batchProblem (l : Launch) (g : GT) (hfl : 1 ≤ gf g) (cs : CT) (mt : MT) (a1 : Int32) {q : Int32} (hf : f_X7_batchProblem (k_xs cs (k_st cs)) a1 = some q) : Met l yX7_batchProblem wsX7_batchProblem rm_X7_batchProblem (cPre g ((cs, mt)) [.ref (adr g.1 7 0), .int a1]) (cQi g q ((cs, mt))) 0 0 (gA g) := by
  have i_4 : ∀ w ∈ u_ws RX4 TX4 18, w ∈ wsX7_batchProblem := by decide +kernel
  have i_7 : ∀ w ∈ u_ws RX7 TX7 9, w ∈ wsX7_batchProblem := by decide +kernel
  refine x_met (by decide) rfl (Nat.le_of_ble_eq_true rfl) ?_
  intro p e s m below meth c hx hb hr hml hts hown hlocks hK hW hS ls hl
  have hown : s.vm.findClass RX7 = some m.cls := hown
  have hl : lv_has ls 3 [(0, .ref (adr g.1 7 0)), (1, .int a1)] := hl
  rw [f_X7_batchProblem] at hf
  refine lv_aload_n hx hb dX7_batchProblem_0 rfl (lv_at hl 0 rfl) ?_
  refine x_get (i := g.1) (k := 7) (j := 0) (t := 3) hx hb hts i_7 hown hK hW ⟨⟨hfl, rfl⟩, by decide⟩ rfl ⟨by decide, by decide, rfl⟩ (hts (.fieldLink RX7 19 "OpticalJukebox" "state" "LOpticalJukebox$State;") (by decide +kernel)) (v := .ref (adr (k_st cs) 4 0)) rfl dX7_batchProblem_1 ?_
  refine x_get (i := (k_st cs)) (k := 4) (j := 0) (t := 13) hx hb hts i_4 hown hK hW ⟨hW.2.2.2.1, by decide⟩ rfl ⟨by decide, by decide, rfl⟩ (hts (.fieldLink RX7 305 "OpticalJukebox$State" "requestCount" "I") (by decide +kernel)) (rfl) dX7_batchProblem_4 ?_
  refine lv_iload_n hx hb dX7_batchProblem_7 rfl (lv_at hl 1 rfl) ?_
  refine lv_icmp_ge (tgt := 14) hx hb dX7_batchProblem_8 (by decide) (fun hc => ?_) (fun hc => ?_)
  · have hf := x_iteT hf hc
    refine lv_aload_n hx hb dX7_batchProblem_14 rfl (lv_at hl 0 rfl) ?_
    refine x_get (i := g.1) (k := 7) (j := 0) (t := 3) hx hb hts i_7 hown hK hW ⟨⟨hfl, rfl⟩, by decide⟩ rfl ⟨by decide, by decide, rfl⟩ (hts (.fieldLink RX7 19 "OpticalJukebox" "state" "LOpticalJukebox$State;") (by decide +kernel)) (v := .ref (adr (k_st cs) 4 0)) rfl dX7_batchProblem_15 ?_
    refine x_get (i := (k_st cs)) (k := 4) (j := 0) (t := 3) hx hb hts i_4 hown hK hW ⟨hW.2.2.2.1, by decide⟩ rfl ⟨by decide, by decide, rfl⟩ (hts (.fieldLink RX7 134 "OpticalJukebox$State" "driveCount" "I") (by decide +kernel)) (rfl) dX7_batchProblem_18 ?_
    refine lv_if_ne (tgt := 27) hx hb dX7_batchProblem_21 (by decide) (fun hc => ?_) (fun hc => ?_)
    · have hf := x_iteF hf hc
      refine lv_iconst (v := 0) hx hb dX7_batchProblem_27 (by decide) ?_
      refine lv_istore_n (lv' := [(2, .int (0 : Int32)), (0, .ref (adr g.1 7 0)), (1, .int a1)]) hx hb dX7_batchProblem_28 rfl hl (by decide) rfl (fun ls hl => ?_)
      have L29 : ∀ (n : Nat) (v2_29 : Int32) (ls : Array Slot) (H : Heap) (locs : List Loc), lv_has ls 3 [(0, .ref (adr g.1 7 0)), (1, .int a1), (2, .int v2_29)] → World g ((cs, mt)) H → va_S (gA g) s.heap H locs → f_X7_batchProblem_L29 (k_xs cs (k_st cs)) n v2_29 = some q → W p l e rm_X7_batchProblem s m [.ref (adr g.1 7 0), .int a1].toArray below meth c H locs 0 0 (MQ below (cQi g q ((cs, mt))) [.ref (adr g.1 7 0), .int a1].toArray s 0 0 (gA g)) (F0 m 29 ls []) := by
        clear hW hS hl
        intro n
        induction n with
        | zero => intro v2_29 ls H locs hl hW hS hf; cases hf
        | succ n_29 ih =>
          intro v2_29 ls H locs hl hW hS hf
          rw [f_X7_batchProblem_L29] at hf
          refine lv_iload_n hx hb dX7_batchProblem_29 rfl (lv_at hl 2 rfl) ?_
          refine lv_aload_n hx hb dX7_batchProblem_30 rfl (lv_at hl 0 rfl) ?_
          refine x_get (i := g.1) (k := 7) (j := 0) (t := 3) hx hb hts i_7 hown hK hW ⟨⟨hfl, rfl⟩, by decide⟩ rfl ⟨by decide, by decide, rfl⟩ (hts (.fieldLink RX7 19 "OpticalJukebox" "state" "LOpticalJukebox$State;") (by decide +kernel)) (v := .ref (adr (k_st cs) 4 0)) rfl dX7_batchProblem_31 ?_
          refine x_get (i := (k_st cs)) (k := 4) (j := 0) (t := 13) hx hb hts i_4 hown hK hW ⟨hW.2.2.2.1, by decide⟩ rfl ⟨by decide, by decide, rfl⟩ (hts (.fieldLink RX7 305 "OpticalJukebox$State" "requestCount" "I") (by decide +kernel)) (rfl) dX7_batchProblem_34 ?_
          refine lv_icmp_ge (tgt := 68) hx hb dX7_batchProblem_37 (by decide) (fun hc => ?_) (fun hc => ?_)
          · have hf := x_iteT hf hc
            refine lv_iconst (v := 0) hx hb dX7_batchProblem_68 (by decide) ?_
            cases hf
            exact x_iret hx hb hr hlocks hK hW hS rfl dX7_batchProblem_69
          · have hf := x_iteF hf hc
            refine lv_aload_n hx hb dX7_batchProblem_40 rfl (lv_at hl 0 rfl) ?_
            refine x_get (i := g.1) (k := 7) (j := 0) (t := 3) hx hb hts i_7 hown hK hW ⟨⟨hfl, rfl⟩, by decide⟩ rfl ⟨by decide, by decide, rfl⟩ (hts (.fieldLink RX7 19 "OpticalJukebox" "state" "LOpticalJukebox$State;") (by decide +kernel)) (v := .ref (adr (k_st cs) 4 0)) rfl dX7_batchProblem_41 ?_
            refine lv_aload_n hx hb dX7_batchProblem_44 rfl (lv_at hl 0 rfl) ?_
            refine x_get (i := g.1) (k := 7) (j := 0) (t := 3) hx hb hts i_7 hown hK hW ⟨⟨hfl, rfl⟩, by decide⟩ rfl ⟨by decide, by decide, rfl⟩ (hts (.fieldLink RX7 19 "OpticalJukebox" "state" "LOpticalJukebox$State;") (by decide +kernel)) (v := .ref (adr (k_st cs) 4 0)) rfl dX7_batchProblem_45 ?_
            refine x_get (i := (k_st cs)) (k := 4) (j := 0) (t := 12) hx hb hts i_4 hown hK hW ⟨hW.2.2.2.1, by decide⟩ rfl ⟨by decide, by decide, rfl⟩ (hts (.fieldLink RX7 308 "OpticalJukebox$State" "requests" "[I") (by decide +kernel)) (v := .ref (adr (k_st cs) 15 0)) rfl dX7_batchProblem_48 ?_
            refine lv_iload_n hx hb dX7_batchProblem_51 rfl (lv_at hl 2 rfl) ?_
            obtain ⟨hg1, hf⟩ := x_guardE hf
            refine x_iald (i := (k_st cs)) (k := 15) (j := 0) (f := (k_xs cs (k_st cs)) 15 0) hx hb hK hW ⟨hW.2.2.2.1, by decide⟩ (by decide) (rfl) rfl hg1 dX7_batchProblem_52 ?_
            obtain ⟨q2, h_q2, hf⟩ := x_bindE hf
            refine x_ci0 (x_rV ⟨hx, hb, hml, hown, hts⟩ (ct_X4_isReadable l g (cs, mt) (k_st cs) hW.2.2.2.1 (k_xs cs (k_st cs)) (((k_xs cs (k_st cs)) 15 0 (v2_29).toNatClampNeg)) h_q2) (cwV 1 hts gX7_batchProblem_X4_isReadable rfl rfl rfl (by decide +kernel) ⟨Nat.le_of_ble_eq_true rfl, Nat.le_of_ble_eq_true rfl⟩) hK (w_self_sd hW) hS (x_recv (i := (k_st cs)) (k := 4) (j := 0) hK hW ⟨hW.2.2.2.1, by decide⟩ rfl (by decide)) rfl hl.1 (rest := []) rfl (Nat.le_of_ble_eq_true rfl) dX7_batchProblem_53 ⟨Nat.le_of_ble_eq_true rfl, Nat.le_of_ble_eq_true rfl⟩) hS (fun H locs hW hS => ?_)
            have hW := w_unself_sd hW
            have hW : World g ((cs, mt)) H := hW
            refine W.eq (g2 := F0 m 56 ls [.int q2]) rfl ?_
            refine lv_if_ne (tgt := 62) hx hb dX7_batchProblem_56 (by decide) (fun hc => ?_) (fun hc => ?_)
            · have hf := x_iteF hf hc
              obtain ⟨x3, e_x3, hf⟩ := x_letE hf
              refine lv_iinc (v := x3) (lv' := [(2, .int x3), (0, .ref (adr g.1 7 0)), (1, .int a1)]) hx hb dX7_batchProblem_62 hl (k := 2) rfl (by rw [e_x3]; rfl) (by decide) rfl (fun ls hl => ?_)
              refine lv_goto (tgt := 29) hx hb dX7_batchProblem_65 (by decide) ?_
              exact ih (x3) ls _ _ (lv_sub hl [1, 2, 0] rfl) hW hS hf
            · have hf := x_iteT hf hc
              refine lv_ldc (v := -1000008) hx hb hown (hts (.constant RX7 239 (-1000008)) (by decide +kernel)) dX7_batchProblem_59 ?_
              cases hf
              exact x_iret hx hb hr hlocks hK hW hS rfl dX7_batchProblem_61
      exact L29 fuel ((0 : Int32)) ls _ _ (lv_sub hl [1, 2, 0] rfl) hW hS hf
    · have hf := x_iteT hf hc
      refine lv_ldc (v := -1000007) hx hb hown (hts (.constant RX7 137 (-1000007)) (by decide +kernel)) dX7_batchProblem_24 ?_
      cases hf
      exact x_iret hx hb hr hlocks hK hW hS rfl dX7_batchProblem_26
  · have hf := x_iteF hf hc
    refine lv_ldc (v := -1000005) hx hb hown (hts (.constant RX7 73 (-1000005)) (by decide +kernel)) dX7_batchProblem_11 ?_
    cases hf
    exact x_iret hx hb hr hlocks hK hW hS rfl dX7_batchProblem_13
abbrev rm_X7_requestedFile : Room := { frames := 1, cells := 0, slots := 0, locals := 21 }
set_option maxRecDepth 100000 in
set_option maxHeartbeats 4000000 in
theorem ct_X7_requestedFile (l : Launch) (g : GT) (hfl : 1 ≤ gf g) (cs : CT) (mt : MT) (a1 : Int32) {q : Int32} (hf : f_X7_requestedFile (k_xs cs (k_st cs)) a1 = some q) : Met l yX7_requestedFile wsX7_requestedFile rm_X7_requestedFile (cPre g ((cs, mt)) [.ref (adr g.1 7 0), .int a1]) (cQi g q ((cs, mt))) 0 0 (gA g) := by
  have i_4 : ∀ w ∈ u_ws RX4 TX4 18, w ∈ wsX7_requestedFile := by decide +kernel
  have i_7 : ∀ w ∈ u_ws RX7 TX7 9, w ∈ wsX7_requestedFile := by decide +kernel
  refine x_met (by decide) rfl (Nat.le_of_ble_eq_true rfl) ?_
  intro p e s m below meth c hx hb hr hml hts hown hlocks hK hW hS ls hl
  have hown : s.vm.findClass RX7 = some m.cls := hown
  have hl : lv_has ls 2 [(0, .ref (adr g.1 7 0)), (1, .int a1)] := hl
  rw [f_X7_requestedFile] at hf
  refine lv_aload_n hx hb dX7_requestedFile_0 rfl (lv_at hl 0 rfl) ?_
  refine x_get (i := g.1) (k := 7) (j := 0) (t := 3) hx hb hts i_7 hown hK hW ⟨⟨hfl, rfl⟩, by decide⟩ rfl ⟨by decide, by decide, rfl⟩ (hts (.fieldLink RX7 19 "OpticalJukebox" "state" "LOpticalJukebox$State;") (by decide +kernel)) (v := .ref (adr (k_st cs) 4 0)) rfl dX7_requestedFile_1 ?_
  refine lv_iload_n hx hb dX7_requestedFile_4 rfl (lv_at hl 1 rfl) ?_
  obtain ⟨q1, h_q1, hf⟩ := x_bindE hf
  refine x_ci0 (x_rV ⟨hx, hb, hml, hown, hts⟩ (ct_X4_hasRequest l g (cs, mt) (k_st cs) hW.2.2.2.1 (k_xs cs (k_st cs)) (a1) h_q1) (cwV 1 hts gX7_requestedFile_X4_hasRequest rfl rfl rfl (by decide +kernel) ⟨Nat.le_of_ble_eq_true rfl, Nat.le_of_ble_eq_true rfl⟩) hK (w_self_sd hW) hS (x_recv (i := (k_st cs)) (k := 4) (j := 0) hK hW ⟨hW.2.2.2.1, by decide⟩ rfl (by decide)) rfl hl.1 (rest := []) rfl (Nat.le_of_ble_eq_true rfl) dX7_requestedFile_5 ⟨Nat.le_of_ble_eq_true rfl, Nat.le_of_ble_eq_true rfl⟩) hS (fun H locs hW hS => ?_)
  have hW := w_unself_sd hW
  have hW : World g ((cs, mt)) H := hW
  refine W.eq (g2 := F0 m 8 ls [.int q1]) rfl ?_
  refine lv_if_eq (tgt := 23) hx hb dX7_requestedFile_8 (by decide) (fun hc => ?_) (fun hc => ?_)
  · have hf := x_iteT hf hc
    refine lv_ldc (v := -1000001) hx hb hown (hts (.constant RX7 87 (-1000001)) (by decide +kernel)) dX7_requestedFile_23 ?_
    cases hf
    exact x_iret hx hb hr hlocks hK hW hS rfl dX7_requestedFile_25
  · have hf := x_iteF hf hc
    refine lv_aload_n hx hb dX7_requestedFile_11 rfl (lv_at hl 0 rfl) ?_
    refine x_get (i := g.1) (k := 7) (j := 0) (t := 3) hx hb hts i_7 hown hK hW ⟨⟨hfl, rfl⟩, by decide⟩ rfl ⟨by decide, by decide, rfl⟩ (hts (.fieldLink RX7 19 "OpticalJukebox" "state" "LOpticalJukebox$State;") (by decide +kernel)) (v := .ref (adr (k_st cs) 4 0)) rfl dX7_requestedFile_12 ?_
    refine x_get (i := (k_st cs)) (k := 4) (j := 0) (t := 12) hx hb hts i_4 hown hK hW ⟨hW.2.2.2.1, by decide⟩ rfl ⟨by decide, by decide, rfl⟩ (hts (.fieldLink RX7 308 "OpticalJukebox$State" "requests" "[I") (by decide +kernel)) (v := .ref (adr (k_st cs) 15 0)) rfl dX7_requestedFile_15 ?_
    refine lv_iload_n hx hb dX7_requestedFile_18 rfl (lv_at hl 1 rfl) ?_
    obtain ⟨hg2, hf⟩ := x_guardE hf
    refine x_iald (i := (k_st cs)) (k := 15) (j := 0) (f := (k_xs cs (k_st cs)) 15 0) hx hb hK hW ⟨hW.2.2.2.1, by decide⟩ (by decide) (rfl) rfl hg2 dX7_requestedFile_19 ?_
    refine lv_goto (tgt := 25) hx hb dX7_requestedFile_20 (by decide) ?_
    cases hf
    exact x_iret hx hb hr hlocks hK hW hS rfl dX7_requestedFile_25
abbrev rm_X7_nearestHome : Room := { frames := 2, cells := 0, slots := 0, locals := 44 }
set_option maxRecDepth 100000 in
set_option maxHeartbeats 4000000 in
theorem ct_X7_nearestHome (l : Launch) (g : GT) (hfl : 1 ≤ gf g) (cs : CT) (mt : MT) (a1 : Int32) {q : Int32} (hf : f_X7_nearestHome (k_xs cs (k_st cs)) a1 = some q) : Met l yX7_nearestHome wsX7_nearestHome rm_X7_nearestHome (cPre g ((cs, mt)) [.ref (adr g.1 7 0), .int a1]) (cQi g q ((cs, mt))) 0 0 (gA g) := by
  have i_4 : ∀ w ∈ u_ws RX4 TX4 18, w ∈ wsX7_nearestHome := by decide +kernel
  have i_7 : ∀ w ∈ u_ws RX7 TX7 9, w ∈ wsX7_nearestHome := by decide +kernel
  refine x_met (by decide) rfl (Nat.le_of_ble_eq_true rfl) ?_
  intro p e s m below meth c hx hb hr hml hts hown hlocks hK hW hS ls hl
  have hown : s.vm.findClass RX7 = some m.cls := hown
  have hl : lv_has ls 8 [(0, .ref (adr g.1 7 0)), (1, .int a1)] := hl
  rw [f_X7_nearestHome] at hf
  refine lv_aload_n hx hb dX7_nearestHome_0 rfl (lv_at hl 0 rfl) ?_
  refine lv_iload_n hx hb dX7_nearestHome_1 rfl (lv_at hl 1 rfl) ?_
  obtain ⟨q1, h_q1, hf⟩ := x_bindE hf
  refine x_ci0 (x_rV ⟨hx, hb, hml, hown, hts⟩ (ct_X7_mountProblem l g hfl cs mt (a1) h_q1) (cwV 1 hts gX7_nearestHome_X7_mountProblem rfl rfl rfl (by decide +kernel) ⟨Nat.le_of_ble_eq_true rfl, Nat.le_of_ble_eq_true rfl⟩) hK hW hS (x_recv (i := g.1) (k := 7) (j := 0) hK hW ⟨⟨hfl, rfl⟩, by decide⟩ rfl (by decide)) rfl hl.1 (rest := []) rfl (Nat.le_of_ble_eq_true rfl) dX7_nearestHome_2 ⟨Nat.le_of_ble_eq_true rfl, Nat.le_of_ble_eq_true rfl⟩) hS (fun H locs hW hS => ?_)
  have hW : World g ((cs, mt)) H := hW
  refine W.eq (g2 := F0 m 5 ls [.int q1]) rfl ?_
  refine lv_istore_n (lv' := [(2, .int q1), (0, .ref (adr g.1 7 0)), (1, .int a1)]) hx hb dX7_nearestHome_5 rfl hl (by decide) rfl (fun ls hl => ?_)
  refine lv_iload_n hx hb dX7_nearestHome_6 rfl (lv_at hl 0 rfl) ?_
  refine lv_if_eq (tgt := 12) hx hb dX7_nearestHome_7 (by decide) (fun hc => ?_) (fun hc => ?_)
  · have hf := x_iteT hf hc
    refine lv_iconst (v := -1) hx hb dX7_nearestHome_12 (by decide) ?_
    refine lv_istore_n (lv' := [(3, .int (-1 : Int32)), (2, .int q1), (0, .ref (adr g.1 7 0)), (1, .int a1)]) hx hb dX7_nearestHome_13 rfl hl (by decide) rfl (fun ls hl => ?_)
    refine lv_iconst (v := 0) hx hb dX7_nearestHome_14 (by decide) ?_
    refine lv_istore (lv' := [(4, .int (0 : Int32)), (3, .int (-1 : Int32)), (2, .int q1), (0, .ref (adr g.1 7 0)), (1, .int a1)]) hx hb dX7_nearestHome_15 hl (by decide) rfl (fun ls hl => ?_)
    refine lv_iconst (v := 0) hx hb dX7_nearestHome_17 (by decide) ?_
    refine lv_istore (lv' := [(5, .int (0 : Int32)), (4, .int (0 : Int32)), (3, .int (-1 : Int32)), (2, .int q1), (0, .ref (adr g.1 7 0)), (1, .int a1)]) hx hb dX7_nearestHome_18 hl (by decide) rfl (fun ls hl => ?_)
    have L20 : ∀ (n : Nat) (v3_20 : Int32) (v4_20 : Int32) (v5_20 : Int32) (ls : Array Slot) (H : Heap) (locs : List Loc), lv_has ls 8 [(0, .ref (adr g.1 7 0)), (1, .int a1), (2, .int q1), (3, .int v3_20), (4, .int v4_20), (5, .int v5_20)] → World g ((cs, mt)) H → va_S (gA g) s.heap H locs → f_X7_nearestHome_L20 (k_xs cs (k_st cs)) a1 n v3_20 v4_20 v5_20 = some q → W p l e rm_X7_nearestHome s m [.ref (adr g.1 7 0), .int a1].toArray below meth c H locs 0 0 (MQ below (cQi g q ((cs, mt))) [.ref (adr g.1 7 0), .int a1].toArray s 0 0 (gA g)) (F0 m 20 ls []) := by
      clear hW hS hl
      intro n
      induction n with
      | zero => intro v3_20 v4_20 v5_20 ls H locs hl hW hS hf; cases hf
      | succ n_20 ih =>
        intro v3_20 v4_20 v5_20 ls H locs hl hW hS hf
        rw [f_X7_nearestHome_L20] at hf
        refine lv_iload hx hb dX7_nearestHome_20 (lv_at hl 5 rfl) ?_
        refine lv_aload_n hx hb dX7_nearestHome_22 rfl (lv_at hl 0 rfl) ?_
        refine x_get (i := g.1) (k := 7) (j := 0) (t := 3) hx hb hts i_7 hown hK hW ⟨⟨hfl, rfl⟩, by decide⟩ rfl ⟨by decide, by decide, rfl⟩ (hts (.fieldLink RX7 19 "OpticalJukebox" "state" "LOpticalJukebox$State;") (by decide +kernel)) (v := .ref (adr (k_st cs) 4 0)) rfl dX7_nearestHome_23 ?_
        refine x_get (i := (k_st cs)) (k := 4) (j := 0) (t := 0) hx hb hts i_4 hown hK hW ⟨hW.2.2.2.1, by decide⟩ rfl ⟨by decide, by decide, rfl⟩ (hts (.fieldLink RX7 384 "OpticalJukebox$State" "slotCount" "I") (by decide +kernel)) (rfl) dX7_nearestHome_26 ?_
        refine lv_icmp_ge (tgt := 91) hx hb dX7_nearestHome_29 (by decide) (fun hc => ?_) (fun hc => ?_)
        · have hf := x_iteT hf hc
          refine lv_iload_n hx hb dX7_nearestHome_91 rfl (lv_at hl 3 rfl) ?_
          obtain ⟨q2, h_q2, hf⟩ := x_bindE hf
          refine x_ci0 (x_rS ⟨hx, hb, hml, hown, hts⟩ (ct_X7_foundOrNot l g ((cs, mt)) (v3_20) h_q2) (va_cwS 1 hts gX7_nearestHome_X7_foundOrNot rfl rfl rfl (by decide +kernel) ⟨Nat.le_of_ble_eq_true rfl, Nat.le_of_ble_eq_true rfl⟩) hK hW hS rfl hl.1 (rest := []) rfl (Nat.le_of_ble_eq_true rfl) dX7_nearestHome_92 ⟨Nat.le_of_ble_eq_true rfl, Nat.le_of_ble_eq_true rfl⟩) hS (fun H locs hW hS => ?_)
          have hW : World g ((cs, mt)) H := hW
          refine W.eq (g2 := F0 m 95 ls [.int q2]) rfl ?_
          cases hf
          exact x_iret hx hb hr hlocks hK hW hS rfl dX7_nearestHome_95
        · have hf := x_iteF hf hc
          refine lv_aload_n hx hb dX7_nearestHome_32 rfl (lv_at hl 0 rfl) ?_
          refine x_get (i := g.1) (k := 7) (j := 0) (t := 3) hx hb hts i_7 hown hK hW ⟨⟨hfl, rfl⟩, by decide⟩ rfl ⟨by decide, by decide, rfl⟩ (hts (.fieldLink RX7 19 "OpticalJukebox" "state" "LOpticalJukebox$State;") (by decide +kernel)) (v := .ref (adr (k_st cs) 4 0)) rfl dX7_nearestHome_33 ?_
          refine lv_iload hx hb dX7_nearestHome_36 (lv_at hl 5 rfl) ?_
          obtain ⟨q3, h_q3, hf⟩ := x_bindE hf
          refine x_ci0 (x_rV ⟨hx, hb, hml, hown, hts⟩ (ct_X4_platterWithHome l g (cs, mt) (k_st cs) hW.2.2.2.1 (k_xs cs (k_st cs)) (v5_20) h_q3) (cwV 1 hts gX7_nearestHome_X4_platterWithHome rfl rfl rfl (by decide +kernel) ⟨Nat.le_of_ble_eq_true rfl, Nat.le_of_ble_eq_true rfl⟩) hK (w_self_sd hW) hS (x_recv (i := (k_st cs)) (k := 4) (j := 0) hK hW ⟨hW.2.2.2.1, by decide⟩ rfl (by decide)) rfl hl.1 (rest := []) rfl (Nat.le_of_ble_eq_true rfl) dX7_nearestHome_38 ⟨Nat.le_of_ble_eq_true rfl, Nat.le_of_ble_eq_true rfl⟩) hS (fun H locs hW hS => ?_)
          have hW := w_unself_sd hW
          have hW : World g ((cs, mt)) H := hW
          refine W.eq (g2 := F0 m 41 ls [.int q3]) rfl ?_
          refine lv_istore (lv' := [(6, .int q3), (0, .ref (adr g.1 7 0)), (1, .int a1), (2, .int q1), (3, .int v3_20), (4, .int v4_20), (5, .int v5_20)]) hx hb dX7_nearestHome_41 hl (by decide) rfl (fun ls hl => ?_)
          refine lv_aload_n hx hb dX7_nearestHome_43 rfl (lv_at hl 1 rfl) ?_
          refine x_get (i := g.1) (k := 7) (j := 0) (t := 3) hx hb hts i_7 hown hK hW ⟨⟨hfl, rfl⟩, by decide⟩ rfl ⟨by decide, by decide, rfl⟩ (hts (.fieldLink RX7 19 "OpticalJukebox" "state" "LOpticalJukebox$State;") (by decide +kernel)) (v := .ref (adr (k_st cs) 4 0)) rfl dX7_nearestHome_44 ?_
          refine lv_iload hx hb dX7_nearestHome_47 (lv_at hl 6 rfl) ?_
          obtain ⟨q4, h_q4, hf⟩ := x_bindE hf
          refine x_ci0 (x_rV ⟨hx, hb, hml, hown, hts⟩ (ct_X4_distanceToDrive l g (cs, mt) (k_st cs) hW.2.2.2.1 (k_xs cs (k_st cs)) (v5_20) h_q4) (cwV 1 hts gX7_nearestHome_X4_distanceToDrive rfl rfl rfl (by decide +kernel) ⟨Nat.le_of_ble_eq_true rfl, Nat.le_of_ble_eq_true rfl⟩) hK (w_self_sd hW) hS (x_recv (i := (k_st cs)) (k := 4) (j := 0) hK hW ⟨hW.2.2.2.1, by decide⟩ rfl (by decide)) rfl hl.1 (rest := []) rfl (Nat.le_of_ble_eq_true rfl) dX7_nearestHome_49 ⟨Nat.le_of_ble_eq_true rfl, Nat.le_of_ble_eq_true rfl⟩) hS (fun H locs hW hS => ?_)
          have hW := w_unself_sd hW
          have hW : World g ((cs, mt)) H := hW
          refine W.eq (g2 := F0 m 52 ls [.int q4]) rfl ?_
          refine lv_istore (lv' := [(7, .int q4), (6, .int q3), (0, .ref (adr g.1 7 0)), (1, .int a1), (2, .int q1), (3, .int v3_20), (4, .int v4_20), (5, .int v5_20)]) hx hb dX7_nearestHome_52 hl (by decide) rfl (fun ls hl => ?_)
          refine lv_iload hx hb dX7_nearestHome_54 (lv_at hl 1 rfl) ?_
          refine lv_iconst (v := -1) hx hb dX7_nearestHome_56 (by decide) ?_
          obtain ⟨K5, eK5, hf⟩ := x_letE hf
          have KK5 : ∀ (_u : Unit) (ls : Array Slot) (H : Heap) (locs : List Loc), lv_has ls 8 [(0, .ref (adr g.1 7 0)), (1, .int a1), (2, .int q1), (3, .int v3_20), (4, .int v4_20), (5, .int v5_20), (6, .int q3), (7, .int q4)] → World g ((cs, mt)) H → va_S (gA g) s.heap H locs → K5 _u = some q → W p l e rm_X7_nearestHome s m [.ref (adr g.1 7 0), .int a1].toArray below meth c H locs 0 0 (MQ below (cQi g q ((cs, mt))) [.ref (adr g.1 7 0), .int a1].toArray s 0 0 (gA g)) (F0 m 66 ls []) := by
            intro _u ls H locs hl hW hS hf
            subst eK5
            refine lv_iload_n hx hb dX7_nearestHome_66 rfl (lv_at hl 3 rfl) ?_
            refine lv_iconst (v := -1) hx hb dX7_nearestHome_67 (by decide) ?_
            obtain ⟨K6, eK6, hf⟩ := x_letE hf
            have KK6 : ∀ (_u : Unit) (ls : Array Slot) (H : Heap) (locs : List Loc), lv_has ls 8 [(0, .ref (adr g.1 7 0)), (1, .int a1), (2, .int q1), (3, .int v3_20), (4, .int v4_20), (5, .int v5_20), (6, .int q3), (7, .int q4)] → World g ((cs, mt)) H → va_S (gA g) s.heap H locs → K6 _u = some q → W p l e rm_X7_nearestHome s m [.ref (adr g.1 7 0), .int a1].toArray below meth c H locs 0 0 (MQ below (cQi g q ((cs, mt))) [.ref (adr g.1 7 0), .int a1].toArray s 0 0 (gA g)) (F0 m 78 ls []) := by
              intro _u ls H locs hl hW hS hf
              subst eK6
              refine lv_iload hx hb dX7_nearestHome_78 (lv_at hl 5 rfl) ?_
              refine lv_istore_n (lv' := [(3, .int v5_20), (0, .ref (adr g.1 7 0)), (1, .int a1), (2, .int q1), (4, .int v4_20), (5, .int v5_20), (6, .int q3), (7, .int q4)]) hx hb dX7_nearestHome_80 rfl hl (by decide) rfl (fun ls hl => ?_)
              refine lv_iload hx hb dX7_nearestHome_81 (lv_at hl 7 rfl) ?_
              refine lv_istore (lv' := [(4, .int q4), (3, .int v5_20), (0, .ref (adr g.1 7 0)), (1, .int a1), (2, .int q1), (5, .int v5_20), (6, .int q3), (7, .int q4)]) hx hb dX7_nearestHome_83 hl (by decide) rfl (fun ls hl => ?_)
              obtain ⟨x7, e_x7, hf⟩ := x_letE hf
              refine lv_iinc (v := x7) (lv' := [(5, .int x7), (4, .int q4), (3, .int v5_20), (0, .ref (adr g.1 7 0)), (1, .int a1), (2, .int q1), (6, .int q3), (7, .int q4)]) hx hb dX7_nearestHome_85 hl (k := 5) rfl (by rw [e_x7]; rfl) (by decide) rfl (fun ls hl => ?_)
              refine lv_goto (tgt := 20) hx hb dX7_nearestHome_88 (by decide) ?_
              exact ih (v5_20) (q4) (x7) ls _ _ (lv_sub hl [3, 4, 5, 2, 1, 0] rfl) hW hS hf
            clear eK6
            refine lv_icmp_eq (tgt := 78) hx hb dX7_nearestHome_68 (by decide) (fun hc => ?_) (fun hc => ?_)
            · have hf := x_iteT hf hc
              exact KK6 (()) ls _ _ hl hW hS hf
            · have hf := x_iteF hf hc
              refine lv_iload hx hb dX7_nearestHome_71 (lv_at hl 7 rfl) ?_
              refine lv_iload hx hb dX7_nearestHome_73 (lv_at hl 4 rfl) ?_
              refine lv_icmp_ge (tgt := 85) hx hb dX7_nearestHome_75 (by decide) (fun hc => ?_) (fun hc => ?_)
              · have hf := x_iteT hf hc
                obtain ⟨x8, e_x8, hf⟩ := x_letE hf
                refine lv_iinc (v := x8) (lv' := [(5, .int x8), (0, .ref (adr g.1 7 0)), (1, .int a1), (2, .int q1), (3, .int v3_20), (4, .int v4_20), (6, .int q3), (7, .int q4)]) hx hb dX7_nearestHome_85 hl (k := 5) rfl (by rw [e_x8]; rfl) (by decide) rfl (fun ls hl => ?_)
                refine lv_goto (tgt := 20) hx hb dX7_nearestHome_88 (by decide) ?_
                exact ih (v3_20) (v4_20) (x8) ls _ _ (lv_sub hl [1, 2, 3, 4, 5, 0] rfl) hW hS hf
              · have hf := x_iteF hf hc
                exact KK6 (()) ls _ _ hl hW hS hf
          clear eK5
          refine lv_icmp_eq (tgt := 66) hx hb dX7_nearestHome_57 (by decide) (fun hc => ?_) (fun hc => ?_)
          · have hf := x_iteT hf hc
            exact KK5 (()) ls _ _ (lv_sub hl [2, 3, 4, 5, 6, 7, 1, 0] rfl) hW hS hf
          · have hf := x_iteF hf hc
            refine lv_iload hx hb dX7_nearestHome_60 (lv_at hl 1 rfl) ?_
            refine lv_iload_n hx hb dX7_nearestHome_62 rfl (lv_at hl 3 rfl) ?_
            refine lv_icmp_ne (tgt := 85) hx hb dX7_nearestHome_63 (by decide) (fun hc => ?_) (fun hc => ?_)
            · have hf := x_iteF hf hc
              obtain ⟨x9, e_x9, hf⟩ := x_letE hf
              refine lv_iinc (v := x9) (lv' := [(5, .int x9), (7, .int q4), (6, .int q3), (0, .ref (adr g.1 7 0)), (1, .int a1), (2, .int q1), (3, .int v3_20), (4, .int v4_20)]) hx hb dX7_nearestHome_85 hl (k := 7) rfl (by rw [e_x9]; rfl) (by decide) rfl (fun ls hl => ?_)
              refine lv_goto (tgt := 20) hx hb dX7_nearestHome_88 (by decide) ?_
              exact ih (v3_20) (v4_20) (x9) ls _ _ (lv_sub hl [3, 4, 5, 6, 7, 0] rfl) hW hS hf
            · have hf := x_iteT hf hc
              exact KK5 (()) ls _ _ (lv_sub hl [2, 3, 4, 5, 6, 7, 1, 0] rfl) hW hS hf
    exact L20 fuel ((-1 : Int32)) ((0 : Int32)) ((0 : Int32)) ls _ _ (lv_sub hl [4, 5, 3, 2, 1, 0] rfl) hW hS hf
  · have hf := x_iteF hf hc
    refine lv_iload_n hx hb dX7_nearestHome_10 rfl (lv_at hl 0 rfl) ?_
    cases hf
    exact x_iret hx hb hr hlocks hK hW hS rfl dX7_nearestHome_11
abbrev rm_X7_putByte : Room := { frames := 0, cells := 0, slots := 0, locals := 0 }
set_option maxRecDepth 100000 in
set_option maxHeartbeats 4000000 in
theorem ct_X7_putByte (l : Launch) (g : GT) (hfl : 1 ≤ gf g) (cs : CT) (mt : MT) (a1 : Int32) {q : SD} (hf : f_X7_putByte (k_jd cs) a1 = some q) : Met l yX7_putByte wsX7_putByte rm_X7_putByte (cPre g ((cs, mt)) [.ref (adr g.1 7 0), .int a1]) (cQv g (((kJ cs q), mt))) 0 0 (gA g) := by
  have i_7 : ∀ w ∈ u_ws RX7 TX7 9, w ∈ wsX7_putByte := by decide +kernel
  refine x_met (by decide) rfl (Nat.le_of_ble_eq_true rfl) ?_
  intro p e s m below meth c hx hb hr hml hts hown hlocks hK hW hS ls hl
  have hown : s.vm.findClass RX7 = some m.cls := hown
  have hl : lv_has ls 2 [(0, .ref (adr g.1 7 0)), (1, .int a1)] := hl
  rw [f_X7_putByte] at hf
  refine lv_aload_n hx hb dX7_putByte_0 rfl (lv_at hl 0 rfl) ?_
  refine x_get (i := g.1) (k := 7) (j := 0) (t := 8) hx hb hts i_7 hown hK hW ⟨⟨hfl, rfl⟩, by decide⟩ rfl ⟨by decide, by decide, rfl⟩ (hts (.fieldLink RX7 390 "OpticalJukebox" "outputLength" "I") (by decide +kernel)) (rfl) dX7_putByte_1 ?_
  refine lv_sipush (v := 280) hx hb dX7_putByte_4 (by decide) ?_
  refine lv_icmp_ge (tgt := 31) hx hb dX7_putByte_7 (by decide) (fun hc => ?_) (fun hc => ?_)
  · have hf := x_iteT hf hc
    cases hf
    exact x_vret hx hb hr hlocks hK hW hS dX7_putByte_31
  · have hf := x_iteF hf hc
    refine lv_aload_n hx hb dX7_putByte_10 rfl (lv_at hl 0 rfl) ?_
    refine x_get (i := g.1) (k := 7) (j := 0) (t := 7) hx hb hts i_7 hown hK hW ⟨⟨hfl, rfl⟩, by decide⟩ rfl ⟨by decide, by decide, rfl⟩ (hts (.fieldLink RX7 33 "OpticalJukebox" "output" "[B") (by decide +kernel)) (v := .ref (adr g.1 26 0)) rfl dX7_putByte_11 ?_
    refine lv_aload_n hx hb dX7_putByte_14 rfl (lv_at hl 0 rfl) ?_
    refine x_get (i := g.1) (k := 7) (j := 0) (t := 8) hx hb hts i_7 hown hK hW ⟨⟨hfl, rfl⟩, by decide⟩ rfl ⟨by decide, by decide, rfl⟩ (hts (.fieldLink RX7 390 "OpticalJukebox" "outputLength" "I") (by decide +kernel)) (rfl) dX7_putByte_15 ?_
    refine lv_iload_n hx hb dX7_putByte_18 rfl (lv_at hl 1 rfl) ?_
    refine lv_i2b hx hb dX7_putByte_19 rfl ?_
    obtain ⟨hg1, hf⟩ := x_guardE hf
    obtain ⟨jd2, e_jd2, hf⟩ := x_letE hf
    refine x_bast (i := g.1) (k := 26) (j := 0) (w' := ((kJ cs jd2), mt)) hx hb hK hW ⟨⟨hfl, rfl⟩, by decide⟩ hS (by decide) rfl rfl rfl hg1 dX7_putByte_20 (fp_J (w := (cs, mt)) e_jd2 rfl) (fun H locs hW hS => ?_)
    refine lv_aload_n hx hb dX7_putByte_21 rfl (lv_at hl 0 rfl) ?_
    refine lv_dup hx hb dX7_putByte_22 rfl ?_
    refine x_get (i := g.1) (k := 7) (j := 0) (t := 8) hx hb hts i_7 hown hK hW ⟨⟨hfl, rfl⟩, by decide⟩ rfl ⟨by decide, by decide, rfl⟩ (hts (.fieldLink RX7 390 "OpticalJukebox" "outputLength" "I") (by decide +kernel)) (rfl) dX7_putByte_23 ?_
    refine lv_iconst (v := 1) hx hb dX7_putByte_26 (by decide) ?_
    refine lv_iadd hx hb dX7_putByte_27 ?_
    obtain ⟨jd3, e_jd3, hf⟩ := x_letE hf
    refine x_put (i := g.1) (k := 7) (j := 0) (t := 8) (w' := ((kJ cs jd3), mt)) hx hb hts i_7 tyX7 tyX7_ok nmX7 hown hK hW ⟨⟨hfl, rfl⟩, by decide⟩ hS rfl ⟨by decide, by decide, rfl⟩ (hts (.fieldLink RX7 390 "OpticalJukebox" "outputLength" "I") (by decide +kernel)) rfl (ty := .int) (by decide +kernel) rfl rfl ⟨rfl, rfl⟩ dX7_putByte_28 (fp_J (w := (cs, mt)) e_jd3 rfl) (fun H locs hW hS => ?_)
    cases hf
    exact x_vret hx hb hr hlocks hK hW hS dX7_putByte_31
abbrev rm_X7_putNumber : Room := { frames := 1, cells := 0, slots := 0, locals := 21 }
set_option maxRecDepth 100000 in
set_option maxHeartbeats 4000000 in
theorem ct_X7_putNumber (l : Launch) (g : GT) (hfl : 1 ≤ gf g) (cs : CT) (mt : MT) (a1 : Int32) {q : SD} (hf : f_X7_putNumber (k_jd cs) a1 = some q) : Met l yX7_putNumber wsX7_putNumber rm_X7_putNumber (cPre g ((cs, mt)) [.ref (adr g.1 7 0), .int a1]) (cQv g (((kJ cs q), mt))) 0 0 (gA g) := by
  refine x_met (by decide) rfl (Nat.le_of_ble_eq_true rfl) ?_
  intro p e s m below meth c hx hb hr hml hts hown hlocks hK hW hS ls hl
  have hown : s.vm.findClass RX7 = some m.cls := hown
  have hl : lv_has ls 2 [(0, .ref (adr g.1 7 0)), (1, .int a1)] := hl
  rw [f_X7_putNumber] at hf
  refine lv_iload_n hx hb dX7_putNumber_0 rfl (lv_at hl 1 rfl) ?_
  refine lv_bipush (v := 100) hx hb dX7_putNumber_1 (by decide) ?_
  obtain ⟨K1, eK1, hf⟩ := x_letE hf
  have KK1 : ∀ (jd2 : SD) (ls : Array Slot) (H : Heap) (locs : List Loc), lv_has ls 2 [(0, .ref (adr g.1 7 0)), (1, .int a1)] → World g (((kJ cs jd2), mt)) H → va_S (gA g) s.heap H locs → K1 jd2 = some q → W p l e rm_X7_putNumber s m [.ref (adr g.1 7 0), .int a1].toArray below meth c H locs 0 0 (MQ below (cQv g (((kJ cs q), mt))) [.ref (adr g.1 7 0), .int a1].toArray s 0 0 (gA g)) (F0 m 20 ls []) := by
    intro jd2 ls H locs hl hW hS hf
    subst eK1
    refine lv_iload_n hx hb dX7_putNumber_20 rfl (lv_at hl 1 rfl) ?_
    refine lv_bipush (v := 10) hx hb dX7_putNumber_21 (by decide) ?_
    obtain ⟨K3, eK3, hf⟩ := x_letE hf
    have KK3 : ∀ (jd4 : SD) (ls : Array Slot) (H : Heap) (locs : List Loc), lv_has ls 2 [(0, .ref (adr g.1 7 0)), (1, .int a1)] → World g (((kJ cs jd4), mt)) H → va_S (gA g) s.heap H locs → K3 jd4 = some q → W p l e rm_X7_putNumber s m [.ref (adr g.1 7 0), .int a1].toArray below meth c H locs 0 0 (MQ below (cQv g (((kJ cs q), mt))) [.ref (adr g.1 7 0), .int a1].toArray s 0 0 (gA g)) (F0 m 40 ls []) := by
      intro jd4 ls H locs hl hW hS hf
      subst eK3
      refine lv_aload_n hx hb dX7_putNumber_40 rfl (lv_at hl 0 rfl) ?_
      refine lv_bipush (v := 48) hx hb dX7_putNumber_41 (by decide) ?_
      refine lv_iload_n hx hb dX7_putNumber_43 rfl (lv_at hl 1 rfl) ?_
      refine lv_bipush (v := 10) hx hb dX7_putNumber_44 (by decide) ?_
      refine lv_irem hx hb dX7_putNumber_46 (by decide) ?_
      refine lv_iadd hx hb dX7_putNumber_47 ?_
      obtain ⟨q5, h_q5, hf⟩ := x_bindE hf
      refine x_cv0 (x_rV ⟨hx, hb, hml, hown, hts⟩ (ct_X7_putByte l g hfl (kJ cs jd4) mt (((48 : Int32) + (a1 - a1 / (10 : Int32) * (10 : Int32)))) h_q5) (cwV 1 hts gX7_putNumber_X7_putByte rfl rfl rfl (by decide +kernel) ⟨Nat.le_of_ble_eq_true rfl, Nat.le_of_ble_eq_true rfl⟩) hK hW hS (x_recv (i := g.1) (k := 7) (j := 0) hK hW ⟨⟨hfl, rfl⟩, by decide⟩ rfl (by decide)) rfl hl.1 (rest := []) rfl (Nat.le_of_ble_eq_true rfl) dX7_putNumber_48 ⟨Nat.le_of_ble_eq_true rfl, Nat.le_of_ble_eq_true rfl⟩) hS (fun H locs hW hS => ?_)
      have hW : World g (((kJ cs q5), mt)) H := hW
      cases hf
      exact x_vret hx hb hr hlocks hK hW hS dX7_putNumber_51
    clear eK3
    refine lv_icmp_lt (tgt := 40) hx hb dX7_putNumber_23 (by decide) (fun hc => ?_) (fun hc => ?_)
    · have hf := x_iteT hf hc
      exact KK3 (jd2) ls _ _ hl hW hS hf
    · have hf := x_iteF hf hc
      refine lv_aload_n hx hb dX7_putNumber_26 rfl (lv_at hl 0 rfl) ?_
      refine lv_bipush (v := 48) hx hb dX7_putNumber_27 (by decide) ?_
      refine lv_iload_n hx hb dX7_putNumber_29 rfl (lv_at hl 1 rfl) ?_
      refine lv_bipush (v := 10) hx hb dX7_putNumber_30 (by decide) ?_
      refine lv_idiv hx hb dX7_putNumber_32 (by decide) ?_
      refine lv_bipush (v := 10) hx hb dX7_putNumber_33 (by decide) ?_
      refine lv_irem hx hb dX7_putNumber_35 (by decide) ?_
      refine lv_iadd hx hb dX7_putNumber_36 ?_
      obtain ⟨q6, h_q6, hf⟩ := x_bindE hf
      refine x_cv0 (x_rV ⟨hx, hb, hml, hown, hts⟩ (ct_X7_putByte l g hfl (kJ cs jd2) mt (((48 : Int32) + ((a1 / (10 : Int32)) - (a1 / (10 : Int32)) / (10 : Int32) * (10 : Int32)))) h_q6) (cwV 1 hts gX7_putNumber_X7_putByte rfl rfl rfl (by decide +kernel) ⟨Nat.le_of_ble_eq_true rfl, Nat.le_of_ble_eq_true rfl⟩) hK hW hS (x_recv (i := g.1) (k := 7) (j := 0) hK hW ⟨⟨hfl, rfl⟩, by decide⟩ rfl (by decide)) rfl hl.1 (rest := []) rfl (Nat.le_of_ble_eq_true rfl) dX7_putNumber_37 ⟨Nat.le_of_ble_eq_true rfl, Nat.le_of_ble_eq_true rfl⟩) hS (fun H locs hW hS => ?_)
      have hW : World g (((kJ cs q6), mt)) H := hW
      exact KK3 (q6) ls _ _ hl hW hS hf
  clear eK1
  refine lv_icmp_lt (tgt := 20) hx hb dX7_putNumber_3 (by decide) (fun hc => ?_) (fun hc => ?_)
  · have hf := x_iteT hf hc
    exact KK1 ((k_jd cs)) ls _ _ hl (w_self_jd hW) hS hf
  · have hf := x_iteF hf hc
    refine lv_aload_n hx hb dX7_putNumber_6 rfl (lv_at hl 0 rfl) ?_
    refine lv_bipush (v := 48) hx hb dX7_putNumber_7 (by decide) ?_
    refine lv_iload_n hx hb dX7_putNumber_9 rfl (lv_at hl 1 rfl) ?_
    refine lv_bipush (v := 100) hx hb dX7_putNumber_10 (by decide) ?_
    refine lv_idiv hx hb dX7_putNumber_12 (by decide) ?_
    refine lv_bipush (v := 10) hx hb dX7_putNumber_13 (by decide) ?_
    refine lv_irem hx hb dX7_putNumber_15 (by decide) ?_
    refine lv_iadd hx hb dX7_putNumber_16 ?_
    obtain ⟨q7, h_q7, hf⟩ := x_bindE hf
    refine x_cv0 (x_rV ⟨hx, hb, hml, hown, hts⟩ (ct_X7_putByte l g hfl cs mt (((48 : Int32) + ((a1 / (100 : Int32)) - (a1 / (100 : Int32)) / (10 : Int32) * (10 : Int32)))) h_q7) (cwV 1 hts gX7_putNumber_X7_putByte rfl rfl rfl (by decide +kernel) ⟨Nat.le_of_ble_eq_true rfl, Nat.le_of_ble_eq_true rfl⟩) hK hW hS (x_recv (i := g.1) (k := 7) (j := 0) hK hW ⟨⟨hfl, rfl⟩, by decide⟩ rfl (by decide)) rfl hl.1 (rest := []) rfl (Nat.le_of_ble_eq_true rfl) dX7_putNumber_17 ⟨Nat.le_of_ble_eq_true rfl, Nat.le_of_ble_eq_true rfl⟩) hS (fun H locs hW hS => ?_)
    have hW : World g (((kJ cs q7), mt)) H := hW
    exact KK1 (q7) ls _ _ hl hW hS hf
abbrev rm_X7_writeCatalogue : Room := { frames := 3, cells := 0, slots := 0, locals := 63 }
set_option maxRecDepth 100000 in
set_option maxHeartbeats 4000000 in
theorem ct_X7_writeCatalogue (l : Launch) (g : GT) (hfl : 1 ≤ gf g) (cs : CT) (mt : MT) {q : (Int32 × SD)} (hf : f_X7_writeCatalogue (k_xs cs (k_st cs)) (k_jd cs)  = some q) : Met l yX7_writeCatalogue wsX7_writeCatalogue rm_X7_writeCatalogue (cPre g ((cs, mt)) [.ref (adr g.1 7 0)]) (cQi g q.1 (((kJ cs q.2), mt))) 0 0 (gA g) := by
  have i_4 : ∀ w ∈ u_ws RX4 TX4 18, w ∈ wsX7_writeCatalogue := by decide +kernel
  have i_6 : ∀ w ∈ u_ws RX6 TX6 7, w ∈ wsX7_writeCatalogue := by decide +kernel
  have i_7 : ∀ w ∈ u_ws RX7 TX7 9, w ∈ wsX7_writeCatalogue := by decide +kernel
  refine x_met (by decide) rfl (Nat.le_of_ble_eq_true rfl) ?_
  intro p e s m below meth c hx hb hr hml hts hown hlocks hK hW hS ls hl
  have hown : s.vm.findClass RX7 = some m.cls := hown
  have hl : lv_has ls 3 [(0, .ref (adr g.1 7 0))] := hl
  rw [f_X7_writeCatalogue] at hf
  refine lv_aload_n hx hb dX7_writeCatalogue_0 rfl (lv_at hl 0 rfl) ?_
  refine lv_iconst (v := 0) hx hb dX7_writeCatalogue_1 (by decide) ?_
  obtain ⟨jd1, e_jd1, hf⟩ := x_letE hf
  refine x_put (i := g.1) (k := 7) (j := 0) (t := 8) (w' := ((kJ cs jd1), mt)) hx hb hts i_7 tyX7 tyX7_ok nmX7 hown hK hW ⟨⟨hfl, rfl⟩, by decide⟩ hS rfl ⟨by decide, by decide, rfl⟩ (hts (.fieldLink RX7 390 "OpticalJukebox" "outputLength" "I") (by decide +kernel)) rfl (ty := .int) (by decide +kernel) rfl rfl ⟨rfl, rfl⟩ dX7_writeCatalogue_2 (fp_J (w := (cs, mt)) e_jd1 rfl) (fun H locs hW hS => ?_)
  refine lv_iconst (v := 0) hx hb dX7_writeCatalogue_5 (by decide) ?_
  refine lv_istore_n (lv' := [(1, .int (0 : Int32)), (0, .ref (adr g.1 7 0))]) hx hb dX7_writeCatalogue_6 rfl hl (by decide) rfl (fun ls hl => ?_)
  have L7 : ∀ (n : Nat) (v1_7 : Int32) (jd_7 : SD) (ls : Array Slot) (H : Heap) (locs : List Loc), lv_has ls 3 [(0, .ref (adr g.1 7 0)), (1, .int v1_7)] → World g (((kJ cs jd_7), mt)) H → va_S (gA g) s.heap H locs → f_X7_writeCatalogue_L7 (k_xs cs (k_st cs)) n v1_7 jd_7 = some q → W p l e rm_X7_writeCatalogue s m [.ref (adr g.1 7 0)].toArray below meth c H locs 0 0 (MQ below (cQi g q.1 (((kJ cs q.2), mt))) [.ref (adr g.1 7 0)].toArray s 0 0 (gA g)) (F0 m 7 ls []) := by
    clear hW hS hl
    intro n
    induction n with
    | zero => intro v1_7 jd_7 ls H locs hl hW hS hf; cases hf
    | succ n_7 ih =>
      intro v1_7 jd_7 ls H locs hl hW hS hf
      rw [f_X7_writeCatalogue_L7] at hf
      refine lv_iload_n hx hb dX7_writeCatalogue_7 rfl (lv_at hl 1 rfl) ?_
      refine lv_aload_n hx hb dX7_writeCatalogue_8 rfl (lv_at hl 0 rfl) ?_
      refine x_get (i := g.1) (k := 7) (j := 0) (t := 3) hx hb hts i_7 hown hK hW ⟨⟨hfl, rfl⟩, by decide⟩ rfl ⟨by decide, by decide, rfl⟩ (hts (.fieldLink RX7 19 "OpticalJukebox" "state" "LOpticalJukebox$State;") (by decide +kernel)) (v := .ref (adr (k_st cs) 4 0)) rfl dX7_writeCatalogue_9 ?_
      refine x_get (i := (k_st cs)) (k := 4) (j := 0) (t := 11) hx hb hts i_4 hown hK hW ⟨hW.2.2.2.1, by decide⟩ rfl ⟨by decide, by decide, rfl⟩ (hts (.fieldLink RX7 70 "OpticalJukebox$State" "fileCount" "I") (by decide +kernel)) (rfl) dX7_writeCatalogue_12 ?_
      refine lv_icmp_ge (tgt := 103) hx hb dX7_writeCatalogue_15 (by decide) (fun hc => ?_) (fun hc => ?_)
      · have hf := x_iteT hf hc
        refine lv_aload_n hx hb dX7_writeCatalogue_103 rfl (lv_at hl 0 rfl) ?_
        refine x_get (i := g.1) (k := 7) (j := 0) (t := 8) hx hb hts i_7 hown hK hW ⟨⟨hfl, rfl⟩, by decide⟩ rfl ⟨by decide, by decide, rfl⟩ (hts (.fieldLink RX7 390 "OpticalJukebox" "outputLength" "I") (by decide +kernel)) (rfl) dX7_writeCatalogue_104 ?_
        cases hf
        exact x_iret hx hb hr hlocks hK hW hS rfl dX7_writeCatalogue_107
      · have hf := x_iteF hf hc
        refine lv_aload_n hx hb dX7_writeCatalogue_18 rfl (lv_at hl 0 rfl) ?_
        refine x_get (i := g.1) (k := 7) (j := 0) (t := 3) hx hb hts i_7 hown hK hW ⟨⟨hfl, rfl⟩, by decide⟩ rfl ⟨by decide, by decide, rfl⟩ (hts (.fieldLink RX7 19 "OpticalJukebox" "state" "LOpticalJukebox$State;") (by decide +kernel)) (v := .ref (adr (k_st cs) 4 0)) rfl dX7_writeCatalogue_19 ?_
        refine lv_iload_n hx hb dX7_writeCatalogue_22 rfl (lv_at hl 1 rfl) ?_
        obtain ⟨q2, h_q2, hf⟩ := x_bindE hf
        refine x_cr0 (x_rV ⟨hx, hb, hml, hown, hts⟩ (ct_X4_currentVersion l g ((kJ cs jd_7), mt) (k_st cs) hW.2.2.2.1 (k_xs cs (k_st cs)) (v1_7) h_q2) (cwV 1 hts gX7_writeCatalogue_X4_currentVersion rfl rfl rfl (by decide +kernel) ⟨Nat.le_of_ble_eq_true rfl, Nat.le_of_ble_eq_true rfl⟩) hK (w_self_sd hW) hS (x_recv (i := (k_st cs)) (k := 4) (j := 0) hK hW ⟨hW.2.2.2.1, by decide⟩ rfl (by decide)) rfl hl.1 (rest := []) rfl (Nat.le_of_ble_eq_true rfl) dX7_writeCatalogue_23 ⟨Nat.le_of_ble_eq_true rfl, Nat.le_of_ble_eq_true rfl⟩) hS (fun H locs hW hS => ?_)
        have hW := w_unself_sd hW
        have hW : World g (((kJ cs jd_7), mt)) H := hW
        refine W.eq (g2 := F0 m 26 ls [.ref (adr (k_st cs) 6 q2)]) rfl ?_
        refine lv_astore_n (lv' := [(2, .ref (adr (k_st cs) 6 q2)), (0, .ref (adr g.1 7 0)), (1, .int v1_7)]) hx hb dX7_writeCatalogue_26 rfl hl (by decide) rfl (fun ls hl => ?_)
        refine lv_aload_n hx hb dX7_writeCatalogue_27 rfl (lv_at hl 1 rfl) ?_
        refine lv_iload_n hx hb dX7_writeCatalogue_28 rfl (lv_at hl 2 rfl) ?_
        obtain ⟨q3, h_q3, hf⟩ := x_bindE hf
        refine x_cv0 (x_rV ⟨hx, hb, hml, hown, hts⟩ (ct_X7_putNumber l g hfl (kJ cs jd_7) mt (v1_7) h_q3) (cwV 1 hts gX7_writeCatalogue_X7_putNumber rfl rfl rfl (by decide +kernel) ⟨Nat.le_of_ble_eq_true rfl, Nat.le_of_ble_eq_true rfl⟩) hK hW hS (x_recv (i := g.1) (k := 7) (j := 0) hK hW ⟨⟨hfl, rfl⟩, by decide⟩ rfl (by decide)) rfl hl.1 (rest := []) rfl (Nat.le_of_ble_eq_true rfl) dX7_writeCatalogue_29 ⟨Nat.le_of_ble_eq_true rfl, Nat.le_of_ble_eq_true rfl⟩) hS (fun H locs hW hS => ?_)
        have hW : World g (((kJ cs q3), mt)) H := hW
        refine lv_aload_n hx hb dX7_writeCatalogue_32 rfl (lv_at hl 1 rfl) ?_
        refine lv_bipush (v := 58) hx hb dX7_writeCatalogue_33 (by decide) ?_
        obtain ⟨q4, h_q4, hf⟩ := x_bindE hf
        refine x_cv0 (x_rV ⟨hx, hb, hml, hown, hts⟩ (ct_X7_putByte l g hfl (kJ cs q3) mt ((58 : Int32)) h_q4) (cwV 1 hts gX7_writeCatalogue_X7_putByte rfl rfl rfl (by decide +kernel) ⟨Nat.le_of_ble_eq_true rfl, Nat.le_of_ble_eq_true rfl⟩) hK hW hS (x_recv (i := g.1) (k := 7) (j := 0) hK hW ⟨⟨hfl, rfl⟩, by decide⟩ rfl (by decide)) rfl hl.1 (rest := []) rfl (Nat.le_of_ble_eq_true rfl) dX7_writeCatalogue_35 ⟨Nat.le_of_ble_eq_true rfl, Nat.le_of_ble_eq_true rfl⟩) hS (fun H locs hW hS => ?_)
        have hW : World g (((kJ cs q4), mt)) H := hW
        refine lv_aload_n hx hb dX7_writeCatalogue_38 rfl (lv_at hl 1 rfl) ?_
        refine lv_aload_n hx hb dX7_writeCatalogue_39 rfl (lv_at hl 0 rfl) ?_
        refine x_get (i := (k_st cs)) (k := 6) (j := q2) (t := 1) hx hb hts i_6 hown hK hW ⟨hW.2.2.2.1, (b_X4_currentVersion h_q2)⟩ rfl ⟨by decide, by decide, rfl⟩ (hts (.fieldLink RX7 211 "OpticalJukebox$Version" "platter" "I") (by decide +kernel)) (rfl) dX7_writeCatalogue_40 ?_
        obtain ⟨q5, h_q5, hf⟩ := x_bindE hf
        refine x_cv0 (x_rV ⟨hx, hb, hml, hown, hts⟩ (ct_X7_putNumber l g hfl (kJ cs q4) mt (((k_xs cs (k_st cs)) 6 q2 1)) h_q5) (cwV 1 hts gX7_writeCatalogue_X7_putNumber rfl rfl rfl (by decide +kernel) ⟨Nat.le_of_ble_eq_true rfl, Nat.le_of_ble_eq_true rfl⟩) hK hW hS (x_recv (i := g.1) (k := 7) (j := 0) hK hW ⟨⟨hfl, rfl⟩, by decide⟩ rfl (by decide)) rfl hl.1 (rest := []) rfl (Nat.le_of_ble_eq_true rfl) dX7_writeCatalogue_43 ⟨Nat.le_of_ble_eq_true rfl, Nat.le_of_ble_eq_true rfl⟩) hS (fun H locs hW hS => ?_)
        have hW : World g (((kJ cs q5), mt)) H := hW
        refine lv_aload_n hx hb dX7_writeCatalogue_46 rfl (lv_at hl 1 rfl) ?_
        refine lv_bipush (v := 44) hx hb dX7_writeCatalogue_47 (by decide) ?_
        obtain ⟨q6, h_q6, hf⟩ := x_bindE hf
        refine x_cv0 (x_rV ⟨hx, hb, hml, hown, hts⟩ (ct_X7_putByte l g hfl (kJ cs q5) mt ((44 : Int32)) h_q6) (cwV 1 hts gX7_writeCatalogue_X7_putByte rfl rfl rfl (by decide +kernel) ⟨Nat.le_of_ble_eq_true rfl, Nat.le_of_ble_eq_true rfl⟩) hK hW hS (x_recv (i := g.1) (k := 7) (j := 0) hK hW ⟨⟨hfl, rfl⟩, by decide⟩ rfl (by decide)) rfl hl.1 (rest := []) rfl (Nat.le_of_ble_eq_true rfl) dX7_writeCatalogue_49 ⟨Nat.le_of_ble_eq_true rfl, Nat.le_of_ble_eq_true rfl⟩) hS (fun H locs hW hS => ?_)
        have hW : World g (((kJ cs q6), mt)) H := hW
        refine lv_aload_n hx hb dX7_writeCatalogue_52 rfl (lv_at hl 1 rfl) ?_
        refine lv_aload_n hx hb dX7_writeCatalogue_53 rfl (lv_at hl 0 rfl) ?_
        refine x_get (i := (k_st cs)) (k := 6) (j := q2) (t := 2) hx hb hts i_6 hown hK hW ⟨hW.2.2.2.1, (b_X4_currentVersion h_q2)⟩ rfl ⟨by decide, by decide, rfl⟩ (hts (.fieldLink RX7 214 "OpticalJukebox$Version" "start" "I") (by decide +kernel)) (rfl) dX7_writeCatalogue_54 ?_
        obtain ⟨q7, h_q7, hf⟩ := x_bindE hf
        refine x_cv0 (x_rV ⟨hx, hb, hml, hown, hts⟩ (ct_X7_putNumber l g hfl (kJ cs q6) mt (((k_xs cs (k_st cs)) 6 q2 2)) h_q7) (cwV 1 hts gX7_writeCatalogue_X7_putNumber rfl rfl rfl (by decide +kernel) ⟨Nat.le_of_ble_eq_true rfl, Nat.le_of_ble_eq_true rfl⟩) hK hW hS (x_recv (i := g.1) (k := 7) (j := 0) hK hW ⟨⟨hfl, rfl⟩, by decide⟩ rfl (by decide)) rfl hl.1 (rest := []) rfl (Nat.le_of_ble_eq_true rfl) dX7_writeCatalogue_57 ⟨Nat.le_of_ble_eq_true rfl, Nat.le_of_ble_eq_true rfl⟩) hS (fun H locs hW hS => ?_)
        have hW : World g (((kJ cs q7), mt)) H := hW
        refine lv_aload_n hx hb dX7_writeCatalogue_60 rfl (lv_at hl 1 rfl) ?_
        refine lv_bipush (v := 44) hx hb dX7_writeCatalogue_61 (by decide) ?_
        obtain ⟨q8, h_q8, hf⟩ := x_bindE hf
        refine x_cv0 (x_rV ⟨hx, hb, hml, hown, hts⟩ (ct_X7_putByte l g hfl (kJ cs q7) mt ((44 : Int32)) h_q8) (cwV 1 hts gX7_writeCatalogue_X7_putByte rfl rfl rfl (by decide +kernel) ⟨Nat.le_of_ble_eq_true rfl, Nat.le_of_ble_eq_true rfl⟩) hK hW hS (x_recv (i := g.1) (k := 7) (j := 0) hK hW ⟨⟨hfl, rfl⟩, by decide⟩ rfl (by decide)) rfl hl.1 (rest := []) rfl (Nat.le_of_ble_eq_true rfl) dX7_writeCatalogue_63 ⟨Nat.le_of_ble_eq_true rfl, Nat.le_of_ble_eq_true rfl⟩) hS (fun H locs hW hS => ?_)
        have hW : World g (((kJ cs q8), mt)) H := hW
        refine lv_aload_n hx hb dX7_writeCatalogue_66 rfl (lv_at hl 1 rfl) ?_
        refine lv_aload_n hx hb dX7_writeCatalogue_67 rfl (lv_at hl 0 rfl) ?_
        refine x_get (i := (k_st cs)) (k := 6) (j := q2) (t := 3) hx hb hts i_6 hown hK hW ⟨hW.2.2.2.1, (b_X4_currentVersion h_q2)⟩ rfl ⟨by decide, by decide, rfl⟩ (hts (.fieldLink RX7 217 "OpticalJukebox$Version" "size" "I") (by decide +kernel)) (rfl) dX7_writeCatalogue_68 ?_
        obtain ⟨q9, h_q9, hf⟩ := x_bindE hf
        refine x_cv0 (x_rV ⟨hx, hb, hml, hown, hts⟩ (ct_X7_putNumber l g hfl (kJ cs q8) mt (((k_xs cs (k_st cs)) 6 q2 3)) h_q9) (cwV 1 hts gX7_writeCatalogue_X7_putNumber rfl rfl rfl (by decide +kernel) ⟨Nat.le_of_ble_eq_true rfl, Nat.le_of_ble_eq_true rfl⟩) hK hW hS (x_recv (i := g.1) (k := 7) (j := 0) hK hW ⟨⟨hfl, rfl⟩, by decide⟩ rfl (by decide)) rfl hl.1 (rest := []) rfl (Nat.le_of_ble_eq_true rfl) dX7_writeCatalogue_71 ⟨Nat.le_of_ble_eq_true rfl, Nat.le_of_ble_eq_true rfl⟩) hS (fun H locs hW hS => ?_)
        have hW : World g (((kJ cs q9), mt)) H := hW
        refine lv_aload_n hx hb dX7_writeCatalogue_74 rfl (lv_at hl 1 rfl) ?_
        refine x_get (i := g.1) (k := 7) (j := 0) (t := 3) hx hb hts i_7 hown hK hW ⟨⟨hfl, rfl⟩, by decide⟩ rfl ⟨by decide, by decide, rfl⟩ (hts (.fieldLink RX7 19 "OpticalJukebox" "state" "LOpticalJukebox$State;") (by decide +kernel)) (v := .ref (adr (k_st cs) 4 0)) rfl dX7_writeCatalogue_75 ?_
        refine lv_iload_n hx hb dX7_writeCatalogue_78 rfl (lv_at hl 2 rfl) ?_
        obtain ⟨q10, h_q10, hf⟩ := x_bindE hf
        refine x_ci0 (x_rV ⟨hx, hb, hml, hown, hts⟩ (ct_X4_isReadable l g ((kJ cs q9), mt) (k_st cs) hW.2.2.2.1 (k_xs cs (k_st cs)) (v1_7) h_q10) (cwV 1 hts gX7_writeCatalogue_X4_isReadable rfl rfl rfl (by decide +kernel) ⟨Nat.le_of_ble_eq_true rfl, Nat.le_of_ble_eq_true rfl⟩) hK (w_self_sd hW) hS (x_recv (i := (k_st cs)) (k := 4) (j := 0) hK hW ⟨hW.2.2.2.1, by decide⟩ rfl (by decide)) rfl hl.1 (rest := []) rfl (Nat.le_of_ble_eq_true rfl) dX7_writeCatalogue_79 ⟨Nat.le_of_ble_eq_true rfl, Nat.le_of_ble_eq_true rfl⟩) hS (fun H locs hW hS => ?_)
        have hW := w_unself_sd hW
        have hW : World g (((kJ cs q9), mt)) H := hW
        refine W.eq (g2 := F0 m 82 ls [.int q10]) rfl ?_
        obtain ⟨K11, eK11, hf⟩ := x_letE hf
        have KK11 : ∀ (jd12 : SD) (ls : Array Slot) (H : Heap) (locs : List Loc), lv_has ls 3 [(0, .ref (adr g.1 7 0)), (1, .int v1_7), (2, .ref (adr (k_st cs) 6 q2))] → World g (((kJ cs jd12), mt)) H → va_S (gA g) s.heap H locs → K11 jd12 = some q → W p l e rm_X7_writeCatalogue s m [.ref (adr g.1 7 0)].toArray below meth c H locs 0 0 (MQ below (cQi g q.1 (((kJ cs q.2), mt))) [.ref (adr g.1 7 0)].toArray s 0 0 (gA g)) (F0 m 91 ls []) := by
          intro jd12 ls H locs hl hW hS hf
          subst eK11
          refine lv_aload_n hx hb dX7_writeCatalogue_91 rfl (lv_at hl 0 rfl) ?_
          refine lv_bipush (v := 59) hx hb dX7_writeCatalogue_92 (by decide) ?_
          obtain ⟨q13, h_q13, hf⟩ := x_bindE hf
          refine x_cv0 (x_rV ⟨hx, hb, hml, hown, hts⟩ (ct_X7_putByte l g hfl (kJ cs jd12) mt ((59 : Int32)) h_q13) (cwV 1 hts gX7_writeCatalogue_X7_putByte rfl rfl rfl (by decide +kernel) ⟨Nat.le_of_ble_eq_true rfl, Nat.le_of_ble_eq_true rfl⟩) hK hW hS (x_recv (i := g.1) (k := 7) (j := 0) hK hW ⟨⟨hfl, rfl⟩, by decide⟩ rfl (by decide)) rfl hl.1 (rest := []) rfl (Nat.le_of_ble_eq_true rfl) dX7_writeCatalogue_94 ⟨Nat.le_of_ble_eq_true rfl, Nat.le_of_ble_eq_true rfl⟩) hS (fun H locs hW hS => ?_)
          have hW : World g (((kJ cs q13), mt)) H := hW
          obtain ⟨x14, e_x14, hf⟩ := x_letE hf
          refine lv_iinc (v := x14) (lv' := [(1, .int x14), (0, .ref (adr g.1 7 0)), (2, .ref (adr (k_st cs) 6 q2))]) hx hb dX7_writeCatalogue_97 hl (k := 1) rfl (by rw [e_x14]; rfl) (by decide) rfl (fun ls hl => ?_)
          refine lv_goto (tgt := 7) hx hb dX7_writeCatalogue_100 (by decide) ?_
          exact ih (x14) (q13) ls _ _ (lv_sub hl [1, 0] rfl) hW hS hf
        clear eK11
        refine lv_if_eq (tgt := 91) hx hb dX7_writeCatalogue_82 (by decide) (fun hc => ?_) (fun hc => ?_)
        · have hf := x_iteT hf hc
          exact KK11 (q9) ls _ _ (lv_sub hl [1, 2, 0] rfl) hW hS hf
        · have hf := x_iteF hf hc
          refine lv_aload_n hx hb dX7_writeCatalogue_85 rfl (lv_at hl 1 rfl) ?_
          refine lv_bipush (v := 42) hx hb dX7_writeCatalogue_86 (by decide) ?_
          obtain ⟨q15, h_q15, hf⟩ := x_bindE hf
          refine x_cv0 (x_rV ⟨hx, hb, hml, hown, hts⟩ (ct_X7_putByte l g hfl (kJ cs q9) mt ((42 : Int32)) h_q15) (cwV 1 hts gX7_writeCatalogue_X7_putByte rfl rfl rfl (by decide +kernel) ⟨Nat.le_of_ble_eq_true rfl, Nat.le_of_ble_eq_true rfl⟩) hK hW hS (x_recv (i := g.1) (k := 7) (j := 0) hK hW ⟨⟨hfl, rfl⟩, by decide⟩ rfl (by decide)) rfl hl.1 (rest := []) rfl (Nat.le_of_ble_eq_true rfl) dX7_writeCatalogue_88 ⟨Nat.le_of_ble_eq_true rfl, Nat.le_of_ble_eq_true rfl⟩) hS (fun H locs hW hS => ?_)
          have hW : World g (((kJ cs q15), mt)) H := hW
          exact KK11 (q15) ls _ _ (lv_sub hl [1, 2, 0] rfl) hW hS hf
  exact L7 fuel ((0 : Int32)) (jd1) ls _ _ (lv_sub hl [1, 0] rfl) hW hS hf
abbrev rm_X7_outputByte : Room := { frames := 0, cells := 0, slots := 0, locals := 0 }
set_option maxRecDepth 100000 in
set_option maxHeartbeats 4000000 in
theorem ct_X7_outputByte (l : Launch) (g : GT) (hfl : 1 ≤ gf g) (cs : CT) (mt : MT) (a1 : Int32) {q : Int32} (hf : f_X7_outputByte (k_jd cs) a1 = some q) : Met l yX7_outputByte wsX7_outputByte rm_X7_outputByte (cPre g ((cs, mt)) [.ref (adr g.1 7 0), .int a1]) (cQi g q ((cs, mt))) 0 0 (gA g) := by
  have i_7 : ∀ w ∈ u_ws RX7 TX7 9, w ∈ wsX7_outputByte := by decide +kernel
  refine x_met (by decide) rfl (Nat.le_of_ble_eq_true rfl) ?_
  intro p e s m below meth c hx hb hr hml hts hown hlocks hK hW hS ls hl
  have hown : s.vm.findClass RX7 = some m.cls := hown
  have hl : lv_has ls 2 [(0, .ref (adr g.1 7 0)), (1, .int a1)] := hl
  rw [f_X7_outputByte] at hf
  refine lv_iload_n hx hb dX7_outputByte_0 rfl (lv_at hl 1 rfl) ?_
  refine lv_if_lt (tgt := 12) hx hb dX7_outputByte_1 (by decide) (fun hc => ?_) (fun hc => ?_)
  · have hf := x_iteT hf hc
    refine lv_ldc (v := -1000001) hx hb hown (hts (.constant RX7 87 (-1000001)) (by decide +kernel)) dX7_outputByte_12 ?_
    refine lv_goto (tgt := 23) hx hb dX7_outputByte_14 (by decide) ?_
    cases hf
    exact x_iret hx hb hr hlocks hK hW hS rfl dX7_outputByte_23
  · have hf := x_iteF hf hc
    refine lv_iload_n hx hb dX7_outputByte_4 rfl (lv_at hl 1 rfl) ?_
    refine lv_aload_n hx hb dX7_outputByte_5 rfl (lv_at hl 0 rfl) ?_
    refine x_get (i := g.1) (k := 7) (j := 0) (t := 8) hx hb hts i_7 hown hK hW ⟨⟨hfl, rfl⟩, by decide⟩ rfl ⟨by decide, by decide, rfl⟩ (hts (.fieldLink RX7 390 "OpticalJukebox" "outputLength" "I") (by decide +kernel)) (rfl) dX7_outputByte_6 ?_
    refine lv_icmp_lt (tgt := 17) hx hb dX7_outputByte_9 (by decide) (fun hc => ?_) (fun hc => ?_)
    · have hf := x_iteT hf hc
      refine lv_aload_n hx hb dX7_outputByte_17 rfl (lv_at hl 0 rfl) ?_
      refine x_get (i := g.1) (k := 7) (j := 0) (t := 7) hx hb hts i_7 hown hK hW ⟨⟨hfl, rfl⟩, by decide⟩ rfl ⟨by decide, by decide, rfl⟩ (hts (.fieldLink RX7 33 "OpticalJukebox" "output" "[B") (by decide +kernel)) (v := .ref (adr g.1 26 0)) rfl dX7_outputByte_18 ?_
      refine lv_iload_n hx hb dX7_outputByte_21 rfl (lv_at hl 1 rfl) ?_
      obtain ⟨hg1, hf⟩ := x_guardE hf
      refine x_bald (i := g.1) (k := 26) (j := 0) (f := (k_jd cs) 26 0) hx hb hK hW ⟨⟨hfl, rfl⟩, by decide⟩ (by decide) (rfl) rfl hg1 dX7_outputByte_22 ?_
      cases hf
      exact x_iret hx hb hr hlocks hK hW hS rfl dX7_outputByte_23
    · have hf := x_iteF hf hc
      refine lv_ldc (v := -1000001) hx hb hown (hts (.constant RX7 87 (-1000001)) (by decide +kernel)) dX7_outputByte_12 ?_
      refine lv_goto (tgt := 23) hx hb dX7_outputByte_14 (by decide) ?_
      cases hf
      exact x_iret hx hb hr hlocks hK hW hS rfl dX7_outputByte_23
