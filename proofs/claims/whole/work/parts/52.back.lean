/-! back, load, the planner is made -/
set_option maxRecDepth 20000 in
theorem ggX7_undo_X1_goBack : GoodIn wsX7_undo wsX1_goBack := goodIn_r _ [9, 10, 11, 12, 34, 35, 36] (by decide +kernel) (by decide +kernel)
set_option maxRecDepth 20000 in
theorem gX7_undo_X1_goBack : GoodIn wsX7_undo (wsV RX7 347 RX1 yX1_goBack wsX1_goBack) := goodIn_app (goodIn_of _ (by decide +kernel)) ggX7_undo_X1_goBack
set_option maxRecDepth 20000 in
theorem ggX7_undo_X7_forgetPlan : GoodIn wsX7_undo wsX7_forgetPlan := goodIn_r _ [17, 18, 19, 20, 21, 22, 23, 24, 25, 26, 27, 28, 29, 30, 31, 32, 33, 37, 38, 39, 40, 41, 42] (by decide +kernel) (by decide +kernel)
set_option maxRecDepth 20000 in
theorem gX7_undo_X7_forgetPlan : GoodIn wsX7_undo (wsV RX7 67 RX7 yX7_forgetPlan wsX7_forgetPlan) := goodIn_app (goodIn_of _ (by decide +kernel)) ggX7_undo_X7_forgetPlan
theorem dX7_undo_0 : decode cX7_undo 0 = .ok (.aload_n 0, 1) := by decide +kernel
theorem dX7_undo_1 : decode cX7_undo 1 = .ok (.getfield 29, 3) := by decide +kernel
theorem dX7_undo_4 : decode cX7_undo 4 = .ok (.getfield 344, 3) := by decide +kernel
theorem dX7_undo_7 : decode cX7_undo 7 = .ok (.ifCond .ne 6, 3) := by decide +kernel
theorem dX7_undo_10 : decode cX7_undo 10 = .ok (.ldc 73, 2) := by decide +kernel
theorem dX7_undo_12 : decode cX7_undo 12 = .ok (.ireturn, 1) := by decide +kernel
theorem dX7_undo_13 : decode cX7_undo 13 = .ok (.aload_n 0, 1) := by decide +kernel
theorem dX7_undo_14 : decode cX7_undo 14 = .ok (.aload_n 0, 1) := by decide +kernel
theorem dX7_undo_15 : decode cX7_undo 15 = .ok (.getfield 29, 3) := by decide +kernel
theorem dX7_undo_18 : decode cX7_undo 18 = .ok (.aload_n 0, 1) := by decide +kernel
theorem dX7_undo_19 : decode cX7_undo 19 = .ok (.getfield 19, 3) := by decide +kernel
theorem dX7_undo_22 : decode cX7_undo 22 = .ok (.invokevirtual 347, 3) := by decide +kernel
theorem dX7_undo_25 : decode cX7_undo 25 = .ok (.putfield 19, 3) := by decide +kernel
theorem dX7_undo_28 : decode cX7_undo 28 = .ok (.aload_n 0, 1) := by decide +kernel
theorem dX7_undo_29 : decode cX7_undo 29 = .ok (.invokevirtual 67, 3) := by decide +kernel
theorem dX7_undo_32 : decode cX7_undo 32 = .ok (.aload_n 0, 1) := by decide +kernel
theorem dX7_undo_33 : decode cX7_undo 33 = .ok (.getfield 29, 3) := by decide +kernel
theorem dX7_undo_36 : decode cX7_undo 36 = .ok (.getfield 344, 3) := by decide +kernel
theorem dX7_undo_39 : decode cX7_undo 39 = .ok (.ireturn, 1) := by decide +kernel
set_option maxRecDepth 20000 in
theorem ggX7_load_X5_readText : GoodIn wsX7_load wsX5_readText := goodIn_r _ [17, 18, 19, 20, 21, 22, 23, 24, 25, 26, 27, 28, 29, 30, 31, 32, 33, 34, 35, 36, 37, 38, 39, 40, 41, 42, 43, 44, 45, 46, 47, 48, 49, 50, 51, 52, 16, 53, 54, 55, 56, 57, 58, 59, 60, 61, 62, 63, 64, 65, 66, 67, 68, 69, 70, 71, 72, 73, 74, 75, 76, 77, 78, 79, 80, 81, 82, 83, 84, 85, 86, 87, 88, 89, 90, 91, 92, 93, 94, 95, 96, 97, 98, 99, 100, 101, 102, 103, 104, 105, 106, 107, 108, 109, 110, 111, 112, 113, 114, 115, 116, 117, 118, 119, 120, 121, 122, 123, 124, 125, 126, 127, 128, 129, 130, 131, 132, 133, 134, 135, 136, 137, 138, 139, 140, 141, 142, 143, 144, 145, 146, 147, 148, 149, 150, 151, 152, 153, 154, 155, 156, 157, 158, 159, 160, 161, 162, 163, 164, 165, 166, 167, 168, 169, 170, 171, 172, 173, 174, 175, 176, 177, 178, 179, 180, 181, 182, 183, 184, 185, 186, 187, 188, 189, 190, 191, 192, 193, 194, 195, 196, 197, 198, 199, 200, 201, 202, 203, 204, 205, 206, 207, 208, 209, 210, 211, 212, 213, 214, 215, 216, 217, 218, 219, 220, 221, 222, 223, 224, 225, 226, 227, 228, 229, 230, 231, 232, 233, 234, 235, 236, 237, 238, 239, 240, 241, 242, 243, 244, 245, 246, 247, 248, 249, 250, 251, 252, 253, 254, 255, 256, 257, 258, 259, 260, 261, 262, 263, 264, 265, 266, 267, 268, 269, 270, 271, 272, 273, 274, 275, 276, 277, 278, 279, 280, 281, 282, 283, 284, 285, 286, 287, 288, 289, 290, 291, 292, 293, 294, 295, 296, 297, 298, 299, 300, 301, 329, 330, 331, 332, 333, 334, 335, 336, 337, 338, 339, 340, 341, 342, 343, 344, 345, 346, 347, 348, 349, 350, 351, 352, 353, 354, 355, 356, 357, 358, 359, 360, 361, 362, 363, 364, 365, 366, 367, 368, 369, 370, 371, 372, 373, 374] (by decide +kernel) (by decide +kernel)
set_option maxRecDepth 20000 in
theorem gX7_load_X5_readText : GoodIn wsX7_load (wsV RX7 47 RX5 yX5_readText wsX5_readText) := goodIn_app (goodIn_of _ (by decide +kernel)) ggX7_load_X5_readText
set_option maxRecDepth 20000 in
theorem ggX7_load_X1_forgetAll : GoodIn wsX7_load wsX1_forgetAll := goodIn_r _ [306, 307, 375, 376, 377] (by decide +kernel) (by decide +kernel)
set_option maxRecDepth 20000 in
theorem gX7_load_X1_forgetAll : GoodIn wsX7_load (wsV RX7 64 RX1 yX1_forgetAll wsX1_forgetAll) := goodIn_app (goodIn_of _ (by decide +kernel)) ggX7_load_X1_forgetAll
set_option maxRecDepth 20000 in
theorem ggX7_load_X7_forgetPlan : GoodIn wsX7_load wsX7_forgetPlan := goodIn_r _ [312, 313, 314, 315, 316, 317, 318, 319, 320, 321, 322, 323, 324, 325, 326, 327, 328, 378, 379, 380, 381, 382, 383] (by decide +kernel) (by decide +kernel)
set_option maxRecDepth 20000 in
theorem gX7_load_X7_forgetPlan : GoodIn wsX7_load (wsV RX7 67 RX7 yX7_forgetPlan wsX7_forgetPlan) := goodIn_app (goodIn_of _ (by decide +kernel)) ggX7_load_X7_forgetPlan
theorem dX7_load_0 : decode cX7_load 0 = .ok (.iload_n 1, 1) := by decide +kernel
theorem dX7_load_1 : decode cX7_load 1 = .ok (.ifCond .lt 14, 3) := by decide +kernel
theorem dX7_load_4 : decode cX7_load 4 = .ok (.iload_n 1, 1) := by decide +kernel
theorem dX7_load_5 : decode cX7_load 5 = .ok (.aload_n 0, 1) := by decide +kernel
theorem dX7_load_6 : decode cX7_load 6 = .ok (.getfield 10, 3) := by decide +kernel
theorem dX7_load_9 : decode cX7_load 9 = .ok (.getfield 37, 3) := by decide +kernel
theorem dX7_load_12 : decode cX7_load 12 = .ok (.if_icmp .le 6, 3) := by decide +kernel
theorem dX7_load_15 : decode cX7_load 15 = .ok (.ldc 46, 2) := by decide +kernel
theorem dX7_load_17 : decode cX7_load 17 = .ok (.ireturn, 1) := by decide +kernel
theorem dX7_load_18 : decode cX7_load 18 = .ok (.aload_n 0, 1) := by decide +kernel
theorem dX7_load_19 : decode cX7_load 19 = .ok (.getfield 10, 3) := by decide +kernel
theorem dX7_load_22 : decode cX7_load 22 = .ok (.iload_n 1, 1) := by decide +kernel
theorem dX7_load_23 : decode cX7_load 23 = .ok (.aload_n 0, 1) := by decide +kernel
theorem dX7_load_24 : decode cX7_load 24 = .ok (.getfield 23, 3) := by decide +kernel
theorem dX7_load_27 : decode cX7_load 27 = .ok (.invokevirtual 47, 3) := by decide +kernel
theorem dX7_load_30 : decode cX7_load 30 = .ok (.istore_n 2, 1) := by decide +kernel
theorem dX7_load_31 : decode cX7_load 31 = .ok (.aload_n 0, 1) := by decide +kernel
theorem dX7_load_32 : decode cX7_load 32 = .ok (.getfield 10, 3) := by decide +kernel
theorem dX7_load_35 : decode cX7_load 35 = .ok (.iconst 0, 1) := by decide +kernel
theorem dX7_load_36 : decode cX7_load 36 = .ok (.putfield 37, 3) := by decide +kernel
theorem dX7_load_39 : decode cX7_load 39 = .ok (.aload_n 0, 1) := by decide +kernel
theorem dX7_load_40 : decode cX7_load 40 = .ok (.aload_n 0, 1) := by decide +kernel
theorem dX7_load_41 : decode cX7_load 41 = .ok (.getfield 10, 3) := by decide +kernel
theorem dX7_load_44 : decode cX7_load 44 = .ok (.getfield 51, 3) := by decide +kernel
theorem dX7_load_47 : decode cX7_load 47 = .ok (.putfield 54, 3) := by decide +kernel
theorem dX7_load_50 : decode cX7_load 50 = .ok (.aload_n 0, 1) := by decide +kernel
theorem dX7_load_51 : decode cX7_load 51 = .ok (.aload_n 0, 1) := by decide +kernel
theorem dX7_load_52 : decode cX7_load 52 = .ok (.getfield 10, 3) := by decide +kernel
theorem dX7_load_55 : decode cX7_load 55 = .ok (.getfield 57, 3) := by decide +kernel
theorem dX7_load_58 : decode cX7_load 58 = .ok (.putfield 60, 3) := by decide +kernel
theorem dX7_load_61 : decode cX7_load 61 = .ok (.iload_n 2, 1) := by decide +kernel
theorem dX7_load_62 : decode cX7_load 62 = .ok (.ifCond .ne 6, 3) := by decide +kernel
theorem dX7_load_65 : decode cX7_load 65 = .ok (.ldc 63, 2) := by decide +kernel
theorem dX7_load_67 : decode cX7_load 67 = .ok (.ireturn, 1) := by decide +kernel
theorem dX7_load_68 : decode cX7_load 68 = .ok (.aload_n 0, 1) := by decide +kernel
theorem dX7_load_69 : decode cX7_load 69 = .ok (.getfield 19, 3) := by decide +kernel
theorem dX7_load_72 : decode cX7_load 72 = .ok (.astore_n 3, 1) := by decide +kernel
theorem dX7_load_73 : decode cX7_load 73 = .ok (.aload_n 0, 1) := by decide +kernel
theorem dX7_load_74 : decode cX7_load 74 = .ok (.aload_n 0, 1) := by decide +kernel
theorem dX7_load_75 : decode cX7_load 75 = .ok (.getfield 23, 3) := by decide +kernel
theorem dX7_load_78 : decode cX7_load 78 = .ok (.putfield 19, 3) := by decide +kernel
theorem dX7_load_81 : decode cX7_load 81 = .ok (.aload_n 0, 1) := by decide +kernel
theorem dX7_load_82 : decode cX7_load 82 = .ok (.aload_n 3, 1) := by decide +kernel
theorem dX7_load_83 : decode cX7_load 83 = .ok (.putfield 23, 3) := by decide +kernel
theorem dX7_load_86 : decode cX7_load 86 = .ok (.aload_n 0, 1) := by decide +kernel
theorem dX7_load_87 : decode cX7_load 87 = .ok (.getfield 29, 3) := by decide +kernel
theorem dX7_load_90 : decode cX7_load 90 = .ok (.invokevirtual 64, 3) := by decide +kernel
theorem dX7_load_93 : decode cX7_load 93 = .ok (.aload_n 0, 1) := by decide +kernel
theorem dX7_load_94 : decode cX7_load 94 = .ok (.invokevirtual 67, 3) := by decide +kernel
theorem dX7_load_97 : decode cX7_load 97 = .ok (.aload_n 0, 1) := by decide +kernel
theorem dX7_load_98 : decode cX7_load 98 = .ok (.getfield 19, 3) := by decide +kernel
theorem dX7_load_101 : decode cX7_load 101 = .ok (.getfield 70, 3) := by decide +kernel
theorem dX7_load_104 : decode cX7_load 104 = .ok (.ireturn, 1) := by decide +kernel
abbrev rm_X1_goBack : Room := { frames := 0, cells := 0, slots := 0, locals := 0 }
set_option maxRecDepth 100000 in
set_option maxHeartbeats 4000000 in
theorem ct_X1_goBack (l : Launch) (g : GT) (hfl : 1 ≤ gf g) (cs : CT) (mt : MT) {q : Nat × CT} (hf : f_X1_goBack cs = some q) : Met l yX1_goBack wsX1_goBack rm_X1_goBack (cPre g (cs, mt) [.ref (adr (g.1 + 186) 1 0), .ref (adr (k_st cs) 4 0)]) (cQr g (adr q.1 4 0) (q.2, mt)) 0 0 (gA g) := by
  have i_1 : ∀ w ∈ u_ws RX1 TX1 3, w ∈ wsX1_goBack := by decide +kernel
  refine x_met (by decide) rfl (Nat.le_of_ble_eq_true rfl) ?_
  intro p e s m below meth c hx hb hr hml hts hown hlocks hK hW hS ls hl
  have hown : s.vm.findClass RX1 = some m.cls := hown
  have hl : lv_has ls 4 [(0, .ref (adr (g.1 + 186) 1 0)), (1, .ref (adr (k_st cs) 4 0))] := hl
  rw [f_X1_goBack] at hf
  refine lv_aload_n hx hb dX1_goBack_0 rfl (lv_at hl 0 rfl) ?_
  refine x_get (i := (g.1 + 186)) (k := 1) (j := 0) (t := 2) hx hb hts i_1 hown hK hW ⟨⟨hfl, rfl⟩, by decide⟩ rfl ⟨by decide, by decide, rfl⟩ (hts (.fieldLink RX1 17 "OpticalJukebox$History" "count" "I") (by decide +kernel)) (v := .int (k_hd cs 1 0 2)) rfl dX1_goBack_1 ?_
  refine lv_if_ne (tgt := 9) hx hb dX1_goBack_4 (by decide) (fun hc => ?_) (fun hc => ?_)
  · have hf := x_iteF hf hc
    obtain ⟨c1, e1, hf⟩ := x_letE hf
    obtain ⟨p0, e_p0, hf⟩ := x_letE hf
    obtain ⟨hg0, hf⟩ := x_guardE hf
    obtain ⟨c2, e2, hf⟩ := x_letE hf
    refine lv_aload_n hx hb dX1_goBack_9 rfl (lv_at hl 0 rfl) ?_
    refine lv_dup hx hb dX1_goBack_10 rfl ?_
    refine x_get (i := (g.1 + 186)) (k := 1) (j := 0) (t := 2) hx hb hts i_1 hown hK hW ⟨⟨hfl, rfl⟩, by decide⟩ rfl ⟨by decide, by decide, rfl⟩ (hts (.fieldLink RX1 17 "OpticalJukebox$History" "count" "I") (by decide +kernel)) (v := .int (k_hd cs 1 0 2)) rfl dX1_goBack_11 ?_
    refine lv_iconst (v := 1) hx hb dX1_goBack_14 (by decide) ?_
    refine lv_isub hx hb dX1_goBack_15 ?_
    have hst : k_st cs ∈ k_S c1 := by rw [e1]; exact hW.2.2.2.1
    refine x_put (i := (g.1 + 186)) (k := 1) (j := 0) (t := 2) (w' := (kH cs (upS (k_hd cs) 1 0 2 (k_hd cs 1 0 2 - 1)) (k_hz cs), mt)) hx hb hts i_1 tyX1 tyX1_ok nmX1 hown hK hW ⟨⟨hfl, rfl⟩, by decide⟩ hS rfl ⟨by decide, by decide, rfl⟩ (hts (.fieldLink RX1 17 "OpticalJukebox$History" "count" "I") (by decide +kernel)) rfl (ty := .int) (by decide +kernel) rfl rfl ⟨rfl, rfl⟩ dX1_goBack_16 (fp_H (w := (cs, mt)) (hd := k_hd cs) (hz := k_hz cs) rfl rfl) (fun H locs hW hS => ?_)
    rw [← e1] at hW
    refine lv_aload_n hx hb dX1_goBack_19 rfl (lv_at hl 0 rfl) ?_
    refine x_get (i := (g.1 + 186)) (k := 1) (j := 0) (t := 1) hx hb hts i_1 hown hK hW ⟨⟨hfl, rfl⟩, by decide⟩ rfl ⟨by decide, by decide, rfl⟩ (hts (.fieldLink RX1 21 "OpticalJukebox$History" "first" "I") (by decide +kernel)) (v := .int (k_hd c1 1 0 1)) rfl dX1_goBack_20 ?_
    refine lv_aload_n hx hb dX1_goBack_23 rfl (lv_at hl 0 rfl) ?_
    refine x_get (i := (g.1 + 186)) (k := 1) (j := 0) (t := 2) hx hb hts i_1 hown hK hW ⟨⟨hfl, rfl⟩, by decide⟩ rfl ⟨by decide, by decide, rfl⟩ (hts (.fieldLink RX1 17 "OpticalJukebox$History" "count" "I") (by decide +kernel)) (v := .int (k_hd c1 1 0 2)) rfl dX1_goBack_24 ?_
    refine lv_iadd hx hb dX1_goBack_27 ?_
    refine lv_bipush (v := 16) hx hb dX1_goBack_28 (by decide) ?_
    refine lv_irem hx hb dX1_goBack_30 (by decide) ?_
    refine x_topi e_p0 ?_
    refine lv_istore_n (lv' := [(2, .int p0), (0, .ref (adr (g.1 + 186) 1 0)), (1, .ref (adr (k_st cs) 4 0))]) hx hb dX1_goBack_31 rfl hl (by decide) rfl (fun ls hl => ?_)
    refine lv_aload_n hx hb dX1_goBack_32 rfl (lv_at hl 1 rfl) ?_
    refine x_get (i := (g.1 + 186)) (k := 1) (j := 0) (t := 0) hx hb hts i_1 hown hK hW ⟨⟨hfl, rfl⟩, by decide⟩ rfl ⟨by decide, by decide, rfl⟩ (hts (.fieldLink RX1 11 "OpticalJukebox$History" "states" "[LOpticalJukebox$State;") (by decide +kernel)) (v := .ref (adr (g.1 + 186) 22 0)) rfl dX1_goBack_33 ?_
    refine lv_iload_n hx hb dX1_goBack_36 rfl (lv_at hl 0 rfl) ?_
    refine x_aald (i := (g.1 + 186)) (k := 22) (j := 0) (f := fun t => (k_hz c1 t).map (fun q => adr q 4 0)) hx hb hK hW ⟨⟨hfl, rfl⟩, by decide⟩ (by decide) rfl rfl hg0 dX1_goBack_37 ?_
    cases hz : k_hz c1 p0.toNatClampNeg with
    | some q0 =>
      rw [hz] at hf
      cases hf
      refine W.eq (g2 := F0 m 38 ls [.ref (adr q0 4 0)]) rfl ?_
      refine lv_astore_n (lv' := [(3, .ref (adr q0 4 0)), (2, .int p0), (0, .ref (adr (g.1 + 186) 1 0)), (1, .ref (adr (k_st cs) 4 0))]) hx hb dX1_goBack_38 rfl hl (by decide) rfl (fun ls hl => ?_)
      refine lv_aload_n hx hb dX1_goBack_39 rfl (lv_at hl 2 rfl) ?_
      refine x_get (i := (g.1 + 186)) (k := 1) (j := 0) (t := 0) hx hb hts i_1 hown hK hW ⟨⟨hfl, rfl⟩, by decide⟩ rfl ⟨by decide, by decide, rfl⟩ (hts (.fieldLink RX1 11 "OpticalJukebox$History" "states" "[LOpticalJukebox$State;") (by decide +kernel)) (v := .ref (adr (g.1 + 186) 22 0)) rfl dX1_goBack_40 ?_
      refine lv_iload_n hx hb dX1_goBack_43 rfl (lv_at hl 1 rfl) ?_
      refine lv_aload_n hx hb dX1_goBack_44 rfl (lv_at hl 3 rfl) ?_
      refine x_aastH hx hb hK hfl hW hS hst hg0 dX1_goBack_45 (fun H locs hW hS => ?_)
      rw [← e2] at hW
      refine lv_aload_n hx hb dX1_goBack_46 rfl (lv_at hl 0 rfl) ?_
      refine lv_ifnonnull (tgt := 54) hx hb dX1_goBack_47 (by decide) ?_
      refine lv_aload_n hx hb dX1_goBack_54 rfl (lv_at hl 0 rfl) ?_
      exact x_aret hx hb hr (Or.inl ⟨_, rfl⟩) hlocks hK hW hS rfl dX1_goBack_55
    | none =>
      rw [hz] at hf
      cases hf
      refine W.eq (g2 := F0 m 38 ls [.null]) rfl ?_
      refine lv_astore_nN (lv' := [(3, .null), (2, .int p0), (0, .ref (adr (g.1 + 186) 1 0)), (1, .ref (adr (k_st cs) 4 0))]) hx hb dX1_goBack_38 rfl hl (by decide) rfl (fun ls hl => ?_)
      refine lv_aload_n hx hb dX1_goBack_39 rfl (lv_at hl 2 rfl) ?_
      refine x_get (i := (g.1 + 186)) (k := 1) (j := 0) (t := 0) hx hb hts i_1 hown hK hW ⟨⟨hfl, rfl⟩, by decide⟩ rfl ⟨by decide, by decide, rfl⟩ (hts (.fieldLink RX1 11 "OpticalJukebox$History" "states" "[LOpticalJukebox$State;") (by decide +kernel)) (v := .ref (adr (g.1 + 186) 22 0)) rfl dX1_goBack_40 ?_
      refine lv_iload_n hx hb dX1_goBack_43 rfl (lv_at hl 1 rfl) ?_
      refine lv_aload_n hx hb dX1_goBack_44 rfl (lv_at hl 3 rfl) ?_
      refine x_aastH hx hb hK hfl hW hS hst hg0 dX1_goBack_45 (fun H locs hW hS => ?_)
      rw [← e2] at hW
      refine lv_aload_nN hx hb dX1_goBack_46 rfl (lv_at hl 0 rfl) ?_
      refine lv_ifnonnullN hx hb dX1_goBack_47 ?_
      refine lv_aload_n hx hb dX1_goBack_50 rfl (lv_at hl 3 rfl) ?_
      refine lv_goto (tgt := 55) hx hb dX1_goBack_51 (by decide) ?_
      exact x_aret hx hb hr (Or.inl ⟨_, rfl⟩) hlocks hK hW hS rfl dX1_goBack_55
  · have hf := x_iteT hf hc
    cases hf
    refine lv_aload_n hx hb dX1_goBack_7 rfl (lv_at hl 1 rfl) ?_
    exact x_aret hx hb hr (Or.inl ⟨_, rfl⟩) hlocks hK hW hS rfl dX1_goBack_8
theorem goBack_mem {cs : CT} {q : Nat × CT} (hf : f_X1_goBack cs = some q) (h1 : k_st cs ∈ k_S cs) (h2 : ∀ t p, k_hz cs t = some p → p ∈ k_S cs) : q.1 ∈ k_S q.2 := by
  rw [f_X1_goBack] at hf
  by_cases hc : k_hd cs 1 0 2 = 0
  · have hf := x_iteT hf hc
    cases hf
    exact h1
  · have hf := x_iteF hf hc
    obtain ⟨c1, e1, hf⟩ := x_letE hf
    obtain ⟨p0, e_p0, hf⟩ := x_letE hf
    obtain ⟨hg0, hf⟩ := x_guardE hf
    obtain ⟨c2, e2, hf⟩ := x_letE hf
    have hS : k_S c2 = k_S cs := by rw [e2, e1]
    have hz' : k_hz c1 = k_hz cs := by rw [e1]
    cases hz : k_hz c1 p0.toNatClampNeg with
    | some q0 =>
      rw [hz] at hf
      cases hf
      rw [hS]
      exact h2 _ _ (by rw [← hz']; exact hz)
    | none =>
      rw [hz] at hf
      cases hf
      rw [hS]
      exact h1
abbrev rm_X7_undo : Room := { frames := 2, cells := 0, slots := 0, locals := 45 }
set_option maxRecDepth 100000 in
set_option maxHeartbeats 4000000 in
theorem ct_X7_undo (l : Launch) (g : GT) (hfl : 1 ≤ gf g) (cs : CT) (mt : MT) {q : Int32 × CT} (hf : f_X7_undo cs = some q) : Met l yX7_undo wsX7_undo rm_X7_undo (cPre g (cs, mt) [.ref (adr g.1 7 0)]) (cQi g q.1 (q.2, mt)) 0 0 (gA g) := by
  have i_1 : ∀ w ∈ u_ws RX1 TX1 3, w ∈ wsX7_undo := by decide +kernel
  have i_7 : ∀ w ∈ u_ws RX7 TX7 9, w ∈ wsX7_undo := by decide +kernel
  refine x_met (by decide) rfl (Nat.le_of_ble_eq_true rfl) ?_
  intro p e s m below meth c hx hb hr hml hts hown hlocks hK hW hS ls hl
  have hown : s.vm.findClass RX7 = some m.cls := hown
  have hl : lv_has ls 1 [(0, .ref (adr g.1 7 0))] := hl
  rw [f_X7_undo] at hf
  refine lv_aload_n hx hb dX7_undo_0 rfl (lv_at hl 0 rfl) ?_
  refine x_get (i := g.1) (k := 7) (j := 0) (t := 5) hx hb hts i_7 hown hK hW ⟨⟨hfl, rfl⟩, by decide⟩ rfl ⟨by decide, by decide, rfl⟩ (hts (.fieldLink RX7 29 "OpticalJukebox" "history" "LOpticalJukebox$History;") (by decide +kernel)) (v := .ref (adr (g.1 + 186) 1 0)) rfl dX7_undo_1 ?_
  refine x_get (i := (g.1 + 186)) (k := 1) (j := 0) (t := 2) hx hb hts i_1 hown hK hW ⟨⟨hfl, rfl⟩, by decide⟩ rfl ⟨by decide, by decide, rfl⟩ (hts (.fieldLink RX7 344 "OpticalJukebox$History" "count" "I") (by decide +kernel)) (v := .int (k_hd cs 1 0 2)) rfl dX7_undo_4 ?_
  refine lv_if_ne (tgt := 13) hx hb dX7_undo_7 (by decide) (fun hc => ?_) (fun hc => ?_)
  · have hf := x_iteF hf hc
    obtain ⟨q1, h1, hf⟩ := x_bindE hf
    obtain ⟨c1, e1, hf⟩ := x_letE hf
    obtain ⟨c2, h2, hf⟩ := x_bindE hf
    have hmem := goBack_mem h1 hW.2.2.2.1 hW.2.2.2.2.2
    refine lv_aload_n hx hb dX7_undo_13 rfl (lv_at hl 0 rfl) ?_
    refine lv_aload_n hx hb dX7_undo_14 rfl (lv_at hl 0 rfl) ?_
    refine x_get (i := g.1) (k := 7) (j := 0) (t := 5) hx hb hts i_7 hown hK hW ⟨⟨hfl, rfl⟩, by decide⟩ rfl ⟨by decide, by decide, rfl⟩ (hts (.fieldLink RX7 29 "OpticalJukebox" "history" "LOpticalJukebox$History;") (by decide +kernel)) (v := .ref (adr (g.1 + 186) 1 0)) rfl dX7_undo_15 ?_
    refine lv_aload_n hx hb dX7_undo_18 rfl (lv_at hl 0 rfl) ?_
    refine x_get (i := g.1) (k := 7) (j := 0) (t := 3) hx hb hts i_7 hown hK hW ⟨⟨hfl, rfl⟩, by decide⟩ rfl ⟨by decide, by decide, rfl⟩ (hts (.fieldLink RX7 19 "OpticalJukebox" "state" "LOpticalJukebox$State;") (by decide +kernel)) (v := .ref (adr (k_st cs) 4 0)) rfl dX7_undo_19 ?_
    refine x_cr0 (x_rV ⟨hx, hb, hml, hown, hts⟩ (ct_X1_goBack l g hfl cs mt h1) (cwV 1 hts gX7_undo_X1_goBack rfl rfl rfl (by decide +kernel) ⟨Nat.le_of_ble_eq_true rfl, Nat.le_of_ble_eq_true rfl⟩) hK hW hS (x_recv (i := (g.1 + 186)) (k := 1) (j := 0) hK hW ⟨⟨hfl, rfl⟩, by decide⟩ rfl (by decide)) rfl hl.1 (rest := [.ref (adr g.1 7 0)]) rfl (Nat.le_of_ble_eq_true rfl) dX7_undo_22 ⟨Nat.le_of_ble_eq_true rfl, Nat.le_of_ble_eq_true rfl⟩) hS (fun H locs hW hS => ?_)
    have hW : World g (q1.2, mt) H := hW
    refine x_putV (i := g.1) (k := 7) (j := 0) (t := 3) (w' := (kZ q1.2 (q1.1, k_sp q1.2, k_pl q1.2), mt)) hx hb hts i_7 tyX7 tyX7_ok nmX7 hown hK hW ⟨⟨hfl, rfl⟩, by decide⟩ hS rfl ⟨by decide, by decide, rfl⟩ (hts (.fieldLink RX7 19 "OpticalJukebox" "state" "LOpticalJukebox$State;") (by decide +kernel)) rfl (ty := .object RX4) (by decide +kernel) rfl rfl dX7_undo_25 (wf_st hW hmem) (fun H locs hW hS => ?_)
    rw [← e1] at hW
    refine lv_aload_n hx hb dX7_undo_28 rfl (lv_at hl 0 rfl) ?_
    refine x_cv0 (x_rV ⟨hx, hb, hml, hown, hts⟩ (ct_X7_forgetPlan l g hfl c1 mt h2) (cwV 0 hts gX7_undo_X7_forgetPlan rfl rfl rfl (by decide +kernel) ⟨Nat.le_of_ble_eq_true rfl, Nat.le_of_ble_eq_true rfl⟩) hK hW hS (x_recv (i := g.1) (k := 7) (j := 0) hK hW ⟨⟨hfl, rfl⟩, by decide⟩ rfl (by decide)) rfl hl.1 (rest := []) rfl (Nat.le_of_ble_eq_true rfl) dX7_undo_29 ⟨Nat.le_of_ble_eq_true rfl, Nat.le_of_ble_eq_true rfl⟩) hS (fun H locs hW hS => ?_)
    have hW : World g (c2, mt) H := hW
    refine lv_aload_n hx hb dX7_undo_32 rfl (lv_at hl 0 rfl) ?_
    refine x_get (i := g.1) (k := 7) (j := 0) (t := 5) hx hb hts i_7 hown hK hW ⟨⟨hfl, rfl⟩, by decide⟩ rfl ⟨by decide, by decide, rfl⟩ (hts (.fieldLink RX7 29 "OpticalJukebox" "history" "LOpticalJukebox$History;") (by decide +kernel)) (v := .ref (adr (g.1 + 186) 1 0)) rfl dX7_undo_33 ?_
    refine x_get (i := (g.1 + 186)) (k := 1) (j := 0) (t := 2) hx hb hts i_1 hown hK hW ⟨⟨hfl, rfl⟩, by decide⟩ rfl ⟨by decide, by decide, rfl⟩ (hts (.fieldLink RX7 344 "OpticalJukebox$History" "count" "I") (by decide +kernel)) (v := .int (k_hd c2 1 0 2)) rfl dX7_undo_36 ?_
    cases hf
    exact x_iret hx hb hr hlocks hK hW hS rfl dX7_undo_39
  · have hf := x_iteT hf hc
    cases hf
    refine lv_ldc (v := -1000005) hx hb hown (hts (.constant RX7 73 (-1000005)) (by decide +kernel)) dX7_undo_10 ?_
    exact x_iret hx hb hr hlocks hK hW hS rfl dX7_undo_12
abbrev rm_X7_load : Room := { frames := 9, cells := 0, slots := 0, locals := 200 }
set_option maxRecDepth 100000 in
set_option maxHeartbeats 8000000 in
theorem ct_X7_load (l : Launch) (g : GT) (hfl : 1 ≤ gf g) (cs : CT) (mt : MT) (a1 : Int32) {q : Int32 × CT} (hf : f_X7_load cs a1 = some q) : Met l yX7_load wsX7_load rm_X7_load (cPre g (cs, mt) [.ref (adr g.1 7 0), .int a1]) (cQi g q.1 (q.2, mt)) 0 0 (gA g) := by
  have i_4 : ∀ w ∈ u_ws RX4 TX4 18, w ∈ wsX7_load := by decide +kernel
  have i_5 : ∀ w ∈ u_ws RX5 TX5 9, w ∈ wsX7_load := by decide +kernel
  have i_7 : ∀ w ∈ u_ws RX7 TX7 9, w ∈ wsX7_load := by decide +kernel
  refine x_met (by decide) rfl (Nat.le_of_ble_eq_true rfl) ?_
  intro p e s m below meth c hx hb hr hml hts hown hlocks hK hW hS ls hl
  have hown : s.vm.findClass RX7 = some m.cls := hown
  have hl : lv_has ls 4 [(0, .ref (adr g.1 7 0)), (1, .int a1)] := hl
  rw [f_X7_load] at hf
  refine lv_iload_n hx hb dX7_load_0 rfl (lv_at hl 1 rfl) ?_
  refine lv_if_lt (tgt := 15) hx hb dX7_load_1 (by decide) (fun hc => ?_) (fun hc => ?_)
  · have hf := x_iteT hf hc
    cases hf
    refine lv_ldc (v := -1000002) hx hb hown (hts (.constant RX7 46 (-1000002)) (by decide +kernel)) dX7_load_15 ?_
    exact x_iret hx hb hr hlocks hK hW hS rfl dX7_load_17
  · have hf := x_iteF hf hc
    refine lv_iload_n hx hb dX7_load_4 rfl (lv_at hl 1 rfl) ?_
    refine lv_aload_n hx hb dX7_load_5 rfl (lv_at hl 0 rfl) ?_
    refine x_get (i := g.1) (k := 7) (j := 0) (t := 0) hx hb hts i_7 hown hK hW ⟨⟨hfl, rfl⟩, by decide⟩ rfl ⟨by decide, by decide, rfl⟩ (hts (.fieldLink RX7 10 "OpticalJukebox" "reader" "LOpticalJukebox$TextReader;") (by decide +kernel)) (v := .ref (adr (g.1 + 1) 5 0)) rfl dX7_load_6 ?_
    refine x_get (i := (g.1 + 1)) (k := 5) (j := 0) (t := 1) hx hb hts i_5 hown hK hW ⟨⟨hfl, rfl⟩, by decide⟩ rfl ⟨by decide, by decide, rfl⟩ (hts (.fieldLink RX7 37 "OpticalJukebox$TextReader" "fed" "I") (by decide +kernel)) (v := .int (k_rd cs 5 0 1)) rfl dX7_load_9 ?_
    refine lv_icmp_le (tgt := 18) hx hb dX7_load_12 (by decide) (fun hc => ?_) (fun hc => ?_)
    · have hf := x_iteT hf hc
      rw [f_X7_load_c] at hf
      obtain ⟨q1, h1, hf⟩ := x_bindE hf
      obtain ⟨c1, e1, hf⟩ := x_letE hf
      obtain ⟨c2, e2, hf⟩ := x_letE hf
      obtain ⟨c3, e3, hf⟩ := x_letE hf
      obtain ⟨c4, e4, hf⟩ := x_letE hf
      refine lv_aload_n hx hb dX7_load_18 rfl (lv_at hl 0 rfl) ?_
      refine x_get (i := g.1) (k := 7) (j := 0) (t := 0) hx hb hts i_7 hown hK hW ⟨⟨hfl, rfl⟩, by decide⟩ rfl ⟨by decide, by decide, rfl⟩ (hts (.fieldLink RX7 10 "OpticalJukebox" "reader" "LOpticalJukebox$TextReader;") (by decide +kernel)) (v := .ref (adr (g.1 + 1) 5 0)) rfl dX7_load_19 ?_
      refine lv_iload_n hx hb dX7_load_22 rfl (lv_at hl 1 rfl) ?_
      refine lv_aload_n hx hb dX7_load_23 rfl (lv_at hl 0 rfl) ?_
      refine x_get (i := g.1) (k := 7) (j := 0) (t := 4) hx hb hts i_7 hown hK hW ⟨⟨hfl, rfl⟩, by decide⟩ rfl ⟨by decide, by decide, rfl⟩ (hts (.fieldLink RX7 23 "OpticalJukebox" "spare" "LOpticalJukebox$State;") (by decide +kernel)) (v := .ref (adr (k_sp cs) 4 0)) rfl dX7_load_24 ?_
      refine x_ci0 (x_rV ⟨hx, hb, hml, hown, hts⟩ (ct_X5_readText l g hfl (cs, mt) (k_rd cs) (k_rn cs) (k_sp cs) hW.2.2.2.2.1 (k_xs cs (k_sp cs)) a1 h1) (cwV 2 hts gX7_load_X5_readText rfl rfl rfl (by decide +kernel) ⟨Nat.le_of_ble_eq_true rfl, Nat.le_of_ble_eq_true rfl⟩) hK (w_self_sd hW) hS (x_recv (i := (g.1 + 1)) (k := 5) (j := 0) hK hW ⟨⟨hfl, rfl⟩, by decide⟩ rfl (by decide)) rfl hl.1 (rest := []) rfl (Nat.le_of_ble_eq_true rfl) dX7_load_27 ⟨Nat.le_of_ble_eq_true rfl, Nat.le_of_ble_eq_true rfl⟩) hS (fun H locs hW hS => ?_)
      have hW : World g (kS (kR cs q1.2.2.1 q1.2.2.2) (k_sp cs) q1.2.1, mt) H := hW
      rw [← e1] at hW
      refine W.eq (g2 := F0 m 30 ls [.int q1.1]) rfl ?_
      refine lv_istore_n (lv' := [(2, .int q1.1), (0, .ref (adr g.1 7 0)), (1, .int a1)]) hx hb dX7_load_30 rfl hl (by decide) rfl (fun ls hl => ?_)
      refine lv_aload_n hx hb dX7_load_31 rfl (lv_at hl 1 rfl) ?_
      refine x_get (i := g.1) (k := 7) (j := 0) (t := 0) hx hb hts i_7 hown hK hW ⟨⟨hfl, rfl⟩, by decide⟩ rfl ⟨by decide, by decide, rfl⟩ (hts (.fieldLink RX7 10 "OpticalJukebox" "reader" "LOpticalJukebox$TextReader;") (by decide +kernel)) (v := .ref (adr (g.1 + 1) 5 0)) rfl dX7_load_32 ?_
      refine lv_iconst (v := 0) hx hb dX7_load_35 (by decide) ?_
      refine x_put (i := (g.1 + 1)) (k := 5) (j := 0) (t := 1) (w' := (kR c1 (upS (k_rd c1) 5 0 1 0) (k_rn c1), mt)) hx hb hts i_5 tyX5 tyX5_ok nmX5 hown hK hW ⟨⟨hfl, rfl⟩, by decide⟩ hS rfl ⟨by decide, by decide, rfl⟩ (hts (.fieldLink RX7 37 "OpticalJukebox$TextReader" "fed" "I") (by decide +kernel)) rfl (ty := .int) (by decide +kernel) rfl rfl ⟨rfl, rfl⟩ dX7_load_36 (fp_R (w := (c1, mt)) (rd := k_rd c1) (rn := k_rn c1) rfl rfl) (fun H locs hW hS => ?_)
      rw [← e2] at hW
      refine lv_aload_n hx hb dX7_load_39 rfl (lv_at hl 1 rfl) ?_
      refine lv_aload_n hx hb dX7_load_40 rfl (lv_at hl 1 rfl) ?_
      refine x_get (i := g.1) (k := 7) (j := 0) (t := 0) hx hb hts i_7 hown hK hW ⟨⟨hfl, rfl⟩, by decide⟩ rfl ⟨by decide, by decide, rfl⟩ (hts (.fieldLink RX7 10 "OpticalJukebox" "reader" "LOpticalJukebox$TextReader;") (by decide +kernel)) (v := .ref (adr (g.1 + 1) 5 0)) rfl dX7_load_41 ?_
      refine x_get (i := (g.1 + 1)) (k := 5) (j := 0) (t := 7) hx hb hts i_5 hown hK hW ⟨⟨hfl, rfl⟩, by decide⟩ rfl ⟨by decide, by decide, rfl⟩ (hts (.fieldLink RX7 51 "OpticalJukebox$TextReader" "kindOfError" "I") (by decide +kernel)) (v := .int (k_rd c2 5 0 7)) rfl dX7_load_44 ?_
      refine x_put (i := g.1) (k := 7) (j := 0) (t := 1) (w' := (kJ c2 (upS (k_jd c2) 7 0 1 (k_rd c2 5 0 7)), mt)) hx hb hts i_7 tyX7 tyX7_ok nmX7 hown hK hW ⟨⟨hfl, rfl⟩, by decide⟩ hS rfl ⟨by decide, by decide, rfl⟩ (hts (.fieldLink RX7 54 "OpticalJukebox" "latestErrorKind" "I") (by decide +kernel)) rfl (ty := .int) (by decide +kernel) rfl rfl ⟨rfl, rfl⟩ dX7_load_47 (fp_J (w := (c2, mt)) (jd := k_jd c2) rfl rfl) (fun H locs hW hS => ?_)
      rw [← e3] at hW
      refine lv_aload_n hx hb dX7_load_50 rfl (lv_at hl 1 rfl) ?_
      refine lv_aload_n hx hb dX7_load_51 rfl (lv_at hl 1 rfl) ?_
      refine x_get (i := g.1) (k := 7) (j := 0) (t := 0) hx hb hts i_7 hown hK hW ⟨⟨hfl, rfl⟩, by decide⟩ rfl ⟨by decide, by decide, rfl⟩ (hts (.fieldLink RX7 10 "OpticalJukebox" "reader" "LOpticalJukebox$TextReader;") (by decide +kernel)) (v := .ref (adr (g.1 + 1) 5 0)) rfl dX7_load_52 ?_
      refine x_get (i := (g.1 + 1)) (k := 5) (j := 0) (t := 8) hx hb hts i_5 hown hK hW ⟨⟨hfl, rfl⟩, by decide⟩ rfl ⟨by decide, by decide, rfl⟩ (hts (.fieldLink RX7 57 "OpticalJukebox$TextReader" "placeOfError" "I") (by decide +kernel)) (v := .int (k_rd c3 5 0 8)) rfl dX7_load_55 ?_
      refine x_put (i := g.1) (k := 7) (j := 0) (t := 2) (w' := (kJ c3 (upS (k_jd c3) 7 0 2 (k_rd c3 5 0 8)), mt)) hx hb hts i_7 tyX7 tyX7_ok nmX7 hown hK hW ⟨⟨hfl, rfl⟩, by decide⟩ hS rfl ⟨by decide, by decide, rfl⟩ (hts (.fieldLink RX7 60 "OpticalJukebox" "latestErrorPlace" "I") (by decide +kernel)) rfl (ty := .int) (by decide +kernel) rfl rfl ⟨rfl, rfl⟩ dX7_load_58 (fp_J (w := (c3, mt)) (jd := k_jd c3) rfl rfl) (fun H locs hW hS => ?_)
      rw [← e4] at hW
      refine lv_iload_n hx hb dX7_load_61 rfl (lv_at hl 0 rfl) ?_
      refine lv_if_ne (tgt := 68) hx hb dX7_load_62 (by decide) (fun hc => ?_) (fun hc => ?_)
      · have hf := x_iteF hf hc
        rw [f_X7_load_ok] at hf
        obtain ⟨old, eo, hf⟩ := x_letE hf
        obtain ⟨d1, f1, hf⟩ := x_letE hf
        obtain ⟨d2, f2, hf⟩ := x_letE hf
        obtain ⟨hd, h3, hf⟩ := x_bindE hf
        obtain ⟨d3, f3, hf⟩ := x_letE hf
        obtain ⟨d4, h4, hf⟩ := x_bindE hf
        refine lv_aload_n hx hb dX7_load_68 rfl (lv_at hl 1 rfl) ?_
        refine x_get (i := g.1) (k := 7) (j := 0) (t := 3) hx hb hts i_7 hown hK hW ⟨⟨hfl, rfl⟩, by decide⟩ rfl ⟨by decide, by decide, rfl⟩ (hts (.fieldLink RX7 19 "OpticalJukebox" "state" "LOpticalJukebox$State;") (by decide +kernel)) (v := .ref (adr (k_st c4) 4 0)) rfl dX7_load_69 ?_
        refine lv_astore_n (lv' := [(3, .ref (adr (k_st c4) 4 0)), (2, .int q1.1), (0, .ref (adr g.1 7 0)), (1, .int a1)]) hx hb dX7_load_72 rfl hl (by decide) rfl (fun ls hl => ?_)
        have hm1 := hW.2.2.2.1
        have hm2 := hW.2.2.2.2.1
        refine lv_aload_n hx hb dX7_load_73 rfl (lv_at hl 2 rfl) ?_
        refine lv_aload_n hx hb dX7_load_74 rfl (lv_at hl 2 rfl) ?_
        refine x_get (i := g.1) (k := 7) (j := 0) (t := 4) hx hb hts i_7 hown hK hW ⟨⟨hfl, rfl⟩, by decide⟩ rfl ⟨by decide, by decide, rfl⟩ (hts (.fieldLink RX7 23 "OpticalJukebox" "spare" "LOpticalJukebox$State;") (by decide +kernel)) (v := .ref (adr (k_sp c4) 4 0)) rfl dX7_load_75 ?_
        refine x_putV (i := g.1) (k := 7) (j := 0) (t := 3) (w' := (kZ c4 (k_sp c4, k_sp c4, k_pl c4), mt)) hx hb hts i_7 tyX7 tyX7_ok nmX7 hown hK hW ⟨⟨hfl, rfl⟩, by decide⟩ hS rfl ⟨by decide, by decide, rfl⟩ (hts (.fieldLink RX7 19 "OpticalJukebox" "state" "LOpticalJukebox$State;") (by decide +kernel)) rfl (ty := .object RX4) (by decide +kernel) rfl rfl dX7_load_78 (wf_st hW hm2) (fun H locs hW hS => ?_)
        rw [← f1] at hW
        have hm3 : k_st c4 ∈ k_S d1 := by rw [f1]; exact hm1
        refine lv_aload_n hx hb dX7_load_81 rfl (lv_at hl 2 rfl) ?_
        refine lv_aload_n hx hb dX7_load_82 rfl (lv_at hl 0 rfl) ?_
        refine x_putV (i := g.1) (k := 7) (j := 0) (t := 4) (w' := (kZ d1 (k_st d1, k_st c4, k_pl d1), mt)) hx hb hts i_7 tyX7 tyX7_ok nmX7 hown hK hW ⟨⟨hfl, rfl⟩, by decide⟩ hS rfl ⟨by decide, by decide, rfl⟩ (hts (.fieldLink RX7 23 "OpticalJukebox" "spare" "LOpticalJukebox$State;") (by decide +kernel)) rfl (ty := .object RX4) (by decide +kernel) rfl rfl dX7_load_83 (wf_sp hW hm3) (fun H locs hW hS => ?_)
        rw [← eo, ← f2] at hW
        refine lv_aload_n hx hb dX7_load_86 rfl (lv_at hl 2 rfl) ?_
        refine x_get (i := g.1) (k := 7) (j := 0) (t := 5) hx hb hts i_7 hown hK hW ⟨⟨hfl, rfl⟩, by decide⟩ rfl ⟨by decide, by decide, rfl⟩ (hts (.fieldLink RX7 29 "OpticalJukebox" "history" "LOpticalJukebox$History;") (by decide +kernel)) (v := .ref (adr (g.1 + 186) 1 0)) rfl dX7_load_87 ?_
        refine x_cv0 (x_rV ⟨hx, hb, hml, hown, hts⟩ (ct_X1_forgetAll l g hfl (d2, mt) (k_hz d2) (k_hd d2) h3) (cwV 0 hts gX7_load_X1_forgetAll rfl rfl rfl (by decide +kernel) ⟨Nat.le_of_ble_eq_true rfl, Nat.le_of_ble_eq_true rfl⟩) hK hW hS (x_recv (i := (g.1 + 186)) (k := 1) (j := 0) hK hW ⟨⟨hfl, rfl⟩, by decide⟩ rfl (by decide)) rfl hl.1 (rest := []) rfl (Nat.le_of_ble_eq_true rfl) dX7_load_90 ⟨Nat.le_of_ble_eq_true rfl, Nat.le_of_ble_eq_true rfl⟩) hS (fun H locs hW hS => ?_)
        have hW : World g (kH d2 hd (k_hz d2), mt) H := hW
        rw [← f3] at hW
        refine lv_aload_n hx hb dX7_load_93 rfl (lv_at hl 2 rfl) ?_
        refine x_cv0 (x_rV ⟨hx, hb, hml, hown, hts⟩ (ct_X7_forgetPlan l g hfl d3 mt h4) (cwV 0 hts gX7_load_X7_forgetPlan rfl rfl rfl (by decide +kernel) ⟨Nat.le_of_ble_eq_true rfl, Nat.le_of_ble_eq_true rfl⟩) hK hW hS (x_recv (i := g.1) (k := 7) (j := 0) hK hW ⟨⟨hfl, rfl⟩, by decide⟩ rfl (by decide)) rfl hl.1 (rest := []) rfl (Nat.le_of_ble_eq_true rfl) dX7_load_94 ⟨Nat.le_of_ble_eq_true rfl, Nat.le_of_ble_eq_true rfl⟩) hS (fun H locs hW hS => ?_)
        have hW : World g (d4, mt) H := hW
        refine lv_aload_n hx hb dX7_load_97 rfl (lv_at hl 2 rfl) ?_
        refine x_get (i := g.1) (k := 7) (j := 0) (t := 3) hx hb hts i_7 hown hK hW ⟨⟨hfl, rfl⟩, by decide⟩ rfl ⟨by decide, by decide, rfl⟩ (hts (.fieldLink RX7 19 "OpticalJukebox" "state" "LOpticalJukebox$State;") (by decide +kernel)) (v := .ref (adr (k_st d4) 4 0)) rfl dX7_load_98 ?_
        refine x_get (i := (k_st d4)) (k := 4) (j := 0) (t := 11) hx hb hts i_4 hown hK hW ⟨hW.2.2.2.1, by decide⟩ rfl ⟨by decide, by decide, rfl⟩ (hts (.fieldLink RX7 70 "OpticalJukebox$State" "fileCount" "I") (by decide +kernel)) (v := .int (k_xs d4 (k_st d4) 4 0 11)) rfl dX7_load_101 ?_
        cases hf
        exact x_iret hx hb hr hlocks hK hW hS rfl dX7_load_104
      · have hf := x_iteT hf hc
        cases hf
        refine lv_ldc (v := -1000006) hx hb hown (hts (.constant RX7 63 (-1000006)) (by decide +kernel)) dX7_load_65 ?_
        exact x_iret hx hb hr hlocks hK hW hS rfl dX7_load_67
    · have hf := x_iteF hf hc
      cases hf
      refine lv_ldc (v := -1000002) hx hb hown (hts (.constant RX7 46 (-1000002)) (by decide +kernel)) dX7_load_15 ?_
      exact x_iret hx hb hr hlocks hK hW hS rfl dX7_load_17
theorem ready_pl {cs : CT} {q : Nat × CT} (hf : f_X7_readyPlanner cs = some q) : k_pl q.2 = some q.1 := by
  unfold f_X7_readyPlanner at hf
  cases h : k_pl cs with
  | some pi => rw [h] at hf; cases hf; exact h
  | none => rw [h] at hf; cases hf; rfl
abbrev rm_X7_readyPlanner : Room := { frames := 2, cells := 4, slots := 10356, locals := 36 }
set_option maxRecDepth 100000 in
set_option maxHeartbeats 8000000 in
theorem ct_X7_readyPlanner (l : Launch) (g : GT) (hfl : 1 ≤ gf g) (cs : CT) (mt : MT) {q : Nat × CT} (hf : f_X7_readyPlanner cs = some q) : Met l yX7_readyPlanner wsX7_readyPlanner rm_X7_readyPlanner (cPre g (cs, mt) [.ref (adr g.1 7 0)]) (cQr g (adr q.1 2 0) (q.2, mt)) 4 10356 (gA g) := by
  have i_2 : ∀ w ∈ u_ws RX2 TX2 6, w ∈ wsX7_readyPlanner := by decide +kernel
  have i_7 : ∀ w ∈ u_ws RX7 TX7 9, w ∈ wsX7_readyPlanner := by decide +kernel
  refine x_met (by decide) rfl (Nat.le_of_ble_eq_true rfl) ?_
  intro p e s m below meth c hx hb hr hml hts hown hlocks hK hW hS ls hl
  have hown : s.vm.findClass RX7 = some m.cls := hown
  have hl : lv_has ls 1 [(0, .ref (adr g.1 7 0))] := hl
  unfold f_X7_readyPlanner at hf
  refine lv_aload_n hx hb dX7_readyPlanner_0 rfl (lv_at hl 0 rfl) ?_
  cases hpl : k_pl cs with
  | some pi =>
    rw [hpl] at hf
    cases hf
    refine x_get (i := g.1) (k := 7) (j := 0) (t := 6) hx hb hts i_7 hown hK hW ⟨⟨hfl, rfl⟩, by decide⟩ rfl ⟨by decide, by decide, rfl⟩ (hts (.fieldLink RX7 376 "OpticalJukebox" "planner" "LOpticalJukebox$Planner;") (by decide +kernel)) (v := .ref (adr pi 2 0)) (by show va_rf (Option.map _ (k_pl _)) = _; rw [hpl]; rfl) dX7_readyPlanner_1 ?_
    refine lv_ifnonnull (tgt := 18) hx hb dX7_readyPlanner_4 (by decide) ?_
    refine lv_aload_n hx hb dX7_readyPlanner_18 rfl (lv_at hl 0 rfl) ?_
    refine x_get (i := g.1) (k := 7) (j := 0) (t := 6) hx hb hts i_7 hown hK hW ⟨⟨hfl, rfl⟩, by decide⟩ rfl ⟨by decide, by decide, rfl⟩ (hts (.fieldLink RX7 376 "OpticalJukebox" "planner" "LOpticalJukebox$Planner;") (by decide +kernel)) (v := .ref (adr pi 2 0)) (by show va_rf (Option.map _ (k_pl _)) = _; rw [hpl]; rfl) dX7_readyPlanner_19 ?_
    refine W.widen (k := 4) (n := 10356) (by decide) (by decide) ?_
    exact x_aret hx hb hr (Or.inl ⟨_, rfl⟩) hlocks hK hW hS rfl dX7_readyPlanner_22
  | none =>
    rw [hpl] at hf
    cases hf
    have hgz := hW.o_lt hfl
    have hsz : s.heap.size = k_sz cs := hW.2.2.1
    have hlt := hW.lt (i := g.1) (k := 7) (j := 0) ⟨⟨hfl, rfl⟩, by decide⟩
    have hlt : g.1 < s.heap.size := hlt
    refine x_get (i := g.1) (k := 7) (j := 0) (t := 6) hx hb hts i_7 hown hK hW ⟨⟨hfl, rfl⟩, by decide⟩ rfl ⟨by decide, by decide, rfl⟩ (hts (.fieldLink RX7 376 "OpticalJukebox" "planner" "LOpticalJukebox$Planner;") (by decide +kernel)) (v := .null) (by show va_rf (Option.map _ (k_pl _)) = _; rw [hpl]; rfl) dX7_readyPlanner_1 ?_
    refine lv_ifnonnullN hx hb dX7_readyPlanner_4 ?_
    refine lv_aload_n hx hb dX7_readyPlanner_7 rfl (lv_at hl 0 rfl) ?_
    refine rl_new (A := gA g) (ws := []) (ci := 2) (fs := [.null, .null, .null, .int 0, .int 0, .int 0]) hx hb hts i_2 tyX2 tyX2_ok hown (hts (.classLink RX7 328 RX2) (by decide +kernel)) (hts (.instantiable RX2 6) (by decide +kernel)) (hts (.initialized RX2) (by decide +kernel)) hK (fun k x h => by simp at h) ⟨fun i j x y h => by simp at h, fun k x h => by simp at h⟩ hS hsz hgz rfl (fun j hj => by rcases (show j = 0 ∨ j = 1 ∨ j = 2 ∨ j = 3 ∨ j = 4 ∨ j = 5 by omega) with rfl | rfl | rfl | rfl | rfl | rfl <;> rfl) (Nat.le_of_ble_eq_true rfl) (Nat.le_of_ble_eq_true rfl) dX7_readyPlanner_8 (fun H2 hz2 ho2 hP2 hD2 hS2 => ?_)
    refine lv_dup hx hb dX7_readyPlanner_11 rfl ?_
    refine va_callv (va_runIN (As := []) (rest := [.ref (k_sz cs), .ref (adr g.1 7 0)]) ⟨hx, hb, hml, hown, hts⟩ (rc_X2_init l g H2 (k_sz cs) (k_sz cs + 1) hz2 (Nat.lt_succ_self _) hgz hP2) ⟨va_cnB 0 hts gX7_readyPlanner_X2_init_n380 rfl rfl rfl (hK.2.2.2.2.2.2.2.2.2 5 (by decide)) (hts (.initialized RX2) (by decide +kernel)) (by decide +kernel) ⟨Nat.le_of_ble_eq_true rfl, Nat.le_of_ble_eq_true rfl⟩, rfl, hts (.instanceMethod yX2_init) (by decide +kernel)⟩ ⟨r_blind, fun U hU hWm => ⟨rfl, hK.to hS2 hU hWm, hU⟩⟩ rfl rfl hl.1 rfl (lv_room (Nat.le_of_ble_eq_true rfl)) dX7_readyPlanner_12 ⟨Nat.le_of_ble_eq_true rfl, Nat.le_of_ble_eq_true rfl⟩) hS2 (fun q _ h => by show g.1 ≤ q; rcases h with h | h <;> omega) (fun q h => by show g.1 ≤ q; rcases h with h | h <;> omega) (fun u t H3 locs3 ht hvm hw hB hz3 hk3 hS3 => ?_)
    rw [ht] at hB
    obtain ⟨-, hz3, hB3⟩ := hB
    have ho3 : ∀ q : Nat, q < k_sz cs → H3[q]? = s.heap[q]? := fun q hq => by rw [hk3 q (by omega) (fun h => by rcases h with h | h <;> omega), ho2 q hq]
    have hc7 := hW.cell (i := g.1) (k := 7) (j := 0) ⟨⟨hfl, rfl⟩, by decide⟩
    rw [cell_obj (by decide)] at hc7
    have hc7 : va_at (gD g) vwCl (adr g.1 7 0, .inr (7, (List.range (nf 7)).map (sval (cs, mt) g.1 7 0))) H3 := hc7.kept (ho3 _ (by show g.1 < _; omega))
    refine W.eq (g2 := F0 m 15 ls [.ref (k_sz cs), .ref (adr g.1 7 0)]) rfl ?_
    refine rr_put (A := gA g) (a := adr g.1 7 0) (ci := 7) (fs := (List.range (nf 7)).map (sval (cs, mt) g.1 7 0)) hx hb hts i_7 tyX7 tyX7_ok nmX7 hown hK hc7 hS3 (by show g.1 ≤ adr g.1 7 0; exact Nat.le_refl _) rfl 6 (by decide) (hts (.fieldLink RX7 376 "OpticalJukebox" "planner" "LOpticalJukebox$Planner;") (by decide +kernel)) rfl (ty := .object RX2) (by decide +kernel) rfl rfl (by rw [sval_len]; decide) dX7_readyPlanner_15 (fun H4 locs4 hz4 he4 ho4 hS4 => ?_)
    have hk4 : ∀ q : Nat, k_sz cs ≤ q → H4[q]? = H3[q]? := fun q hq => ho4 q (fun h => by have : q = g.1 := h; omega)
    have hW4 := hW.growP hfl hgz hpl (H3 := H4) (by rw [hz4, hz3]) (fun q hq hne => by rw [ho4 q hne, ho3 q hq]) he4 ((hB3 0 _ rfl).kept (hk4 _ (Nat.le_refl _))) ((hB3 1 _ rfl).kept (hk4 _ (by show _ ≤ k_sz cs + 1; omega))) ((hB3 2 _ rfl).kept (hk4 _ (by show _ ≤ k_sz cs + 1 + 1; omega))) ((hB3 3 _ rfl).kept (hk4 _ (by show _ ≤ k_sz cs + 1 + 2; omega)))
    refine lv_aload_n hx hb dX7_readyPlanner_18 rfl (lv_at hl 0 rfl) ?_
    refine x_get (i := g.1) (k := 7) (j := 0) (t := 6) hx hb hts i_7 hown hK hW4 ⟨⟨hfl, rfl⟩, by decide⟩ rfl ⟨by decide, by decide, rfl⟩ (hts (.fieldLink RX7 376 "OpticalJukebox" "planner" "LOpticalJukebox$Planner;") (by decide +kernel)) (v := .ref (adr (k_sz cs) 2 0)) rfl dX7_readyPlanner_19 ?_
    refine W.cs (cells' := 4) (slots' := 10356) rfl rfl ?_
    exact x_aret hx hb hr (Or.inl ⟨_, rfl⟩) hlocks hK hW4 hS4 rfl dX7_readyPlanner_22
