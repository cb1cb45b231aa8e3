set_option maxRecDepth 20000 in
theorem ggX8_load_X8_isIn : GoodIn wsX8_load wsX8_isIn := goodIn_r _ [20] (by decide +kernel) (by decide +kernel)
set_option maxRecDepth 20000 in
theorem gX8_load_X8_isIn : GoodIn wsX8_load (va_wsS RX8 57 yX8_isIn wsX8_isIn) := goodIn_app (goodIn_of _ (by decide +kernel)) ggX8_load_X8_isIn
set_option maxRecDepth 20000 in
theorem ggX8_load_X8_defaults : GoodIn wsX8_load wsX8_defaults := goodIn_r _ [23] (by decide +kernel) (by decide +kernel)
set_option maxRecDepth 20000 in
theorem gX8_load_X8_defaults : GoodIn wsX8_load (va_wsS RX8 47 yX8_defaults wsX8_defaults) := goodIn_app (goodIn_of _ (by decide +kernel)) ggX8_load_X8_defaults
set_option maxRecDepth 20000 in
theorem ggX8_load_X8_next : GoodIn wsX8_load wsX8_next := goodIn_r _ [27, 5, 28, 4, 29, 9, 30, 31, 32, 33, 34, 35, 36, 19, 37, 17, 18, 20, 140, 141, 142, 143, 144, 145, 146, 147, 148, 149, 150, 151, 152, 153, 154, 155, 156, 157, 158, 159, 160, 161, 162, 163, 164, 165, 166] (by decide +kernel) (by decide +kernel)
set_option maxRecDepth 20000 in
theorem gX8_load_X8_next : GoodIn wsX8_load (wsV RX8 336 RX8 yX8_next wsX8_next) := goodIn_app (goodIn_of _ (by decide +kernel)) ggX8_load_X8_next
set_option maxRecDepth 20000 in
theorem ggX8_load_X8_good : GoodIn wsX8_load wsX8_good := goodIn_r _ [41, 6, 140, 141, 142, 143, 144, 145, 146, 147, 148, 149, 150, 151, 152, 153, 154, 155, 156, 157, 158, 159, 160, 161, 162, 163, 164, 165, 166] (by decide +kernel) (by decide +kernel)
set_option maxRecDepth 20000 in
theorem gX8_load_X8_good : GoodIn wsX8_load (wsV RX8 333 RX8 yX8_good wsX8_good) := goodIn_app (goodIn_of _ (by decide +kernel)) ggX8_load_X8_good
set_option maxRecDepth 20000 in
theorem ggX8_load_X8_line : GoodIn wsX8_load wsX8_line := goodIn_r _ [45, 46, 47, 48, 49, 50, 51, 52, 7, 53, 54, 55, 19, 56, 9, 30, 38, 39, 40, 41, 6, 57, 58, 59, 60, 8, 61, 62, 63, 64, 28, 11, 65, 66, 67, 68, 24, 25, 26, 27, 5, 4, 29, 31, 32, 33, 34, 35, 36, 37, 17, 18, 20, 69, 70, 71, 72, 73, 74, 75, 76, 77, 78, 79, 80, 81, 82, 83, 84, 85, 86, 87, 88, 89, 90, 91, 92, 93, 94, 95, 96, 97, 98, 99, 100, 101, 102, 103, 104, 105, 106, 107, 108, 109, 110, 111, 112, 113, 114, 115, 116, 117, 118, 119, 120, 121, 122, 123, 124, 125, 126, 127, 128, 129, 130, 131, 132, 133, 134, 135, 136, 140, 141, 142, 143, 144, 145, 146, 147, 148, 149, 150, 151, 152, 153, 154, 155, 156, 157, 158, 159, 160, 161, 162, 163, 164, 165, 166] (by decide +kernel) (by decide +kernel)
set_option maxRecDepth 20000 in
theorem gX8_load_X8_line : GoodIn wsX8_load (wsV RX8 397 RX8 yX8_line wsX8_line) := goodIn_app (goodIn_of _ (by decide +kernel)) ggX8_load_X8_line
set_option maxRecDepth 20000 in
theorem ggX8_load_X8_must : GoodIn wsX8_load wsX8_must := goodIn_r _ [64, 6, 9, 28, 11, 140, 141, 142, 143, 144, 145, 146, 147, 148, 149, 150, 151, 152, 153, 154, 155, 156, 157, 158, 159, 160, 161, 162, 163, 164, 165, 166] (by decide +kernel) (by decide +kernel)
set_option maxRecDepth 20000 in
theorem gX8_load_X8_must : GoodIn wsX8_load (wsV RX8 357 RX8 yX8_must wsX8_must) := goodIn_app (goodIn_of _ (by decide +kernel)) ggX8_load_X8_must
set_option maxRecDepth 20000 in
theorem ggX8_load_X8_goesOn : GoodIn wsX8_load wsX8_goesOn := goodIn_r _ [68, 38, 39, 40, 19, 41, 6, 24, 25, 26, 27, 5, 28, 4, 29, 9, 30, 31, 32, 33, 34, 35, 36, 37, 17, 18, 20, 140, 141, 142, 143, 144, 145, 146, 147, 148, 149, 150, 151, 152, 153, 154, 155, 156, 157, 158, 159, 160, 161, 162, 163, 164, 165, 166] (by decide +kernel) (by decide +kernel)
set_option maxRecDepth 20000 in
theorem gX8_load_X8_goesOn : GoodIn wsX8_load (wsV RX8 364 RX8 yX8_goesOn wsX8_goesOn) := goodIn_app (goodIn_of _ (by decide +kernel)) ggX8_load_X8_goesOn
set_option maxRecDepth 20000 in
theorem ggX8_load_X8_copies : GoodIn wsX8_load wsX8_copies := goodIn_r _ [139] (by decide +kernel) (by decide +kernel)
set_option maxRecDepth 20000 in
theorem gX8_load_X8_copies : GoodIn wsX8_load (va_wsS RX8 129 yX8_copies wsX8_copies) := goodIn_app (goodIn_of _ (by decide +kernel)) ggX8_load_X8_copies
theorem dX8_load_0 : decode cX8_load 0 = .ok (.aload_n 0, 1) := by decide +kernel
theorem dX8_load_1 : decode cX8_load 1 = .ok (.iconst 0, 1) := by decide +kernel
theorem dX8_load_2 : decode cX8_load 2 = .ok (.putfield 51, 3) := by decide +kernel
theorem dX8_load_5 : decode cX8_load 5 = .ok (.iload_n 1, 1) := by decide +kernel
theorem dX8_load_6 : decode cX8_load 6 = .ok (.i2l, 1) := by decide +kernel
theorem dX8_load_7 : decode cX8_load 7 = .ok (.lconst 0, 1) := by decide +kernel
theorem dX8_load_8 : decode cX8_load 8 = .ok (.aload_n 0, 1) := by decide +kernel
theorem dX8_load_9 : decode cX8_load 9 = .ok (.getfield 294, 3) := by decide +kernel
theorem dX8_load_12 : decode cX8_load 12 = .ok (.i2l, 1) := by decide +kernel
theorem dX8_load_13 : decode cX8_load 13 = .ok (.invokestatic 57, 3) := by decide +kernel
theorem dX8_load_16 : decode cX8_load 16 = .ok (.ifCond .ne 6, 3) := by decide +kernel
theorem dX8_load_19 : decode cX8_load 19 = .ok (.ldc 224, 2) := by decide +kernel
theorem dX8_load_21 : decode cX8_load 21 = .ok (.ireturn, 1) := by decide +kernel
theorem dX8_load_22 : decode cX8_load 22 = .ok (.aload_n 0, 1) := by decide +kernel
theorem dX8_load_23 : decode cX8_load 23 = .ok (.iload_n 1, 1) := by decide +kernel
theorem dX8_load_24 : decode cX8_load 24 = .ok (.putfield 300, 3) := by decide +kernel
theorem dX8_load_27 : decode cX8_load 27 = .ok (.aload_n 0, 1) := by decide +kernel
theorem dX8_load_28 : decode cX8_load 28 = .ok (.iconst 0, 1) := by decide +kernel
theorem dX8_load_29 : decode cX8_load 29 = .ok (.putfield 303, 3) := by decide +kernel
theorem dX8_load_32 : decode cX8_load 32 = .ok (.aload_n 0, 1) := by decide +kernel
theorem dX8_load_33 : decode cX8_load 33 = .ok (.iconst 0, 1) := by decide +kernel
theorem dX8_load_34 : decode cX8_load 34 = .ok (.putfield 327, 3) := by decide +kernel
theorem dX8_load_37 : decode cX8_load 37 = .ok (.aload_n 0, 1) := by decide +kernel
theorem dX8_load_38 : decode cX8_load 38 = .ok (.iconst 0, 1) := by decide +kernel
theorem dX8_load_39 : decode cX8_load 39 = .ok (.putfield 367, 3) := by decide +kernel
theorem dX8_load_42 : decode cX8_load 42 = .ok (.aload_n 0, 1) := by decide +kernel
theorem dX8_load_43 : decode cX8_load 43 = .ok (.getfield 13, 3) := by decide +kernel
theorem dX8_load_46 : decode cX8_load 46 = .ok (.invokestatic 47, 3) := by decide +kernel
theorem dX8_load_49 : decode cX8_load 49 = .ok (.aload_n 0, 1) := by decide +kernel
theorem dX8_load_50 : decode cX8_load 50 = .ok (.invokevirtual 336, 3) := by decide +kernel
theorem dX8_load_53 : decode cX8_load 53 = .ok (.aload_n 0, 1) := by decide +kernel
theorem dX8_load_54 : decode cX8_load 54 = .ok (.invokevirtual 333, 3) := by decide +kernel
theorem dX8_load_57 : decode cX8_load 57 = .ok (.ifCond .eq 39, 3) := by decide +kernel
theorem dX8_load_60 : decode cX8_load 60 = .ok (.aload_n 0, 1) := by decide +kernel
theorem dX8_load_61 : decode cX8_load 61 = .ok (.getfield 313, 3) := by decide +kernel
theorem dX8_load_64 : decode cX8_load 64 = .ok (.ifCond .eq 32, 3) := by decide +kernel
theorem dX8_load_67 : decode cX8_load 67 = .ok (.aload_n 0, 1) := by decide +kernel
theorem dX8_load_68 : decode cX8_load 68 = .ok (.invokevirtual 397, 3) := by decide +kernel
theorem dX8_load_71 : decode cX8_load 71 = .ok (.aload_n 0, 1) := by decide +kernel
theorem dX8_load_72 : decode cX8_load 72 = .ok (.aload_n 0, 1) := by decide +kernel
theorem dX8_load_73 : decode cX8_load 73 = .ok (.getfield 313, 3) := by decide +kernel
theorem dX8_load_76 : decode cX8_load 76 = .ok (.iconst 3, 1) := by decide +kernel
theorem dX8_load_77 : decode cX8_load 77 = .ok (.if_icmp .ne 7, 3) := by decide +kernel
theorem dX8_load_80 : decode cX8_load 80 = .ok (.iconst 1, 1) := by decide +kernel
theorem dX8_load_81 : decode cX8_load 81 = .ok (.goto 4, 3) := by decide +kernel
theorem dX8_load_84 : decode cX8_load 84 = .ok (.iconst 0, 1) := by decide +kernel
theorem dX8_load_85 : decode cX8_load 85 = .ok (.iconst 2, 1) := by decide +kernel
theorem dX8_load_86 : decode cX8_load 86 = .ok (.invokevirtual 357, 3) := by decide +kernel
theorem dX8_load_89 : decode cX8_load 89 = .ok (.aload_n 0, 1) := by decide +kernel
theorem dX8_load_90 : decode cX8_load 90 = .ok (.invokevirtual 364, 3) := by decide +kernel
theorem dX8_load_93 : decode cX8_load 93 = .ok (.goto (-40), 3) := by decide +kernel
theorem dX8_load_96 : decode cX8_load 96 = .ok (.aload_n 0, 1) := by decide +kernel
theorem dX8_load_97 : decode cX8_load 97 = .ok (.iconst 0, 1) := by decide +kernel
theorem dX8_load_98 : decode cX8_load 98 = .ok (.putfield 294, 3) := by decide +kernel
theorem dX8_load_101 : decode cX8_load 101 = .ok (.aload_n 0, 1) := by decide +kernel
theorem dX8_load_102 : decode cX8_load 102 = .ok (.aload_n 0, 1) := by decide +kernel
theorem dX8_load_103 : decode cX8_load 103 = .ok (.getfield 327, 3) := by decide +kernel
theorem dX8_load_106 : decode cX8_load 106 = .ok (.putfield 400, 3) := by decide +kernel
theorem dX8_load_109 : decode cX8_load 109 = .ok (.aload_n 0, 1) := by decide +kernel
theorem dX8_load_110 : decode cX8_load 110 = .ok (.aload_n 0, 1) := by decide +kernel
theorem dX8_load_111 : decode cX8_load 111 = .ok (.getfield 327, 3) := by decide +kernel
theorem dX8_load_114 : decode cX8_load 114 = .ok (.ifCond .le 10, 3) := by decide +kernel
theorem dX8_load_117 : decode cX8_load 117 = .ok (.aload_n 0, 1) := by decide +kernel
theorem dX8_load_118 : decode cX8_load 118 = .ok (.getfield 330, 3) := by decide +kernel
theorem dX8_load_121 : decode cX8_load 121 = .ok (.goto 5, 3) := by decide +kernel
theorem dX8_load_124 : decode cX8_load 124 = .ok (.ldc 42, 2) := by decide +kernel
theorem dX8_load_126 : decode cX8_load 126 = .ok (.putfield 43, 3) := by decide +kernel
theorem dX8_load_129 : decode cX8_load 129 = .ok (.aload_n 0, 1) := by decide +kernel
theorem dX8_load_130 : decode cX8_load 130 = .ok (.getfield 327, 3) := by decide +kernel
theorem dX8_load_133 : decode cX8_load 133 = .ok (.ifCond .le 7, 3) := by decide +kernel
theorem dX8_load_136 : decode cX8_load 136 = .ok (.ldc_w 403, 3) := by decide +kernel
theorem dX8_load_139 : decode cX8_load 139 = .ok (.ireturn, 1) := by decide +kernel
theorem dX8_load_140 : decode cX8_load 140 = .ok (.aload_n 0, 1) := by decide +kernel
theorem dX8_load_141 : decode cX8_load 141 = .ok (.getfield 13, 3) := by decide +kernel
theorem dX8_load_144 : decode cX8_load 144 = .ok (.aload_n 0, 1) := by decide +kernel
theorem dX8_load_145 : decode cX8_load 145 = .ok (.getfield 7, 3) := by decide +kernel
theorem dX8_load_148 : decode cX8_load 148 = .ok (.invokestatic 129, 3) := by decide +kernel
theorem dX8_load_151 : decode cX8_load 151 = .ok (.aload_n 0, 1) := by decide +kernel
theorem dX8_load_152 : decode cX8_load 152 = .ok (.iconst 0, 1) := by decide +kernel
theorem dX8_load_153 : decode cX8_load 153 = .ok (.putfield 54, 3) := by decide +kernel
theorem dX8_load_156 : decode cX8_load 156 = .ok (.aload_n 0, 1) := by decide +kernel
theorem dX8_load_157 : decode cX8_load 157 = .ok (.getfield 7, 3) := by decide +kernel
theorem dX8_load_160 : decode cX8_load 160 = .ok (.bipush 9, 2) := by decide +kernel
theorem dX8_load_162 : decode cX8_load 162 = .ok (.iaload, 1) := by decide +kernel
theorem dX8_load_163 : decode cX8_load 163 = .ok (.ireturn, 1) := by decide +kernel
theorem dX8_errorKind_0 : decode cX8_errorKind 0 = .ok (.aload_n 0, 1) := by decide +kernel
theorem dX8_errorKind_1 : decode cX8_errorKind 1 = .ok (.iconst 0, 1) := by decide +kernel
theorem dX8_errorKind_2 : decode cX8_errorKind 2 = .ok (.putfield 51, 3) := by decide +kernel
theorem dX8_errorKind_5 : decode cX8_errorKind 5 = .ok (.aload_n 0, 1) := by decide +kernel
theorem dX8_errorKind_6 : decode cX8_errorKind 6 = .ok (.getfield 400, 3) := by decide +kernel
theorem dX8_errorKind_9 : decode cX8_errorKind 9 = .ok (.ireturn, 1) := by decide +kernel
theorem dX8_errorPosition_0 : decode cX8_errorPosition 0 = .ok (.aload_n 0, 1) := by decide +kernel
theorem dX8_errorPosition_1 : decode cX8_errorPosition 1 = .ok (.iconst 0, 1) := by decide +kernel
theorem dX8_errorPosition_2 : decode cX8_errorPosition 2 = .ok (.putfield 51, 3) := by decide +kernel
theorem dX8_errorPosition_5 : decode cX8_errorPosition 5 = .ok (.aload_n 0, 1) := by decide +kernel
theorem dX8_errorPosition_6 : decode cX8_errorPosition 6 = .ok (.getfield 43, 3) := by decide +kernel
theorem dX8_errorPosition_9 : decode cX8_errorPosition 9 = .ok (.ireturn, 1) := by decide +kernel
abbrev rm_X8_load : Room := { frames := 7, cells := 0, slots := 0, locals := 155 }
set_option maxRecDepth 100000 in
set_option maxHeartbeats 4000000 in
theorem ct_X8_load (l : Launch) (g : GT) (hfl : 2 ≤ gf g) (w : WT) (md : SD) (mn : Nat → Int64) (mw : Int64) (a1 : Int32) {q : (Int32 × SD × (Nat → Int64) × Int64)} (hf : f_X8_load md mn mw a1 = some q) : Met l yX8_load wsX8_load rm_X8_load (cPre g (wM w md mn mw) [.ref (adr (g.1 + 189) 8 0), .int a1]) (cQi g q.1 (wM w q.2.1 q.2.2.1 q.2.2.2)) 0 0 (gA g) := by
  have i_8 : ∀ w ∈ u_ws RX8 TX8 27, w ∈ wsX8_load := by decide +kernel
  refine x_met (by decide) rfl (Nat.le_of_ble_eq_true rfl) ?_
  intro p e s m below meth c hx hb hr hml hts hown hlocks hK hW hS ls hl
  have hown : s.vm.findClass RX8 = some m.cls := hown
  have hl : lv_has ls 2 [(0, .ref (adr (g.1 + 189) 8 0)), (1, .int a1)] := hl
  rw [f_X8_load] at hf
  refine lv_aload_n hx hb dX8_load_0 rfl (lv_at hl 0 rfl) ?_
  refine lv_iconst (v := 0) hx hb dX8_load_1 (by decide) ?_
  obtain ⟨md1, e_md1, hf⟩ := x_letE hf
  refine x_put (i := (g.1 + 189)) (k := 8) (j := 0) (t := 0) (w' := wM w md1 mn mw) hx hb hts i_8 tyX8 tyX8_ok nmX8 hown hK hW ⟨⟨hfl, rfl⟩, by decide⟩ hS rfl ⟨by decide, by decide, rfl⟩ (hts (.fieldLink RX8 51 "OpticalJukeboxModel" "thrown" "I") (by decide +kernel)) rfl (ty := .int) (by decide +kernel) rfl rfl ⟨rfl, rfl⟩ dX8_load_2 (fp_M e_md1 rfl) (fun H locs hW hS => ?_)
  refine lv_iload_n hx hb dX8_load_5 rfl (lv_at hl 1 rfl) ?_
  refine lv_i2l hx hb dX8_load_6 rfl ?_
  refine lv_lconst (v := 0) hx hb dX8_load_7 (by decide) ?_
  refine lv_aload_n hx hb dX8_load_8 rfl (lv_at hl 0 rfl) ?_
  refine x_get (i := (g.1 + 189)) (k := 8) (j := 0) (t := 15) hx hb hts i_8 hown hK hW ⟨⟨hfl, rfl⟩, by decide⟩ rfl ⟨by decide, by decide, rfl⟩ (hts (.fieldLink RX8 294 "OpticalJukeboxModel" "buffered" "I") (by decide +kernel)) (rfl) dX8_load_9 ?_
  refine lv_i2l hx hb dX8_load_12 rfl ?_
  obtain ⟨q2, h_q2, hf⟩ := x_bindE hf
  refine x_ci0 (x_rS ⟨hx, hb, hml, hown, hts⟩ (ct_X8_isIn l g (wM w md1 mn mw) ((a1).toInt64) ((0 : Int64)) (((md1 8 0 15)).toInt64) h_q2) (va_cwS 3 hts gX8_load_X8_isIn rfl rfl rfl (by decide +kernel) ⟨Nat.le_of_ble_eq_true rfl, Nat.le_of_ble_eq_true rfl⟩) hK hW hS rfl hl.1 (rest := []) rfl (Nat.le_of_ble_eq_true rfl) dX8_load_13 ⟨Nat.le_of_ble_eq_true rfl, Nat.le_of_ble_eq_true rfl⟩) hS (fun H locs hW hS => ?_)
  have hW : World g (wM w md1 mn mw) H := hW
  refine W.eq (g2 := F0 m 16 ls [.int q2]) rfl ?_
  refine lv_if_ne (tgt := 22) hx hb dX8_load_16 (by decide) (fun hc => ?_) (fun hc => ?_)
  · have hf := x_iteF hf hc
    refine lv_aload_n hx hb dX8_load_22 rfl (lv_at hl 0 rfl) ?_
    refine lv_iload_n hx hb dX8_load_23 rfl (lv_at hl 1 rfl) ?_
    obtain ⟨md3, e_md3, hf⟩ := x_letE hf
    refine x_put (i := (g.1 + 189)) (k := 8) (j := 0) (t := 24) (w' := wM w md3 mn mw) hx hb hts i_8 tyX8 tyX8_ok nmX8 hown hK hW ⟨⟨hfl, rfl⟩, by decide⟩ hS rfl ⟨by decide, by decide, rfl⟩ (hts (.fieldLink RX8 300 "OpticalJukeboxModel" "last" "I") (by decide +kernel)) rfl (ty := .int) (by decide +kernel) rfl rfl ⟨rfl, rfl⟩ dX8_load_24 (fp_M e_md3 rfl) (fun H locs hW hS => ?_)
    refine lv_aload_n hx hb dX8_load_27 rfl (lv_at hl 0 rfl) ?_
    refine lv_iconst (v := 0) hx hb dX8_load_28 (by decide) ?_
    obtain ⟨md4, e_md4, hf⟩ := x_letE hf
    refine x_put (i := (g.1 + 189)) (k := 8) (j := 0) (t := 21) (w' := wM w md4 mn mw) hx hb hts i_8 tyX8 tyX8_ok nmX8 hown hK hW ⟨⟨hfl, rfl⟩, by decide⟩ hS rfl ⟨by decide, by decide, rfl⟩ (hts (.fieldLink RX8 303 "OpticalJukeboxModel" "then" "I") (by decide +kernel)) rfl (ty := .int) (by decide +kernel) rfl rfl ⟨rfl, rfl⟩ dX8_load_29 (fp_M e_md4 rfl) (fun H locs hW hS => ?_)
    refine lv_aload_n hx hb dX8_load_32 rfl (lv_at hl 0 rfl) ?_
    refine lv_iconst (v := 0) hx hb dX8_load_33 (by decide) ?_
    obtain ⟨md5, e_md5, hf⟩ := x_letE hf
    refine x_put (i := (g.1 + 189)) (k := 8) (j := 0) (t := 18) (w' := wM w md5 mn mw) hx hb hts i_8 tyX8 tyX8_ok nmX8 hown hK hW ⟨⟨hfl, rfl⟩, by decide⟩ hS rfl ⟨by decide, by decide, rfl⟩ (hts (.fieldLink RX8 327 "OpticalJukeboxModel" "wrong" "I") (by decide +kernel)) rfl (ty := .int) (by decide +kernel) rfl rfl ⟨rfl, rfl⟩ dX8_load_34 (fp_M e_md5 rfl) (fun H locs hW hS => ?_)
    refine lv_aload_n hx hb dX8_load_37 rfl (lv_at hl 0 rfl) ?_
    refine lv_iconst (v := 0) hx hb dX8_load_38 (by decide) ?_
    obtain ⟨md6, e_md6, hf⟩ := x_letE hf
    refine x_put (i := (g.1 + 189)) (k := 8) (j := 0) (t := 25) (w' := wM w md6 mn mw) hx hb hts i_8 tyX8 tyX8_ok nmX8 hown hK hW ⟨⟨hfl, rfl⟩, by decide⟩ hS rfl ⟨by decide, by decide, rfl⟩ (hts (.fieldLink RX8 367 "OpticalJukeboxModel" "statements" "I") (by decide +kernel)) rfl (ty := .int) (by decide +kernel) rfl rfl ⟨rfl, rfl⟩ dX8_load_39 (fp_M e_md6 rfl) (fun H locs hW hS => ?_)
    refine lv_aload_n hx hb dX8_load_42 rfl (lv_at hl 0 rfl) ?_
    refine x_get (i := (g.1 + 189)) (k := 8) (j := 0) (t := 2) hx hb hts i_8 hown hK hW ⟨⟨hfl, rfl⟩, by decide⟩ rfl ⟨by decide, by decide, rfl⟩ (hts (.fieldLink RX8 13 "OpticalJukeboxModel" "read" "[I") (by decide +kernel)) (v := .ref (adr (g.1 + 189) 31 0)) rfl dX8_load_43 ?_
    obtain ⟨q7, h_q7, hf⟩ := x_bindE hf
    refine x_cv0 (x_rS ⟨hx, hb, hml, hown, hts⟩ (ct_X8_defaults l g hfl w md6 mn mw 31 isRow_31 h_q7) (va_cwS 1 hts gX8_load_X8_defaults rfl rfl rfl (by decide +kernel) ⟨Nat.le_of_ble_eq_true rfl, Nat.le_of_ble_eq_true rfl⟩) hK hW hS rfl hl.1 (rest := []) rfl (Nat.le_of_ble_eq_true rfl) dX8_load_46 ⟨Nat.le_of_ble_eq_true rfl, Nat.le_of_ble_eq_true rfl⟩) hS (fun H locs hW hS => ?_)
    have hW : World g (wM w q7 mn mw) H := hW
    refine lv_aload_n hx hb dX8_load_49 rfl (lv_at hl 0 rfl) ?_
    obtain ⟨q8, h_q8, hf⟩ := x_bindE hf
    refine x_cv0 (x_rV ⟨hx, hb, hml, hown, hts⟩ (ct_X8_next l g hfl w q7 mn mw  h_q8) (cwV 0 hts gX8_load_X8_next rfl rfl rfl (by decide +kernel) ⟨Nat.le_of_ble_eq_true rfl, Nat.le_of_ble_eq_true rfl⟩) hK hW hS (x_recv (i := (g.1 + 189)) (k := 8) (j := 0) hK hW ⟨⟨hfl, rfl⟩, by decide⟩ rfl (by decide)) rfl hl.1 (rest := []) rfl (Nat.le_of_ble_eq_true rfl) dX8_load_50 ⟨Nat.le_of_ble_eq_true rfl, Nat.le_of_ble_eq_true rfl⟩) hS (fun H locs hW hS => ?_)
    have hW : World g (wM w q8.1 mn q8.2) H := hW
    have L53 : ∀ (n : Nat) (md_53 : SD) (mn_53 : Nat → Int64) (mw_53 : Int64) (ls : Array Slot) (H : Heap) (locs : List Loc), lv_has ls 2 [(0, .ref (adr (g.1 + 189) 8 0)), (1, .int a1)] → World g (wM w md_53 mn_53 mw_53) H → va_S (gA g) s.heap H locs → f_X8_load_L53  n md_53 mn_53 mw_53 = some q → W p l e rm_X8_load s m [.ref (adr (g.1 + 189) 8 0), .int a1].toArray below meth c H locs 0 0 (MQ below (cQi g q.1 (wM w q.2.1 q.2.2.1 q.2.2.2)) [.ref (adr (g.1 + 189) 8 0), .int a1].toArray s 0 0 (gA g)) (F0 m 53 ls []) := by
      clear hW hS hl
      intro n
      induction n with
      | zero => intro md_53 mn_53 mw_53 ls H locs hl hW hS hf; cases hf
      | succ n_53 ih =>
        intro md_53 mn_53 mw_53 ls H locs hl hW hS hf
        rw [f_X8_load_L53] at hf
        refine lv_aload_n hx hb dX8_load_53 rfl (lv_at hl 0 rfl) ?_
        obtain ⟨q9, h_q9, hf⟩ := x_bindE hf
        refine x_ci0 (x_rV ⟨hx, hb, hml, hown, hts⟩ (ct_X8_good l g hfl w md_53 mn_53 mw_53  h_q9) (cwV 0 hts gX8_load_X8_good rfl rfl rfl (by decide +kernel) ⟨Nat.le_of_ble_eq_true rfl, Nat.le_of_ble_eq_true rfl⟩) hK hW hS (x_recv (i := (g.1 + 189)) (k := 8) (j := 0) hK hW ⟨⟨hfl, rfl⟩, by decide⟩ rfl (by decide)) rfl hl.1 (rest := []) rfl (Nat.le_of_ble_eq_true rfl) dX8_load_54 ⟨Nat.le_of_ble_eq_true rfl, Nat.le_of_ble_eq_true rfl⟩) hS (fun H locs hW hS => ?_)
        have hW : World g (wM w md_53 mn_53 mw_53) H := hW
        refine W.eq (g2 := F0 m 57 ls [.int q9]) rfl ?_
        obtain ⟨K10, eK10, hf⟩ := x_letE hf
        have KK10 : ∀ (_u : Unit) (ls : Array Slot) (H : Heap) (locs : List Loc), lv_has ls 2 [(0, .ref (adr (g.1 + 189) 8 0)), (1, .int a1)] → World g (wM w md_53 mn_53 mw_53) H → va_S (gA g) s.heap H locs → K10 _u = some q → W p l e rm_X8_load s m [.ref (adr (g.1 + 189) 8 0), .int a1].toArray below meth c H locs 0 0 (MQ below (cQi g q.1 (wM w q.2.1 q.2.2.1 q.2.2.2)) [.ref (adr (g.1 + 189) 8 0), .int a1].toArray s 0 0 (gA g)) (F0 m 96 ls []) := by
          intro _u ls H locs hl hW hS hf
          subst eK10
          refine lv_aload_n hx hb dX8_load_96 rfl (lv_at hl 0 rfl) ?_
          refine lv_iconst (v := 0) hx hb dX8_load_97 (by decide) ?_
          obtain ⟨md11, e_md11, hf⟩ := x_letE hf
          refine x_put (i := (g.1 + 189)) (k := 8) (j := 0) (t := 15) (w' := wM w md11 mn_53 mw_53) hx hb hts i_8 tyX8 tyX8_ok nmX8 hown hK hW ⟨⟨hfl, rfl⟩, by decide⟩ hS rfl ⟨by decide, by decide, rfl⟩ (hts (.fieldLink RX8 294 "OpticalJukeboxModel" "buffered" "I") (by decide +kernel)) rfl (ty := .int) (by decide +kernel) rfl rfl ⟨rfl, rfl⟩ dX8_load_98 (fp_M e_md11 rfl) (fun H locs hW hS => ?_)
          refine lv_aload_n hx hb dX8_load_101 rfl (lv_at hl 0 rfl) ?_
          refine lv_aload_n hx hb dX8_load_102 rfl (lv_at hl 0 rfl) ?_
          refine x_get (i := (g.1 + 189)) (k := 8) (j := 0) (t := 18) hx hb hts i_8 hown hK hW ⟨⟨hfl, rfl⟩, by decide⟩ rfl ⟨by decide, by decide, rfl⟩ (hts (.fieldLink RX8 327 "OpticalJukeboxModel" "wrong" "I") (by decide +kernel)) (rfl) dX8_load_103 ?_
          obtain ⟨md12, e_md12, hf⟩ := x_letE hf
          refine x_put (i := (g.1 + 189)) (k := 8) (j := 0) (t := 16) (w' := wM w md12 mn_53 mw_53) hx hb hts i_8 tyX8 tyX8_ok nmX8 hown hK hW ⟨⟨hfl, rfl⟩, by decide⟩ hS rfl ⟨by decide, by decide, rfl⟩ (hts (.fieldLink RX8 400 "OpticalJukeboxModel" "wrongKind" "I") (by decide +kernel)) rfl (ty := .int) (by decide +kernel) rfl rfl ⟨rfl, rfl⟩ dX8_load_106 (fp_M e_md12 rfl) (fun H locs hW hS => ?_)
          refine lv_aload_n hx hb dX8_load_109 rfl (lv_at hl 0 rfl) ?_
          refine lv_aload_n hx hb dX8_load_110 rfl (lv_at hl 0 rfl) ?_
          refine x_get (i := (g.1 + 189)) (k := 8) (j := 0) (t := 18) hx hb hts i_8 hown hK hW ⟨⟨hfl, rfl⟩, by decide⟩ rfl ⟨by decide, by decide, rfl⟩ (hts (.fieldLink RX8 327 "OpticalJukeboxModel" "wrong" "I") (by decide +kernel)) (rfl) dX8_load_111 ?_
          obtain ⟨K13, eK13, hf⟩ := x_letE hf
          have KK13 : ∀ (y14 : Int32) (ls : Array Slot) (H : Heap) (locs : List Loc), lv_has ls 2 [(0, .ref (adr (g.1 + 189) 8 0)), (1, .int a1)] → World g (wM w md12 mn_53 mw_53) H → va_S (gA g) s.heap H locs → K13 y14 = some q → W p l e rm_X8_load s m [.ref (adr (g.1 + 189) 8 0), .int a1].toArray below meth c H locs 0 0 (MQ below (cQi g q.1 (wM w q.2.1 q.2.2.1 q.2.2.2)) [.ref (adr (g.1 + 189) 8 0), .int a1].toArray s 0 0 (gA g)) (F0 m 126 ls [.int y14, .ref (adr (g.1 + 189) 8 0)]) := by
            intro y14 ls H locs hl hW hS hf
            subst eK13
            obtain ⟨md15, e_md15, hf⟩ := x_letE hf
            refine x_put (i := (g.1 + 189)) (k := 8) (j := 0) (t := 17) (w' := wM w md15 mn_53 mw_53) hx hb hts i_8 tyX8 tyX8_ok nmX8 hown hK hW ⟨⟨hfl, rfl⟩, by decide⟩ hS rfl ⟨by decide, by decide, rfl⟩ (hts (.fieldLink RX8 43 "OpticalJukeboxModel" "wrongPlace" "I") (by decide +kernel)) rfl (ty := .int) (by decide +kernel) rfl rfl ⟨rfl, rfl⟩ dX8_load_126 (fp_M e_md15 rfl) (fun H locs hW hS => ?_)
            refine lv_aload_n hx hb dX8_load_129 rfl (lv_at hl 0 rfl) ?_
            refine x_get (i := (g.1 + 189)) (k := 8) (j := 0) (t := 18) hx hb hts i_8 hown hK hW ⟨⟨hfl, rfl⟩, by decide⟩ rfl ⟨by decide, by decide, rfl⟩ (hts (.fieldLink RX8 327 "OpticalJukeboxModel" "wrong" "I") (by decide +kernel)) (rfl) dX8_load_130 ?_
            refine lv_if_le (tgt := 140) hx hb dX8_load_133 (by decide) (fun hc => ?_) (fun hc => ?_)
            · have hf := x_iteT hf hc
              refine lv_aload_n hx hb dX8_load_140 rfl (lv_at hl 0 rfl) ?_
              refine x_get (i := (g.1 + 189)) (k := 8) (j := 0) (t := 2) hx hb hts i_8 hown hK hW ⟨⟨hfl, rfl⟩, by decide⟩ rfl ⟨by decide, by decide, rfl⟩ (hts (.fieldLink RX8 13 "OpticalJukeboxModel" "read" "[I") (by decide +kernel)) (v := .ref (adr (g.1 + 189) 31 0)) rfl dX8_load_141 ?_
              refine lv_aload_n hx hb dX8_load_144 rfl (lv_at hl 0 rfl) ?_
              refine x_get (i := (g.1 + 189)) (k := 8) (j := 0) (t := 1) hx hb hts i_8 hown hK hW ⟨⟨hfl, rfl⟩, by decide⟩ rfl ⟨by decide, by decide, rfl⟩ (hts (.fieldLink RX8 7 "OpticalJukeboxModel" "now" "[I") (by decide +kernel)) (v := .ref (adr (g.1 + 189) 30 0)) rfl dX8_load_145 ?_
              obtain ⟨q16, h_q16, hf⟩ := x_bindE hf
              refine x_cv0 (x_rS ⟨hx, hb, hml, hown, hts⟩ (ct_X8_copies l g hfl w md15 mn_53 mw_53 31 isRow_31 30 isRow_30 h_q16) (va_cwS 2 hts gX8_load_X8_copies rfl rfl rfl (by decide +kernel) ⟨Nat.le_of_ble_eq_true rfl, Nat.le_of_ble_eq_true rfl⟩) hK hW hS rfl hl.1 (rest := []) rfl (Nat.le_of_ble_eq_true rfl) dX8_load_148 ⟨Nat.le_of_ble_eq_true rfl, Nat.le_of_ble_eq_true rfl⟩) hS (fun H locs hW hS => ?_)
              have hW : World g (wM w q16 mn_53 mw_53) H := hW
              refine lv_aload_n hx hb dX8_load_151 rfl (lv_at hl 0 rfl) ?_
              refine lv_iconst (v := 0) hx hb dX8_load_152 (by decide) ?_
              obtain ⟨md17, e_md17, hf⟩ := x_letE hf
              refine x_put (i := (g.1 + 189)) (k := 8) (j := 0) (t := 5) (w' := wM w md17 mn_53 mw_53) hx hb hts i_8 tyX8 tyX8_ok nmX8 hown hK hW ⟨⟨hfl, rfl⟩, by decide⟩ hS rfl ⟨by decide, by decide, rfl⟩ (hts (.fieldLink RX8 54 "OpticalJukeboxModel" "edits" "I") (by decide +kernel)) rfl (ty := .int) (by decide +kernel) rfl rfl ⟨rfl, rfl⟩ dX8_load_153 (fp_M e_md17 rfl) (fun H locs hW hS => ?_)
              refine lv_aload_n hx hb dX8_load_156 rfl (lv_at hl 0 rfl) ?_
              refine x_get (i := (g.1 + 189)) (k := 8) (j := 0) (t := 1) hx hb hts i_8 hown hK hW ⟨⟨hfl, rfl⟩, by decide⟩ rfl ⟨by decide, by decide, rfl⟩ (hts (.fieldLink RX8 7 "OpticalJukeboxModel" "now" "[I") (by decide +kernel)) (v := .ref (adr (g.1 + 189) 30 0)) rfl dX8_load_157 ?_
              refine lv_bipush (v := 9) hx hb dX8_load_160 (by decide) ?_
              refine x_iald (i := (g.1 + 189)) (k := 30) (j := 0) (f := md17 30 0) hx hb hK hW ⟨⟨hfl, rfl⟩, by decide⟩ (by decide) (rfl) rfl (by unfold vp_in; decide) dX8_load_162 ?_
              refine W.eq (g2 := F0 m 163 ls [.int (md17 30 0 9)]) rfl ?_
              cases hf
              exact x_iret hx hb hr hlocks hK hW hS rfl dX8_load_163
            · have hf := x_iteF hf hc
              refine lv_ldcw (v := -1000006) hx hb hown (hts (.constant RX8 403 (-1000006)) (by decide +kernel)) dX8_load_136 ?_
              cases hf
              exact x_iret hx hb hr hlocks hK hW hS rfl dX8_load_139
          clear eK13
          refine lv_if_le (tgt := 124) hx hb dX8_load_114 (by decide) (fun hc => ?_) (fun hc => ?_)
          · have hf := x_iteT hf hc
            refine lv_ldc (v := -1000005) hx hb hown (hts (.constant RX8 42 (-1000005)) (by decide +kernel)) dX8_load_124 ?_
            exact KK13 ((-1000005 : Int32)) ls _ _ hl hW hS hf
          · have hf := x_iteF hf hc
            refine lv_aload_n hx hb dX8_load_117 rfl (lv_at hl 0 rfl) ?_
            refine x_get (i := (g.1 + 189)) (k := 8) (j := 0) (t := 19) hx hb hts i_8 hown hK hW ⟨⟨hfl, rfl⟩, by decide⟩ rfl ⟨by decide, by decide, rfl⟩ (hts (.fieldLink RX8 330 "OpticalJukeboxModel" "wrongAt" "I") (by decide +kernel)) (rfl) dX8_load_118 ?_
            refine lv_goto (tgt := 126) hx hb dX8_load_121 (by decide) ?_
            exact KK13 ((md12 8 0 19)) ls _ _ hl hW hS hf
        clear eK10
        refine lv_if_eq (tgt := 96) hx hb dX8_load_57 (by decide) (fun hc => ?_) (fun hc => ?_)
        · have hf := x_iteT hf hc
          exact KK10 (()) ls _ _ hl hW hS hf
        · have hf := x_iteF hf hc
          refine lv_aload_n hx hb dX8_load_60 rfl (lv_at hl 0 rfl) ?_
          refine x_get (i := (g.1 + 189)) (k := 8) (j := 0) (t := 22) hx hb hts i_8 hown hK hW ⟨⟨hfl, rfl⟩, by decide⟩ rfl ⟨by decide, by decide, rfl⟩ (hts (.fieldLink RX8 313 "OpticalJukeboxModel" "sort" "I") (by decide +kernel)) (rfl) dX8_load_61 ?_
          refine lv_if_eq (tgt := 96) hx hb dX8_load_64 (by decide) (fun hc => ?_) (fun hc => ?_)
          · have hf := x_iteT hf hc
            exact KK10 (()) ls _ _ hl hW hS hf
          · have hf := x_iteF hf hc
            refine lv_aload_n hx hb dX8_load_67 rfl (lv_at hl 0 rfl) ?_
            obtain ⟨q18, h_q18, hf⟩ := x_bindE hf
            refine x_cv0 (x_rV ⟨hx, hb, hml, hown, hts⟩ (ct_X8_line l g hfl w md_53 mn_53 mw_53  h_q18) (cwV 0 hts gX8_load_X8_line rfl rfl rfl (by decide +kernel) ⟨Nat.le_of_ble_eq_true rfl, Nat.le_of_ble_eq_true rfl⟩) hK hW hS (x_recv (i := (g.1 + 189)) (k := 8) (j := 0) hK hW ⟨⟨hfl, rfl⟩, by decide⟩ rfl (by decide)) rfl hl.1 (rest := []) rfl (Nat.le_of_ble_eq_true rfl) dX8_load_68 ⟨Nat.le_of_ble_eq_true rfl, Nat.le_of_ble_eq_true rfl⟩) hS (fun H locs hW hS => ?_)
            have hW : World g (wM w q18.1 q18.2.1 q18.2.2) H := hW
            refine lv_aload_n hx hb dX8_load_71 rfl (lv_at hl 0 rfl) ?_
            refine lv_aload_n hx hb dX8_load_72 rfl (lv_at hl 0 rfl) ?_
            refine x_get (i := (g.1 + 189)) (k := 8) (j := 0) (t := 22) hx hb hts i_8 hown hK hW ⟨⟨hfl, rfl⟩, by decide⟩ rfl ⟨by decide, by decide, rfl⟩ (hts (.fieldLink RX8 313 "OpticalJukeboxModel" "sort" "I") (by decide +kernel)) (rfl) dX8_load_73 ?_
            refine lv_iconst (v := 3) hx hb dX8_load_76 (by decide) ?_
            obtain ⟨K19, eK19, hf⟩ := x_letE hf
            have KK19 : ∀ (y20 : Int32) (ls : Array Slot) (H : Heap) (locs : List Loc), lv_has ls 2 [(0, .ref (adr (g.1 + 189) 8 0)), (1, .int a1)] → World g (wM w q18.1 q18.2.1 q18.2.2) H → va_S (gA g) s.heap H locs → K19 y20 = some q → W p l e rm_X8_load s m [.ref (adr (g.1 + 189) 8 0), .int a1].toArray below meth c H locs 0 0 (MQ below (cQi g q.1 (wM w q.2.1 q.2.2.1 q.2.2.2)) [.ref (adr (g.1 + 189) 8 0), .int a1].toArray s 0 0 (gA g)) (F0 m 85 ls [.int y20, .ref (adr (g.1 + 189) 8 0)]) := by
              intro y20 ls H locs hl hW hS hf
              subst eK19
              refine lv_iconst (v := 2) hx hb dX8_load_85 (by decide) ?_
              obtain ⟨q21, h_q21, hf⟩ := x_bindE hf
              refine x_cv0 (x_rV ⟨hx, hb, hml, hown, hts⟩ (ct_X8_must l g hfl w q18.1 q18.2.1 q18.2.2 (y20) ((2 : Int32)) h_q21) (cwV 2 hts gX8_load_X8_must rfl rfl rfl (by decide +kernel) ⟨Nat.le_of_ble_eq_true rfl, Nat.le_of_ble_eq_true rfl⟩) hK hW hS (x_recv (i := (g.1 + 189)) (k := 8) (j := 0) hK hW ⟨⟨hfl, rfl⟩, by decide⟩ rfl (by decide)) rfl hl.1 (rest := []) rfl (Nat.le_of_ble_eq_true rfl) dX8_load_86 ⟨Nat.le_of_ble_eq_true rfl, Nat.le_of_ble_eq_true rfl⟩) hS (fun H locs hW hS => ?_)
              have hW : World g (wM w q21 q18.2.1 q18.2.2) H := hW
              refine lv_aload_n hx hb dX8_load_89 rfl (lv_at hl 0 rfl) ?_
              obtain ⟨q22, h_q22, hf⟩ := x_bindE hf
              refine x_cv0 (x_rV ⟨hx, hb, hml, hown, hts⟩ (ct_X8_goesOn l g hfl w q21 q18.2.1 q18.2.2  h_q22) (cwV 0 hts gX8_load_X8_goesOn rfl rfl rfl (by decide +kernel) ⟨Nat.le_of_ble_eq_true rfl, Nat.le_of_ble_eq_true rfl⟩) hK hW hS (x_recv (i := (g.1 + 189)) (k := 8) (j := 0) hK hW ⟨⟨hfl, rfl⟩, by decide⟩ rfl (by decide)) rfl hl.1 (rest := []) rfl (Nat.le_of_ble_eq_true rfl) dX8_load_90 ⟨Nat.le_of_ble_eq_true rfl, Nat.le_of_ble_eq_true rfl⟩) hS (fun H locs hW hS => ?_)
              have hW : World g (wM w q22.1 q18.2.1 q22.2) H := hW
              refine lv_goto (tgt := 53) hx hb dX8_load_93 (by decide) ?_
              exact ih (q22.1) (q18.2.1) (q22.2) ls _ _ hl hW hS hf
            clear eK19
            refine lv_icmp_ne (tgt := 84) hx hb dX8_load_77 (by decide) (fun hc => ?_) (fun hc => ?_)
            · have hf := x_iteF hf hc
              refine lv_iconst (v := 0) hx hb dX8_load_84 (by decide) ?_
              exact KK19 ((0 : Int32)) ls _ _ hl hW hS hf
            · have hf := x_iteT hf hc
              refine lv_iconst (v := 1) hx hb dX8_load_80 (by decide) ?_
              refine lv_goto (tgt := 85) hx hb dX8_load_81 (by decide) ?_
              exact KK19 ((1 : Int32)) ls _ _ hl hW hS hf
    exact L53 fuel (q8.1) (mn) (q8.2) ls _ _ hl hW hS hf
  · have hf := x_iteT hf hc
    refine lv_ldc (v := -1000002) hx hb hown (hts (.constant RX8 224 (-1000002)) (by decide +kernel)) dX8_load_19 ?_
    cases hf
    exact x_iret hx hb hr hlocks hK hW hS rfl dX8_load_21
abbrev rm_X8_errorKind : Room := { frames := 0, cells := 0, slots := 0, locals := 0 }
set_option maxRecDepth 100000 in
set_option maxHeartbeats 4000000 in
theorem ct_X8_errorKind (l : Launch) (g : GT) (hfl : 2 ≤ gf g) (w : WT) (md : SD) (mn : Nat → Int64) (mw : Int64) {q : (Int32 × SD)} (hf : f_X8_errorKind md  = some q) : Met l yX8_errorKind wsX8_errorKind rm_X8_errorKind (cPre g (wM w md mn mw) [.ref (adr (g.1 + 189) 8 0)]) (cQi g q.1 (wM w q.2 mn mw)) 0 0 (gA g) := by
  have i_8 : ∀ w ∈ u_ws RX8 TX8 27, w ∈ wsX8_errorKind := by decide +kernel
  refine x_met (by decide) rfl (Nat.le_of_ble_eq_true rfl) ?_
  intro p e s m below meth c hx hb hr hml hts hown hlocks hK hW hS ls hl
  have hown : s.vm.findClass RX8 = some m.cls := hown
  have hl : lv_has ls 1 [(0, .ref (adr (g.1 + 189) 8 0))] := hl
  rw [f_X8_errorKind] at hf
  refine lv_aload_n hx hb dX8_errorKind_0 rfl (lv_at hl 0 rfl) ?_
  refine lv_iconst (v := 0) hx hb dX8_errorKind_1 (by decide) ?_
  obtain ⟨md1, e_md1, hf⟩ := x_letE hf
  refine x_put (i := (g.1 + 189)) (k := 8) (j := 0) (t := 0) (w' := wM w md1 mn mw) hx hb hts i_8 tyX8 tyX8_ok nmX8 hown hK hW ⟨⟨hfl, rfl⟩, by decide⟩ hS rfl ⟨by decide, by decide, rfl⟩ (hts (.fieldLink RX8 51 "OpticalJukeboxModel" "thrown" "I") (by decide +kernel)) rfl (ty := .int) (by decide +kernel) rfl rfl ⟨rfl, rfl⟩ dX8_errorKind_2 (fp_M e_md1 rfl) (fun H locs hW hS => ?_)
  refine lv_aload_n hx hb dX8_errorKind_5 rfl (lv_at hl 0 rfl) ?_
  refine x_get (i := (g.1 + 189)) (k := 8) (j := 0) (t := 16) hx hb hts i_8 hown hK hW ⟨⟨hfl, rfl⟩, by decide⟩ rfl ⟨by decide, by decide, rfl⟩ (hts (.fieldLink RX8 400 "OpticalJukeboxModel" "wrongKind" "I") (by decide +kernel)) (rfl) dX8_errorKind_6 ?_
  cases hf
  exact x_iret hx hb hr hlocks hK hW hS rfl dX8_errorKind_9
abbrev rm_X8_errorPosition : Room := { frames := 0, cells := 0, slots := 0, locals := 0 }
set_option maxRecDepth 100000 in
set_option maxHeartbeats 4000000 in
theorem ct_X8_errorPosition (l : Launch) (g : GT) (hfl : 2 ≤ gf g) (w : WT) (md : SD) (mn : Nat → Int64) (mw : Int64) {q : (Int32 × SD)} (hf : f_X8_errorPosition md  = some q) : Met l yX8_errorPosition wsX8_errorPosition rm_X8_errorPosition (cPre g (wM w md mn mw) [.ref (adr (g.1 + 189) 8 0)]) (cQi g q.1 (wM w q.2 mn mw)) 0 0 (gA g) := by
  have i_8 : ∀ w ∈ u_ws RX8 TX8 27, w ∈ wsX8_errorPosition := by decide +kernel
  refine x_met (by decide) rfl (Nat.le_of_ble_eq_true rfl) ?_
  intro p e s m below meth c hx hb hr hml hts hown hlocks hK hW hS ls hl
  have hown : s.vm.findClass RX8 = some m.cls := hown
  have hl : lv_has ls 1 [(0, .ref (adr (g.1 + 189) 8 0))] := hl
  rw [f_X8_errorPosition] at hf
  refine lv_aload_n hx hb dX8_errorPosition_0 rfl (lv_at hl 0 rfl) ?_
  refine lv_iconst (v := 0) hx hb dX8_errorPosition_1 (by decide) ?_
  obtain ⟨md1, e_md1, hf⟩ := x_letE hf
  refine x_put (i := (g.1 + 189)) (k := 8) (j := 0) (t := 0) (w' := wM w md1 mn mw) hx hb hts i_8 tyX8 tyX8_ok nmX8 hown hK hW ⟨⟨hfl, rfl⟩, by decide⟩ hS rfl ⟨by decide, by decide, rfl⟩ (hts (.fieldLink RX8 51 "OpticalJukeboxModel" "thrown" "I") (by decide +kernel)) rfl (ty := .int) (by decide +kernel) rfl rfl ⟨rfl, rfl⟩ dX8_errorPosition_2 (fp_M e_md1 rfl) (fun H locs hW hS => ?_)
  refine lv_aload_n hx hb dX8_errorPosition_5 rfl (lv_at hl 0 rfl) ?_
  refine x_get (i := (g.1 + 189)) (k := 8) (j := 0) (t := 17) hx hb hts i_8 hown hK hW ⟨⟨hfl, rfl⟩, by decide⟩ rfl ⟨by decide, by decide, rfl⟩ (hts (.fieldLink RX8 43 "OpticalJukeboxModel" "wrongPlace" "I") (by decide +kernel)) (rfl) dX8_errorPosition_6 ?_
  cases hf
  exact x_iret hx hb hr hlocks hK hW hS rfl dX8_errorPosition_9
