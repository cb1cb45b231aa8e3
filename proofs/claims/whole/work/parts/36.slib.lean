/-! String.length and charAt of the constants; TextReader.wordIs; by hand -/
set_option maxRecDepth 20000 in
theorem ggX5_wordIs_J0_length_8abf5 : GoodIn wsX5_wordIs wsJ0_length_8abf5 := goodIn_r _ [9, 10, 11, 12, 13, 8, 14, 15, 16] (by decide +kernel) (by decide +kernel)
set_option maxRecDepth 20000 in
theorem gX5_wordIs_J0_length_8abf5 : GoodIn wsX5_wordIs (wsV RX5 194 RJ0 yJ0_length_8abf5 wsJ0_length_8abf5) := goodIn_app (goodIn_of _ (by decide +kernel)) ggX5_wordIs_J0_length_8abf5
set_option maxRecDepth 20000 in
theorem ggX5_wordIs_J0_charAt_5068e : GoodIn wsX5_wordIs wsJ0_charAt_5068e := goodIn_r _ [20, 10, 21, 22, 23, 8, 24, 15, 16, 25, 26, 27, 28, 29, 30, 31, 32, 33, 34, 35, 36, 37, 38, 39, 40, 41, 42, 43, 44, 45, 46, 47, 48, 49, 50, 51, 52, 53] (by decide +kernel) (by decide +kernel)
set_option maxRecDepth 20000 in
theorem gX5_wordIs_J0_charAt_5068e : GoodIn wsX5_wordIs (wsV RX5 198 RJ0 yJ0_charAt_5068e wsJ0_charAt_5068e) := goodIn_app (goodIn_of _ (by decide +kernel)) ggX5_wordIs_J0_charAt_5068e
theorem dX5_wordIs_0 : decode cX5_wordIs 0 = .ok (.aload_n 0, 1) := by decide +kernel
theorem dX5_wordIs_1 : decode cX5_wordIs 1 = .ok (.getfield 49, 3) := by decide +kernel
theorem dX5_wordIs_4 : decode cX5_wordIs 4 = .ok (.iconst 2, 1) := by decide +kernel
theorem dX5_wordIs_5 : decode cX5_wordIs 5 = .ok (.if_icmp .ne 19, 3) := by decide +kernel
theorem dX5_wordIs_8 : decode cX5_wordIs 8 = .ok (.aload_n 0, 1) := by decide +kernel
theorem dX5_wordIs_9 : decode cX5_wordIs 9 = .ok (.getfield 32, 3) := by decide +kernel
theorem dX5_wordIs_12 : decode cX5_wordIs 12 = .ok (.aload_n 0, 1) := by decide +kernel
theorem dX5_wordIs_13 : decode cX5_wordIs 13 = .ok (.getfield 184, 3) := by decide +kernel
theorem dX5_wordIs_16 : decode cX5_wordIs 16 = .ok (.isub, 1) := by decide +kernel
theorem dX5_wordIs_17 : decode cX5_wordIs 17 = .ok (.aload_n 1, 1) := by decide +kernel
theorem dX5_wordIs_18 : decode cX5_wordIs 18 = .ok (.invokevirtual 194, 3) := by decide +kernel
theorem dX5_wordIs_21 : decode cX5_wordIs 21 = .ok (.if_icmp .eq 5, 3) := by decide +kernel
theorem dX5_wordIs_24 : decode cX5_wordIs 24 = .ok (.iconst 0, 1) := by decide +kernel
theorem dX5_wordIs_25 : decode cX5_wordIs 25 = .ok (.ireturn, 1) := by decide +kernel
theorem dX5_wordIs_26 : decode cX5_wordIs 26 = .ok (.iconst 0, 1) := by decide +kernel
theorem dX5_wordIs_27 : decode cX5_wordIs 27 = .ok (.istore_n 2, 1) := by decide +kernel
theorem dX5_wordIs_28 : decode cX5_wordIs 28 = .ok (.iload_n 2, 1) := by decide +kernel
theorem dX5_wordIs_29 : decode cX5_wordIs 29 = .ok (.aload_n 1, 1) := by decide +kernel
theorem dX5_wordIs_30 : decode cX5_wordIs 30 = .ok (.invokevirtual 194, 3) := by decide +kernel
theorem dX5_wordIs_33 : decode cX5_wordIs 33 = .ok (.if_icmp .ge 30, 3) := by decide +kernel
theorem dX5_wordIs_36 : decode cX5_wordIs 36 = .ok (.aload_n 0, 1) := by decide +kernel
theorem dX5_wordIs_37 : decode cX5_wordIs 37 = .ok (.getfield 9, 3) := by decide +kernel
theorem dX5_wordIs_40 : decode cX5_wordIs 40 = .ok (.aload_n 0, 1) := by decide +kernel
theorem dX5_wordIs_41 : decode cX5_wordIs 41 = .ok (.getfield 184, 3) := by decide +kernel
theorem dX5_wordIs_44 : decode cX5_wordIs 44 = .ok (.iload_n 2, 1) := by decide +kernel
theorem dX5_wordIs_45 : decode cX5_wordIs 45 = .ok (.iadd, 1) := by decide +kernel
theorem dX5_wordIs_46 : decode cX5_wordIs 46 = .ok (.baload, 1) := by decide +kernel
theorem dX5_wordIs_47 : decode cX5_wordIs 47 = .ok (.aload_n 1, 1) := by decide +kernel
theorem dX5_wordIs_48 : decode cX5_wordIs 48 = .ok (.iload_n 2, 1) := by decide +kernel
theorem dX5_wordIs_49 : decode cX5_wordIs 49 = .ok (.invokevirtual 198, 3) := by decide +kernel
theorem dX5_wordIs_52 : decode cX5_wordIs 52 = .ok (.if_icmp .eq 5, 3) := by decide +kernel
theorem dX5_wordIs_55 : decode cX5_wordIs 55 = .ok (.iconst 0, 1) := by decide +kernel
theorem dX5_wordIs_56 : decode cX5_wordIs 56 = .ok (.ireturn, 1) := by decide +kernel
theorem dX5_wordIs_57 : decode cX5_wordIs 57 = .ok (.iinc 2 1, 3) := by decide +kernel
theorem dX5_wordIs_60 : decode cX5_wordIs 60 = .ok (.goto (-32), 3) := by decide +kernel
theorem dX5_wordIs_63 : decode cX5_wordIs 63 = .ok (.iconst 1, 1) := by decide +kernel
theorem dX5_wordIs_64 : decode cX5_wordIs 64 = .ok (.ireturn, 1) := by decide +kernel
set_option maxRecDepth 20000 in
theorem ggJ0_length_8abf5_J0_coder_7d493 : GoodIn wsJ0_length_8abf5 wsJ0_coder_7d493 := goodIn_r _ [6, 7, 8] (by decide +kernel) (by decide +kernel)
set_option maxRecDepth 20000 in
theorem gJ0_length_8abf5_J0_coder_7d493 : GoodIn wsJ0_length_8abf5 (wsV RJ0 335 RJ0 yJ0_coder_7d493 wsJ0_coder_7d493) := goodIn_app (goodIn_of _ (by decide +kernel)) ggJ0_length_8abf5_J0_coder_7d493
theorem dJ0_length_8abf5_0 : decode cJ0_length_8abf5 0 = .ok (.aload_n 0, 1) := by decide +kernel
theorem dJ0_length_8abf5_1 : decode cJ0_length_8abf5 1 = .ok (.getfield 9, 3) := by decide +kernel
theorem dJ0_length_8abf5_4 : decode cJ0_length_8abf5 4 = .ok (.arraylength, 1) := by decide +kernel
theorem dJ0_length_8abf5_5 : decode cJ0_length_8abf5 5 = .ok (.aload_n 0, 1) := by decide +kernel
theorem dJ0_length_8abf5_6 : decode cJ0_length_8abf5 6 = .ok (.invokevirtual 335, 3) := by decide +kernel
theorem dJ0_length_8abf5_9 : decode cJ0_length_8abf5 9 = .ok (.ishr, 1) := by decide +kernel
theorem dJ0_length_8abf5_10 : decode cJ0_length_8abf5 10 = .ok (.ireturn, 1) := by decide +kernel
set_option maxRecDepth 20000 in
theorem ggJ0_charAt_5068e_J0_isLatin1_aae02 : GoodIn wsJ0_charAt_5068e wsJ0_isLatin1_aae02 := goodIn_r _ [6, 7, 8] (by decide +kernel) (by decide +kernel)
set_option maxRecDepth 20000 in
theorem gJ0_charAt_5068e_J0_isLatin1_aae02 : GoodIn wsJ0_charAt_5068e (wsV RJ0 492 RJ0 yJ0_isLatin1_aae02 wsJ0_isLatin1_aae02) := goodIn_app (goodIn_of _ (by decide +kernel)) ggJ0_charAt_5068e_J0_isLatin1_aae02
set_option maxRecDepth 20000 in
theorem ggJ0_charAt_5068e_J1_charAt_3b067 : GoodIn wsJ0_charAt_5068e wsJ1_charAt_3b067 := goodIn_r _ [12, 13, 14, 5, 15, 16, 17, 18, 19, 20] (by decide +kernel) (by decide +kernel)
set_option maxRecDepth 20000 in
theorem gJ0_charAt_5068e_J1_charAt_3b067 : GoodIn wsJ0_charAt_5068e (va_wsS RJ0 495 yJ1_charAt_3b067 wsJ1_charAt_3b067) := goodIn_app (goodIn_of _ (by decide +kernel)) ggJ0_charAt_5068e_J1_charAt_3b067
theorem dJ0_charAt_5068e_0 : decode cJ0_charAt_5068e 0 = .ok (.aload_n 0, 1) := by decide +kernel
theorem dJ0_charAt_5068e_1 : decode cJ0_charAt_5068e 1 = .ok (.invokevirtual 492, 3) := by decide +kernel
theorem dJ0_charAt_5068e_4 : decode cJ0_charAt_5068e 4 = .ok (.ifCond .eq 12, 3) := by decide +kernel
theorem dJ0_charAt_5068e_7 : decode cJ0_charAt_5068e 7 = .ok (.aload_n 0, 1) := by decide +kernel
theorem dJ0_charAt_5068e_8 : decode cJ0_charAt_5068e 8 = .ok (.getfield 9, 3) := by decide +kernel
theorem dJ0_charAt_5068e_11 : decode cJ0_charAt_5068e 11 = .ok (.iload_n 1, 1) := by decide +kernel
theorem dJ0_charAt_5068e_12 : decode cJ0_charAt_5068e 12 = .ok (.invokestatic 495, 3) := by decide +kernel
theorem dJ0_charAt_5068e_15 : decode cJ0_charAt_5068e 15 = .ok (.ireturn, 1) := by decide +kernel
theorem dJ0_charAt_5068e_16 : decode cJ0_charAt_5068e 16 = .ok (.aload_n 0, 1) := by decide +kernel
theorem dJ0_charAt_5068e_17 : decode cJ0_charAt_5068e 17 = .ok (.getfield 9, 3) := by decide +kernel
theorem dJ0_charAt_5068e_20 : decode cJ0_charAt_5068e 20 = .ok (.iload_n 1, 1) := by decide +kernel
theorem dJ0_charAt_5068e_21 : decode cJ0_charAt_5068e 21 = .ok (.invokestatic 498, 3) := by decide +kernel
theorem dJ0_charAt_5068e_24 : decode cJ0_charAt_5068e 24 = .ok (.ireturn, 1) := by decide +kernel
theorem dJ0_coder_7d493_0 : decode cJ0_coder_7d493 0 = .ok (.getstatic 38, 3) := by decide +kernel
theorem dJ0_coder_7d493_3 : decode cJ0_coder_7d493 3 = .ok (.ifCond .eq 10, 3) := by decide +kernel
theorem dJ0_coder_7d493_6 : decode cJ0_coder_7d493 6 = .ok (.aload_n 0, 1) := by decide +kernel
theorem dJ0_coder_7d493_7 : decode cJ0_coder_7d493 7 = .ok (.getfield 15, 3) := by decide +kernel
theorem dJ0_coder_7d493_10 : decode cJ0_coder_7d493 10 = .ok (.goto 4, 3) := by decide +kernel
theorem dJ0_coder_7d493_13 : decode cJ0_coder_7d493 13 = .ok (.iconst 1, 1) := by decide +kernel
theorem dJ0_coder_7d493_14 : decode cJ0_coder_7d493 14 = .ok (.ireturn, 1) := by decide +kernel
theorem dJ0_isLatin1_aae02_0 : decode cJ0_isLatin1_aae02 0 = .ok (.getstatic 38, 3) := by decide +kernel
theorem dJ0_isLatin1_aae02_3 : decode cJ0_isLatin1_aae02 3 = .ok (.ifCond .eq 14, 3) := by decide +kernel
theorem dJ0_isLatin1_aae02_6 : decode cJ0_isLatin1_aae02 6 = .ok (.aload_n 0, 1) := by decide +kernel
theorem dJ0_isLatin1_aae02_7 : decode cJ0_isLatin1_aae02 7 = .ok (.getfield 15, 3) := by decide +kernel
theorem dJ0_isLatin1_aae02_10 : decode cJ0_isLatin1_aae02 10 = .ok (.ifCond .ne 7, 3) := by decide +kernel
theorem dJ0_isLatin1_aae02_13 : decode cJ0_isLatin1_aae02 13 = .ok (.iconst 1, 1) := by decide +kernel
theorem dJ0_isLatin1_aae02_14 : decode cJ0_isLatin1_aae02 14 = .ok (.goto 4, 3) := by decide +kernel
theorem dJ0_isLatin1_aae02_17 : decode cJ0_isLatin1_aae02 17 = .ok (.iconst 0, 1) := by decide +kernel
theorem dJ0_isLatin1_aae02_18 : decode cJ0_isLatin1_aae02 18 = .ok (.ireturn, 1) := by decide +kernel
set_option maxRecDepth 20000 in
theorem ggJ0_checkIndex_df160_J3_checkIndex_8e157 : GoodIn wsJ0_checkIndex_df160 wsJ3_checkIndex_8e157 := goodIn_r _ [5] (by decide +kernel) (by decide +kernel)
set_option maxRecDepth 20000 in
theorem gJ0_checkIndex_df160_J3_checkIndex_8e157 : GoodIn wsJ0_checkIndex_df160 (va_wsS RJ0 1059 yJ3_checkIndex_8e157 wsJ3_checkIndex_8e157) := goodIn_app (goodIn_of _ (by decide +kernel)) ggJ0_checkIndex_df160_J3_checkIndex_8e157
theorem dJ0_checkIndex_df160_0 : decode cJ0_checkIndex_df160 0 = .ok (.iload_n 0, 1) := by decide +kernel
theorem dJ0_checkIndex_df160_1 : decode cJ0_checkIndex_df160 1 = .ok (.iload_n 1, 1) := by decide +kernel
theorem dJ0_checkIndex_df160_2 : decode cJ0_checkIndex_df160 2 = .ok (.getstatic 1053, 3) := by decide +kernel
theorem dJ0_checkIndex_df160_5 : decode cJ0_checkIndex_df160 5 = .ok (.invokestatic 1059, 3) := by decide +kernel
theorem dJ0_checkIndex_df160_8 : decode cJ0_checkIndex_df160 8 = .ok (.pop, 1) := by decide +kernel
theorem dJ0_checkIndex_df160_9 : decode cJ0_checkIndex_df160 9 = .ok (.return_, 1) := by decide +kernel
set_option maxRecDepth 20000 in
theorem ggJ1_charAt_3b067_J0_checkIndex_df160 : GoodIn wsJ1_charAt_3b067 wsJ0_checkIndex_df160 := goodIn_r _ [4, 5, 6, 7, 8, 9] (by decide +kernel) (by decide +kernel)
set_option maxRecDepth 20000 in
theorem gJ1_charAt_3b067_J0_checkIndex_df160 : GoodIn wsJ1_charAt_3b067 (va_wsS RJ1 9 yJ0_checkIndex_df160 wsJ0_checkIndex_df160) := goodIn_app (goodIn_of _ (by decide +kernel)) ggJ1_charAt_3b067_J0_checkIndex_df160
theorem dJ1_charAt_3b067_0 : decode cJ1_charAt_3b067 0 = .ok (.iload_n 1, 1) := by decide +kernel
theorem dJ1_charAt_3b067_1 : decode cJ1_charAt_3b067 1 = .ok (.aload_n 0, 1) := by decide +kernel
theorem dJ1_charAt_3b067_2 : decode cJ1_charAt_3b067 2 = .ok (.arraylength, 1) := by decide +kernel
theorem dJ1_charAt_3b067_3 : decode cJ1_charAt_3b067 3 = .ok (.invokestatic 9, 3) := by decide +kernel
theorem dJ1_charAt_3b067_6 : decode cJ1_charAt_3b067 6 = .ok (.aload_n 0, 1) := by decide +kernel
theorem dJ1_charAt_3b067_7 : decode cJ1_charAt_3b067 7 = .ok (.iload_n 1, 1) := by decide +kernel
theorem dJ1_charAt_3b067_8 : decode cJ1_charAt_3b067 8 = .ok (.baload, 1) := by decide +kernel
theorem dJ1_charAt_3b067_9 : decode cJ1_charAt_3b067 9 = .ok (.sipush 255, 3) := by decide +kernel
theorem dJ1_charAt_3b067_12 : decode cJ1_charAt_3b067 12 = .ok (.iand, 1) := by decide +kernel
theorem dJ1_charAt_3b067_13 : decode cJ1_charAt_3b067 13 = .ok (.i2c, 1) := by decide +kernel
theorem dJ1_charAt_3b067_14 : decode cJ1_charAt_3b067 14 = .ok (.ireturn, 1) := by decide +kernel
theorem dJ3_checkIndex_8e157_0 : decode cJ3_checkIndex_8e157 0 = .ok (.iload_n 0, 1) := by decide +kernel
theorem dJ3_checkIndex_8e157_1 : decode cJ3_checkIndex_8e157 1 = .ok (.ifCond .lt 8, 3) := by decide +kernel
theorem dJ3_checkIndex_8e157_4 : decode cJ3_checkIndex_8e157 4 = .ok (.iload_n 0, 1) := by decide +kernel
theorem dJ3_checkIndex_8e157_5 : decode cJ3_checkIndex_8e157 5 = .ok (.iload_n 1, 1) := by decide +kernel
theorem dJ3_checkIndex_8e157_6 : decode cJ3_checkIndex_8e157 6 = .ok (.if_icmp .lt 10, 3) := by decide +kernel
theorem dJ3_checkIndex_8e157_9 : decode cJ3_checkIndex_8e157 9 = .ok (.aload_n 2, 1) := by decide +kernel
theorem dJ3_checkIndex_8e157_10 : decode cJ3_checkIndex_8e157 10 = .ok (.iload_n 0, 1) := by decide +kernel
theorem dJ3_checkIndex_8e157_11 : decode cJ3_checkIndex_8e157 11 = .ok (.iload_n 1, 1) := by decide +kernel
theorem dJ3_checkIndex_8e157_12 : decode cJ3_checkIndex_8e157 12 = .ok (.invokestatic 95, 3) := by decide +kernel
theorem dJ3_checkIndex_8e157_15 : decode cJ3_checkIndex_8e157 15 = .ok (.athrow, 1) := by decide +kernel
theorem dJ3_checkIndex_8e157_16 : decode cJ3_checkIndex_8e157 16 = .ok (.iload_n 0, 1) := by decide +kernel
theorem dJ3_checkIndex_8e157_17 : decode cJ3_checkIndex_8e157 17 = .ok (.ireturn, 1) := by decide +kernel
section XNRET
variable {p : Program} {l : Launch} {e : Env} {R : Room} {s : State} {m : MethodId} {args : Array Value} {below : List Frame} {meth : Method} {c : Code} {H H0 : Heap} {locs : List Loc} {cells slots : Nat} {Q : State → Prop} {pc : Nat} {ls : Array Slot} {rest : List Value} {cc : ByteArray} {g : GT} {w w' : WT}
theorem x_nret (hexec : p.tables.exec = Jvm.exec) (hb : c.code = cc) {ty : FieldType} (hr : meth.sig.returnType = some ty) (hlocks : meth.locks = false) (hK : wK g s) (hW : World g w' H) (hS : va_S (gA g) s.heap H locs) {v r : Int32} (hn : narrow ty (.int v) = .int v) (hv : some v = some r) (hdg : decode cc pc = .ok (.ireturn, 1)) : W p l e R s m args below meth c H locs cells slots (MQ below (cQi g r w') args s cells slots (gA g)) (F0 m pc ls [.int v]) :=
  W.zret hexec hb hr hn (fun t ht hWm => ⟨⟨v, (), rfl, Option.some.inj hv, hK.to hS ht hWm, by rw [ht]; exact hW⟩, hS.F ht⟩) hS.2.2 hdg hlocks
end XNRET
theorem sl_len : ∀ n, n < 7 → (nI (slen.getD n 0) >>> ((0 : Int32) &&& 31)) = nI (slen.getD n 0) := by decide +kernel
theorem sl_ch : ∀ n, n < 7 → ∀ k, k < slen.getD n 0 → ((((sbyt.getD n []).getD k 0 &&& 255).toUInt32 % 65536).toInt32 = (sbyt.getD n []).getD k 0 ∧ narrow .char (.int ((sbyt.getD n []).getD k 0)) = .int ((sbyt.getD n []).getD k 0)) := by decide +kernel
theorem sl_small : ∀ n, n < 7 → slen.getD n 0 < 8 := by decide +kernel
abbrev rm_z : Room := { frames := 0, cells := 0, slots := 0, locals := 0 }
abbrev rm_slen : Room := { frames := 1, cells := 0, slots := 0, locals := 20 }
abbrev rm_schk : Room := { frames := 1, cells := 0, slots := 0, locals := 22 }
abbrev rm_lchr : Room := { frames := 2, cells := 0, slots := 0, locals := 43 }
abbrev rm_schr : Room := { frames := 3, cells := 0, slots := 0, locals := 64 }
abbrev rm_X5_wordIs : Room := { frames := 4, cells := 0, slots := 0, locals := 85 }
set_option maxRecDepth 100000 in
set_option maxHeartbeats 4000000 in
theorem ct_coder (l : Launch) (g : GT) (w : WT) (n : Nat) (hn : n < 7) : Met l yJ0_coder_7d493 wsJ0_coder_7d493 rm_z (cPre g w [.ref (gk g n)]) (cQi g 0 w) 0 0 (gA g) := by
  refine x_metF (by decide +kernel) rfl (Nat.le_of_ble_eq_true rfl) ?_
  intro p e s m below meth c hx hb hr hml hts hown hlocks hK hW hS ls hl
  have hown : s.vm.findClass RJ0 = some m.cls := hown
  have hl : lv_has ls 1 [(0, .ref (gk g n))] := hl
  refine va_gets hx hb hK.2.2.2.1 hS hown (hts (.fieldLink RJ0 38 "java/lang/String" "COMPACT_STRINGS" "Z") (by decide +kernel)) (fun _ h => h) dJ0_coder_7d493_0 ?_
  refine lv_if_eq (tgt := 13) hx hb dJ0_coder_7d493_3 (by decide) (fun hc => ?_) (fun hc => ?_)
  · exact absurd hc (by decide)
  · refine lv_aload_n hx hb dJ0_coder_7d493_6 rfl (lv_at hl 0 rfl) ?_
    refine vk_getf hx hb (hK.2.1.1 n hn).2.1 hS hown (hts (.fieldLink RJ0 15 "java/lang/String" "coder" "B") (by decide +kernel)) (fun _ h => h) dJ0_coder_7d493_7 ?_
    refine lv_goto (tgt := 14) hx hb dJ0_coder_7d493_10 (by decide) ?_
    exact x_nret hx hb hr hlocks hK hW hS rfl rfl dJ0_coder_7d493_14
set_option maxRecDepth 100000 in
set_option maxHeartbeats 4000000 in
theorem ct_isLatin1 (l : Launch) (g : GT) (w : WT) (n : Nat) (hn : n < 7) : Met l yJ0_isLatin1_aae02 wsJ0_isLatin1_aae02 rm_z (cPre g w [.ref (gk g n)]) (cQi g 1 w) 0 0 (gA g) := by
  refine x_metF (by decide +kernel) rfl (Nat.le_of_ble_eq_true rfl) ?_
  intro p e s m below meth c hx hb hr hml hts hown hlocks hK hW hS ls hl
  have hown : s.vm.findClass RJ0 = some m.cls := hown
  have hl : lv_has ls 1 [(0, .ref (gk g n))] := hl
  refine va_gets hx hb hK.2.2.2.1 hS hown (hts (.fieldLink RJ0 38 "java/lang/String" "COMPACT_STRINGS" "Z") (by decide +kernel)) (fun _ h => h) dJ0_isLatin1_aae02_0 ?_
  refine lv_if_eq (tgt := 17) hx hb dJ0_isLatin1_aae02_3 (by decide) (fun hc => ?_) (fun hc => ?_)
  · exact absurd hc (by decide)
  · refine lv_aload_n hx hb dJ0_isLatin1_aae02_6 rfl (lv_at hl 0 rfl) ?_
    refine vk_getf hx hb (hK.2.1.1 n hn).2.1 hS hown (hts (.fieldLink RJ0 15 "java/lang/String" "coder" "B") (by decide +kernel)) (fun _ h => h) dJ0_isLatin1_aae02_7 ?_
    refine lv_if_ne (tgt := 17) hx hb dJ0_isLatin1_aae02_10 (by decide) (fun hc => ?_) (fun hc => ?_)
    · exact absurd rfl hc
    · refine lv_iconst (v := 1) hx hb dJ0_isLatin1_aae02_13 (by decide) ?_
      refine lv_goto (tgt := 18) hx hb dJ0_isLatin1_aae02_14 (by decide) ?_
      exact x_nret hx hb hr hlocks hK hW hS rfl rfl dJ0_isLatin1_aae02_18
set_option maxRecDepth 100000 in
set_option maxHeartbeats 4000000 in
theorem ct_slength (l : Launch) (g : GT) (w : WT) (n : Nat) (hn : n < 7) : Met l yJ0_length_8abf5 wsJ0_length_8abf5 rm_slen (cPre g w [.ref (gk g n)]) (cQi g (nI (slen.getD n 0)) w) 0 0 (gA g) := by
  refine x_metF (by decide +kernel) rfl (Nat.le_of_ble_eq_true rfl) ?_
  intro p e s m below meth c hx hb hr hml hts hown hlocks hK hW hS ls hl
  have hown : s.vm.findClass RJ0 = some m.cls := hown
  have hl : lv_has ls 1 [(0, .ref (gk g n))] := hl
  refine lv_aload_n hx hb dJ0_length_8abf5_0 rfl (lv_at hl 0 rfl) ?_
  refine vk_getf hx hb (hK.2.1.1 n hn).2.2.1 hS hown (hts (.fieldLink RJ0 9 "java/lang/String" "value" "[B") (by decide +kernel)) (fun _ h => h) dJ0_length_8abf5_1 ?_
  refine va_tlen hx hb (hK.2.1.1 n hn).2.2.2 hS (v := nI (slen.getD n 0)) rfl dJ0_length_8abf5_4 ?_
  refine lv_aload_n hx hb dJ0_length_8abf5_5 rfl (lv_at hl 0 rfl) ?_
  refine x_ci0 (x_rV ⟨hx, hb, hml, hown, hts⟩ (ct_coder l g w n hn) (cwV 0 hts gJ0_length_8abf5_J0_coder_7d493 rfl rfl rfl (by decide +kernel) ⟨Nat.le_of_ble_eq_true rfl, Nat.le_of_ble_eq_true rfl⟩) hK hW hS (vk_recv hK.2.1 hn hS) rfl hl.1 (rest := [.int (nI (slen.getD n 0))]) rfl (Nat.le_of_ble_eq_true rfl) dJ0_length_8abf5_6 ⟨Nat.le_of_ble_eq_true rfl, Nat.le_of_ble_eq_true rfl⟩) hS (fun H locs hW hS => ?_)
  refine lv_ishr hx hb dJ0_length_8abf5_9 ?_
  exact x_iret hx hb hr hlocks hK hW hS (congrArg some (sl_len n hn)) dJ0_length_8abf5_10
set_option maxRecDepth 100000 in
set_option maxHeartbeats 4000000 in
theorem ct_pcheck (l : Launch) (g : GT) (w : WT) (i k : Int32) (z : Value) (hz : z = .null ∨ ∃ t, z = .ref t) (h1 : ¬ i < 0) (h2 : i < k) : Met l yJ3_checkIndex_8e157 wsJ3_checkIndex_8e157 rm_z (cPre g w [.int i, .int k, z]) (cQi g i w) 0 0 (gA g) := by
  rcases hz with rfl | ⟨t, rfl⟩
  · refine x_metF (by decide +kernel) rfl (Nat.le_of_ble_eq_true rfl) ?_
    intro p e s m below meth c hx hb hr hml hts hown hlocks hK hW hS ls hl
    have hl : lv_has ls 3 [(0, .int i), (1, .int k), (2, .null)] := hl
    refine lv_iload_n hx hb dJ3_checkIndex_8e157_0 rfl (lv_at hl 0 rfl) ?_
    refine lv_if_lt (tgt := 9) hx hb dJ3_checkIndex_8e157_1 (by decide) (fun hc => absurd hc h1) (fun hc => ?_)
    refine lv_iload_n hx hb dJ3_checkIndex_8e157_4 rfl (lv_at hl 0 rfl) ?_
    refine lv_iload_n hx hb dJ3_checkIndex_8e157_5 rfl (lv_at hl 1 rfl) ?_
    refine lv_icmp_lt (tgt := 16) hx hb dJ3_checkIndex_8e157_6 (by decide) (fun hc => ?_) (fun hc => absurd h2 hc)
    refine lv_iload_n hx hb dJ3_checkIndex_8e157_16 rfl (lv_at hl 0 rfl) ?_
    exact x_iret hx hb hr hlocks hK hW hS rfl dJ3_checkIndex_8e157_17
  · refine x_metF (by decide +kernel) rfl (Nat.le_of_ble_eq_true rfl) ?_
    intro p e s m below meth c hx hb hr hml hts hown hlocks hK hW hS ls hl
    have hl : lv_has ls 3 [(0, .int i), (1, .int k), (2, .ref t)] := hl
    refine lv_iload_n hx hb dJ3_checkIndex_8e157_0 rfl (lv_at hl 0 rfl) ?_
    refine lv_if_lt (tgt := 9) hx hb dJ3_checkIndex_8e157_1 (by decide) (fun hc => absurd hc h1) (fun hc => ?_)
    refine lv_iload_n hx hb dJ3_checkIndex_8e157_4 rfl (lv_at hl 0 rfl) ?_
    refine lv_iload_n hx hb dJ3_checkIndex_8e157_5 rfl (lv_at hl 1 rfl) ?_
    refine lv_icmp_lt (tgt := 16) hx hb dJ3_checkIndex_8e157_6 (by decide) (fun hc => ?_) (fun hc => absurd h2 hc)
    refine lv_iload_n hx hb dJ3_checkIndex_8e157_16 rfl (lv_at hl 0 rfl) ?_
    exact x_iret hx hb hr hlocks hK hW hS rfl dJ3_checkIndex_8e157_17
set_option maxRecDepth 100000 in
set_option maxHeartbeats 4000000 in
theorem ct_scheck (l : Launch) (g : GT) (w : WT) (i k : Int32) (h1 : ¬ i < 0) (h2 : i < k) : Met l yJ0_checkIndex_df160 wsJ0_checkIndex_df160 rm_schk (cPre g w [.int i, .int k]) (cQv g w) 0 0 (gA g) := by
  refine x_metF (by decide +kernel) rfl (Nat.le_of_ble_eq_true rfl) ?_
  intro p e s m below meth c hx hb hr hml hts hown hlocks hK hW hS ls hl
  have hown : s.vm.findClass RJ0 = some m.cls := hown
  have hl : lv_has ls 2 [(0, .int i), (1, .int k)] := hl
  refine lv_iload_n hx hb dJ0_checkIndex_df160_0 rfl (lv_at hl 0 rfl) ?_
  refine lv_iload_n hx hb dJ0_checkIndex_df160_1 rfl (lv_at hl 1 rfl) ?_
  obtain ⟨z, hz, hZ⟩ : ∃ z : Value, (z = .null ∨ ∃ t, z = .ref t) ∧ va_Z "jdk/internal/util/Preconditions" "SIOOBE_FORMATTER" "Ljava/util/function/BiFunction;" z (gA g) s s.heap := by
    rcases hK.2.2.2.2.1 with h | ⟨t, h⟩
    · exact ⟨_, Or.inl rfl, h⟩
    · exact ⟨_, Or.inr ⟨t, rfl⟩, h⟩
  refine va_gets hx hb hZ hS hown (hts (.fieldLink RJ0 1053 "jdk/internal/util/Preconditions" "SIOOBE_FORMATTER" "Ljava/util/function/BiFunction;") (by decide +kernel)) (fun _ h => h) dJ0_checkIndex_df160_2 ?_
  refine x_ci0 (x_rS ⟨hx, hb, hml, hown, hts⟩ (ct_pcheck l g w i k z hz h1 h2) (va_cwS 3 hts gJ0_checkIndex_df160_J3_checkIndex_8e157 rfl rfl rfl (by decide +kernel) ⟨Nat.le_of_ble_eq_true rfl, Nat.le_of_ble_eq_true rfl⟩) hK hW hS rfl hl.1 (rest := []) rfl (Nat.le_of_ble_eq_true rfl) dJ0_checkIndex_df160_5 ⟨Nat.le_of_ble_eq_true rfl, Nat.le_of_ble_eq_true rfl⟩) hS (fun H locs hW hS => ?_)
  refine lv_pop hx hb dJ0_checkIndex_df160_8 rfl ?_
  exact x_vret hx hb hr hlocks hK hW hS dJ0_checkIndex_df160_9
set_option maxRecDepth 100000 in
set_option maxHeartbeats 4000000 in
theorem ct_lcharAt (l : Launch) (g : GT) (w : WT) (n : Nat) (hn : n < 7) (i : Int32) (hi : vp_in i (slen.getD n 0)) : Met l yJ1_charAt_3b067 wsJ1_charAt_3b067 rm_lchr (cPre g w [.ref (gv g n), .int i]) (cQi g ((sbyt.getD n []).getD i.toNatClampNeg 0) w) 0 0 (gA g) := by
  refine x_metF (by decide +kernel) rfl (Nat.le_of_ble_eq_true rfl) ?_
  intro p e s m below meth c hx hb hr hml hts hown hlocks hK hW hS ls hl
  have hown : s.vm.findClass RJ1 = some m.cls := hown
  have hl : lv_has ls 2 [(0, .ref (gv g n)), (1, .int i)] := hl
  have h1 : ¬ i < 0 := fun z => hi (Or.inl z)
  have hlt := x_lt hi
  have h2 : i < nI (slen.getD n 0) := by
    obtain ⟨j, hj, rfl⟩ := nI_of h1
    rw [nI_clamp hj] at hlt
    exact nI_lt hlt (by have := sl_small n hn; omega)
  refine lv_iload_n hx hb dJ1_charAt_3b067_0 rfl (lv_at hl 1 rfl) ?_
  refine lv_aload_n hx hb dJ1_charAt_3b067_1 rfl (lv_at hl 0 rfl) ?_
  refine va_tlen hx hb (hK.2.1.1 n hn).2.2.2 hS (v := nI (slen.getD n 0)) rfl dJ1_charAt_3b067_2 ?_
  refine x_cv0 (x_rS ⟨hx, hb, hml, hown, hts⟩ (ct_scheck l g w i (nI (slen.getD n 0)) h1 h2) (va_cwS 2 hts gJ1_charAt_3b067_J0_checkIndex_df160 rfl rfl rfl (by decide +kernel) ⟨Nat.le_of_ble_eq_true rfl, Nat.le_of_ble_eq_true rfl⟩) hK hW hS rfl hl.1 (rest := []) rfl (Nat.le_of_ble_eq_true rfl) dJ1_charAt_3b067_3 ⟨Nat.le_of_ble_eq_true rfl, Nat.le_of_ble_eq_true rfl⟩) hS (fun H locs hW hS => ?_)
  refine lv_aload_n hx hb dJ1_charAt_3b067_6 rfl (lv_at hl 0 rfl) ?_
  refine lv_iload_n hx hb dJ1_charAt_3b067_7 rfl (lv_at hl 1 rfl) ?_
  refine va_tb hx hb (hK.2.1.1 n hn).2.2.2 hS hi (v := .int ((sbyt.getD n []).getD i.toNatClampNeg 0)) rfl dJ1_charAt_3b067_8 ?_
  refine lv_sipush (v := 255) hx hb dJ1_charAt_3b067_9 (by decide) ?_
  refine lv_iand hx hb dJ1_charAt_3b067_12 ?_
  refine lv_i2c hx hb dJ1_charAt_3b067_13 (sl_ch n hn _ hlt).1 ?_
  exact x_nret hx hb hr hlocks hK hW hS (sl_ch n hn _ hlt).2 rfl dJ1_charAt_3b067_14
set_option maxRecDepth 100000 in
set_option maxHeartbeats 4000000 in
theorem ct_scharAt (l : Launch) (g : GT) (w : WT) (n : Nat) (hn : n < 7) (i : Int32) (hi : vp_in i (slen.getD n 0)) : Met l yJ0_charAt_5068e wsJ0_charAt_5068e rm_schr (cPre g w [.ref (gk g n), .int i]) (cQi g ((sbyt.getD n []).getD i.toNatClampNeg 0) w) 0 0 (gA g) := by
  refine x_metF (by decide +kernel) rfl (Nat.le_of_ble_eq_true rfl) ?_
  intro p e s m below meth c hx hb hr hml hts hown hlocks hK hW hS ls hl
  have hown : s.vm.findClass RJ0 = some m.cls := hown
  have hl : lv_has ls 2 [(0, .ref (gk g n)), (1, .int i)] := hl
  refine lv_aload_n hx hb dJ0_charAt_5068e_0 rfl (lv_at hl 0 rfl) ?_
  refine x_ci0 (x_rV ⟨hx, hb, hml, hown, hts⟩ (ct_isLatin1 l g w n hn) (cwV 0 hts gJ0_charAt_5068e_J0_isLatin1_aae02 rfl rfl rfl (by decide +kernel) ⟨Nat.le_of_ble_eq_true rfl, Nat.le_of_ble_eq_true rfl⟩) hK hW hS (vk_recv hK.2.1 hn hS) rfl hl.1 (rest := []) rfl (Nat.le_of_ble_eq_true rfl) dJ0_charAt_5068e_1 ⟨Nat.le_of_ble_eq_true rfl, Nat.le_of_ble_eq_true rfl⟩) hS (fun H locs hW hS => ?_)
  refine lv_if_eq (tgt := 16) hx hb dJ0_charAt_5068e_4 (by decide) (fun hc => absurd hc (by decide)) (fun hc => ?_)
  refine lv_aload_n hx hb dJ0_charAt_5068e_7 rfl (lv_at hl 0 rfl) ?_
  refine vk_getf hx hb (hK.2.1.1 n hn).2.2.1 hS hown (hts (.fieldLink RJ0 9 "java/lang/String" "value" "[B") (by decide +kernel)) (fun _ h => h) dJ0_charAt_5068e_8 ?_
  refine lv_iload_n hx hb dJ0_charAt_5068e_11 rfl (lv_at hl 1 rfl) ?_
  refine x_ci0 (x_rS ⟨hx, hb, hml, hown, hts⟩ (ct_lcharAt l g w n hn i hi) (va_cwS 2 hts gJ0_charAt_5068e_J1_charAt_3b067 rfl rfl rfl (by decide +kernel) ⟨Nat.le_of_ble_eq_true rfl, Nat.le_of_ble_eq_true rfl⟩) hK hW hS rfl hl.1 (rest := []) rfl (Nat.le_of_ble_eq_true rfl) dJ0_charAt_5068e_12 ⟨Nat.le_of_ble_eq_true rfl, Nat.le_of_ble_eq_true rfl⟩) hS (fun H locs hW hS => ?_)
  exact x_nret hx hb hr hlocks hK hW hS (sl_ch n hn _ (x_lt hi)).2 rfl dJ0_charAt_5068e_15
set_option maxRecDepth 100000 in
set_option maxHeartbeats 4000000 in
theorem ct_X5_wordIs (l : Launch) (g : GT) (hfl : 1 ≤ gf g) (w : WT) (rd : SD) (rn : Nat → Int64) (n : Nat) (hn : n < 7) {q : Int32} (hf : f_X5_wordIs rd n = some q) : Met l yX5_wordIs wsX5_wordIs rm_X5_wordIs (cPre g (wR w rd rn) [.ref (adr (g.1 + 1) 5 0), .ref (gk g n)]) (cQi g q (wR w rd rn)) 0 0 (gA g) := by
  have i_5 : ∀ w ∈ u_ws RX5 TX5 9, w ∈ wsX5_wordIs := by decide +kernel
  refine x_met (by decide) rfl (Nat.le_of_ble_eq_true rfl) ?_
  intro p e s m below meth c hx hb hr hml hts hown hlocks hK hW hS ls hl
  have hown : s.vm.findClass RX5 = some m.cls := hown
  have hl : lv_has ls 3 [(0, .ref (adr (g.1 + 1) 5 0)), (1, .ref (gk g n))] := hl
  rw [f_X5_wordIs] at hf
  refine lv_aload_n hx hb dX5_wordIs_0 rfl (lv_at hl 0 rfl) ?_
  refine x_get (i := (g.1 + 1)) (k := 5) (j := 0) (t := 5) hx hb hts i_5 hown hK hW ⟨⟨hfl, rfl⟩, by decide⟩ rfl ⟨by decide, by decide, rfl⟩ (hts (.fieldLink RX5 49 "OpticalJukebox$TextReader" "token" "I") (by decide +kernel)) (rfl) dX5_wordIs_1 ?_
  refine lv_iconst (v := 2) hx hb dX5_wordIs_4 (by decide) ?_
  refine lv_icmp_ne (tgt := 24) hx hb dX5_wordIs_5 (by decide) (fun hc => ?_) (fun hc => ?_)
  · have hf := x_iteF hf hc
    refine lv_iconst (v := 0) hx hb dX5_wordIs_24 (by decide) ?_
    cases hf
    exact x_zret hx hb hr hlocks hK hW hS (Or.inl rfl) rfl dX5_wordIs_25
  · have hf := x_iteT hf hc
    refine lv_aload_n hx hb dX5_wordIs_8 rfl (lv_at hl 0 rfl) ?_
    refine x_get (i := (g.1 + 1)) (k := 5) (j := 0) (t := 4) hx hb hts i_5 hown hK hW ⟨⟨hfl, rfl⟩, by decide⟩ rfl ⟨by decide, by decide, rfl⟩ (hts (.fieldLink RX5 32 "OpticalJukebox$TextReader" "tokenEnd" "I") (by decide +kernel)) (rfl) dX5_wordIs_9 ?_
    refine lv_aload_n hx hb dX5_wordIs_12 rfl (lv_at hl 0 rfl) ?_
    refine x_get (i := (g.1 + 1)) (k := 5) (j := 0) (t := 3) hx hb hts i_5 hown hK hW ⟨⟨hfl, rfl⟩, by decide⟩ rfl ⟨by decide, by decide, rfl⟩ (hts (.fieldLink RX5 184 "OpticalJukebox$TextReader" "tokenStart" "I") (by decide +kernel)) (rfl) dX5_wordIs_13 ?_
    refine lv_isub hx hb dX5_wordIs_16 ?_
    refine lv_aload_n hx hb dX5_wordIs_17 rfl (lv_at hl 1 rfl) ?_
    refine x_ci0 (x_rV ⟨hx, hb, hml, hown, hts⟩ (ct_slength l g (wR w rd rn) n hn) (cwV 0 hts gX5_wordIs_J0_length_8abf5 rfl rfl rfl (by decide +kernel) ⟨Nat.le_of_ble_eq_true rfl, Nat.le_of_ble_eq_true rfl⟩) hK hW hS (vk_recv hK.2.1 hn hS) rfl hl.1 (rest := [.int (rd 5 0 4 - rd 5 0 3)]) rfl (Nat.le_of_ble_eq_true rfl) dX5_wordIs_18 ⟨Nat.le_of_ble_eq_true rfl, Nat.le_of_ble_eq_true rfl⟩) hS (fun H locs hW hS => ?_)
    refine lv_icmp_eq (tgt := 26) hx hb dX5_wordIs_21 (by decide) (fun hc => ?_) (fun hc => ?_)
    · have hf := x_iteT hf hc
      refine lv_iconst (v := 0) hx hb dX5_wordIs_26 (by decide) ?_
      refine lv_istore_n (lv' := [(2, .int 0), (0, .ref (adr (g.1 + 1) 5 0)), (1, .ref (gk g n))]) hx hb dX5_wordIs_27 rfl hl (by decide) rfl (fun ls hl => ?_)
      have L28 : ∀ (d : Nat) (i : Int32) (ls : Array Slot) (H : Heap) (locs : List Loc), lv_has ls 3 [(0, .ref (adr (g.1 + 1) 5 0)), (1, .ref (gk g n)), (2, .int i)] → World g (wR w rd rn) H → va_S (gA g) s.heap H locs → f_X5_wordIs_L rd n d i = some q → W p l e rm_X5_wordIs s m [.ref (adr (g.1 + 1) 5 0), .ref (gk g n)].toArray below meth c H locs 0 0 (MQ below (cQi g q (wR w rd rn)) [.ref (adr (g.1 + 1) 5 0), .ref (gk g n)].toArray s 0 0 (gA g)) (F0 m 28 ls []) := by
        clear hW hS hl hf
        intro d
        induction d with
        | zero => intro i ls H locs hl hW hS hf; cases hf
        | succ d ih =>
          intro i ls H locs hl hW hS hf
          rw [f_X5_wordIs_L] at hf
          refine lv_iload_n hx hb dX5_wordIs_28 rfl (lv_at hl 2 rfl) ?_
          refine lv_aload_n hx hb dX5_wordIs_29 rfl (lv_at hl 1 rfl) ?_
          refine x_ci0 (x_rV ⟨hx, hb, hml, hown, hts⟩ (ct_slength l g (wR w rd rn) n hn) (cwV 0 hts gX5_wordIs_J0_length_8abf5 rfl rfl rfl (by decide +kernel) ⟨Nat.le_of_ble_eq_true rfl, Nat.le_of_ble_eq_true rfl⟩) hK hW hS (vk_recv hK.2.1 hn hS) rfl hl.1 (rest := [.int i]) rfl (Nat.le_of_ble_eq_true rfl) dX5_wordIs_30 ⟨Nat.le_of_ble_eq_true rfl, Nat.le_of_ble_eq_true rfl⟩) hS (fun H locs hW hS => ?_)
          refine lv_icmp_ge (tgt := 63) hx hb dX5_wordIs_33 (by decide) (fun hc => ?_) (fun hc => ?_)
          · have hf := x_iteT hf hc
            refine lv_iconst (v := 1) hx hb dX5_wordIs_63 (by decide) ?_
            cases hf
            exact x_zret hx hb hr hlocks hK hW hS (Or.inr rfl) rfl dX5_wordIs_64
          · have hf := x_iteF hf hc
            obtain ⟨hg1, hf⟩ := x_guardE hf
            obtain ⟨hg2, hf⟩ := x_guardE hf
            refine lv_aload_n hx hb dX5_wordIs_36 rfl (lv_at hl 0 rfl) ?_
            refine x_get (i := (g.1 + 1)) (k := 5) (j := 0) (t := 0) hx hb hts i_5 hown hK hW ⟨⟨hfl, rfl⟩, by decide⟩ rfl ⟨by decide, by decide, rfl⟩ (hts (.fieldLink RX5 9 "OpticalJukebox$TextReader" "text" "[B") (by decide +kernel)) (v := .ref (adr (g.1 + 1) 20 0)) rfl dX5_wordIs_37 ?_
            refine lv_aload_n hx hb dX5_wordIs_40 rfl (lv_at hl 0 rfl) ?_
            refine x_get (i := (g.1 + 1)) (k := 5) (j := 0) (t := 3) hx hb hts i_5 hown hK hW ⟨⟨hfl, rfl⟩, by decide⟩ rfl ⟨by decide, by decide, rfl⟩ (hts (.fieldLink RX5 184 "OpticalJukebox$TextReader" "tokenStart" "I") (by decide +kernel)) (rfl) dX5_wordIs_41 ?_
            refine lv_iload_n hx hb dX5_wordIs_44 rfl (lv_at hl 2 rfl) ?_
            refine lv_iadd hx hb dX5_wordIs_45 ?_
            refine x_bald (i := (g.1 + 1)) (k := 20) (j := 0) (f := rd 20 0) hx hb hK hW ⟨⟨hfl, rfl⟩, by decide⟩ (by decide) rfl rfl hg1 dX5_wordIs_46 ?_
            refine lv_aload_n hx hb dX5_wordIs_47 rfl (lv_at hl 1 rfl) ?_
            refine lv_iload_n hx hb dX5_wordIs_48 rfl (lv_at hl 2 rfl) ?_
            refine x_ci0 (x_rV ⟨hx, hb, hml, hown, hts⟩ (ct_scharAt l g (wR w rd rn) n hn i hg2) (cwV 1 hts gX5_wordIs_J0_charAt_5068e rfl rfl rfl (by decide +kernel) ⟨Nat.le_of_ble_eq_true rfl, Nat.le_of_ble_eq_true rfl⟩) hK hW hS (vk_recv hK.2.1 hn hS) rfl hl.1 (rest := [.int (rd 20 0 (rd 5 0 3 + i).toNatClampNeg)]) rfl (Nat.le_of_ble_eq_true rfl) dX5_wordIs_49 ⟨Nat.le_of_ble_eq_true rfl, Nat.le_of_ble_eq_true rfl⟩) hS (fun H locs hW hS => ?_)
            refine lv_icmp_eq (tgt := 57) hx hb dX5_wordIs_52 (by decide) (fun hc => ?_) (fun hc => ?_)
            · have hf := x_iteT hf hc
              refine lv_iinc (v := i + 1) (lv' := [(2, .int (i + 1)), (0, .ref (adr (g.1 + 1) 5 0)), (1, .ref (gk g n))]) hx hb dX5_wordIs_57 hl (k := 2) rfl rfl (by decide) rfl (fun ls hl => ?_)
              refine lv_goto (tgt := 28) hx hb dX5_wordIs_60 (by decide) ?_
              exact ih (i + 1) ls _ _ (lv_sub hl [1, 2, 0] rfl) hW hS hf
            · have hf := x_iteF hf hc
              refine lv_iconst (v := 0) hx hb dX5_wordIs_55 (by decide) ?_
              cases hf
              exact x_zret hx hb hr hlocks hK hW hS (Or.inl rfl) rfl dX5_wordIs_56
      exact L28 fuel 0 ls _ _ (lv_sub hl [1, 2, 0] rfl) hW hS hf
    · have hf := x_iteF hf hc
      refine lv_iconst (v := 0) hx hb dX5_wordIs_24 (by decide) ?_
      cases hf
      exact x_zret hx hb hr hlocks hK hW hS (Or.inl rfl) rfl dX5_wordIs_25
