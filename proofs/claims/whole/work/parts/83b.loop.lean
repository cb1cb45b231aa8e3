/-! the law: its loop -/
theorem dL_law_18 : decode cL_law 18 = .ok (.iload_n 3, 1) := by decide +kernel
theorem dL_law_19 : decode cL_law 19 = .ok (.aload_n 0, 1) := by decide +kernel
theorem dL_law_20 : decode cL_law 20 = .ok (.arraylength, 1) := by decide +kernel
theorem dL_law_21 : decode cL_law 21 = .ok (.bipush 6, 2) := by decide +kernel
theorem dL_law_23 : decode cL_law 23 = .ok (.isub, 1) := by decide +kernel
theorem dL_law_24 : decode cL_law 24 = .ok (.if_icmp .gt 1673, 3) := by decide +kernel
theorem dL_law_27 : decode cL_law 27 = .ok (.aload_n 0, 1) := by decide +kernel
theorem dL_law_28 : decode cL_law 28 = .ok (.iload_n 3, 1) := by decide +kernel
theorem dL_law_29 : decode cL_law 29 = .ok (.iaload, 1) := by decide +kernel
theorem dL_law_30 : decode cL_law 30 = .ok (.bipush 63, 2) := by decide +kernel
theorem dL_law_32 : decode cL_law 32 = .ok (.iand, 1) := by decide +kernel
theorem dL_law_33 : decode cL_law 33 = .ok (.tableswitch 1658 0 58 #[251, 314, 337, 350, 363, 386, 409, 432, 455, 468, 481, 494, 507, 530, 553, 586, 609, 632, 655, 688, 721, 744, 767, 800, 823, 846, 869, 892, 915, 938, 961, 984, 1007, 1030, 1053, 1076, 1109, 1132, 1155, 1178, 1201, 1244, 1277, 1300, 1333, 1366, 1429, 1452, 1475, 1488, 1501, 1524, 1537, 1550, 1573, 1586, 1599, 1622, 1635], 251) := by decide +kernel
theorem dL_law_1691 : decode cL_law 1691 = .ok (.iinc 3 6, 3) := by decide +kernel
theorem dL_law_1694 : decode cL_law 1694 = .ok (.goto (-1676), 3) := by decide +kernel
theorem lw_cmp {i L : Nat} (hi : i < 2 ^ 30) (hL : L < 2 ^ 30) : (Int32.ofNat L - 6 < nI i) ↔ L < i + 6 := by
  rw [Int32.lt_iff_toInt_lt, nI_toInt (by omega)]
  have : (Int32.ofNat L - 6).toInt = (L : Int) - (6 : Nat) := pk_sub_toInt (a := L) (b := 6) hL (by omega)
  rw [this]
  omega
theorem and63 (x : Int32) : ∃ t, t < 64 ∧ x &&& 63 = nI t := by
  refine ⟨x.toBitVec.toNat % 64, Nat.mod_lt _ (by omega), ?_⟩
  have h := pk_andN (n := x.toBitVec.toNat) x.toBitVec.isLt (m := 63) 6 (by decide)
  rw [nI_all] at h
  exact h
theorem lp_ar {L i k n B cells slots c1 s1 : Nat} (hk : L < i + 6 + 6 * (k + 1)) (hn : i = 6 * n) (h6 : i + 6 ≤ L) (hL : L ≤ 3072) (hB : B ≤ 256 * n) (hc : cells ≤ 300 + 95 * n) (hs : slots ≤ 100000 + 11111 * n) (hc1 : c1 ≤ cells + 95) (hs1 : s1 ≤ slots + 11111) : L < i + 6 + 6 + 6 * k ∧ i + 6 = 6 * (n + 1) ∧ i + 6 ≤ 3072 ∧ B + 256 ≤ 256 * (n + 1) ∧ c1 ≤ 300 + 95 * (n + 1) ∧ s1 ≤ 100000 + 11111 * (n + 1) := by omega
theorem lp_bd {i n B cells slots : Nat} (hn : i = 6 * n) (hi : i ≤ 3072) (hB : B ≤ 256 * n) (hc : cells ≤ 300 + 95 * n) (hs : slots ≤ 100000 + 11111 * n) : B < 2 ^ 27 ∧ cells + 95 ≤ 600000 ∧ slots + 11111 ≤ 7302250 := by omega
set_option maxRecDepth 100000 in
set_option maxHeartbeats 4000000 in
theorem lp_go {p : Program} {l : Launch} {e : Env} {s : State} {m : MethodId} {below : List Frame} {meth : Method} {c : Code} {Q : State → Prop} {g : GT} {b L : Nat} {xs : Nat → Int32} (X : lwX p s m meth c g b L xs) (hL : L ≤ 3072) (hfl : gf g = 2) (KE : ∀ (H : Heap) (locs : List Loc) (ls : Array Slot) (cells slots : Nat), cells ≤ 600000 → slots ≤ 7302250 → va_S (gA g) s.heap H locs → W p l e room_1 s m #[Value.ref b] below meth c H locs cells slots Q (F0 m 1697 ls [])) : ∀ (k i n B : Nat) (H : Heap) (locs : List Loc) (ls : Array Slot) (cells slots : Nat) (cs : CT) (md : SD) (mn : Nat → Int64) (mw : Int64), L < i + 6 + 6 * k → i = 6 * n → i ≤ 3072 → B ≤ 256 * n → cells ≤ 300 + 95 * n → slots ≤ 100000 + 11111 * n → JJ B cs md → World g (cs, (md, mn, mw)) H → va_S (gA g) s.heap H locs → lv_has ls 4 [(0, .ref b), (1, .ref (adr g.1 7 0)), (2, .ref (adr (g.1 + 189) 8 0)), (3, .int (nI i))] → W p l e room_1 s m #[Value.ref b] below meth c H locs cells slots Q (F0 m 18 ls []) := by
  obtain ⟨hx, hb, hml, hown, hts, hX, hbl, hbA, hK⟩ := id X
  intro k
  induction k with
  | zero =>
    intro i n B H locs ls cells slots cs md mn mw hk hn hi hB hc hs hJ hW hS hl
    refine lv_iload_n hx hb dL_law_18 rfl (lv_at hl 3 rfl) ?_
    refine lv_aload_n hx hb dL_law_19 rfl (lv_at hl 0 rfl) ?_
    refine va_slen hx hb hX hbl hbA hS dL_law_20 ?_
    refine lv_bipush (v := 6) hx hb dL_law_21 (by decide) ?_
    refine lv_isub hx hb dL_law_23 ?_
    refine lv_icmp_gt (tgt := 1697) hx hb dL_law_24 (by decide) (fun _ => ?_) (fun h => ?_)
    · obtain ⟨-, q1, q2⟩ := lp_bd hn hi hB hc hs
      exact KE H locs ls cells slots (by omega) (by omega) hS
    · rw [lw_cmp (by omega) (by omega)] at h
      omega
  | succ k ih =>
    intro i n B H locs ls cells slots cs md mn mw hk hn hi hB hc hs hJ hW hS hl
    refine lv_iload_n hx hb dL_law_18 rfl (lv_at hl 3 rfl) ?_
    refine lv_aload_n hx hb dL_law_19 rfl (lv_at hl 0 rfl) ?_
    refine va_slen hx hb hX hbl hbA hS dL_law_20 ?_
    refine lv_bipush (v := 6) hx hb dL_law_21 (by decide) ?_
    refine lv_isub hx hb dL_law_23 ?_
    refine lv_icmp_gt (tgt := 1697) hx hb dL_law_24 (by decide) (fun _ => ?_) (fun h => ?_)
    · obtain ⟨-, q1, q2⟩ := lp_bd hn hi hB hc hs
      exact KE H locs ls cells slots (by omega) (by omega) hS
    · rw [lw_cmp (by omega) (by omega)] at h
      have h6 : i + 6 ≤ L := by omega
      have Kn : ∀ (H1 : Heap) (locs1 : List Loc) (cs1 : CT) (md1 : SD) (mn1 : Nat → Int64) (mw1 : Int64) (c1 s1 : Nat), c1 ≤ cells + 95 → s1 ≤ slots + 11111 → JJ (B + 256) cs1 md1 → World g (cs1, (md1, mn1, mw1)) H1 → va_S (gA g) s.heap H1 locs1 → W p l e room_1 s m #[Value.ref b] below meth c H1 locs1 c1 s1 Q (F0 m 1691 ls []) := by
        intro H1 locs1 cs1 md1 mn1 mw1 c1 s1 hc1 hs1 hJ1 hW1 hS1
        refine lv_iinc (k := 3) (v := nI (i + 6)) hx hb dL_law_1691 hl rfl (nI_add i 6) (by decide) rfl (fun ls' hl' => ?_)
        refine lv_goto (tgt := 18) hx hb dL_law_1694 (by decide) ?_
        obtain ⟨a1, a2, a3, a4, a5, a6⟩ := lp_ar hk hn h6 hL hB hc hs hc1 hs1
        exact ih (i + 6) (n + 1) (B + 256) H1 locs1 ls' c1 s1 cs1 md1 mn1 mw1 a1 a2 a3 a4 a5 a6 hJ1 hW1 hS1 (lv_sub hl' [1, 2, 3, 0] rfl)
      refine lv_aload_n hx hb dL_law_27 rfl (lv_at hl 0 rfl) ?_
      refine lv_iload_n hx hb dL_law_28 rfl (lv_at hl 3 rfl) ?_
      refine va_sld hx hb hX hbl hbA hS (vp_in_nI (show i < L by omega) (by omega)) dL_law_29 ?_
      refine lv_bipush (v := 63) hx hb dL_law_30 (by decide) ?_
      refine lv_iand hx hb dL_law_32 ?_
      obtain ⟨t, t1, t2⟩ := and63 (xs (nI i).toNatClampNeg)
      rw [t2]
      obtain ⟨hB27, hcc, hss⟩ := lp_bd hn hi hB hc hs
      by_cases z : t < 59
      · have hcase : t = 0 ∨ t = 1 ∨ t = 2 ∨ t = 3 ∨ t = 4 ∨ t = 5 ∨ t = 6 ∨ t = 7 ∨ t = 8 ∨ t = 9 ∨ t = 10 ∨ t = 11 ∨ t = 12 ∨ t = 13 ∨ t = 14 ∨ t = 15 ∨ t = 16 ∨ t = 17 ∨ t = 18 ∨ t = 19 ∨ t = 20 ∨ t = 21 ∨ t = 22 ∨ t = 23 ∨ t = 24 ∨ t = 25 ∨ t = 26 ∨ t = 27 ∨ t = 28 ∨ t = 29 ∨ t = 30 ∨ t = 31 ∨ t = 32 ∨ t = 33 ∨ t = 34 ∨ t = 35 ∨ t = 36 ∨ t = 37 ∨ t = 38 ∨ t = 39 ∨ t = 40 ∨ t = 41 ∨ t = 42 ∨ t = 43 ∨ t = 44 ∨ t = 45 ∨ t = 46 ∨ t = 47 ∨ t = 48 ∨ t = 49 ∨ t = 50 ∨ t = 51 ∨ t = 52 ∨ t = 53 ∨ t = 54 ∨ t = 55 ∨ t = 56 ∨ t = 57 ∨ t = 58 := by omega
        rcases hcase with rfl | rfl | rfl | rfl | rfl | rfl | rfl | rfl | rfl | rfl | rfl | rfl | rfl | rfl | rfl | rfl | rfl | rfl | rfl | rfl | rfl | rfl | rfl | rfl | rfl | rfl | rfl | rfl | rfl | rfl | rfl | rfl | rfl | rfl | rfl | rfl | rfl | rfl | rfl | rfl | rfl | rfl | rfl | rfl | rfl | rfl | rfl | rfl | rfl | rfl | rfl | rfl | rfl | rfl | rfl | rfl | rfl | rfl | rfl
        · exact lv_tableIn (tgt := 284) hx hb dL_law_33 (by decide) (by decide) rfl (by decide) (ls_0 X h6 hL hS hl hfl hW hJ hB27 hcc hss Kn)
        · exact lv_tableIn (tgt := 347) hx hb dL_law_33 (by decide) (by decide) rfl (by decide) (ls_1 X h6 hL hS hl hfl hW hJ hB27 hcc hss Kn)
        · exact lv_tableIn (tgt := 370) hx hb dL_law_33 (by decide) (by decide) rfl (by decide) (ls_2 X h6 hL hS hl hfl hW hJ hB27 hcc hss Kn)
        · exact lv_tableIn (tgt := 383) hx hb dL_law_33 (by decide) (by decide) rfl (by decide) (ls_3 X h6 hL hS hl hfl hW hJ hB27 hcc hss Kn)
        · exact lv_tableIn (tgt := 396) hx hb dL_law_33 (by decide) (by decide) rfl (by decide) (ls_4 X h6 hL hS hl hfl hW hJ hB27 hcc hss Kn)
        · exact lv_tableIn (tgt := 419) hx hb dL_law_33 (by decide) (by decide) rfl (by decide) (ls_5 X h6 hL hS hl hfl hW hJ hB27 hcc hss Kn)
        · exact lv_tableIn (tgt := 442) hx hb dL_law_33 (by decide) (by decide) rfl (by decide) (ls_6 X h6 hL hS hl hfl hW hJ hB27 hcc hss Kn)
        · exact lv_tableIn (tgt := 465) hx hb dL_law_33 (by decide) (by decide) rfl (by decide) (ls_7 X h6 hL hS hl hfl hW hJ hB27 hcc hss Kn)
        · exact lv_tableIn (tgt := 488) hx hb dL_law_33 (by decide) (by decide) rfl (by decide) (ls_8 X h6 hL hS hl hfl hW hJ hB27 hcc hss Kn)
        · exact lv_tableIn (tgt := 501) hx hb dL_law_33 (by decide) (by decide) rfl (by decide) (ls_9 X h6 hL hS hl hfl hW hJ hB27 hcc hss Kn)
        · exact lv_tableIn (tgt := 514) hx hb dL_law_33 (by decide) (by decide) rfl (by decide) (ls_10 X h6 hL hS hl hfl hW hJ hB27 hcc hss Kn)
        · exact lv_tableIn (tgt := 527) hx hb dL_law_33 (by decide) (by decide) rfl (by decide) (ls_11 X h6 hL hS hl hfl hW hJ hB27 hcc hss Kn)
        · exact lv_tableIn (tgt := 540) hx hb dL_law_33 (by decide) (by decide) rfl (by decide) (ls_12 X h6 hL hS hl hfl hW hJ hB27 hcc hss Kn)
        · exact lv_tableIn (tgt := 563) hx hb dL_law_33 (by decide) (by decide) rfl (by decide) (ls_13 X h6 hL hS hl hfl hW hJ hB27 hcc hss Kn)
        · exact lv_tableIn (tgt := 586) hx hb dL_law_33 (by decide) (by decide) rfl (by decide) (ls_14 X h6 hL hS hl hfl hW hJ hB27 hcc hss Kn)
        · exact lv_tableIn (tgt := 619) hx hb dL_law_33 (by decide) (by decide) rfl (by decide) (ls_15 X h6 hL hS hl hfl hW hJ hB27 hcc hss Kn)
        · exact lv_tableIn (tgt := 642) hx hb dL_law_33 (by decide) (by decide) rfl (by decide) (ls_16 X h6 hL hS hl hfl hW hJ hB27 hcc hss Kn)
        · exact lv_tableIn (tgt := 665) hx hb dL_law_33 (by decide) (by decide) rfl (by decide) (ls_17 X h6 hL hS hl hfl hW hJ hB27 hcc hss Kn)
        · exact lv_tableIn (tgt := 688) hx hb dL_law_33 (by decide) (by decide) rfl (by decide) (ls_18 X h6 hL hS hl hfl hW hJ hB27 hcc hss Kn)
        · exact lv_tableIn (tgt := 721) hx hb dL_law_33 (by decide) (by decide) rfl (by decide) (ls_19 X h6 hL hS hl hfl hW hJ hB27 hcc hss Kn)
        · exact lv_tableIn (tgt := 754) hx hb dL_law_33 (by decide) (by decide) rfl (by decide) (ls_20 X h6 hL hS hl hfl hW hJ hB27 hcc hss Kn)
        · exact lv_tableIn (tgt := 777) hx hb dL_law_33 (by decide) (by decide) rfl (by decide) (ls_21 X h6 hL hS hl hfl hW hJ hB27 hcc hss Kn)
        · exact lv_tableIn (tgt := 800) hx hb dL_law_33 (by decide) (by decide) rfl (by decide) (ls_22 X h6 hL hS hl hfl hW hJ hB27 hcc hss Kn)
        · exact lv_tableIn (tgt := 833) hx hb dL_law_33 (by decide) (by decide) rfl (by decide) (ls_23 X h6 hL hS hl hfl hW hJ hB27 hcc hss Kn)
        · exact lv_tableIn (tgt := 856) hx hb dL_law_33 (by decide) (by decide) rfl (by decide) (ls_24 X h6 hL hS hl hfl hW hJ hB27 hcc hss Kn)
        · exact lv_tableIn (tgt := 879) hx hb dL_law_33 (by decide) (by decide) rfl (by decide) (ls_25 X h6 hL hS hl hfl hW hJ hB27 hcc hss Kn)
        · exact lv_tableIn (tgt := 902) hx hb dL_law_33 (by decide) (by decide) rfl (by decide) (ls_26 X h6 hL hS hl hfl hW hJ hB27 hcc hss Kn)
        · exact lv_tableIn (tgt := 925) hx hb dL_law_33 (by decide) (by decide) rfl (by decide) (ls_27 X h6 hL hS hl hfl hW hJ hB27 hcc hss Kn)
        · exact lv_tableIn (tgt := 948) hx hb dL_law_33 (by decide) (by decide) rfl (by decide) (ls_28 X h6 hL hS hl hfl hW hJ hB27 hcc hss Kn)
        · exact lv_tableIn (tgt := 971) hx hb dL_law_33 (by decide) (by decide) rfl (by decide) (ls_29 X h6 hL hS hl hfl hW hJ hB27 hcc hss Kn)
        · exact lv_tableIn (tgt := 994) hx hb dL_law_33 (by decide) (by decide) rfl (by decide) (ls_30 X h6 hL hS hl hfl hW hJ hB27 hcc hss Kn)
        · exact lv_tableIn (tgt := 1017) hx hb dL_law_33 (by decide) (by decide) rfl (by decide) (ls_31 X h6 hL hS hl hfl hW hJ hB27 hcc hss Kn)
        · exact lv_tableIn (tgt := 1040) hx hb dL_law_33 (by decide) (by decide) rfl (by decide) (ls_32 X h6 hL hS hl hfl hW hJ hB27 hcc hss Kn)
        · exact lv_tableIn (tgt := 1063) hx hb dL_law_33 (by decide) (by decide) rfl (by decide) (ls_33 X h6 hL hS hl hfl hW hJ hB27 hcc hss Kn)
        · exact lv_tableIn (tgt := 1086) hx hb dL_law_33 (by decide) (by decide) rfl (by decide) (ls_34 X h6 hL hS hl hfl hW hJ hB27 hcc hss Kn)
        · exact lv_tableIn (tgt := 1109) hx hb dL_law_33 (by decide) (by decide) rfl (by decide) (ls_35 X h6 hL hS hl hfl hW hJ hB27 hcc hss Kn)
        · exact lv_tableIn (tgt := 1142) hx hb dL_law_33 (by decide) (by decide) rfl (by decide) (ls_36 X h6 hL hS hl hfl hW hJ hB27 hcc hss Kn)
        · exact lv_tableIn (tgt := 1165) hx hb dL_law_33 (by decide) (by decide) rfl (by decide) (ls_37 X h6 hL hS hl hfl hW hJ hB27 hcc hss Kn)
        · exact lv_tableIn (tgt := 1188) hx hb dL_law_33 (by decide) (by decide) rfl (by decide) (ls_38 X h6 hL hS hl hfl hW hJ hB27 hcc hss Kn)
        · exact lv_tableIn (tgt := 1211) hx hb dL_law_33 (by decide) (by decide) rfl (by decide) (ls_39 X h6 hL hS hl hfl hW hJ hB27 hcc hss Kn)
        · exact lv_tableIn (tgt := 1234) hx hb dL_law_33 (by decide) (by decide) rfl (by decide) (ls_40 X h6 hL hS hl hfl hW hJ hB27 hcc hss Kn)
        · exact lv_tableIn (tgt := 1277) hx hb dL_law_33 (by decide) (by decide) rfl (by decide) (ls_41 X h6 hL hS hl hfl hW hJ hB27 hcc hss Kn)
        · exact lv_tableIn (tgt := 1310) hx hb dL_law_33 (by decide) (by decide) rfl (by decide) (ls_42 X h6 hL hS hl hfl hW hJ hB27 hcc hss Kn)
        · exact lv_tableIn (tgt := 1333) hx hb dL_law_33 (by decide) (by decide) rfl (by decide) (ls_43 X h6 hL hS hl hfl hW hJ hB27 hcc hss Kn)
        · exact lv_tableIn (tgt := 1366) hx hb dL_law_33 (by decide) (by decide) rfl (by decide) (ls_44 X h6 hL hS hl hfl hW hJ hB27 hcc hss Kn)
        · exact lv_tableIn (tgt := 1399) hx hb dL_law_33 (by decide) (by decide) rfl (by decide) (ls_45 X h6 hL hS hl hfl hW hJ hB27 hcc hss Kn)
        · exact lv_tableIn (tgt := 1462) hx hb dL_law_33 (by decide) (by decide) rfl (by decide) (ls_46 X h6 hL hS hl hfl hW hJ hB27 hcc hss Kn)
        · exact lv_tableIn (tgt := 1485) hx hb dL_law_33 (by decide) (by decide) rfl (by decide) (ls_47 X h6 hL hS hl hfl hW hJ hB27 hcc hss Kn)
        · exact lv_tableIn (tgt := 1508) hx hb dL_law_33 (by decide) (by decide) rfl (by decide) (ls_48 X h6 hL hS hl hfl hW hJ hB27 hcc hss Kn)
        · exact lv_tableIn (tgt := 1521) hx hb dL_law_33 (by decide) (by decide) rfl (by decide) (ls_49 X h6 hL hS hl hfl hW hJ hB27 hcc hss Kn)
        · exact lv_tableIn (tgt := 1534) hx hb dL_law_33 (by decide) (by decide) rfl (by decide) (ls_50 X h6 hL hS hl hfl hW hJ hB27 hcc hss Kn)
        · exact lv_tableIn (tgt := 1557) hx hb dL_law_33 (by decide) (by decide) rfl (by decide) (ls_51 X h6 hL hS hl hfl hW hJ hB27 hcc hss Kn)
        · exact lv_tableIn (tgt := 1570) hx hb dL_law_33 (by decide) (by decide) rfl (by decide) (ls_52 X h6 hL hS hl hfl hW hJ hB27 hcc hss Kn)
        · exact lv_tableIn (tgt := 1583) hx hb dL_law_33 (by decide) (by decide) rfl (by decide) (ls_53 X h6 hL hS hl hfl hW hJ hB27 hcc hss Kn)
        · exact lv_tableIn (tgt := 1606) hx hb dL_law_33 (by decide) (by decide) rfl (by decide) (ls_54 X h6 hL hS hl hfl hW hJ hB27 hcc hss Kn)
        · exact lv_tableIn (tgt := 1619) hx hb dL_law_33 (by decide) (by decide) rfl (by decide) (ls_55 X h6 hL hS hl hfl hW hJ hB27 hcc hss Kn)
        · exact lv_tableIn (tgt := 1632) hx hb dL_law_33 (by decide) (by decide) rfl (by decide) (ls_56 X h6 hL hS hl hfl hW hJ hB27 hcc hss Kn)
        · exact lv_tableIn (tgt := 1655) hx hb dL_law_33 (by decide) (by decide) rfl (by decide) (ls_57 X h6 hL hS hl hfl hW hJ hB27 hcc hss Kn)
        · exact lv_tableIn (tgt := 1668) hx hb dL_law_33 (by decide) (by decide) rfl (by decide) (ls_58 X h6 hL hS hl hfl hW hJ hB27 hcc hss Kn)
      · refine lv_tableOut (tgt := 1691) hx hb dL_law_33 (Or.inr ?_) (by decide) ?_
        · rw [nI_toInt (by omega)]
          omega
        · exact Kn H locs cs md mn mw cells slots (by omega) (by omega) (hJ.more (by omega)) hW hS
