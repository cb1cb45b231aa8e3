set_option maxRecDepth 20000 in
theorem ggL_law_X7_nearestHome : GoodIn wsL_law wsX7_nearestHome := goodIn_q _ [(64, 1), (0, 19), (64, 2), (28, 0), (28, 1), (28, 2), (0, 2), (28, 3), (23, 12), (28, 4), (28, 5), (23, 13), (15, 11), (15, 12), (0, 18), (15, 13), (3, 0), (24, 7), (11, 6), (11, 7), (11, 8), (1, 18), (11, 9), (64, 3), (64, 4), (64, 5), (64, 6), (2, 22), (1, 16), (10, 16), (29, 21), (29, 22), (6, 4), (29, 23), (64, 7), (6, 3), (6, 5), (25, 4), (25, 5), (25, 6), (23, 1), (67, 0), (67, 1), (67, 2), (67, 3), (67, 4), (67, 5), (67, 6), (67, 7), (67, 8), (70, 0), (70, 1), (70, 2), (70, 3), (70, 4), (70, 5), (70, 6), (70, 7), (70, 8), (70, 9), (70, 10), (70, 11), (70, 12), (70, 13), (70, 14), (70, 15), (70, 16), (70, 17), (73, 0), (73, 1), (73, 2), (73, 3), (73, 4), (73, 5), (73, 6), (73, 7), (73, 8), (72, 0), (72, 1), (72, 2)] rfl (by decide +kernel)
set_option maxRecDepth 20000 in
theorem gL_law_X7_nearestHome : GoodIn wsL_law (wsV RL 242 RX7 yX7_nearestHome wsX7_nearestHome) := goodIn_app (goodIn_q _ [(63, 22), (63, 23), (64, 0), (0, 2)] rfl (by decide +kernel)) ggL_law_X7_nearestHome
set_option maxRecDepth 20000 in
theorem ggL_law_X8_nearestHome : GoodIn wsL_law wsX8_nearestHome := goodIn_q _ [(64, 11), (5, 4), (23, 18), (3, 22), (28, 19), (23, 19), (23, 20), (23, 21), (0, 5), (23, 22), (17, 19), (17, 20), (17, 21), (20, 14), (20, 15), (20, 16), (64, 12), (64, 13), (64, 14), (64, 15), (60, 1), (22, 9), (6, 3), (6, 4), (6, 5), (31, 5), (31, 6), (31, 7), (68, 0), (68, 1), (68, 2), (68, 3), (68, 4), (68, 5), (68, 6), (68, 7), (68, 8), (68, 9), (68, 10), (68, 11), (68, 12), (68, 13), (68, 14), (68, 15), (68, 16), (68, 17), (68, 18), (68, 19), (68, 20), (68, 21), (68, 22), (68, 23), (68, 24), (68, 25), (68, 26)] rfl (by decide +kernel)
set_option maxRecDepth 20000 in
theorem gL_law_X8_nearestHome : GoodIn wsL_law (wsV RL 245 RX8 yX8_nearestHome wsX8_nearestHome) := goodIn_app (goodIn_q _ [(64, 8), (64, 9), (64, 10), (0, 5)] rfl (by decide +kernel)) ggL_law_X8_nearestHome
theorem dL_law_1632 : decode cL_law 1632 = .ok (.aload_n 1, 1) := by decide +kernel
theorem dL_law_1633 : decode cL_law 1633 = .ok (.aload_n 0, 1) := by decide +kernel
theorem dL_law_1634 : decode cL_law 1634 = .ok (.iload_n 3, 1) := by decide +kernel
theorem dL_law_1635 : decode cL_law 1635 = .ok (.iconst 1, 1) := by decide +kernel
theorem dL_law_1636 : decode cL_law 1636 = .ok (.iadd, 1) := by decide +kernel
theorem dL_law_1637 : decode cL_law 1637 = .ok (.iaload, 1) := by decide +kernel
theorem dL_law_1638 : decode cL_law 1638 = .ok (.invokevirtual 242, 3) := by decide +kernel
theorem dL_law_1641 : decode cL_law 1641 = .ok (.aload_n 2, 1) := by decide +kernel
theorem dL_law_1642 : decode cL_law 1642 = .ok (.aload_n 0, 1) := by decide +kernel
theorem dL_law_1643 : decode cL_law 1643 = .ok (.iload_n 3, 1) := by decide +kernel
theorem dL_law_1644 : decode cL_law 1644 = .ok (.iconst 1, 1) := by decide +kernel
theorem dL_law_1645 : decode cL_law 1645 = .ok (.iadd, 1) := by decide +kernel
theorem dL_law_1646 : decode cL_law 1646 = .ok (.iaload, 1) := by decide +kernel
theorem dL_law_1647 : decode cL_law 1647 = .ok (.invokevirtual 245, 3) := by decide +kernel
theorem dL_law_1650 : decode cL_law 1650 = .ok (.if_icmp .eq 41, 3) := by decide +kernel
theorem dL_law_1653 : decode cL_law 1653 = .ok (.iconst 0, 1) := by decide +kernel
theorem dL_law_1654 : decode cL_law 1654 = .ok (.ireturn, 1) := by decide +kernel
set_option maxRecDepth 100000 in
set_option maxHeartbeats 2000000 in
theorem lc_56 {p : Program} {l : Launch} {e : Env} {s : State} {m : MethodId} {below : List Frame} {meth : Method} {c : Code} {Q : State → Prop} {g : GT} {b L i : Nat} {xs : Nat → Int32} {H : Heap} {locs : List Loc} {ls : Array Slot} {cells slots : Nat} {cs : CT} {md : SD} {mn : Nat → Int64} {mw : Int64} (X : lwX p s m meth c g b L xs) (hi : i + 6 ≤ L) (hL : L ≤ 3072) (hS : va_S (gA g) s.heap H locs) (hl : lv_has ls 4 [(0, .ref b), (1, .ref (adr g.1 7 0)), (2, .ref (adr (g.1 + 189) 8 0)), (3, .int (nI i))]) (hfl : gf g = 2) (hW : World g (cs, (md, mn, mw)) H) {q : Int32} {q' : (Int32 × SD)} (h7 : f_X7_nearestHome (k_xs cs (k_st cs)) (xs (nI i + 1).toNatClampNeg) = some q) (h8 : f_X8_nearestHome md (xs (nI i + 1).toNatClampNeg) = some q') (he : q = q'.1) (hc : cells + 0 ≤ 600000) (hs : slots + 0 ≤ 7302250) (K : ∀ (H1 : Heap) (locs1 : List Loc), World g (cs, (q'.2, mn, mw)) H1 → va_S (gA g) s.heap H1 locs1 → W p l e room_1 s m #[Value.ref b] below meth c H1 locs1 (cells + 0) (slots + 0) Q (F0 m 1691 ls [])) : W p l e room_1 s m #[Value.ref b] below meth c H locs cells slots Q (F0 m 1632 ls []) := by
  obtain ⟨hx, hb, hml, hown, hts, hX, hbl, hbA, hK⟩ := X
  have hv1 : vp_in (nI i + 1) L := lw_in1 hi hL
  refine lv_aload_n hx hb dL_law_1632 rfl (lv_at hl 1 rfl) ?_
  refine lv_aload_n hx hb dL_law_1633 rfl (lv_at hl 0 rfl) ?_
  refine lv_iload_n hx hb dL_law_1634 rfl (lv_at hl 3 rfl) ?_
  refine lv_iconst (v := 1) hx hb dL_law_1635 (by decide) ?_
  refine lv_iadd hx hb dL_law_1636 ?_
  refine va_sld hx hb hX hbl hbA hS hv1 dL_law_1637 ?_
  refine x_ci (x_rV ⟨hx, hb, hml, hown, hts⟩ (ct_X7_nearestHome l g (Nat.le_of_lt_succ (by rw [hfl]; decide)) cs (md, mn, mw) (xs (nI i + 1).toNatClampNeg) h7) (cwV 1 hts gL_law_X7_nearestHome rfl rfl rfl (by decide +kernel) ⟨Nat.le_of_ble_eq_true rfl, Nat.le_of_ble_eq_true rfl⟩) hK hW hS (x_recv (i := g.1) (k := 7) (j := 0) hK hW ⟨⟨Nat.le_of_lt_succ (by rw [hfl]; decide), rfl⟩, by decide⟩ rfl (by decide)) rfl hl.1 (rest := []) rfl (Nat.le_of_ble_eq_true rfl) dL_law_1638 ⟨hc, hs⟩) hS (fun H locs hW hS => ?_)
  have hW : World g (cs, (md, mn, mw)) H := hW
  refine lv_aload_n hx hb dL_law_1641 rfl (lv_at hl 2 rfl) ?_
  refine lv_aload_n hx hb dL_law_1642 rfl (lv_at hl 0 rfl) ?_
  refine lv_iload_n hx hb dL_law_1643 rfl (lv_at hl 3 rfl) ?_
  refine lv_iconst (v := 1) hx hb dL_law_1644 (by decide) ?_
  refine lv_iadd hx hb dL_law_1645 ?_
  refine va_sld hx hb hX hbl hbA hS hv1 dL_law_1646 ?_
  refine x_ci0 (x_rV ⟨hx, hb, hml, hown, hts⟩ (ct_X8_nearestHome l g (Nat.le_of_eq hfl.symm) (cs, (md, mn, mw)) md mn mw (xs (nI i + 1).toNatClampNeg) h8) (cwV 1 hts gL_law_X8_nearestHome rfl rfl rfl (by decide +kernel) ⟨Nat.le_of_ble_eq_true rfl, Nat.le_of_ble_eq_true rfl⟩) hK hW hS (x_recv (i := g.1 + 189) (k := 8) (j := 0) hK hW ⟨⟨Nat.le_of_eq hfl.symm, rfl⟩, by decide⟩ rfl (by decide)) rfl hl.1 (rest := [.int q]) rfl (Nat.le_of_ble_eq_true rfl) dL_law_1647 ⟨hc, hs⟩) hS (fun H locs hW hS => ?_)
  have hW : World g (cs, (q'.2, mn, mw)) H := hW
  refine lv_icmp_eq (tgt := 1691) hx hb dL_law_1650 (by decide) (fun _ => ?_) (fun h => absurd he h)
  exact K H locs hW hS
set_option maxRecDepth 20000 in
theorem ggL_law_X7_writeCatalogue : GoodIn wsL_law wsX7_writeCatalogue := goodIn_q _ [(64, 19), (64, 20), (0, 19), (5, 21), (39, 22), (40, 19), (41, 4), (39, 23), (40, 0), (40, 1), (0, 18), (40, 2), (1, 20), (1, 21), (64, 21), (64, 22), (64, 23), (0, 2), (65, 0), (65, 1), (65, 2), (65, 3), (65, 4), (1, 2), (42, 8), (42, 9), (42, 10), (42, 11), (42, 12), (42, 13), (42, 14), (42, 15), (42, 16), (12, 19), (1, 18), (14, 23), (15, 5), (42, 17), (42, 18), (42, 19), (2, 2), (42, 20), (11, 23), (11, 22), (67, 0), (67, 1), (67, 2), (67, 3), (67, 4), (67, 5), (67, 6), (67, 7), (67, 8), (70, 0), (70, 1), (70, 2), (70, 3), (70, 4), (70, 5), (70, 6), (70, 7), (70, 8), (70, 9), (70, 10), (70, 11), (70, 12), (70, 13), (70, 14), (70, 15), (70, 16), (70, 17), (74, 0), (74, 1), (74, 2), (74, 3), (74, 4), (74, 5), (74, 6), (73, 0), (73, 1), (73, 2), (73, 3), (73, 4), (73, 5), (73, 6), (73, 7), (73, 8)] rfl (by decide +kernel)
set_option maxRecDepth 20000 in
theorem gL_law_X7_writeCatalogue : GoodIn wsL_law (wsV RL 246 RX7 yX7_writeCatalogue wsX7_writeCatalogue) := goodIn_app (goodIn_q _ [(64, 16), (64, 17), (64, 18), (0, 2)] rfl (by decide +kernel)) ggL_law_X7_writeCatalogue
set_option maxRecDepth 20000 in
theorem ggL_law_X8_writeCatalogue : GoodIn wsL_law wsX8_writeCatalogue := goodIn_q _ [(65, 8), (5, 4), (65, 9), (3, 22), (65, 10), (65, 11), (65, 12), (0, 5), (65, 13), (65, 14), (65, 15), (65, 16), (65, 17), (4, 5), (44, 15), (44, 16), (44, 17), (44, 18), (40, 11), (40, 12), (40, 13), (40, 14), (44, 3), (44, 4), (44, 5), (44, 6), (44, 7), (44, 8), (44, 9), (44, 10), (43, 1), (43, 2), (43, 3), (43, 4), (68, 0), (68, 1), (68, 2), (68, 3), (68, 4), (68, 5), (68, 6), (68, 7), (68, 8), (68, 9), (68, 10), (68, 11), (68, 12), (68, 13), (68, 14), (68, 15), (68, 16), (68, 17), (68, 18), (68, 19), (68, 20), (68, 21), (68, 22), (68, 23), (68, 24), (68, 25), (68, 26)] rfl (by decide +kernel)
set_option maxRecDepth 20000 in
theorem gL_law_X8_writeCatalogue : GoodIn wsL_law (wsV RL 249 RX8 yX8_writeCatalogue wsX8_writeCatalogue) := goodIn_app (goodIn_q _ [(65, 5), (65, 6), (65, 7), (0, 5)] rfl (by decide +kernel)) ggL_law_X8_writeCatalogue
theorem dL_law_1655 : decode cL_law 1655 = .ok (.aload_n 1, 1) := by decide +kernel
theorem dL_law_1656 : decode cL_law 1656 = .ok (.invokevirtual 246, 3) := by decide +kernel
theorem dL_law_1659 : decode cL_law 1659 = .ok (.aload_n 2, 1) := by decide +kernel
theorem dL_law_1660 : decode cL_law 1660 = .ok (.invokevirtual 249, 3) := by decide +kernel
theorem dL_law_1663 : decode cL_law 1663 = .ok (.if_icmp .eq 28, 3) := by decide +kernel
theorem dL_law_1666 : decode cL_law 1666 = .ok (.iconst 0, 1) := by decide +kernel
theorem dL_law_1667 : decode cL_law 1667 = .ok (.ireturn, 1) := by decide +kernel
set_option maxRecDepth 100000 in
set_option maxHeartbeats 2000000 in
theorem lc_57 {p : Program} {l : Launch} {e : Env} {s : State} {m : MethodId} {below : List Frame} {meth : Method} {c : Code} {Q : State → Prop} {g : GT} {b L i : Nat} {xs : Nat → Int32} {H : Heap} {locs : List Loc} {ls : Array Slot} {cells slots : Nat} {cs : CT} {md : SD} {mn : Nat → Int64} {mw : Int64} (X : lwX p s m meth c g b L xs) (hi : i + 6 ≤ L) (hL : L ≤ 3072) (hS : va_S (gA g) s.heap H locs) (hl : lv_has ls 4 [(0, .ref b), (1, .ref (adr g.1 7 0)), (2, .ref (adr (g.1 + 189) 8 0)), (3, .int (nI i))]) (hfl : gf g = 2) (hW : World g (cs, (md, mn, mw)) H) {q : (Int32 × SD)} {q' : (Int32 × SD)} (h7 : f_X7_writeCatalogue (k_xs cs (k_st cs)) (k_jd cs)  = some q) (h8 : f_X8_writeCatalogue md  = some q') (he : q.1 = q'.1) (hc : cells + 0 ≤ 600000) (hs : slots + 0 ≤ 7302250) (K : ∀ (H1 : Heap) (locs1 : List Loc), World g ((kJ cs q.2), (q'.2, mn, mw)) H1 → va_S (gA g) s.heap H1 locs1 → W p l e room_1 s m #[Value.ref b] below meth c H1 locs1 (cells + 0) (slots + 0) Q (F0 m 1691 ls [])) : W p l e room_1 s m #[Value.ref b] below meth c H locs cells slots Q (F0 m 1655 ls []) := by
  obtain ⟨hx, hb, hml, hown, hts, hX, hbl, hbA, hK⟩ := X
  refine lv_aload_n hx hb dL_law_1655 rfl (lv_at hl 1 rfl) ?_
  refine x_ci (x_rV ⟨hx, hb, hml, hown, hts⟩ (ct_X7_writeCatalogue l g (Nat.le_of_lt_succ (by rw [hfl]; decide)) cs (md, mn, mw)  h7) (cwV 0 hts gL_law_X7_writeCatalogue rfl rfl rfl (by decide +kernel) ⟨Nat.le_of_ble_eq_true rfl, Nat.le_of_ble_eq_true rfl⟩) hK hW hS (x_recv (i := g.1) (k := 7) (j := 0) hK hW ⟨⟨Nat.le_of_lt_succ (by rw [hfl]; decide), rfl⟩, by decide⟩ rfl (by decide)) rfl hl.1 (rest := []) rfl (Nat.le_of_ble_eq_true rfl) dL_law_1656 ⟨hc, hs⟩) hS (fun H locs hW hS => ?_)
  have hW : World g ((kJ cs q.2), (md, mn, mw)) H := hW
  refine lv_aload_n hx hb dL_law_1659 rfl (lv_at hl 2 rfl) ?_
  refine x_ci0 (x_rV ⟨hx, hb, hml, hown, hts⟩ (ct_X8_writeCatalogue l g (Nat.le_of_eq hfl.symm) ((kJ cs q.2), (md, mn, mw)) md mn mw  h8) (cwV 0 hts gL_law_X8_writeCatalogue rfl rfl rfl (by decide +kernel) ⟨Nat.le_of_ble_eq_true rfl, Nat.le_of_ble_eq_true rfl⟩) hK hW hS (x_recv (i := g.1 + 189) (k := 8) (j := 0) hK hW ⟨⟨Nat.le_of_eq hfl.symm, rfl⟩, by decide⟩ rfl (by decide)) rfl hl.1 (rest := [.int q.1]) rfl (Nat.le_of_ble_eq_true rfl) dL_law_1660 ⟨hc, hs⟩) hS (fun H locs hW hS => ?_)
  have hW : World g ((kJ cs q.2), (q'.2, mn, mw)) H := hW
  refine lv_icmp_eq (tgt := 1691) hx hb dL_law_1663 (by decide) (fun _ => ?_) (fun h => absurd he h)
  exact K H locs hW hS
set_option maxRecDepth 20000 in
theorem ggL_law_X7_outputByte : GoodIn wsL_law wsX7_outputByte := goodIn_q _ [(65, 21), (64, 20), (23, 12), (1, 2), (67, 0), (67, 1), (67, 2), (67, 3), (67, 4), (67, 5), (67, 6), (67, 7), (67, 8)] rfl (by decide +kernel)
set_option maxRecDepth 20000 in
theorem gL_law_X7_outputByte : GoodIn wsL_law (wsV RL 250 RX7 yX7_outputByte wsX7_outputByte) := goodIn_app (goodIn_q _ [(65, 18), (65, 19), (65, 20), (0, 2)] rfl (by decide +kernel)) ggL_law_X7_outputByte
set_option maxRecDepth 20000 in
theorem ggL_law_X8_outputByte : GoodIn wsL_law wsX8_outputByte := goodIn_q _ [(66, 1), (5, 4), (65, 9), (4, 5), (23, 18), (17, 19), (17, 20), (0, 5), (17, 21), (68, 0), (68, 1), (68, 2), (68, 3), (68, 4), (68, 5), (68, 6), (68, 7), (68, 8), (68, 9), (68, 10), (68, 11), (68, 12), (68, 13), (68, 14), (68, 15), (68, 16), (68, 17), (68, 18), (68, 19), (68, 20), (68, 21), (68, 22), (68, 23), (68, 24), (68, 25), (68, 26)] rfl (by decide +kernel)
set_option maxRecDepth 20000 in
theorem gL_law_X8_outputByte : GoodIn wsL_law (wsV RL 253 RX8 yX8_outputByte wsX8_outputByte) := goodIn_app (goodIn_q _ [(65, 22), (65, 23), (66, 0), (0, 5)] rfl (by decide +kernel)) ggL_law_X8_outputByte
theorem dL_law_1668 : decode cL_law 1668 = .ok (.aload_n 1, 1) := by decide +kernel
theorem dL_law_1669 : decode cL_law 1669 = .ok (.aload_n 0, 1) := by decide +kernel
theorem dL_law_1670 : decode cL_law 1670 = .ok (.iload_n 3, 1) := by decide +kernel
theorem dL_law_1671 : decode cL_law 1671 = .ok (.iconst 1, 1) := by decide +kernel
theorem dL_law_1672 : decode cL_law 1672 = .ok (.iadd, 1) := by decide +kernel
theorem dL_law_1673 : decode cL_law 1673 = .ok (.iaload, 1) := by decide +kernel
theorem dL_law_1674 : decode cL_law 1674 = .ok (.invokevirtual 250, 3) := by decide +kernel
theorem dL_law_1677 : decode cL_law 1677 = .ok (.aload_n 2, 1) := by decide +kernel
theorem dL_law_1678 : decode cL_law 1678 = .ok (.aload_n 0, 1) := by decide +kernel
theorem dL_law_1679 : decode cL_law 1679 = .ok (.iload_n 3, 1) := by decide +kernel
theorem dL_law_1680 : decode cL_law 1680 = .ok (.iconst 1, 1) := by decide +kernel
theorem dL_law_1681 : decode cL_law 1681 = .ok (.iadd, 1) := by decide +kernel
theorem dL_law_1682 : decode cL_law 1682 = .ok (.iaload, 1) := by decide +kernel
theorem dL_law_1683 : decode cL_law 1683 = .ok (.invokevirtual 253, 3) := by decide +kernel
theorem dL_law_1686 : decode cL_law 1686 = .ok (.if_icmp .eq 5, 3) := by decide +kernel
theorem dL_law_1689 : decode cL_law 1689 = .ok (.iconst 0, 1) := by decide +kernel
theorem dL_law_1690 : decode cL_law 1690 = .ok (.ireturn, 1) := by decide +kernel
set_option maxRecDepth 100000 in
set_option maxHeartbeats 2000000 in
theorem lc_58 {p : Program} {l : Launch} {e : Env} {s : State} {m : MethodId} {below : List Frame} {meth : Method} {c : Code} {Q : State → Prop} {g : GT} {b L i : Nat} {xs : Nat → Int32} {H : Heap} {locs : List Loc} {ls : Array Slot} {cells slots : Nat} {cs : CT} {md : SD} {mn : Nat → Int64} {mw : Int64} (X : lwX p s m meth c g b L xs) (hi : i + 6 ≤ L) (hL : L ≤ 3072) (hS : va_S (gA g) s.heap H locs) (hl : lv_has ls 4 [(0, .ref b), (1, .ref (adr g.1 7 0)), (2, .ref (adr (g.1 + 189) 8 0)), (3, .int (nI i))]) (hfl : gf g = 2) (hW : World g (cs, (md, mn, mw)) H) {q : Int32} {q' : (Int32 × SD)} (h7 : f_X7_outputByte (k_jd cs) (xs (nI i + 1).toNatClampNeg) = some q) (h8 : f_X8_outputByte md (xs (nI i + 1).toNatClampNeg) = some q') (he : q = q'.1) (hc : cells + 0 ≤ 600000) (hs : slots + 0 ≤ 7302250) (K : ∀ (H1 : Heap) (locs1 : List Loc), World g (cs, (q'.2, mn, mw)) H1 → va_S (gA g) s.heap H1 locs1 → W p l e room_1 s m #[Value.ref b] below meth c H1 locs1 (cells + 0) (slots + 0) Q (F0 m 1691 ls [])) : W p l e room_1 s m #[Value.ref b] below meth c H locs cells slots Q (F0 m 1668 ls []) := by
  obtain ⟨hx, hb, hml, hown, hts, hX, hbl, hbA, hK⟩ := X
  have hv1 : vp_in (nI i + 1) L := lw_in1 hi hL
  refine lv_aload_n hx hb dL_law_1668 rfl (lv_at hl 1 rfl) ?_
  refine lv_aload_n hx hb dL_law_1669 rfl (lv_at hl 0 rfl) ?_
  refine lv_iload_n hx hb dL_law_1670 rfl (lv_at hl 3 rfl) ?_
  refine lv_iconst (v := 1) hx hb dL_law_1671 (by decide) ?_
  refine lv_iadd hx hb dL_law_1672 ?_
  refine va_sld hx hb hX hbl hbA hS hv1 dL_law_1673 ?_
  refine x_ci (x_rV ⟨hx, hb, hml, hown, hts⟩ (ct_X7_outputByte l g (Nat.le_of_lt_succ (by rw [hfl]; decide)) cs (md, mn, mw) (xs (nI i + 1).toNatClampNeg) h7) (cwV 1 hts gL_law_X7_outputByte rfl rfl rfl (by decide +kernel) ⟨Nat.le_of_ble_eq_true rfl, Nat.le_of_ble_eq_true rfl⟩) hK hW hS (x_recv (i := g.1) (k := 7) (j := 0) hK hW ⟨⟨Nat.le_of_lt_succ (by rw [hfl]; decide), rfl⟩, by decide⟩ rfl (by decide)) rfl hl.1 (rest := []) rfl (Nat.le_of_ble_eq_true rfl) dL_law_1674 ⟨hc, hs⟩) hS (fun H locs hW hS => ?_)
  have hW : World g (cs, (md, mn, mw)) H := hW
  refine lv_aload_n hx hb dL_law_1677 rfl (lv_at hl 2 rfl) ?_
  refine lv_aload_n hx hb dL_law_1678 rfl (lv_at hl 0 rfl) ?_
  refine lv_iload_n hx hb dL_law_1679 rfl (lv_at hl 3 rfl) ?_
  refine lv_iconst (v := 1) hx hb dL_law_1680 (by decide) ?_
  refine lv_iadd hx hb dL_law_1681 ?_
  refine va_sld hx hb hX hbl hbA hS hv1 dL_law_1682 ?_
  refine x_ci0 (x_rV ⟨hx, hb, hml, hown, hts⟩ (ct_X8_outputByte l g (Nat.le_of_eq hfl.symm) (cs, (md, mn, mw)) md mn mw (xs (nI i + 1).toNatClampNeg) h8) (cwV 1 hts gL_law_X8_outputByte rfl rfl rfl (by decide +kernel) ⟨Nat.le_of_ble_eq_true rfl, Nat.le_of_ble_eq_true rfl⟩) hK hW hS (x_recv (i := g.1 + 189) (k := 8) (j := 0) hK hW ⟨⟨Nat.le_of_eq hfl.symm, rfl⟩, by decide⟩ rfl (by decide)) rfl hl.1 (rest := [.int q]) rfl (Nat.le_of_ble_eq_true rfl) dL_law_1683 ⟨hc, hs⟩) hS (fun H locs hW hS => ?_)
  have hW : World g (cs, (q'.2, mn, mw)) H := hW
  refine lv_icmp_eq (tgt := 1691) hx hb dL_law_1686 (by decide) (fun _ => ?_) (fun h => absurd he h)
  exact K H locs hW hS
