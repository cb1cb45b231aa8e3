set_option maxRecDepth 20000 in
theorem ggL_law_X7_pickerPosition : GoodIn wsL_law wsX7_pickerPosition := goodIn_q _ [(26, 11), (0, 19), (26, 12), (67, 0), (67, 1), (67, 2), (67, 3), (67, 4), (67, 5), (67, 6), (67, 7), (67, 8), (70, 0), (70, 1), (70, 2), (70, 3), (70, 4), (70, 5), (70, 6), (70, 7), (70, 8), (70, 9), (70, 10), (70, 11), (70, 12), (70, 13), (70, 14), (70, 15), (70, 16), (70, 17)] rfl (by decide +kernel)
set_option maxRecDepth 20000 in
theorem gL_law_X7_pickerPosition : GoodIn wsL_law (wsV RL 48 RX7 yX7_pickerPosition wsX7_pickerPosition) := goodIn_app (goodIn_q _ [(26, 8), (26, 9), (26, 10), (0, 2)] rfl (by decide +kernel)) ggL_law_X7_pickerPosition
set_option maxRecDepth 20000 in
theorem ggL_law_X8_pickerPosition : GoodIn wsL_law wsX8_pickerPosition := goodIn_q _ [(26, 16), (5, 4), (3, 22), (68, 0), (68, 1), (68, 2), (68, 3), (68, 4), (68, 5), (68, 6), (68, 7), (68, 8), (68, 9), (68, 10), (68, 11), (68, 12), (68, 13), (68, 14), (68, 15), (68, 16), (68, 17), (68, 18), (68, 19), (68, 20), (68, 21), (68, 22), (68, 23), (68, 24), (68, 25), (68, 26)] rfl (by decide +kernel)
set_option maxRecDepth 20000 in
theorem gL_law_X8_pickerPosition : GoodIn wsL_law (wsV RL 51 RX8 yX8_pickerPosition wsX8_pickerPosition) := goodIn_app (goodIn_q _ [(26, 13), (26, 14), (26, 15), (0, 5)] rfl (by decide +kernel)) ggL_law_X8_pickerPosition
theorem dL_law_488 : decode cL_law 488 = .ok (.aload_n 1, 1) := by decide +kernel
theorem dL_law_489 : decode cL_law 489 = .ok (.invokevirtual 48, 3) := by decide +kernel
theorem dL_law_492 : decode cL_law 492 = .ok (.aload_n 2, 1) := by decide +kernel
theorem dL_law_493 : decode cL_law 493 = .ok (.invokevirtual 51, 3) := by decide +kernel
theorem dL_law_496 : decode cL_law 496 = .ok (.if_icmp .eq 1195, 3) := by decide +kernel
theorem dL_law_499 : decode cL_law 499 = .ok (.iconst 0, 1) := by decide +kernel
theorem dL_law_500 : decode cL_law 500 = .ok (.ireturn, 1) := by decide +kernel
set_option maxRecDepth 100000 in
set_option maxHeartbeats 2000000 in
theorem lc_8 {p : Program} {l : Launch} {e : Env} {s : State} {m : MethodId} {below : List Frame} {meth : Method} {c : Code} {Q : State → Prop} {g : GT} {b L i : Nat} {xs : Nat → Int32} {H : Heap} {locs : List Loc} {ls : Array Slot} {cells slots : Nat} {cs : CT} {md : SD} {mn : Nat → Int64} {mw : Int64} (X : lwX p s m meth c g b L xs) (hi : i + 6 ≤ L) (hL : L ≤ 3072) (hS : va_S (gA g) s.heap H locs) (hl : lv_has ls 4 [(0, .ref b), (1, .ref (adr g.1 7 0)), (2, .ref (adr (g.1 + 189) 8 0)), (3, .int (nI i))]) (hfl : gf g = 2) (hW : World g (cs, (md, mn, mw)) H) {q : Int32} {q' : (Int32 × SD)} (h7 : f_X7_pickerPosition (k_xs cs (k_st cs))  = some q) (h8 : f_X8_pickerPosition md  = some q') (he : q = q'.1) (hc : cells + 0 ≤ 600000) (hs : slots + 0 ≤ 7302250) (K : ∀ (H1 : Heap) (locs1 : List Loc), World g (cs, (q'.2, mn, mw)) H1 → va_S (gA g) s.heap H1 locs1 → W p l e room_1 s m #[Value.ref b] below meth c H1 locs1 (cells + 0) (slots + 0) Q (F0 m 1691 ls [])) : W p l e room_1 s m #[Value.ref b] below meth c H locs cells slots Q (F0 m 488 ls []) := by
  obtain ⟨hx, hb, hml, hown, hts, hX, hbl, hbA, hK⟩ := X
  refine lv_aload_n hx hb dL_law_488 rfl (lv_at hl 1 rfl) ?_
  refine x_ci (x_rV ⟨hx, hb, hml, hown, hts⟩ (ct_X7_pickerPosition l g (Nat.le_of_lt_succ (by rw [hfl]; decide)) cs (md, mn, mw)  h7) (cwV 0 hts gL_law_X7_pickerPosition rfl rfl rfl (by decide +kernel) ⟨Nat.le_of_ble_eq_true rfl, Nat.le_of_ble_eq_true rfl⟩) hK hW hS (x_recv (i := g.1) (k := 7) (j := 0) hK hW ⟨⟨Nat.le_of_lt_succ (by rw [hfl]; decide), rfl⟩, by decide⟩ rfl (by decide)) rfl hl.1 (rest := []) rfl (Nat.le_of_ble_eq_true rfl) dL_law_489 ⟨hc, hs⟩) hS (fun H locs hW hS => ?_)
  have hW : World g (cs, (md, mn, mw)) H := hW
  refine lv_aload_n hx hb dL_law_492 rfl (lv_at hl 2 rfl) ?_
  refine x_ci0 (x_rV ⟨hx, hb, hml, hown, hts⟩ (ct_X8_pickerPosition l g (Nat.le_of_eq hfl.symm) (cs, (md, mn, mw)) md mn mw  h8) (cwV 0 hts gL_law_X8_pickerPosition rfl rfl rfl (by decide +kernel) ⟨Nat.le_of_ble_eq_true rfl, Nat.le_of_ble_eq_true rfl⟩) hK hW hS (x_recv (i := g.1 + 189) (k := 8) (j := 0) hK hW ⟨⟨Nat.le_of_eq hfl.symm, rfl⟩, by decide⟩ rfl (by decide)) rfl hl.1 (rest := [.int q]) rfl (Nat.le_of_ble_eq_true rfl) dL_law_493 ⟨hc, hs⟩) hS (fun H locs hW hS => ?_)
  have hW : World g (cs, (q'.2, mn, mw)) H := hW
  refine lv_icmp_eq (tgt := 1691) hx hb dL_law_496 (by decide) (fun _ => ?_) (fun h => absurd he h)
  exact K H locs hW hS
set_option maxRecDepth 20000 in
theorem ggL_law_X7_clock : GoodIn wsL_law wsX7_clock := goodIn_q _ [(26, 20), (0, 19), (26, 21), (67, 0), (67, 1), (67, 2), (67, 3), (67, 4), (67, 5), (67, 6), (67, 7), (67, 8), (70, 0), (70, 1), (70, 2), (70, 3), (70, 4), (70, 5), (70, 6), (70, 7), (70, 8), (70, 9), (70, 10), (70, 11), (70, 12), (70, 13), (70, 14), (70, 15), (70, 16), (70, 17)] rfl (by decide +kernel)
set_option maxRecDepth 20000 in
theorem gL_law_X7_clock : GoodIn wsL_law (wsV RL 52 RX7 yX7_clock wsX7_clock) := goodIn_app (goodIn_q _ [(26, 17), (26, 18), (26, 19), (0, 2)] rfl (by decide +kernel)) ggL_law_X7_clock
set_option maxRecDepth 20000 in
theorem ggL_law_X8_clock : GoodIn wsL_law wsX8_clock := goodIn_q _ [(27, 1), (5, 4), (3, 22), (68, 0), (68, 1), (68, 2), (68, 3), (68, 4), (68, 5), (68, 6), (68, 7), (68, 8), (68, 9), (68, 10), (68, 11), (68, 12), (68, 13), (68, 14), (68, 15), (68, 16), (68, 17), (68, 18), (68, 19), (68, 20), (68, 21), (68, 22), (68, 23), (68, 24), (68, 25), (68, 26)] rfl (by decide +kernel)
set_option maxRecDepth 20000 in
theorem gL_law_X8_clock : GoodIn wsL_law (wsV RL 55 RX8 yX8_clock wsX8_clock) := goodIn_app (goodIn_q _ [(26, 22), (26, 23), (27, 0), (0, 5)] rfl (by decide +kernel)) ggL_law_X8_clock
theorem dL_law_501 : decode cL_law 501 = .ok (.aload_n 1, 1) := by decide +kernel
theorem dL_law_502 : decode cL_law 502 = .ok (.invokevirtual 52, 3) := by decide +kernel
theorem dL_law_505 : decode cL_law 505 = .ok (.aload_n 2, 1) := by decide +kernel
theorem dL_law_506 : decode cL_law 506 = .ok (.invokevirtual 55, 3) := by decide +kernel
theorem dL_law_509 : decode cL_law 509 = .ok (.if_icmp .eq 1182, 3) := by decide +kernel
theorem dL_law_512 : decode cL_law 512 = .ok (.iconst 0, 1) := by decide +kernel
theorem dL_law_513 : decode cL_law 513 = .ok (.ireturn, 1) := by decide +kernel
set_option maxRecDepth 100000 in
set_option maxHeartbeats 2000000 in
theorem lc_9 {p : Program} {l : Launch} {e : Env} {s : State} {m : MethodId} {below : List Frame} {meth : Method} {c : Code} {Q : State → Prop} {g : GT} {b L i : Nat} {xs : Nat → Int32} {H : Heap} {locs : List Loc} {ls : Array Slot} {cells slots : Nat} {cs : CT} {md : SD} {mn : Nat → Int64} {mw : Int64} (X : lwX p s m meth c g b L xs) (hi : i + 6 ≤ L) (hL : L ≤ 3072) (hS : va_S (gA g) s.heap H locs) (hl : lv_has ls 4 [(0, .ref b), (1, .ref (adr g.1 7 0)), (2, .ref (adr (g.1 + 189) 8 0)), (3, .int (nI i))]) (hfl : gf g = 2) (hW : World g (cs, (md, mn, mw)) H) {q : Int32} {q' : (Int32 × SD)} (h7 : f_X7_clock (k_xs cs (k_st cs))  = some q) (h8 : f_X8_clock md  = some q') (he : q = q'.1) (hc : cells + 0 ≤ 600000) (hs : slots + 0 ≤ 7302250) (K : ∀ (H1 : Heap) (locs1 : List Loc), World g (cs, (q'.2, mn, mw)) H1 → va_S (gA g) s.heap H1 locs1 → W p l e room_1 s m #[Value.ref b] below meth c H1 locs1 (cells + 0) (slots + 0) Q (F0 m 1691 ls [])) : W p l e room_1 s m #[Value.ref b] below meth c H locs cells slots Q (F0 m 501 ls []) := by
  obtain ⟨hx, hb, hml, hown, hts, hX, hbl, hbA, hK⟩ := X
  refine lv_aload_n hx hb dL_law_501 rfl (lv_at hl 1 rfl) ?_
  refine x_ci (x_rV ⟨hx, hb, hml, hown, hts⟩ (ct_X7_clock l g (Nat.le_of_lt_succ (by rw [hfl]; decide)) cs (md, mn, mw)  h7) (cwV 0 hts gL_law_X7_clock rfl rfl rfl (by decide +kernel) ⟨Nat.le_of_ble_eq_true rfl, Nat.le_of_ble_eq_true rfl⟩) hK hW hS (x_recv (i := g.1) (k := 7) (j := 0) hK hW ⟨⟨Nat.le_of_lt_succ (by rw [hfl]; decide), rfl⟩, by decide⟩ rfl (by decide)) rfl hl.1 (rest := []) rfl (Nat.le_of_ble_eq_true rfl) dL_law_502 ⟨hc, hs⟩) hS (fun H locs hW hS => ?_)
  have hW : World g (cs, (md, mn, mw)) H := hW
  refine lv_aload_n hx hb dL_law_505 rfl (lv_at hl 2 rfl) ?_
  refine x_ci0 (x_rV ⟨hx, hb, hml, hown, hts⟩ (ct_X8_clock l g (Nat.le_of_eq hfl.symm) (cs, (md, mn, mw)) md mn mw  h8) (cwV 0 hts gL_law_X8_clock rfl rfl rfl (by decide +kernel) ⟨Nat.le_of_ble_eq_true rfl, Nat.le_of_ble_eq_true rfl⟩) hK hW hS (x_recv (i := g.1 + 189) (k := 8) (j := 0) hK hW ⟨⟨Nat.le_of_eq hfl.symm, rfl⟩, by decide⟩ rfl (by decide)) rfl hl.1 (rest := [.int q]) rfl (Nat.le_of_ble_eq_true rfl) dL_law_506 ⟨hc, hs⟩) hS (fun H locs hW hS => ?_)
  have hW : World g (cs, (q'.2, mn, mw)) H := hW
  refine lv_icmp_eq (tgt := 1691) hx hb dL_law_509 (by decide) (fun _ => ?_) (fun h => absurd he h)
  exact K H locs hW hS
set_option maxRecDepth 20000 in
theorem ggL_law_X7_exchanges : GoodIn wsL_law wsX7_exchanges := goodIn_q _ [(27, 5), (0, 19), (27, 6), (67, 0), (67, 1), (67, 2), (67, 3), (67, 4), (67, 5), (67, 6), (67, 7), (67, 8), (70, 0), (70, 1), (70, 2), (70, 3), (70, 4), (70, 5), (70, 6), (70, 7), (70, 8), (70, 9), (70, 10), (70, 11), (70, 12), (70, 13), (70, 14), (70, 15), (70, 16), (70, 17)] rfl (by decide +kernel)
set_option maxRecDepth 20000 in
theorem gL_law_X7_exchanges : GoodIn wsL_law (wsV RL 56 RX7 yX7_exchanges wsX7_exchanges) := goodIn_app (goodIn_q _ [(27, 2), (27, 3), (27, 4), (0, 2)] rfl (by decide +kernel)) ggL_law_X7_exchanges
set_option maxRecDepth 20000 in
theorem ggL_law_X8_exchanges : GoodIn wsL_law wsX8_exchanges := goodIn_q _ [(27, 10), (5, 4), (3, 22), (68, 0), (68, 1), (68, 2), (68, 3), (68, 4), (68, 5), (68, 6), (68, 7), (68, 8), (68, 9), (68, 10), (68, 11), (68, 12), (68, 13), (68, 14), (68, 15), (68, 16), (68, 17), (68, 18), (68, 19), (68, 20), (68, 21), (68, 22), (68, 23), (68, 24), (68, 25), (68, 26)] rfl (by decide +kernel)
set_option maxRecDepth 20000 in
theorem gL_law_X8_exchanges : GoodIn wsL_law (wsV RL 59 RX8 yX8_exchanges wsX8_exchanges) := goodIn_app (goodIn_q _ [(27, 7), (27, 8), (27, 9), (0, 5)] rfl (by decide +kernel)) ggL_law_X8_exchanges
theorem dL_law_514 : decode cL_law 514 = .ok (.aload_n 1, 1) := by decide +kernel
theorem dL_law_515 : decode cL_law 515 = .ok (.invokevirtual 56, 3) := by decide +kernel
theorem dL_law_518 : decode cL_law 518 = .ok (.aload_n 2, 1) := by decide +kernel
theorem dL_law_519 : decode cL_law 519 = .ok (.invokevirtual 59, 3) := by decide +kernel
theorem dL_law_522 : decode cL_law 522 = .ok (.if_icmp .eq 1169, 3) := by decide +kernel
theorem dL_law_525 : decode cL_law 525 = .ok (.iconst 0, 1) := by decide +kernel
theorem dL_law_526 : decode cL_law 526 = .ok (.ireturn, 1) := by decide +kernel
set_option maxRecDepth 100000 in
set_option maxHeartbeats 2000000 in
theorem lc_10 {p : Program} {l : Launch} {e : Env} {s : State} {m : MethodId} {below : List Frame} {meth : Method} {c : Code} {Q : State → Prop} {g : GT} {b L i : Nat} {xs : Nat → Int32} {H : Heap} {locs : List Loc} {ls : Array Slot} {cells slots : Nat} {cs : CT} {md : SD} {mn : Nat → Int64} {mw : Int64} (X : lwX p s m meth c g b L xs) (hi : i + 6 ≤ L) (hL : L ≤ 3072) (hS : va_S (gA g) s.heap H locs) (hl : lv_has ls 4 [(0, .ref b), (1, .ref (adr g.1 7 0)), (2, .ref (adr (g.1 + 189) 8 0)), (3, .int (nI i))]) (hfl : gf g = 2) (hW : World g (cs, (md, mn, mw)) H) {q : Int32} {q' : (Int32 × SD)} (h7 : f_X7_exchanges (k_xs cs (k_st cs))  = some q) (h8 : f_X8_exchanges md  = some q') (he : q = q'.1) (hc : cells + 0 ≤ 600000) (hs : slots + 0 ≤ 7302250) (K : ∀ (H1 : Heap) (locs1 : List Loc), World g (cs, (q'.2, mn, mw)) H1 → va_S (gA g) s.heap H1 locs1 → W p l e room_1 s m #[Value.ref b] below meth c H1 locs1 (cells + 0) (slots + 0) Q (F0 m 1691 ls [])) : W p l e room_1 s m #[Value.ref b] below meth c H locs cells slots Q (F0 m 514 ls []) := by
  obtain ⟨hx, hb, hml, hown, hts, hX, hbl, hbA, hK⟩ := X
  refine lv_aload_n hx hb dL_law_514 rfl (lv_at hl 1 rfl) ?_
  refine x_ci (x_rV ⟨hx, hb, hml, hown, hts⟩ (ct_X7_exchanges l g (Nat.le_of_lt_succ (by rw [hfl]; decide)) cs (md, mn, mw)  h7) (cwV 0 hts gL_law_X7_exchanges rfl rfl rfl (by decide +kernel) ⟨Nat.le_of_ble_eq_true rfl, Nat.le_of_ble_eq_true rfl⟩) hK hW hS (x_recv (i := g.1) (k := 7) (j := 0) hK hW ⟨⟨Nat.le_of_lt_succ (by rw [hfl]; decide), rfl⟩, by decide⟩ rfl (by decide)) rfl hl.1 (rest := []) rfl (Nat.le_of_ble_eq_true rfl) dL_law_515 ⟨hc, hs⟩) hS (fun H locs hW hS => ?_)
  have hW : World g (cs, (md, mn, mw)) H := hW
  refine lv_aload_n hx hb dL_law_518 rfl (lv_at hl 2 rfl) ?_
  refine x_ci0 (x_rV ⟨hx, hb, hml, hown, hts⟩ (ct_X8_exchanges l g (Nat.le_of_eq hfl.symm) (cs, (md, mn, mw)) md mn mw  h8) (cwV 0 hts gL_law_X8_exchanges rfl rfl rfl (by decide +kernel) ⟨Nat.le_of_ble_eq_true rfl, Nat.le_of_ble_eq_true rfl⟩) hK hW hS (x_recv (i := g.1 + 189) (k := 8) (j := 0) hK hW ⟨⟨Nat.le_of_eq hfl.symm, rfl⟩, by decide⟩ rfl (by decide)) rfl hl.1 (rest := [.int q]) rfl (Nat.le_of_ble_eq_true rfl) dL_law_519 ⟨hc, hs⟩) hS (fun H locs hW hS => ?_)
  have hW : World g (cs, (q'.2, mn, mw)) H := hW
  refine lv_icmp_eq (tgt := 1691) hx hb dL_law_522 (by decide) (fun _ => ?_) (fun h => absurd he h)
  exact K H locs hW hS
set_option maxRecDepth 20000 in
theorem ggL_law_X7_travel : GoodIn wsL_law wsX7_travel := goodIn_q _ [(27, 14), (0, 19), (27, 15), (67, 0), (67, 1), (67, 2), (67, 3), (67, 4), (67, 5), (67, 6), (67, 7), (67, 8), (70, 0), (70, 1), (70, 2), (70, 3), (70, 4), (70, 5), (70, 6), (70, 7), (70, 8), (70, 9), (70, 10), (70, 11), (70, 12), (70, 13), (70, 14), (70, 15), (70, 16), (70, 17)] rfl (by decide +kernel)
set_option maxRecDepth 20000 in
theorem gL_law_X7_travel : GoodIn wsL_law (wsV RL 60 RX7 yX7_travel wsX7_travel) := goodIn_app (goodIn_q _ [(27, 11), (27, 12), (27, 13), (0, 2)] rfl (by decide +kernel)) ggL_law_X7_travel
set_option maxRecDepth 20000 in
theorem ggL_law_X8_travel : GoodIn wsL_law wsX8_travel := goodIn_q _ [(27, 19), (5, 4), (3, 22), (68, 0), (68, 1), (68, 2), (68, 3), (68, 4), (68, 5), (68, 6), (68, 7), (68, 8), (68, 9), (68, 10), (68, 11), (68, 12), (68, 13), (68, 14), (68, 15), (68, 16), (68, 17), (68, 18), (68, 19), (68, 20), (68, 21), (68, 22), (68, 23), (68, 24), (68, 25), (68, 26)] rfl (by decide +kernel)
set_option maxRecDepth 20000 in
theorem gL_law_X8_travel : GoodIn wsL_law (wsV RL 63 RX8 yX8_travel wsX8_travel) := goodIn_app (goodIn_q _ [(27, 16), (27, 17), (27, 18), (0, 5)] rfl (by decide +kernel)) ggL_law_X8_travel
theorem dL_law_527 : decode cL_law 527 = .ok (.aload_n 1, 1) := by decide +kernel
theorem dL_law_528 : decode cL_law 528 = .ok (.invokevirtual 60, 3) := by decide +kernel
theorem dL_law_531 : decode cL_law 531 = .ok (.aload_n 2, 1) := by decide +kernel
theorem dL_law_532 : decode cL_law 532 = .ok (.invokevirtual 63, 3) := by decide +kernel
theorem dL_law_535 : decode cL_law 535 = .ok (.if_icmp .eq 1156, 3) := by decide +kernel
theorem dL_law_538 : decode cL_law 538 = .ok (.iconst 0, 1) := by decide +kernel
theorem dL_law_539 : decode cL_law 539 = .ok (.ireturn, 1) := by decide +kernel
set_option maxRecDepth 100000 in
set_option maxHeartbeats 2000000 in
theorem lc_11 {p : Program} {l : Launch} {e : Env} {s : State} {m : MethodId} {below : List Frame} {meth : Method} {c : Code} {Q : State → Prop} {g : GT} {b L i : Nat} {xs : Nat → Int32} {H : Heap} {locs : List Loc} {ls : Array Slot} {cells slots : Nat} {cs : CT} {md : SD} {mn : Nat → Int64} {mw : Int64} (X : lwX p s m meth c g b L xs) (hi : i + 6 ≤ L) (hL : L ≤ 3072) (hS : va_S (gA g) s.heap H locs) (hl : lv_has ls 4 [(0, .ref b), (1, .ref (adr g.1 7 0)), (2, .ref (adr (g.1 + 189) 8 0)), (3, .int (nI i))]) (hfl : gf g = 2) (hW : World g (cs, (md, mn, mw)) H) {q : Int32} {q' : (Int32 × SD)} (h7 : f_X7_travel (k_xs cs (k_st cs))  = some q) (h8 : f_X8_travel md  = some q') (he : q = q'.1) (hc : cells + 0 ≤ 600000) (hs : slots + 0 ≤ 7302250) (K : ∀ (H1 : Heap) (locs1 : List Loc), World g (cs, (q'.2, mn, mw)) H1 → va_S (gA g) s.heap H1 locs1 → W p l e room_1 s m #[Value.ref b] below meth c H1 locs1 (cells + 0) (slots + 0) Q (F0 m 1691 ls [])) : W p l e room_1 s m #[Value.ref b] below meth c H locs cells slots Q (F0 m 527 ls []) := by
  obtain ⟨hx, hb, hml, hown, hts, hX, hbl, hbA, hK⟩ := X
  refine lv_aload_n hx hb dL_law_527 rfl (lv_at hl 1 rfl) ?_
  refine x_ci (x_rV ⟨hx, hb, hml, hown, hts⟩ (ct_X7_travel l g (Nat.le_of_lt_succ (by rw [hfl]; decide)) cs (md, mn, mw)  h7) (cwV 0 hts gL_law_X7_travel rfl rfl rfl (by decide +kernel) ⟨Nat.le_of_ble_eq_true rfl, Nat.le_of_ble_eq_true rfl⟩) hK hW hS (x_recv (i := g.1) (k := 7) (j := 0) hK hW ⟨⟨Nat.le_of_lt_succ (by rw [hfl]; decide), rfl⟩, by decide⟩ rfl (by decide)) rfl hl.1 (rest := []) rfl (Nat.le_of_ble_eq_true rfl) dL_law_528 ⟨hc, hs⟩) hS (fun H locs hW hS => ?_)
  have hW : World g (cs, (md, mn, mw)) H := hW
  refine lv_aload_n hx hb dL_law_531 rfl (lv_at hl 2 rfl) ?_
  refine x_ci0 (x_rV ⟨hx, hb, hml, hown, hts⟩ (ct_X8_travel l g (Nat.le_of_eq hfl.symm) (cs, (md, mn, mw)) md mn mw  h8) (cwV 0 hts gL_law_X8_travel rfl rfl rfl (by decide +kernel) ⟨Nat.le_of_ble_eq_true rfl, Nat.le_of_ble_eq_true rfl⟩) hK hW hS (x_recv (i := g.1 + 189) (k := 8) (j := 0) hK hW ⟨⟨Nat.le_of_eq hfl.symm, rfl⟩, by decide⟩ rfl (by decide)) rfl hl.1 (rest := [.int q]) rfl (Nat.le_of_ble_eq_true rfl) dL_law_532 ⟨hc, hs⟩) hS (fun H locs hW hS => ?_)
  have hW : World g (cs, (q'.2, mn, mw)) H := hW
  refine lv_icmp_eq (tgt := 1691) hx hb dL_law_535 (by decide) (fun _ => ?_) (fun h => absurd he h)
  exact K H locs hW hS
set_option maxRecDepth 20000 in
theorem ggL_law_X7_chosenDrive : GoodIn wsL_law wsX7_chosenDrive := goodIn_q _ [(27, 23), (0, 19), (28, 0), (28, 1), (28, 2), (0, 2), (28, 3), (23, 12), (28, 4), (28, 5), (23, 13), (15, 11), (15, 12), (0, 18), (15, 13), (3, 0), (28, 6), (28, 7), (28, 8), (28, 9), (28, 10), (24, 9), (24, 10), (24, 11), (2, 22), (1, 16), (10, 17), (28, 11), (28, 12), (28, 13), (28, 14), (2, 23), (10, 18), (67, 0), (67, 1), (67, 2), (67, 3), (67, 4), (67, 5), (67, 6), (67, 7), (67, 8), (70, 0), (70, 1), (70, 2), (70, 3), (70, 4), (70, 5), (70, 6), (70, 7), (70, 8), (70, 9), (70, 10), (70, 11), (70, 12), (70, 13), (70, 14), (70, 15), (70, 16), (70, 17), (72, 0), (72, 1), (72, 2)] rfl (by decide +kernel)
set_option maxRecDepth 20000 in
theorem gL_law_X7_chosenDrive : GoodIn wsL_law (wsV RL 64 RX7 yX7_chosenDrive wsX7_chosenDrive) := goodIn_app (goodIn_q _ [(27, 20), (27, 21), (27, 22), (0, 2)] rfl (by decide +kernel)) ggL_law_X7_chosenDrive
set_option maxRecDepth 20000 in
theorem ggL_law_X8_chosenDrive : GoodIn wsL_law wsX8_chosenDrive := goodIn_q _ [(28, 18), (5, 4), (23, 18), (3, 22), (28, 19), (23, 19), (23, 20), (23, 21), (0, 5), (23, 22), (17, 19), (17, 20), (17, 21), (28, 20), (28, 21), (28, 22), (28, 23), (24, 20), (24, 21), (24, 22), (24, 23), (29, 0), (29, 1), (29, 2), (29, 3), (68, 0), (68, 1), (68, 2), (68, 3), (68, 4), (68, 5), (68, 6), (68, 7), (68, 8), (68, 9), (68, 10), (68, 11), (68, 12), (68, 13), (68, 14), (68, 15), (68, 16), (68, 17), (68, 18), (68, 19), (68, 20), (68, 21), (68, 22), (68, 23), (68, 24), (68, 25), (68, 26)] rfl (by decide +kernel)
set_option maxRecDepth 20000 in
theorem gL_law_X8_chosenDrive : GoodIn wsL_law (wsV RL 67 RX8 yX8_chosenDrive wsX8_chosenDrive) := goodIn_app (goodIn_q _ [(28, 15), (28, 16), (28, 17), (0, 5)] rfl (by decide +kernel)) ggL_law_X8_chosenDrive
theorem dL_law_540 : decode cL_law 540 = .ok (.aload_n 1, 1) := by decide +kernel
theorem dL_law_541 : decode cL_law 541 = .ok (.aload_n 0, 1) := by decide +kernel
theorem dL_law_542 : decode cL_law 542 = .ok (.iload_n 3, 1) := by decide +kernel
theorem dL_law_543 : decode cL_law 543 = .ok (.iconst 1, 1) := by decide +kernel
theorem dL_law_544 : decode cL_law 544 = .ok (.iadd, 1) := by decide +kernel
theorem dL_law_545 : decode cL_law 545 = .ok (.iaload, 1) := by decide +kernel
theorem dL_law_546 : decode cL_law 546 = .ok (.invokevirtual 64, 3) := by decide +kernel
theorem dL_law_549 : decode cL_law 549 = .ok (.aload_n 2, 1) := by decide +kernel
theorem dL_law_550 : decode cL_law 550 = .ok (.aload_n 0, 1) := by decide +kernel
theorem dL_law_551 : decode cL_law 551 = .ok (.iload_n 3, 1) := by decide +kernel
theorem dL_law_552 : decode cL_law 552 = .ok (.iconst 1, 1) := by decide +kernel
theorem dL_law_553 : decode cL_law 553 = .ok (.iadd, 1) := by decide +kernel
theorem dL_law_554 : decode cL_law 554 = .ok (.iaload, 1) := by decide +kernel
theorem dL_law_555 : decode cL_law 555 = .ok (.invokevirtual 67, 3) := by decide +kernel
theorem dL_law_558 : decode cL_law 558 = .ok (.if_icmp .eq 1133, 3) := by decide +kernel
theorem dL_law_561 : decode cL_law 561 = .ok (.iconst 0, 1) := by decide +kernel
theorem dL_law_562 : decode cL_law 562 = .ok (.ireturn, 1) := by decide +kernel
set_option maxRecDepth 100000 in
set_option maxHeartbeats 2000000 in
theorem lc_12 {p : Program} {l : Launch} {e : Env} {s : State} {m : MethodId} {below : List Frame} {meth : Method} {c : Code} {Q : State → Prop} {g : GT} {b L i : Nat} {xs : Nat → Int32} {H : Heap} {locs : List Loc} {ls : Array Slot} {cells slots : Nat} {cs : CT} {md : SD} {mn : Nat → Int64} {mw : Int64} (X : lwX p s m meth c g b L xs) (hi : i + 6 ≤ L) (hL : L ≤ 3072) (hS : va_S (gA g) s.heap H locs) (hl : lv_has ls 4 [(0, .ref b), (1, .ref (adr g.1 7 0)), (2, .ref (adr (g.1 + 189) 8 0)), (3, .int (nI i))]) (hfl : gf g = 2) (hW : World g (cs, (md, mn, mw)) H) {q : Int32} {q' : (Int32 × SD)} (h7 : f_X7_chosenDrive (k_xs cs (k_st cs)) (xs (nI i + 1).toNatClampNeg) = some q) (h8 : f_X8_chosenDrive md (xs (nI i + 1).toNatClampNeg) = some q') (he : q = q'.1) (hc : cells + 0 ≤ 600000) (hs : slots + 0 ≤ 7302250) (K : ∀ (H1 : Heap) (locs1 : List Loc), World g (cs, (q'.2, mn, mw)) H1 → va_S (gA g) s.heap H1 locs1 → W p l e room_1 s m #[Value.ref b] below meth c H1 locs1 (cells + 0) (slots + 0) Q (F0 m 1691 ls [])) : W p l e room_1 s m #[Value.ref b] below meth c H locs cells slots Q (F0 m 540 ls []) := by
  obtain ⟨hx, hb, hml, hown, hts, hX, hbl, hbA, hK⟩ := X
  have hv1 : vp_in (nI i + 1) L := lw_in1 hi hL
  refine lv_aload_n hx hb dL_law_540 rfl (lv_at hl 1 rfl) ?_
  refine lv_aload_n hx hb dL_law_541 rfl (lv_at hl 0 rfl) ?_
  refine lv_iload_n hx hb dL_law_542 rfl (lv_at hl 3 rfl) ?_
  refine lv_iconst (v := 1) hx hb dL_law_543 (by decide) ?_
  refine lv_iadd hx hb dL_law_544 ?_
  refine va_sld hx hb hX hbl hbA hS hv1 dL_law_545 ?_
  refine x_ci (x_rV ⟨hx, hb, hml, hown, hts⟩ (ct_X7_chosenDrive l g (Nat.le_of_lt_succ (by rw [hfl]; decide)) cs (md, mn, mw) (xs (nI i + 1).toNatClampNeg) h7) (cwV 1 hts gL_law_X7_chosenDrive rfl rfl rfl (by decide +kernel) ⟨Nat.le_of_ble_eq_true rfl, Nat.le_of_ble_eq_true rfl⟩) hK hW hS (x_recv (i := g.1) (k := 7) (j := 0) hK hW ⟨⟨Nat.le_of_lt_succ (by rw [hfl]; decide), rfl⟩, by decide⟩ rfl (by decide)) rfl hl.1 (rest := []) rfl (Nat.le_of_ble_eq_true rfl) dL_law_546 ⟨hc, hs⟩) hS (fun H locs hW hS => ?_)
  have hW : World g (cs, (md, mn, mw)) H := hW
  refine lv_aload_n hx hb dL_law_549 rfl (lv_at hl 2 rfl) ?_
  refine lv_aload_n hx hb dL_law_550 rfl (lv_at hl 0 rfl) ?_
  refine lv_iload_n hx hb dL_law_551 rfl (lv_at hl 3 rfl) ?_
  refine lv_iconst (v := 1) hx hb dL_law_552 (by decide) ?_
  refine lv_iadd hx hb dL_law_553 ?_
  refine va_sld hx hb hX hbl hbA hS hv1 dL_law_554 ?_
  refine x_ci0 (x_rV ⟨hx, hb, hml, hown, hts⟩ (ct_X8_chosenDrive l g (Nat.le_of_eq hfl.symm) (cs, (md, mn, mw)) md mn mw (xs (nI i + 1).toNatClampNeg) h8) (cwV 1 hts gL_law_X8_chosenDrive rfl rfl rfl (by decide +kernel) ⟨Nat.le_of_ble_eq_true rfl, Nat.le_of_ble_eq_true rfl⟩) hK hW hS (x_recv (i := g.1 + 189) (k := 8) (j := 0) hK hW ⟨⟨Nat.le_of_eq hfl.symm, rfl⟩, by decide⟩ rfl (by decide)) rfl hl.1 (rest := [.int q]) rfl (Nat.le_of_ble_eq_true rfl) dL_law_555 ⟨hc, hs⟩) hS (fun H locs hW hS => ?_)
  have hW : World g (cs, (q'.2, mn, mw)) H := hW
  refine lv_icmp_eq (tgt := 1691) hx hb dL_law_558 (by decide) (fun _ => ?_) (fun h => absurd he h)
  exact K H locs hW hS
set_option maxRecDepth 20000 in
theorem ggL_law_X7_mountTime : GoodIn wsL_law wsX7_mountTime := goodIn_q _ [(29, 7), (0, 19), (28, 0), (28, 1), (28, 2), (0, 2), (28, 3), (23, 12), (28, 4), (28, 5), (23, 13), (15, 11), (15, 12), (0, 18), (15, 13), (3, 0), (29, 8), (29, 9), (29, 10), (29, 11), (29, 12), (28, 7), (28, 8), (28, 9), (28, 10), (24, 9), (24, 10), (24, 11), (2, 22), (1, 16), (10, 17), (28, 11), (28, 12), (28, 13), (28, 14), (2, 23), (10, 18), (29, 13), (29, 14), (29, 15), (29, 16), (1, 14), (29, 17), (29, 18), (29, 19), (29, 20), (10, 16), (3, 5), (1, 18), (11, 9), (29, 21), (29, 22), (6, 4), (29, 23), (67, 0), (67, 1), (67, 2), (67, 3), (67, 4), (67, 5), (67, 6), (67, 7), (67, 8), (70, 0), (70, 1), (70, 2), (70, 3), (70, 4), (70, 5), (70, 6), (70, 7), (70, 8), (70, 9), (70, 10), (70, 11), (70, 12), (70, 13), (70, 14), (70, 15), (70, 16), (70, 17), (72, 0), (72, 1), (72, 2), (73, 0), (73, 1), (73, 2), (73, 3), (73, 4), (73, 5), (73, 6), (73, 7), (73, 8)] rfl (by decide +kernel)
set_option maxRecDepth 20000 in
theorem gL_law_X7_mountTime : GoodIn wsL_law (wsV RL 68 RX7 yX7_mountTime wsX7_mountTime) := goodIn_app (goodIn_q _ [(29, 4), (29, 5), (29, 6), (0, 2)] rfl (by decide +kernel)) ggL_law_X7_mountTime
set_option maxRecDepth 20000 in
theorem ggL_law_X8_mountTime : GoodIn wsL_law wsX8_mountTime := goodIn_q _ [(30, 3), (5, 4), (23, 18), (3, 22), (28, 19), (23, 19), (23, 20), (23, 21), (0, 5), (23, 22), (17, 19), (17, 20), (17, 21), (30, 4), (30, 5), (30, 6), (30, 7), (24, 20), (24, 21), (24, 22), (24, 23), (29, 0), (29, 1), (29, 2), (29, 3), (30, 8), (30, 9), (30, 10), (30, 11), (30, 12), (30, 13), (30, 14), (30, 15), (4, 0), (30, 16), (22, 10), (22, 11), (22, 12), (30, 17), (30, 18), (30, 19), (30, 20), (30, 21), (30, 22), (30, 23), (31, 0), (31, 1), (31, 2), (31, 3), (31, 4), (31, 5), (31, 6), (31, 7), (31, 8), (31, 9), (31, 10), (31, 11), (31, 12), (31, 13), (31, 14), (31, 15), (31, 16), (31, 17), (31, 18), (31, 19), (68, 0), (68, 1), (68, 2), (68, 3), (68, 4), (68, 5), (68, 6), (68, 7), (68, 8), (68, 9), (68, 10), (68, 11), (68, 12), (68, 13), (68, 14), (68, 15), (68, 16), (68, 17), (68, 18), (68, 19), (68, 20), (68, 21), (68, 22), (68, 23), (68, 24), (68, 25), (68, 26)] rfl (by decide +kernel)
set_option maxRecDepth 20000 in
theorem gL_law_X8_mountTime : GoodIn wsL_law (wsV RL 71 RX8 yX8_mountTime wsX8_mountTime) := goodIn_app (goodIn_q _ [(30, 0), (30, 1), (30, 2), (0, 5)] rfl (by decide +kernel)) ggL_law_X8_mountTime
theorem dL_law_563 : decode cL_law 563 = .ok (.aload_n 1, 1) := by decide +kernel
theorem dL_law_564 : decode cL_law 564 = .ok (.aload_n 0, 1) := by decide +kernel
theorem dL_law_565 : decode cL_law 565 = .ok (.iload_n 3, 1) := by decide +kernel
theorem dL_law_566 : decode cL_law 566 = .ok (.iconst 1, 1) := by decide +kernel
theorem dL_law_567 : decode cL_law 567 = .ok (.iadd, 1) := by decide +kernel
theorem dL_law_568 : decode cL_law 568 = .ok (.iaload, 1) := by decide +kernel
theorem dL_law_569 : decode cL_law 569 = .ok (.invokevirtual 68, 3) := by decide +kernel
theorem dL_law_572 : decode cL_law 572 = .ok (.aload_n 2, 1) := by decide +kernel
theorem dL_law_573 : decode cL_law 573 = .ok (.aload_n 0, 1) := by decide +kernel
theorem dL_law_574 : decode cL_law 574 = .ok (.iload_n 3, 1) := by decide +kernel
theorem dL_law_575 : decode cL_law 575 = .ok (.iconst 1, 1) := by decide +kernel
theorem dL_law_576 : decode cL_law 576 = .ok (.iadd, 1) := by decide +kernel
theorem dL_law_577 : decode cL_law 577 = .ok (.iaload, 1) := by decide +kernel
theorem dL_law_578 : decode cL_law 578 = .ok (.invokevirtual 71, 3) := by decide +kernel
theorem dL_law_581 : decode cL_law 581 = .ok (.if_icmp .eq 1110, 3) := by decide +kernel
theorem dL_law_584 : decode cL_law 584 = .ok (.iconst 0, 1) := by decide +kernel
theorem dL_law_585 : decode cL_law 585 = .ok (.ireturn, 1) := by decide +kernel
set_option maxRecDepth 100000 in
set_option maxHeartbeats 2000000 in
theorem lc_13 {p : Program} {l : Launch} {e : Env} {s : State} {m : MethodId} {below : List Frame} {meth : Method} {c : Code} {Q : State → Prop} {g : GT} {b L i : Nat} {xs : Nat → Int32} {H : Heap} {locs : List Loc} {ls : Array Slot} {cells slots : Nat} {cs : CT} {md : SD} {mn : Nat → Int64} {mw : Int64} (X : lwX p s m meth c g b L xs) (hi : i + 6 ≤ L) (hL : L ≤ 3072) (hS : va_S (gA g) s.heap H locs) (hl : lv_has ls 4 [(0, .ref b), (1, .ref (adr g.1 7 0)), (2, .ref (adr (g.1 + 189) 8 0)), (3, .int (nI i))]) (hfl : gf g = 2) (hW : World g (cs, (md, mn, mw)) H) {q : Int32} {q' : (Int32 × SD)} (h7 : f_X7_mountTime (k_xs cs (k_st cs)) (xs (nI i + 1).toNatClampNeg) = some q) (h8 : f_X8_mountTime md (xs (nI i + 1).toNatClampNeg) = some q') (he : q = q'.1) (hc : cells + 0 ≤ 600000) (hs : slots + 0 ≤ 7302250) (K : ∀ (H1 : Heap) (locs1 : List Loc), World g (cs, (q'.2, mn, mw)) H1 → va_S (gA g) s.heap H1 locs1 → W p l e room_1 s m #[Value.ref b] below meth c H1 locs1 (cells + 0) (slots + 0) Q (F0 m 1691 ls [])) : W p l e room_1 s m #[Value.ref b] below meth c H locs cells slots Q (F0 m 563 ls []) := by
  obtain ⟨hx, hb, hml, hown, hts, hX, hbl, hbA, hK⟩ := X
  have hv1 : vp_in (nI i + 1) L := lw_in1 hi hL
  refine lv_aload_n hx hb dL_law_563 rfl (lv_at hl 1 rfl) ?_
  refine lv_aload_n hx hb dL_law_564 rfl (lv_at hl 0 rfl) ?_
  refine lv_iload_n hx hb dL_law_565 rfl (lv_at hl 3 rfl) ?_
  refine lv_iconst (v := 1) hx hb dL_law_566 (by decide) ?_
  refine lv_iadd hx hb dL_law_567 ?_
  refine va_sld hx hb hX hbl hbA hS hv1 dL_law_568 ?_
  refine x_ci (x_rV ⟨hx, hb, hml, hown, hts⟩ (ct_X7_mountTime l g (Nat.le_of_lt_succ (by rw [hfl]; decide)) cs (md, mn, mw) (xs (nI i + 1).toNatClampNeg) h7) (cwV 1 hts gL_law_X7_mountTime rfl rfl rfl (by decide +kernel) ⟨Nat.le_of_ble_eq_true rfl, Nat.le_of_ble_eq_true rfl⟩) hK hW hS (x_recv (i := g.1) (k := 7) (j := 0) hK hW ⟨⟨Nat.le_of_lt_succ (by rw [hfl]; decide), rfl⟩, by decide⟩ rfl (by decide)) rfl hl.1 (rest := []) rfl (Nat.le_of_ble_eq_true rfl) dL_law_569 ⟨hc, hs⟩) hS (fun H locs hW hS => ?_)
  have hW : World g (cs, (md, mn, mw)) H := hW
  refine lv_aload_n hx hb dL_law_572 rfl (lv_at hl 2 rfl) ?_
  refine lv_aload_n hx hb dL_law_573 rfl (lv_at hl 0 rfl) ?_
  refine lv_iload_n hx hb dL_law_574 rfl (lv_at hl 3 rfl) ?_
  refine lv_iconst (v := 1) hx hb dL_law_575 (by decide) ?_
  refine lv_iadd hx hb dL_law_576 ?_
  refine va_sld hx hb hX hbl hbA hS hv1 dL_law_577 ?_
  refine x_ci0 (x_rV ⟨hx, hb, hml, hown, hts⟩ (ct_X8_mountTime l g (Nat.le_of_eq hfl.symm) (cs, (md, mn, mw)) md mn mw (xs (nI i + 1).toNatClampNeg) h8) (cwV 1 hts gL_law_X8_mountTime rfl rfl rfl (by decide +kernel) ⟨Nat.le_of_ble_eq_true rfl, Nat.le_of_ble_eq_true rfl⟩) hK hW hS (x_recv (i := g.1 + 189) (k := 8) (j := 0) hK hW ⟨⟨Nat.le_of_eq hfl.symm, rfl⟩, by decide⟩ rfl (by decide)) rfl hl.1 (rest := [.int q]) rfl (Nat.le_of_ble_eq_true rfl) dL_law_578 ⟨hc, hs⟩) hS (fun H locs hW hS => ?_)
  have hW : World g (cs, (q'.2, mn, mw)) H := hW
  refine lv_icmp_eq (tgt := 1691) hx hb dL_law_581 (by decide) (fun _ => ?_) (fun h => absurd he h)
  exact K H locs hW hS
set_option maxRecDepth 20000 in
theorem ggL_law_X7_mountTimeIn : GoodIn wsL_law wsX7_mountTimeIn := goodIn_q _ [(31, 23), (0, 19), (23, 12), (23, 1), (23, 13), (15, 11), (15, 12), (0, 18), (15, 13), (3, 0), (25, 20), (25, 21), (25, 22), (25, 23), (2, 22), (24, 8), (24, 9), (24, 10), (24, 11), (1, 16), (10, 17), (32, 0), (29, 14), (29, 15), (29, 16), (1, 14), (29, 17), (29, 18), (29, 19), (29, 20), (10, 16), (3, 5), (1, 18), (11, 9), (29, 21), (29, 22), (6, 4), (29, 23), (67, 0), (67, 1), (67, 2), (67, 3), (67, 4), (67, 5), (67, 6), (67, 7), (67, 8), (70, 0), (70, 1), (70, 2), (70, 3), (70, 4), (70, 5), (70, 6), (70, 7), (70, 8), (70, 9), (70, 10), (70, 11), (70, 12), (70, 13), (70, 14), (70, 15), (70, 16), (70, 17), (72, 0), (72, 1), (72, 2), (73, 0), (73, 1), (73, 2), (73, 3), (73, 4), (73, 5), (73, 6), (73, 7), (73, 8)] rfl (by decide +kernel)
set_option maxRecDepth 20000 in
theorem gL_law_X7_mountTimeIn : GoodIn wsL_law (wsV RL 72 RX7 yX7_mountTimeIn wsX7_mountTimeIn) := goodIn_app (goodIn_q _ [(31, 20), (31, 21), (31, 22), (0, 2)] rfl (by decide +kernel)) ggL_law_X7_mountTimeIn
set_option maxRecDepth 20000 in
theorem ggL_law_X8_mountTimeIn : GoodIn wsL_law wsX8_mountTimeIn := goodIn_q _ [(32, 4), (5, 4), (23, 18), (4, 8), (23, 19), (23, 20), (23, 21), (0, 5), (23, 22), (3, 22), (17, 19), (17, 20), (17, 21), (26, 4), (26, 5), (26, 6), (26, 7), (24, 20), (24, 21), (24, 22), (24, 23), (30, 8), (30, 9), (30, 10), (30, 11), (30, 12), (30, 13), (30, 14), (30, 15), (4, 0), (30, 16), (22, 10), (22, 11), (22, 12), (30, 17), (30, 18), (30, 19), (30, 20), (30, 21), (30, 22), (30, 23), (31, 0), (31, 1), (31, 2), (31, 3), (31, 4), (31, 5), (31, 6), (31, 7), (31, 8), (31, 9), (31, 10), (31, 11), (31, 12), (31, 13), (31, 14), (31, 15), (31, 16), (31, 17), (31, 18), (31, 19), (68, 0), (68, 1), (68, 2), (68, 3), (68, 4), (68, 5), (68, 6), (68, 7), (68, 8), (68, 9), (68, 10), (68, 11), (68, 12), (68, 13), (68, 14), (68, 15), (68, 16), (68, 17), (68, 18), (68, 19), (68, 20), (68, 21), (68, 22), (68, 23), (68, 24), (68, 25), (68, 26)] rfl (by decide +kernel)
set_option maxRecDepth 20000 in
theorem gL_law_X8_mountTimeIn : GoodIn wsL_law (wsV RL 76 RX8 yX8_mountTimeIn wsX8_mountTimeIn) := goodIn_app (goodIn_q _ [(32, 1), (32, 2), (32, 3), (0, 5)] rfl (by decide +kernel)) ggL_law_X8_mountTimeIn
theorem dL_law_586 : decode cL_law 586 = .ok (.aload_n 1, 1) := by decide +kernel
theorem dL_law_587 : decode cL_law 587 = .ok (.aload_n 0, 1) := by decide +kernel
theorem dL_law_588 : decode cL_law 588 = .ok (.iload_n 3, 1) := by decide +kernel
theorem dL_law_589 : decode cL_law 589 = .ok (.iconst 1, 1) := by decide +kernel
theorem dL_law_590 : decode cL_law 590 = .ok (.iadd, 1) := by decide +kernel
theorem dL_law_591 : decode cL_law 591 = .ok (.iaload, 1) := by decide +kernel
theorem dL_law_592 : decode cL_law 592 = .ok (.aload_n 0, 1) := by decide +kernel
theorem dL_law_593 : decode cL_law 593 = .ok (.iload_n 3, 1) := by decide +kernel
theorem dL_law_594 : decode cL_law 594 = .ok (.iconst 2, 1) := by decide +kernel
theorem dL_law_595 : decode cL_law 595 = .ok (.iadd, 1) := by decide +kernel
theorem dL_law_596 : decode cL_law 596 = .ok (.iaload, 1) := by decide +kernel
theorem dL_law_597 : decode cL_law 597 = .ok (.invokevirtual 72, 3) := by decide +kernel
theorem dL_law_600 : decode cL_law 600 = .ok (.aload_n 2, 1) := by decide +kernel
theorem dL_law_601 : decode cL_law 601 = .ok (.aload_n 0, 1) := by decide +kernel
theorem dL_law_602 : decode cL_law 602 = .ok (.iload_n 3, 1) := by decide +kernel
theorem dL_law_603 : decode cL_law 603 = .ok (.iconst 1, 1) := by decide +kernel
theorem dL_law_604 : decode cL_law 604 = .ok (.iadd, 1) := by decide +kernel
theorem dL_law_605 : decode cL_law 605 = .ok (.iaload, 1) := by decide +kernel
theorem dL_law_606 : decode cL_law 606 = .ok (.aload_n 0, 1) := by decide +kernel
theorem dL_law_607 : decode cL_law 607 = .ok (.iload_n 3, 1) := by decide +kernel
theorem dL_law_608 : decode cL_law 608 = .ok (.iconst 2, 1) := by decide +kernel
theorem dL_law_609 : decode cL_law 609 = .ok (.iadd, 1) := by decide +kernel
theorem dL_law_610 : decode cL_law 610 = .ok (.iaload, 1) := by decide +kernel
theorem dL_law_611 : decode cL_law 611 = .ok (.invokevirtual 76, 3) := by decide +kernel
theorem dL_law_614 : decode cL_law 614 = .ok (.if_icmp .eq 1077, 3) := by decide +kernel
theorem dL_law_617 : decode cL_law 617 = .ok (.iconst 0, 1) := by decide +kernel
theorem dL_law_618 : decode cL_law 618 = .ok (.ireturn, 1) := by decide +kernel
set_option maxRecDepth 100000 in
set_option maxHeartbeats 2000000 in
theorem lc_14 {p : Program} {l : Launch} {e : Env} {s : State} {m : MethodId} {below : List Frame} {meth : Method} {c : Code} {Q : State → Prop} {g : GT} {b L i : Nat} {xs : Nat → Int32} {H : Heap} {locs : List Loc} {ls : Array Slot} {cells slots : Nat} {cs : CT} {md : SD} {mn : Nat → Int64} {mw : Int64} (X : lwX p s m meth c g b L xs) (hi : i + 6 ≤ L) (hL : L ≤ 3072) (hS : va_S (gA g) s.heap H locs) (hl : lv_has ls 4 [(0, .ref b), (1, .ref (adr g.1 7 0)), (2, .ref (adr (g.1 + 189) 8 0)), (3, .int (nI i))]) (hfl : gf g = 2) (hW : World g (cs, (md, mn, mw)) H) {q : Int32} {q' : (Int32 × SD)} (h7 : f_X7_mountTimeIn (k_xs cs (k_st cs)) (xs (nI i + 1).toNatClampNeg) (xs (nI i + 2).toNatClampNeg) = some q) (h8 : f_X8_mountTimeIn md (xs (nI i + 1).toNatClampNeg) (xs (nI i + 2).toNatClampNeg) = some q') (he : q = q'.1) (hc : cells + 0 ≤ 600000) (hs : slots + 0 ≤ 7302250) (K : ∀ (H1 : Heap) (locs1 : List Loc), World g (cs, (q'.2, mn, mw)) H1 → va_S (gA g) s.heap H1 locs1 → W p l e room_1 s m #[Value.ref b] below meth c H1 locs1 (cells + 0) (slots + 0) Q (F0 m 1691 ls [])) : W p l e room_1 s m #[Value.ref b] below meth c H locs cells slots Q (F0 m 586 ls []) := by
  obtain ⟨hx, hb, hml, hown, hts, hX, hbl, hbA, hK⟩ := X
  have hv1 : vp_in (nI i + 1) L := lw_in1 hi hL
  have hv2 : vp_in (nI i + 2) L := lw_in2 hi hL
  refine lv_aload_n hx hb dL_law_586 rfl (lv_at hl 1 rfl) ?_
  refine lv_aload_n hx hb dL_law_587 rfl (lv_at hl 0 rfl) ?_
  refine lv_iload_n hx hb dL_law_588 rfl (lv_at hl 3 rfl) ?_
  refine lv_iconst (v := 1) hx hb dL_law_589 (by decide) ?_
  refine lv_iadd hx hb dL_law_590 ?_
  refine va_sld hx hb hX hbl hbA hS hv1 dL_law_591 ?_
  refine lv_aload_n hx hb dL_law_592 rfl (lv_at hl 0 rfl) ?_
  refine lv_iload_n hx hb dL_law_593 rfl (lv_at hl 3 rfl) ?_
  refine lv_iconst (v := 2) hx hb dL_law_594 (by decide) ?_
  refine lv_iadd hx hb dL_law_595 ?_
  refine va_sld hx hb hX hbl hbA hS hv2 dL_law_596 ?_
  refine x_ci (x_rV ⟨hx, hb, hml, hown, hts⟩ (ct_X7_mountTimeIn l g (Nat.le_of_lt_succ (by rw [hfl]; decide)) cs (md, mn, mw) (xs (nI i + 1).toNatClampNeg) (xs (nI i + 2).toNatClampNeg) h7) (cwV 2 hts gL_law_X7_mountTimeIn rfl rfl rfl (by decide +kernel) ⟨Nat.le_of_ble_eq_true rfl, Nat.le_of_ble_eq_true rfl⟩) hK hW hS (x_recv (i := g.1) (k := 7) (j := 0) hK hW ⟨⟨Nat.le_of_lt_succ (by rw [hfl]; decide), rfl⟩, by decide⟩ rfl (by decide)) rfl hl.1 (rest := []) rfl (Nat.le_of_ble_eq_true rfl) dL_law_597 ⟨hc, hs⟩) hS (fun H locs hW hS => ?_)
  have hW : World g (cs, (md, mn, mw)) H := hW
  refine lv_aload_n hx hb dL_law_600 rfl (lv_at hl 2 rfl) ?_
  refine lv_aload_n hx hb dL_law_601 rfl (lv_at hl 0 rfl) ?_
  refine lv_iload_n hx hb dL_law_602 rfl (lv_at hl 3 rfl) ?_
  refine lv_iconst (v := 1) hx hb dL_law_603 (by decide) ?_
  refine lv_iadd hx hb dL_law_604 ?_
  refine va_sld hx hb hX hbl hbA hS hv1 dL_law_605 ?_
  refine lv_aload_n hx hb dL_law_606 rfl (lv_at hl 0 rfl) ?_
  refine lv_iload_n hx hb dL_law_607 rfl (lv_at hl 3 rfl) ?_
  refine lv_iconst (v := 2) hx hb dL_law_608 (by decide) ?_
  refine lv_iadd hx hb dL_law_609 ?_
  refine va_sld hx hb hX hbl hbA hS hv2 dL_law_610 ?_
  refine x_ci0 (x_rV ⟨hx, hb, hml, hown, hts⟩ (ct_X8_mountTimeIn l g (Nat.le_of_eq hfl.symm) (cs, (md, mn, mw)) md mn mw (xs (nI i + 1).toNatClampNeg) (xs (nI i + 2).toNatClampNeg) h8) (cwV 2 hts gL_law_X8_mountTimeIn rfl rfl rfl (by decide +kernel) ⟨Nat.le_of_ble_eq_true rfl, Nat.le_of_ble_eq_true rfl⟩) hK hW hS (x_recv (i := g.1 + 189) (k := 8) (j := 0) hK hW ⟨⟨Nat.le_of_eq hfl.symm, rfl⟩, by decide⟩ rfl (by decide)) rfl hl.1 (rest := [.int q]) rfl (Nat.le_of_ble_eq_true rfl) dL_law_611 ⟨hc, hs⟩) hS (fun H locs hW hS => ?_)
  have hW : World g (cs, (q'.2, mn, mw)) H := hW
  refine lv_icmp_eq (tgt := 1691) hx hb dL_law_614 (by decide) (fun _ => ?_) (fun h => absurd he h)
  exact K H locs hW hS
set_option maxRecDepth 20000 in
theorem ggL_law_X7_freeSectors : GoodIn wsL_law wsX7_freeSectors := goodIn_q _ [(32, 8), (0, 19), (23, 10), (23, 12), (23, 13), (15, 11), (15, 12), (0, 18), (15, 13), (3, 0), (32, 9), (14, 10), (14, 11), (2, 2), (14, 12), (11, 19), (11, 21), (67, 0), (67, 1), (67, 2), (67, 3), (67, 4), (67, 5), (67, 6), (67, 7), (67, 8), (70, 0), (70, 1), (70, 2), (70, 3), (70, 4), (70, 5), (70, 6), (70, 7), (70, 8), (70, 9), (70, 10), (70, 11), (70, 12), (70, 13), (70, 14), (70, 15), (70, 16), (70, 17), (73, 0), (73, 1), (73, 2), (73, 3), (73, 4), (73, 5), (73, 6), (73, 7), (73, 8)] rfl (by decide +kernel)
set_option maxRecDepth 20000 in
theorem gL_law_X7_freeSectors : GoodIn wsL_law (wsV RL 77 RX7 yX7_freeSectors wsX7_freeSectors) := goodIn_app (goodIn_q _ [(32, 5), (32, 6), (32, 7), (0, 2)] rfl (by decide +kernel)) ggL_law_X7_freeSectors
set_option maxRecDepth 20000 in
theorem ggL_law_X8_freeSectors : GoodIn wsL_law wsX8_freeSectors := goodIn_q _ [(32, 13), (5, 4), (23, 18), (23, 19), (23, 20), (23, 21), (0, 5), (23, 22), (3, 22), (17, 19), (17, 20), (17, 21), (32, 14), (32, 15), (32, 16), (32, 17), (68, 0), (68, 1), (68, 2), (68, 3), (68, 4), (68, 5), (68, 6), (68, 7), (68, 8), (68, 9), (68, 10), (68, 11), (68, 12), (68, 13), (68, 14), (68, 15), (68, 16), (68, 17), (68, 18), (68, 19), (68, 20), (68, 21), (68, 22), (68, 23), (68, 24), (68, 25), (68, 26)] rfl (by decide +kernel)
set_option maxRecDepth 20000 in
theorem gL_law_X8_freeSectors : GoodIn wsL_law (wsV RL 80 RX8 yX8_freeSectors wsX8_freeSectors) := goodIn_app (goodIn_q _ [(32, 10), (32, 11), (32, 12), (0, 5)] rfl (by decide +kernel)) ggL_law_X8_freeSectors
theorem dL_law_619 : decode cL_law 619 = .ok (.aload_n 1, 1) := by decide +kernel
theorem dL_law_620 : decode cL_law 620 = .ok (.aload_n 0, 1) := by decide +kernel
theorem dL_law_621 : decode cL_law 621 = .ok (.iload_n 3, 1) := by decide +kernel
theorem dL_law_622 : decode cL_law 622 = .ok (.iconst 1, 1) := by decide +kernel
theorem dL_law_623 : decode cL_law 623 = .ok (.iadd, 1) := by decide +kernel
theorem dL_law_624 : decode cL_law 624 = .ok (.iaload, 1) := by decide +kernel
theorem dL_law_625 : decode cL_law 625 = .ok (.invokevirtual 77, 3) := by decide +kernel
theorem dL_law_628 : decode cL_law 628 = .ok (.aload_n 2, 1) := by decide +kernel
theorem dL_law_629 : decode cL_law 629 = .ok (.aload_n 0, 1) := by decide +kernel
theorem dL_law_630 : decode cL_law 630 = .ok (.iload_n 3, 1) := by decide +kernel
theorem dL_law_631 : decode cL_law 631 = .ok (.iconst 1, 1) := by decide +kernel
theorem dL_law_632 : decode cL_law 632 = .ok (.iadd, 1) := by decide +kernel
theorem dL_law_633 : decode cL_law 633 = .ok (.iaload, 1) := by decide +kernel
theorem dL_law_634 : decode cL_law 634 = .ok (.invokevirtual 80, 3) := by decide +kernel
theorem dL_law_637 : decode cL_law 637 = .ok (.if_icmp .eq 1054, 3) := by decide +kernel
theorem dL_law_640 : decode cL_law 640 = .ok (.iconst 0, 1) := by decide +kernel
theorem dL_law_641 : decode cL_law 641 = .ok (.ireturn, 1) := by decide +kernel
set_option maxRecDepth 100000 in
set_option maxHeartbeats 2000000 in
theorem lc_15 {p : Program} {l : Launch} {e : Env} {s : State} {m : MethodId} {below : List Frame} {meth : Method} {c : Code} {Q : State → Prop} {g : GT} {b L i : Nat} {xs : Nat → Int32} {H : Heap} {locs : List Loc} {ls : Array Slot} {cells slots : Nat} {cs : CT} {md : SD} {mn : Nat → Int64} {mw : Int64} (X : lwX p s m meth c g b L xs) (hi : i + 6 ≤ L) (hL : L ≤ 3072) (hS : va_S (gA g) s.heap H locs) (hl : lv_has ls 4 [(0, .ref b), (1, .ref (adr g.1 7 0)), (2, .ref (adr (g.1 + 189) 8 0)), (3, .int (nI i))]) (hfl : gf g = 2) (hW : World g (cs, (md, mn, mw)) H) {q : Int32} {q' : (Int32 × SD)} (h7 : f_X7_freeSectors (k_xs cs (k_st cs)) (xs (nI i + 1).toNatClampNeg) = some q) (h8 : f_X8_freeSectors md (xs (nI i + 1).toNatClampNeg) = some q') (he : q = q'.1) (hc : cells + 0 ≤ 600000) (hs : slots + 0 ≤ 7302250) (K : ∀ (H1 : Heap) (locs1 : List Loc), World g (cs, (q'.2, mn, mw)) H1 → va_S (gA g) s.heap H1 locs1 → W p l e room_1 s m #[Value.ref b] below meth c H1 locs1 (cells + 0) (slots + 0) Q (F0 m 1691 ls [])) : W p l e room_1 s m #[Value.ref b] below meth c H locs cells slots Q (F0 m 619 ls []) := by
  obtain ⟨hx, hb, hml, hown, hts, hX, hbl, hbA, hK⟩ := X
  have hv1 : vp_in (nI i + 1) L := lw_in1 hi hL
  refine lv_aload_n hx hb dL_law_619 rfl (lv_at hl 1 rfl) ?_
  refine lv_aload_n hx hb dL_law_620 rfl (lv_at hl 0 rfl) ?_
  refine lv_iload_n hx hb dL_law_621 rfl (lv_at hl 3 rfl) ?_
  refine lv_iconst (v := 1) hx hb dL_law_622 (by decide) ?_
  refine lv_iadd hx hb dL_law_623 ?_
  refine va_sld hx hb hX hbl hbA hS hv1 dL_law_624 ?_
  refine x_ci (x_rV ⟨hx, hb, hml, hown, hts⟩ (ct_X7_freeSectors l g (Nat.le_of_lt_succ (by rw [hfl]; decide)) cs (md, mn, mw) (xs (nI i + 1).toNatClampNeg) h7) (cwV 1 hts gL_law_X7_freeSectors rfl rfl rfl (by decide +kernel) ⟨Nat.le_of_ble_eq_true rfl, Nat.le_of_ble_eq_true rfl⟩) hK hW hS (x_recv (i := g.1) (k := 7) (j := 0) hK hW ⟨⟨Nat.le_of_lt_succ (by rw [hfl]; decide), rfl⟩, by decide⟩ rfl (by decide)) rfl hl.1 (rest := []) rfl (Nat.le_of_ble_eq_true rfl) dL_law_625 ⟨hc, hs⟩) hS (fun H locs hW hS => ?_)
  have hW : World g (cs, (md, mn, mw)) H := hW
  refine lv_aload_n hx hb dL_law_628 rfl (lv_at hl 2 rfl) ?_
  refine lv_aload_n hx hb dL_law_629 rfl (lv_at hl 0 rfl) ?_
  refine lv_iload_n hx hb dL_law_630 rfl (lv_at hl 3 rfl) ?_
  refine lv_iconst (v := 1) hx hb dL_law_631 (by decide) ?_
  refine lv_iadd hx hb dL_law_632 ?_
  refine va_sld hx hb hX hbl hbA hS hv1 dL_law_633 ?_
  refine x_ci0 (x_rV ⟨hx, hb, hml, hown, hts⟩ (ct_X8_freeSectors l g (Nat.le_of_eq hfl.symm) (cs, (md, mn, mw)) md mn mw (xs (nI i + 1).toNatClampNeg) h8) (cwV 1 hts gL_law_X8_freeSectors rfl rfl rfl (by decide +kernel) ⟨Nat.le_of_ble_eq_true rfl, Nat.le_of_ble_eq_true rfl⟩) hK hW hS (x_recv (i := g.1 + 189) (k := 8) (j := 0) hK hW ⟨⟨Nat.le_of_eq hfl.symm, rfl⟩, by decide⟩ rfl (by decide)) rfl hl.1 (rest := [.int q]) rfl (Nat.le_of_ble_eq_true rfl) dL_law_634 ⟨hc, hs⟩) hS (fun H locs hW hS => ?_)
  have hW : World g (cs, (q'.2, mn, mw)) H := hW
  refine lv_icmp_eq (tgt := 1691) hx hb dL_law_637 (by decide) (fun _ => ?_) (fun h => absurd he h)
  exact K H locs hW hS
