/-! the batch -/
abbrev rm_ready0 : Room := { frames := 0, cells := 0, slots := 0, locals := 0 }
set_option maxRecDepth 100000 in
set_option maxHeartbeats 4000000 in
theorem ct_X7_readyPlanner0 (l : Launch) (g : GT) (hfl : 1 ≤ gf g) (cs : CT) (mt : MT) {pi : Nat} (hpl : k_pl cs = some pi) : Met l yX7_readyPlanner wsX7_readyPlanner rm_ready0 (cPre g (cs, mt) [.ref (adr g.1 7 0)]) (cQr g (adr pi 2 0) (cs, mt)) 0 0 (gA g) := by
  have i_7 : ∀ w ∈ u_ws RX7 TX7 9, w ∈ wsX7_readyPlanner := by decide +kernel
  refine x_met (by decide) rfl (Nat.le_of_ble_eq_true rfl) ?_
  intro p e s m below meth c hx hb hr hml hts hown hlocks hK hW hS ls hl
  have hown : s.vm.findClass RX7 = some m.cls := hown
  have hl : lv_has ls 1 [(0, .ref (adr g.1 7 0))] := hl
  refine lv_aload_n hx hb dX7_readyPlanner_0 rfl (lv_at hl 0 rfl) ?_
  refine x_get (i := g.1) (k := 7) (j := 0) (t := 6) hx hb hts i_7 hown hK hW ⟨⟨hfl, rfl⟩, by decide⟩ rfl ⟨by decide, by decide, rfl⟩ (hts (.fieldLink RX7 376 "OpticalJukebox" "planner" "LOpticalJukebox$Planner;") (by decide +kernel)) (v := .ref (adr pi 2 0)) (by show va_rf (Option.map _ (k_pl _)) = _; rw [hpl]; rfl) dX7_readyPlanner_1 ?_
  refine lv_ifnonnull (tgt := 18) hx hb dX7_readyPlanner_4 (by decide) ?_
  refine lv_aload_n hx hb dX7_readyPlanner_18 rfl (lv_at hl 0 rfl) ?_
  refine x_get (i := g.1) (k := 7) (j := 0) (t := 6) hx hb hts i_7 hown hK hW ⟨⟨hfl, rfl⟩, by decide⟩ rfl ⟨by decide, by decide, rfl⟩ (hts (.fieldLink RX7 376 "OpticalJukebox" "planner" "LOpticalJukebox$Planner;") (by decide +kernel)) (v := .ref (adr pi 2 0)) (by show va_rf (Option.map _ (k_pl _)) = _; rw [hpl]; rfl) dX7_readyPlanner_19 ?_
  exact x_aret hx hb hr (Or.inl ⟨_, rfl⟩) hlocks hK hW hS rfl dX7_readyPlanner_22
set_option maxRecDepth 20000 in
theorem ggX7_planBatch_X7_batchProblem : GoodIn wsX7_planBatch wsX7_batchProblem := goodIn_r _ [6, 1, 7, 8, 9, 10, 11, 12, 13, 14, 15, 16, 17, 18, 19, 20, 21, 22, 23, 24, 25, 26, 27, 28, 29, 30, 31, 32, 33, 34, 35, 36, 37, 38, 141, 142, 143, 144, 145, 146, 147, 148, 149, 150, 151, 152, 153, 154, 155, 156, 157, 158, 159, 160, 161, 162, 163, 164, 165, 166, 167, 168, 169, 170, 171, 172, 173, 174, 175, 176, 177, 178, 179, 180, 181, 182, 183] (by decide +kernel) (by decide +kernel)
set_option maxRecDepth 20000 in
theorem gX7_planBatch_X7_batchProblem : GoodIn wsX7_planBatch (wsV RX7 355 RX7 yX7_batchProblem wsX7_batchProblem) := goodIn_app (goodIn_of _ (by decide +kernel)) ggX7_planBatch_X7_batchProblem
set_option maxRecDepth 20000 in
theorem ggX7_planBatch_X7_readyPlanner : GoodIn wsX7_planBatch wsX7_readyPlanner := goodIn_r _ [42, 43, 44, 45, 46, 47, 48, 49, 50, 51, 52, 53, 54, 55, 56, 57, 141, 142, 143, 144, 145, 146, 147, 148, 149, 184, 185, 186, 187, 188, 189] (by decide +kernel) (by decide +kernel)
set_option maxRecDepth 20000 in
theorem gX7_planBatch_X7_readyPlanner : GoodIn wsX7_planBatch (wsV RX7 320 RX7 yX7_readyPlanner wsX7_readyPlanner) := goodIn_app (goodIn_of _ (by decide +kernel)) ggX7_planBatch_X7_readyPlanner
set_option maxRecDepth 20000 in
theorem ggX7_planBatch_X2_planOrder : GoodIn wsX7_planBatch wsX2_planOrder := goodIn_r _ [61, 56, 62, 53, 55, 63, 64, 65, 16, 66, 67, 68, 30, 18, 19, 20, 21, 22, 23, 69, 70, 71, 72, 73, 74, 75, 76, 77, 78, 79, 80, 81, 82, 83, 84, 85, 86, 87, 88, 89, 90, 91, 92, 46, 93, 57, 94, 95, 96, 97, 98, 99, 100, 101, 102, 103, 104, 105, 106, 107, 108, 109, 110, 111, 54, 112, 113, 114, 115, 116, 117, 118, 119, 120, 121, 122, 123, 124, 125, 126, 127, 128, 129, 130, 29, 131, 132, 133, 134, 135, 136, 137, 138, 139, 140, 184, 185, 186, 187, 188, 189, 150, 151, 152, 153, 154, 155, 156, 157, 158, 159, 160, 161, 162, 163, 164, 165, 166, 167, 168, 169, 170, 171, 172, 173, 174, 190, 191, 192, 175, 176, 177, 178, 179, 180, 181, 182, 183] (by decide +kernel) (by decide +kernel)
set_option maxRecDepth 20000 in
theorem gX7_planBatch_X2_planOrder : GoodIn wsX7_planBatch (wsV RX7 373 RX2 yX2_planOrder wsX2_planOrder) := goodIn_app (goodIn_of _ (by decide +kernel)) ggX7_planBatch_X2_planOrder
theorem dX7_planBatch_0 : decode cX7_planBatch 0 = .ok (.aload_n 0, 1) := by decide +kernel
theorem dX7_planBatch_1 : decode cX7_planBatch 1 = .ok (.iconst 1, 1) := by decide +kernel
theorem dX7_planBatch_2 : decode cX7_planBatch 2 = .ok (.invokevirtual 355, 3) := by decide +kernel
theorem dX7_planBatch_5 : decode cX7_planBatch 5 = .ok (.istore_n 1, 1) := by decide +kernel
theorem dX7_planBatch_6 : decode cX7_planBatch 6 = .ok (.iload_n 1, 1) := by decide +kernel
theorem dX7_planBatch_7 : decode cX7_planBatch 7 = .ok (.ifCond .ne 14, 3) := by decide +kernel
theorem dX7_planBatch_10 : decode cX7_planBatch 10 = .ok (.aload_n 0, 1) := by decide +kernel
theorem dX7_planBatch_11 : decode cX7_planBatch 11 = .ok (.invokevirtual 320, 3) := by decide +kernel
theorem dX7_planBatch_14 : decode cX7_planBatch 14 = .ok (.aload_n 0, 1) := by decide +kernel
theorem dX7_planBatch_15 : decode cX7_planBatch 15 = .ok (.getfield 19, 3) := by decide +kernel
theorem dX7_planBatch_18 : decode cX7_planBatch 18 = .ok (.invokevirtual 373, 3) := by decide +kernel
theorem dX7_planBatch_21 : decode cX7_planBatch 21 = .ok (.iload_n 1, 1) := by decide +kernel
theorem dX7_planBatch_22 : decode cX7_planBatch 22 = .ok (.ireturn, 1) := by decide +kernel
abbrev rm_X7_planBatch : Room := { frames := 6, cells := 4, slots := 10356, locals := 150 }
set_option maxRecDepth 100000 in
set_option maxHeartbeats 8000000 in
theorem ct_X7_planBatch (l : Launch) (g : GT) (hfl : 1 ≤ gf g) (cs : CT) (mt : MT) {q : Int32 × CT} (hf : f_X7_planBatch cs = some q) : Met l yX7_planBatch wsX7_planBatch rm_X7_planBatch (cPre g (cs, mt) [.ref (adr g.1 7 0)]) (cQi g q.1 (q.2, mt)) 4 10356 (gA g) := by
  have i_7 : ∀ w ∈ u_ws RX7 TX7 9, w ∈ wsX7_planBatch := by decide +kernel
  refine x_met (by decide) rfl (Nat.le_of_ble_eq_true rfl) ?_
  intro p e s m below meth c hx hb hr hml hts hown hlocks hK hW hS ls hl
  have hown : s.vm.findClass RX7 = some m.cls := hown
  have hl : lv_has ls 2 [(0, .ref (adr g.1 7 0))] := hl
  rw [f_X7_planBatch] at hf
  refine lv_aload_n hx hb dX7_planBatch_0 rfl (lv_at hl 0 rfl) ?_
  refine lv_iconst (v := 1) hx hb dX7_planBatch_1 (by decide) ?_
  obtain ⟨q1, h_q1, hf⟩ := x_bindE hf
  refine x_ci0 (x_rV ⟨hx, hb, hml, hown, hts⟩ (ct_X7_batchProblem l g hfl cs mt 1 h_q1) (cwV 1 hts gX7_planBatch_X7_batchProblem rfl rfl rfl (by decide +kernel) ⟨Nat.le_of_ble_eq_true rfl, Nat.le_of_ble_eq_true rfl⟩) hK hW hS (x_recv (i := g.1) (k := 7) (j := 0) hK hW ⟨⟨hfl, rfl⟩, by decide⟩ rfl (by decide)) rfl hl.1 (rest := []) rfl (Nat.le_of_ble_eq_true rfl) dX7_planBatch_2 ⟨Nat.le_of_ble_eq_true rfl, Nat.le_of_ble_eq_true rfl⟩) hS (fun H locs hW hS => ?_)
  have hW : World g (cs, mt) H := hW
  refine W.eq (g2 := F0 m 5 ls [.int q1]) rfl ?_
  refine lv_istore_n (lv' := [(1, .int q1), (0, .ref (adr g.1 7 0))]) hx hb dX7_planBatch_5 rfl hl (by decide) rfl (fun ls hl => ?_)
  refine lv_iload_n hx hb dX7_planBatch_6 rfl (lv_at hl 0 rfl) ?_
  refine lv_if_ne (tgt := 21) hx hb dX7_planBatch_7 (by decide) (fun hc => ?_) (fun hc => ?_)
  · have hf := x_iteF hf hc
    refine lv_iload_n hx hb dX7_planBatch_21 rfl (lv_at hl 0 rfl) ?_
    refine W.widen (k := 4) (n := 10356) (by decide) (by decide) ?_
    cases hf
    exact x_iret hx hb hr hlocks hK hW hS rfl dX7_planBatch_22
  · have hf := x_iteT hf hc
    refine lv_aload_n hx hb dX7_planBatch_10 rfl (lv_at hl 1 rfl) ?_
    obtain ⟨r, h_r, hf⟩ := x_bindE hf
    refine x_cr (x_rV ⟨hx, hb, hml, hown, hts⟩ (ct_X7_readyPlanner l g hfl cs mt h_r) (cwV 0 hts gX7_planBatch_X7_readyPlanner rfl rfl rfl (by decide +kernel) ⟨Nat.le_of_ble_eq_true rfl, Nat.le_of_ble_eq_true rfl⟩) hK hW hS (x_recv (i := g.1) (k := 7) (j := 0) hK hW ⟨⟨hfl, rfl⟩, by decide⟩ rfl (by decide)) rfl hl.1 (rest := []) rfl (Nat.le_of_ble_eq_true rfl) dX7_planBatch_11 ⟨Nat.le_of_ble_eq_true rfl, Nat.le_of_ble_eq_true rfl⟩) hS (fun H locs hW hS => ?_)
    have hp := ready_pl h_r
    have hW : World g (r.2, mt) H := hW
    refine W.eq (g2 := F0 m 14 ls [.ref (adr r.1 2 0)]) rfl ?_
    refine W.cs (cells' := 4) (slots' := 10356) rfl rfl ?_
    refine lv_aload_n hx hb dX7_planBatch_14 rfl (lv_at hl 1 rfl) ?_
    refine x_get (i := g.1) (k := 7) (j := 0) (t := 3) hx hb hts i_7 hown hK hW ⟨⟨hfl, rfl⟩, by decide⟩ rfl ⟨by decide, by decide, rfl⟩ (hts (.fieldLink RX7 19 "OpticalJukebox" "state" "LOpticalJukebox$State;") (by decide +kernel)) (v := .ref (adr (k_st r.2) 4 0)) rfl dX7_planBatch_15 ?_
    obtain ⟨pd1, h_pd, hf⟩ := x_bindE hf
    refine x_cv0 (x_rV ⟨hx, hb, hml, hown, hts⟩ (ct_X2_planOrder l g (r.2, mt) r.1 hp (k_pd r.2) (k_st r.2) hW.2.2.2.1 (k_xs r.2 (k_st r.2)) h_pd) (cwV 1 hts gX7_planBatch_X2_planOrder rfl rfl rfl (by decide +kernel) ⟨Nat.le_of_ble_eq_true rfl, Nat.le_of_ble_eq_true rfl⟩) hK (w_self_sd hW) hS (x_recv (i := r.1) (k := 2) (j := 0) hK hW ⟨hp, by decide⟩ rfl (by decide)) rfl hl.1 (rest := []) rfl (Nat.le_of_ble_eq_true rfl) dX7_planBatch_18 ⟨Nat.le_of_ble_eq_true rfl, Nat.le_of_ble_eq_true rfl⟩) hS (fun H locs hW hS => ?_)
    have hW : World g (kP r.2 pd1, mt) H := w_unself_sd (c := kP r.2 pd1) (i := k_st r.2) hW
    refine lv_iload_n hx hb dX7_planBatch_21 rfl (lv_at hl 0 rfl) ?_
    cases hf
    exact x_iret hx hb hr hlocks hK hW hS rfl dX7_planBatch_22
set_option maxRecDepth 20000 in
theorem ggX7_batchTime_X7_batchProblem : GoodIn wsX7_batchTime wsX7_batchProblem := goodIn_r _ [6, 1, 7, 8, 9, 10, 11, 12, 13, 14, 15, 16, 17, 18, 19, 20, 21, 22, 23, 24, 25, 26, 27, 28, 29, 30, 31, 32, 33, 34, 35, 36, 37, 38, 142, 143, 144, 145, 146, 147, 148, 149, 150, 151, 152, 153, 154, 155, 156, 157, 158, 159, 160, 161, 162, 163, 164, 165, 166, 167, 168, 169, 170, 171, 172, 173, 174, 175, 176, 177, 178, 179, 180, 181, 182, 183, 184] (by decide +kernel) (by decide +kernel)
set_option maxRecDepth 20000 in
theorem gX7_batchTime_X7_batchProblem : GoodIn wsX7_batchTime (wsV RX7 355 RX7 yX7_batchProblem wsX7_batchProblem) := goodIn_app (goodIn_of _ (by decide +kernel)) ggX7_batchTime_X7_batchProblem
set_option maxRecDepth 20000 in
theorem ggX7_batchTime_X7_readyPlanner : GoodIn wsX7_batchTime wsX7_readyPlanner := goodIn_r _ [42, 43, 44, 45, 46, 47, 48, 49, 50, 51, 52, 53, 54, 55, 56, 57, 142, 143, 144, 145, 146, 147, 148, 149, 150, 185, 186, 187, 188, 189, 190] (by decide +kernel) (by decide +kernel)
set_option maxRecDepth 20000 in
theorem gX7_batchTime_X7_readyPlanner : GoodIn wsX7_batchTime (wsV RX7 320 RX7 yX7_readyPlanner wsX7_readyPlanner) := goodIn_app (goodIn_of _ (by decide +kernel)) ggX7_batchTime_X7_readyPlanner
set_option maxRecDepth 20000 in
theorem ggX7_batchTime_X2_timeWithout : GoodIn wsX7_batchTime wsX2_timeWithout := goodIn_r _ [61, 62, 63, 64, 16, 65, 66, 67, 30, 18, 19, 20, 21, 22, 23, 68, 69, 70, 71, 72, 73, 74, 75, 76, 77, 78, 79, 80, 81, 82, 83, 84, 85, 86, 87, 46, 88, 57, 89, 53, 90, 91, 92, 93, 94, 95, 96, 97, 98, 99, 100, 101, 102, 103, 104, 105, 106, 107, 108, 109, 110, 54, 111, 112, 113, 114, 115, 116, 117, 118, 119, 120, 121, 122, 123, 124, 125, 126, 127, 128, 129, 29, 130, 131, 132, 133, 134, 135, 136, 137, 138, 139, 140, 141, 151, 152, 153, 154, 155, 156, 157, 158, 159, 160, 161, 162, 163, 164, 165, 166, 167, 168, 169, 170, 171, 172, 173, 174, 175, 191, 192, 193, 185, 186, 187, 188, 189, 190, 176, 177, 178, 179, 180, 181, 182, 183, 184] (by decide +kernel) (by decide +kernel)
set_option maxRecDepth 20000 in
theorem gX7_batchTime_X2_timeWithout : GoodIn wsX7_batchTime (wsV RX7 358 RX2 yX2_timeWithout wsX2_timeWithout) := goodIn_app (goodIn_of _ (by decide +kernel)) ggX7_batchTime_X2_timeWithout
theorem dX7_batchTime_0 : decode cX7_batchTime 0 = .ok (.aload_n 0, 1) := by decide +kernel
theorem dX7_batchTime_1 : decode cX7_batchTime 1 = .ok (.iconst 1, 1) := by decide +kernel
theorem dX7_batchTime_2 : decode cX7_batchTime 2 = .ok (.invokevirtual 355, 3) := by decide +kernel
theorem dX7_batchTime_5 : decode cX7_batchTime 5 = .ok (.istore_n 1, 1) := by decide +kernel
theorem dX7_batchTime_6 : decode cX7_batchTime 6 = .ok (.iload_n 1, 1) := by decide +kernel
theorem dX7_batchTime_7 : decode cX7_batchTime 7 = .ok (.ifCond .eq 7, 3) := by decide +kernel
theorem dX7_batchTime_10 : decode cX7_batchTime 10 = .ok (.iload_n 1, 1) := by decide +kernel
theorem dX7_batchTime_11 : decode cX7_batchTime 11 = .ok (.goto 15, 3) := by decide +kernel
theorem dX7_batchTime_14 : decode cX7_batchTime 14 = .ok (.aload_n 0, 1) := by decide +kernel
theorem dX7_batchTime_15 : decode cX7_batchTime 15 = .ok (.invokevirtual 320, 3) := by decide +kernel
theorem dX7_batchTime_18 : decode cX7_batchTime 18 = .ok (.aload_n 0, 1) := by decide +kernel
theorem dX7_batchTime_19 : decode cX7_batchTime 19 = .ok (.getfield 19, 3) := by decide +kernel
theorem dX7_batchTime_22 : decode cX7_batchTime 22 = .ok (.iconst (-1), 1) := by decide +kernel
theorem dX7_batchTime_23 : decode cX7_batchTime 23 = .ok (.invokevirtual 358, 3) := by decide +kernel
theorem dX7_batchTime_26 : decode cX7_batchTime 26 = .ok (.ireturn, 1) := by decide +kernel
abbrev rm_X7_batchTime : Room := { frames := 6, cells := 4, slots := 10356, locals := 150 }
set_option maxRecDepth 100000 in
set_option maxHeartbeats 8000000 in
theorem ct_X7_batchTime (l : Launch) (g : GT) (hfl : 1 ≤ gf g) (cs : CT) (mt : MT) {q : Int32 × CT} (hf : f_X7_batchTime cs = some q) : Met l yX7_batchTime wsX7_batchTime rm_X7_batchTime (cPre g (cs, mt) [.ref (adr g.1 7 0)]) (cQi g q.1 (q.2, mt)) 4 10356 (gA g) := by
  have i_7 : ∀ w ∈ u_ws RX7 TX7 9, w ∈ wsX7_batchTime := by decide +kernel
  refine x_met (by decide) rfl (Nat.le_of_ble_eq_true rfl) ?_
  intro p e s m below meth c hx hb hr hml hts hown hlocks hK hW hS ls hl
  have hown : s.vm.findClass RX7 = some m.cls := hown
  have hl : lv_has ls 2 [(0, .ref (adr g.1 7 0))] := hl
  rw [f_X7_batchTime] at hf
  refine lv_aload_n hx hb dX7_batchTime_0 rfl (lv_at hl 0 rfl) ?_
  refine lv_iconst (v := 1) hx hb dX7_batchTime_1 (by decide) ?_
  obtain ⟨q1, h_q1, hf⟩ := x_bindE hf
  refine x_ci0 (x_rV ⟨hx, hb, hml, hown, hts⟩ (ct_X7_batchProblem l g hfl cs mt 1 h_q1) (cwV 1 hts gX7_batchTime_X7_batchProblem rfl rfl rfl (by decide +kernel) ⟨Nat.le_of_ble_eq_true rfl, Nat.le_of_ble_eq_true rfl⟩) hK hW hS (x_recv (i := g.1) (k := 7) (j := 0) hK hW ⟨⟨hfl, rfl⟩, by decide⟩ rfl (by decide)) rfl hl.1 (rest := []) rfl (Nat.le_of_ble_eq_true rfl) dX7_batchTime_2 ⟨Nat.le_of_ble_eq_true rfl, Nat.le_of_ble_eq_true rfl⟩) hS (fun H locs hW hS => ?_)
  have hW : World g (cs, mt) H := hW
  refine W.eq (g2 := F0 m 5 ls [.int q1]) rfl ?_
  refine lv_istore_n (lv' := [(1, .int q1), (0, .ref (adr g.1 7 0))]) hx hb dX7_batchTime_5 rfl hl (by decide) rfl (fun ls hl => ?_)
  refine lv_iload_n hx hb dX7_batchTime_6 rfl (lv_at hl 0 rfl) ?_
  refine lv_if_eq (tgt := 14) hx hb dX7_batchTime_7 (by decide) (fun hc => ?_) (fun hc => ?_)
  · have hf := x_iteT hf hc
    refine lv_aload_n hx hb dX7_batchTime_14 rfl (lv_at hl 1 rfl) ?_
    obtain ⟨r, h_r, hf⟩ := x_bindE hf
    refine x_cr (x_rV ⟨hx, hb, hml, hown, hts⟩ (ct_X7_readyPlanner l g hfl cs mt h_r) (cwV 0 hts gX7_batchTime_X7_readyPlanner rfl rfl rfl (by decide +kernel) ⟨Nat.le_of_ble_eq_true rfl, Nat.le_of_ble_eq_true rfl⟩) hK hW hS (x_recv (i := g.1) (k := 7) (j := 0) hK hW ⟨⟨hfl, rfl⟩, by decide⟩ rfl (by decide)) rfl hl.1 (rest := []) rfl (Nat.le_of_ble_eq_true rfl) dX7_batchTime_15 ⟨Nat.le_of_ble_eq_true rfl, Nat.le_of_ble_eq_true rfl⟩) hS (fun H locs hW hS => ?_)
    have hp := ready_pl h_r
    have hW : World g (r.2, mt) H := hW
    refine W.eq (g2 := F0 m 18 ls [.ref (adr r.1 2 0)]) rfl ?_
    refine W.cs (cells' := 4) (slots' := 10356) rfl rfl ?_
    refine lv_aload_n hx hb dX7_batchTime_18 rfl (lv_at hl 1 rfl) ?_
    refine x_get (i := g.1) (k := 7) (j := 0) (t := 3) hx hb hts i_7 hown hK hW ⟨⟨hfl, rfl⟩, by decide⟩ rfl ⟨by decide, by decide, rfl⟩ (hts (.fieldLink RX7 19 "OpticalJukebox" "state" "LOpticalJukebox$State;") (by decide +kernel)) (v := .ref (adr (k_st r.2) 4 0)) rfl dX7_batchTime_19 ?_
    refine lv_iconst (v := -1) hx hb dX7_batchTime_22 (by decide) ?_
    obtain ⟨t1, h_t, hf⟩ := x_bindE hf
    refine x_ci0 (x_rV ⟨hx, hb, hml, hown, hts⟩ (ct_X2_timeWithout l g (r.2, mt) r.1 hp (k_pd r.2) (k_st r.2) hW.2.2.2.1 (k_xs r.2 (k_st r.2)) (-1) h_t) (cwV 2 hts gX7_batchTime_X2_timeWithout rfl rfl rfl (by decide +kernel) ⟨Nat.le_of_ble_eq_true rfl, Nat.le_of_ble_eq_true rfl⟩) hK (w_self_sd hW) hS (x_recv (i := r.1) (k := 2) (j := 0) hK hW ⟨hp, by decide⟩ rfl (by decide)) rfl hl.1 (rest := []) rfl (Nat.le_of_ble_eq_true rfl) dX7_batchTime_23 ⟨Nat.le_of_ble_eq_true rfl, Nat.le_of_ble_eq_true rfl⟩) hS (fun H locs hW hS => ?_)
    have hW : World g (kP r.2 t1.2, mt) H := w_unself_sd (c := kP r.2 t1.2) (i := k_st r.2) hW
    refine W.eq (g2 := F0 m 26 ls [.int t1.1]) rfl ?_
    cases hf
    exact x_iret hx hb hr hlocks hK hW hS rfl dX7_batchTime_26
  · have hf := x_iteF hf hc
    refine lv_iload_n hx hb dX7_batchTime_10 rfl (lv_at hl 0 rfl) ?_
    refine lv_goto (tgt := 26) hx hb dX7_batchTime_11 (by decide) ?_
    refine W.widen (k := 4) (n := 10356) (by decide) (by decide) ?_
    cases hf
    exact x_iret hx hb hr hlocks hK hW hS rfl dX7_batchTime_26
set_option maxRecDepth 20000 in
theorem ggX7_batchExchanges_X7_planBatch : GoodIn wsX7_batchExchanges wsX7_planBatch := goodIn_r _ [6, 7, 8, 9, 10, 5, 11, 12, 13, 14, 15, 16, 17, 18, 19, 20, 21, 22, 23, 24, 25, 26, 27, 28, 29, 30, 31, 32, 33, 34, 35, 36, 37, 38, 39, 40, 41, 42, 43, 44, 45, 46, 47, 48, 49, 50, 51, 52, 53, 54, 55, 56, 57, 58, 59, 60, 61, 62, 63, 64, 65, 66, 67, 68, 69, 70, 71, 72, 73, 74, 75, 76, 77, 78, 79, 80, 81, 82, 83, 84, 85, 86, 87, 88, 89, 90, 91, 92, 93, 94, 95, 96, 97, 98, 99, 100, 101, 102, 103, 104, 105, 106, 107, 108, 109, 110, 111, 112, 113, 114, 115, 116, 117, 118, 119, 120, 121, 122, 123, 124, 125, 126, 127, 128, 129, 130, 131, 132, 133, 134, 135, 136, 137, 138, 139, 140, 141, 142, 143, 144, 145, 152, 153, 154, 155, 156, 157, 158, 159, 160, 161, 162, 163, 164, 165, 166, 167, 168, 169, 170, 171, 172, 173, 174, 175, 176, 177, 178, 179, 180, 181, 182, 183, 184, 185, 186, 187, 188, 189, 190, 191, 192, 193, 194, 146, 147, 148, 149, 150, 151, 195, 196, 197] (by decide +kernel) (by decide +kernel)
set_option maxRecDepth 20000 in
theorem gX7_batchExchanges_X7_planBatch : GoodIn wsX7_batchExchanges (wsV RX7 317 RX7 yX7_planBatch wsX7_planBatch) := goodIn_app (goodIn_of _ (by decide +kernel)) ggX7_batchExchanges_X7_planBatch
set_option maxRecDepth 20000 in
theorem ggX7_batchExchanges_X7_readyPlanner : GoodIn wsX7_batchExchanges wsX7_readyPlanner := goodIn_r _ [47, 48, 49, 50, 51, 52, 53, 54, 55, 56, 57, 58, 59, 60, 61, 62, 152, 153, 154, 155, 156, 157, 158, 159, 160, 146, 147, 148, 149, 150, 151] (by decide +kernel) (by decide +kernel)
set_option maxRecDepth 20000 in
theorem gX7_batchExchanges_X7_readyPlanner : GoodIn wsX7_batchExchanges (wsV RX7 320 RX7 yX7_readyPlanner wsX7_readyPlanner) := goodIn_app (goodIn_of _ (by decide +kernel)) ggX7_batchExchanges_X7_readyPlanner
theorem dX7_batchExchanges_0 : decode cX7_batchExchanges 0 = .ok (.aload_n 0, 1) := by decide +kernel
theorem dX7_batchExchanges_1 : decode cX7_batchExchanges 1 = .ok (.invokevirtual 317, 3) := by decide +kernel
theorem dX7_batchExchanges_4 : decode cX7_batchExchanges 4 = .ok (.istore_n 1, 1) := by decide +kernel
theorem dX7_batchExchanges_5 : decode cX7_batchExchanges 5 = .ok (.iload_n 1, 1) := by decide +kernel
theorem dX7_batchExchanges_6 : decode cX7_batchExchanges 6 = .ok (.ifCond .eq 7, 3) := by decide +kernel
theorem dX7_batchExchanges_9 : decode cX7_batchExchanges 9 = .ok (.iload_n 1, 1) := by decide +kernel
theorem dX7_batchExchanges_10 : decode cX7_batchExchanges 10 = .ok (.goto 10, 3) := by decide +kernel
theorem dX7_batchExchanges_13 : decode cX7_batchExchanges 13 = .ok (.aload_n 0, 1) := by decide +kernel
theorem dX7_batchExchanges_14 : decode cX7_batchExchanges 14 = .ok (.invokevirtual 320, 3) := by decide +kernel
theorem dX7_batchExchanges_17 : decode cX7_batchExchanges 17 = .ok (.getfield 327, 3) := by decide +kernel
theorem dX7_batchExchanges_20 : decode cX7_batchExchanges 20 = .ok (.ireturn, 1) := by decide +kernel
abbrev rm_X7_batchExchanges : Room := { frames := 7, cells := 4, slots := 10356, locals := 180 }
set_option maxRecDepth 100000 in
set_option maxHeartbeats 8000000 in
theorem ct_X7_batchExchanges (l : Launch) (g : GT) (hfl : 1 ≤ gf g) (cs : CT) (mt : MT) {q : Int32 × CT} (hf : f_X7_batchExchanges cs = some q) : Met l yX7_batchExchanges wsX7_batchExchanges rm_X7_batchExchanges (cPre g (cs, mt) [.ref (adr g.1 7 0)]) (cQi g q.1 (q.2, mt)) 4 10356 (gA g) := by
  have i_2 : ∀ w ∈ u_ws RX2 TX2 6, w ∈ wsX7_batchExchanges := by decide +kernel
  have i_7 : ∀ w ∈ u_ws RX7 TX7 9, w ∈ wsX7_batchExchanges := by decide +kernel
  refine x_met (by decide) rfl (Nat.le_of_ble_eq_true rfl) ?_
  intro p e s m below meth c hx hb hr hml hts hown hlocks hK hW hS ls hl
  have hown : s.vm.findClass RX7 = some m.cls := hown
  have hl : lv_has ls 2 [(0, .ref (adr g.1 7 0))] := hl
  rw [f_X7_batchExchanges] at hf
  refine lv_aload_n hx hb dX7_batchExchanges_0 rfl (lv_at hl 0 rfl) ?_
  obtain ⟨q1, h_q1, hf⟩ := x_bindE hf
  refine x_ci (x_rV ⟨hx, hb, hml, hown, hts⟩ (ct_X7_planBatch l g hfl cs mt h_q1) (cwV 0 hts gX7_batchExchanges_X7_planBatch rfl rfl rfl (by decide +kernel) ⟨Nat.le_of_ble_eq_true rfl, Nat.le_of_ble_eq_true rfl⟩) hK hW hS (x_recv (i := g.1) (k := 7) (j := 0) hK hW ⟨⟨hfl, rfl⟩, by decide⟩ rfl (by decide)) rfl hl.1 (rest := []) rfl (Nat.le_of_ble_eq_true rfl) dX7_batchExchanges_1 ⟨Nat.le_of_ble_eq_true rfl, Nat.le_of_ble_eq_true rfl⟩) hS (fun H locs hW hS => ?_)
  have hW : World g (q1.2, mt) H := hW
  refine W.cs (cells' := 4) (slots' := 10356) rfl rfl ?_
  refine W.eq (g2 := F0 m 4 ls [.int q1.1]) rfl ?_
  refine lv_istore_n (lv' := [(1, .int q1.1), (0, .ref (adr g.1 7 0))]) hx hb dX7_batchExchanges_4 rfl hl (by decide) rfl (fun ls hl => ?_)
  refine lv_iload_n hx hb dX7_batchExchanges_5 rfl (lv_at hl 0 rfl) ?_
  refine lv_if_eq (tgt := 13) hx hb dX7_batchExchanges_6 (by decide) (fun hc => ?_) (fun hc => ?_)
  · have hf := x_iteT hf hc
    refine lv_aload_n hx hb dX7_batchExchanges_13 rfl (lv_at hl 1 rfl) ?_
    obtain ⟨r, hp, hf⟩ := x_bindE hf
    refine x_cr0 (x_rV ⟨hx, hb, hml, hown, hts⟩ (ct_X7_readyPlanner0 l g hfl q1.2 mt hp) (cwV 0 hts gX7_batchExchanges_X7_readyPlanner rfl rfl rfl (by decide +kernel) ⟨Nat.le_of_ble_eq_true rfl, Nat.le_of_ble_eq_true rfl⟩) hK hW hS (x_recv (i := g.1) (k := 7) (j := 0) hK hW ⟨⟨hfl, rfl⟩, by decide⟩ rfl (by decide)) rfl hl.1 (rest := []) rfl (Nat.le_of_ble_eq_true rfl) dX7_batchExchanges_14 ⟨Nat.le_of_ble_eq_true rfl, Nat.le_of_ble_eq_true rfl⟩) hS (fun H locs hW hS => ?_)
    have hW : World g (q1.2, mt) H := hW
    refine W.eq (g2 := F0 m 17 ls [.ref (adr r 2 0)]) rfl ?_
    refine x_get (i := r) (k := 2) (j := 0) (t := 3) hx hb hts i_2 hown hK hW ⟨hp, by decide⟩ rfl ⟨by decide, by decide, rfl⟩ (hts (.fieldLink RX7 327 "OpticalJukebox$Planner" "orderLength" "I") (by decide +kernel)) (v := .int (k_pd q1.2 2 0 3)) rfl dX7_batchExchanges_17 ?_
    cases hf
    exact x_iret hx hb hr hlocks hK hW hS rfl dX7_batchExchanges_20
  · have hf := x_iteF hf hc
    refine lv_iload_n hx hb dX7_batchExchanges_9 rfl (lv_at hl 0 rfl) ?_
    refine lv_goto (tgt := 20) hx hb dX7_batchExchanges_10 (by decide) ?_
    cases hf
    exact x_iret hx hb hr hlocks hK hW hS rfl dX7_batchExchanges_20
set_option maxRecDepth 20000 in
theorem ggX7_batchPlatter_X7_planBatch : GoodIn wsX7_batchPlatter wsX7_planBatch := goodIn_r _ [8, 9, 10, 11, 12, 7, 13, 14, 15, 16, 17, 18, 19, 20, 21, 22, 23, 24, 25, 26, 27, 28, 29, 30, 31, 32, 33, 34, 35, 36, 37, 38, 39, 40, 41, 42, 43, 44, 45, 46, 47, 48, 49, 50, 51, 52, 53, 54, 55, 56, 57, 58, 59, 60, 61, 62, 63, 64, 65, 66, 67, 68, 69, 70, 71, 72, 73, 74, 75, 76, 77, 78, 79, 80, 81, 82, 83, 84, 85, 86, 87, 88, 89, 90, 91, 92, 93, 94, 95, 96, 97, 98, 99, 100, 101, 102, 103, 104, 105, 106, 107, 108, 109, 110, 111, 112, 113, 114, 115, 116, 117, 118, 119, 120, 121, 122, 123, 124, 125, 126, 127, 128, 129, 130, 131, 132, 133, 134, 135, 136, 137, 138, 139, 140, 141, 142, 143, 144, 145, 146, 147, 154, 155, 156, 157, 158, 159, 160, 161, 162, 163, 164, 165, 166, 167, 168, 169, 170, 171, 172, 173, 174, 175, 176, 177, 178, 179, 180, 181, 182, 183, 184, 185, 186, 187, 188, 189, 190, 191, 192, 193, 194, 195, 196, 148, 149, 150, 151, 152, 153, 197, 198, 199] (by decide +kernel) (by decide +kernel)
set_option maxRecDepth 20000 in
theorem gX7_batchPlatter_X7_planBatch : GoodIn wsX7_batchPlatter (wsV RX7 317 RX7 yX7_planBatch wsX7_planBatch) := goodIn_app (goodIn_of _ (by decide +kernel)) ggX7_batchPlatter_X7_planBatch
set_option maxRecDepth 20000 in
theorem ggX7_batchPlatter_X7_readyPlanner : GoodIn wsX7_batchPlatter wsX7_readyPlanner := goodIn_r _ [49, 50, 51, 52, 53, 54, 55, 56, 57, 58, 59, 60, 61, 62, 63, 64, 154, 155, 156, 157, 158, 159, 160, 161, 162, 148, 149, 150, 151, 152, 153] (by decide +kernel) (by decide +kernel)
set_option maxRecDepth 20000 in
theorem gX7_batchPlatter_X7_readyPlanner : GoodIn wsX7_batchPlatter (wsV RX7 320 RX7 yX7_readyPlanner wsX7_readyPlanner) := goodIn_app (goodIn_of _ (by decide +kernel)) ggX7_batchPlatter_X7_readyPlanner
theorem dX7_batchPlatter_0 : decode cX7_batchPlatter 0 = .ok (.aload_n 0, 1) := by decide +kernel
theorem dX7_batchPlatter_1 : decode cX7_batchPlatter 1 = .ok (.invokevirtual 317, 3) := by decide +kernel
theorem dX7_batchPlatter_4 : decode cX7_batchPlatter 4 = .ok (.istore_n 2, 1) := by decide +kernel
theorem dX7_batchPlatter_5 : decode cX7_batchPlatter 5 = .ok (.iload_n 2, 1) := by decide +kernel
theorem dX7_batchPlatter_6 : decode cX7_batchPlatter 6 = .ok (.ifCond .eq 5, 3) := by decide +kernel
theorem dX7_batchPlatter_9 : decode cX7_batchPlatter 9 = .ok (.iload_n 2, 1) := by decide +kernel
theorem dX7_batchPlatter_10 : decode cX7_batchPlatter 10 = .ok (.ireturn, 1) := by decide +kernel
theorem dX7_batchPlatter_11 : decode cX7_batchPlatter 11 = .ok (.aload_n 0, 1) := by decide +kernel
theorem dX7_batchPlatter_12 : decode cX7_batchPlatter 12 = .ok (.invokevirtual 320, 3) := by decide +kernel
theorem dX7_batchPlatter_15 : decode cX7_batchPlatter 15 = .ok (.astore_n 3, 1) := by decide +kernel
theorem dX7_batchPlatter_16 : decode cX7_batchPlatter 16 = .ok (.iload_n 1, 1) := by decide +kernel
theorem dX7_batchPlatter_17 : decode cX7_batchPlatter 17 = .ok (.ifCond .lt 11, 3) := by decide +kernel
theorem dX7_batchPlatter_20 : decode cX7_batchPlatter 20 = .ok (.iload_n 1, 1) := by decide +kernel
theorem dX7_batchPlatter_21 : decode cX7_batchPlatter 21 = .ok (.aload_n 3, 1) := by decide +kernel
theorem dX7_batchPlatter_22 : decode cX7_batchPlatter 22 = .ok (.getfield 327, 3) := by decide +kernel
theorem dX7_batchPlatter_25 : decode cX7_batchPlatter 25 = .ok (.if_icmp .lt 8, 3) := by decide +kernel
theorem dX7_batchPlatter_28 : decode cX7_batchPlatter 28 = .ok (.ldc 87, 2) := by decide +kernel
theorem dX7_batchPlatter_30 : decode cX7_batchPlatter 30 = .ok (.goto 9, 3) := by decide +kernel
theorem dX7_batchPlatter_33 : decode cX7_batchPlatter 33 = .ok (.aload_n 3, 1) := by decide +kernel
theorem dX7_batchPlatter_34 : decode cX7_batchPlatter 34 = .ok (.getfield 332, 3) := by decide +kernel
theorem dX7_batchPlatter_37 : decode cX7_batchPlatter 37 = .ok (.iload_n 1, 1) := by decide +kernel
theorem dX7_batchPlatter_38 : decode cX7_batchPlatter 38 = .ok (.iaload, 1) := by decide +kernel
theorem dX7_batchPlatter_39 : decode cX7_batchPlatter 39 = .ok (.ireturn, 1) := by decide +kernel
abbrev rm_X7_batchPlatter : Room := { frames := 7, cells := 4, slots := 10356, locals := 180 }
set_option maxRecDepth 100000 in
set_option maxHeartbeats 8000000 in
theorem ct_X7_batchPlatter (l : Launch) (g : GT) (hfl : 1 ≤ gf g) (cs : CT) (mt : MT) (a1 : Int32) {q : Int32 × CT} (hf : f_X7_batchPlatter cs a1 = some q) : Met l yX7_batchPlatter wsX7_batchPlatter rm_X7_batchPlatter (cPre g (cs, mt) [.ref (adr g.1 7 0), .int a1]) (cQi g q.1 (q.2, mt)) 4 10356 (gA g) := by
  have i_2 : ∀ w ∈ u_ws RX2 TX2 6, w ∈ wsX7_batchPlatter := by decide +kernel
  have i_7 : ∀ w ∈ u_ws RX7 TX7 9, w ∈ wsX7_batchPlatter := by decide +kernel
  refine x_met (by decide) rfl (Nat.le_of_ble_eq_true rfl) ?_
  intro p e s m below meth c hx hb hr hml hts hown hlocks hK hW hS ls hl
  have hown : s.vm.findClass RX7 = some m.cls := hown
  have hl : lv_has ls 4 [(0, .ref (adr g.1 7 0)), (1, .int a1)] := hl
  rw [f_X7_batchPlatter] at hf
  refine lv_aload_n hx hb dX7_batchPlatter_0 rfl (lv_at hl 0 rfl) ?_
  obtain ⟨q1, h_q1, hf⟩ := x_bindE hf
  refine x_ci (x_rV ⟨hx, hb, hml, hown, hts⟩ (ct_X7_planBatch l g hfl cs mt h_q1) (cwV 0 hts gX7_batchPlatter_X7_planBatch rfl rfl rfl (by decide +kernel) ⟨Nat.le_of_ble_eq_true rfl, Nat.le_of_ble_eq_true rfl⟩) hK hW hS (x_recv (i := g.1) (k := 7) (j := 0) hK hW ⟨⟨hfl, rfl⟩, by decide⟩ rfl (by decide)) rfl hl.1 (rest := []) rfl (Nat.le_of_ble_eq_true rfl) dX7_batchPlatter_1 ⟨Nat.le_of_ble_eq_true rfl, Nat.le_of_ble_eq_true rfl⟩) hS (fun H locs hW hS => ?_)
  have hW : World g (q1.2, mt) H := hW
  refine W.cs (cells' := 4) (slots' := 10356) rfl rfl ?_
  refine W.eq (g2 := F0 m 4 ls [.int q1.1]) rfl ?_
  refine lv_istore_n (lv' := [(2, .int q1.1), (0, .ref (adr g.1 7 0)), (1, .int a1)]) hx hb dX7_batchPlatter_4 rfl hl (by decide) rfl (fun ls hl => ?_)
  refine lv_iload_n hx hb dX7_batchPlatter_5 rfl (lv_at hl 0 rfl) ?_
  refine lv_if_eq (tgt := 11) hx hb dX7_batchPlatter_6 (by decide) (fun hc => ?_) (fun hc => ?_)
  · have hf := x_iteT hf hc
    refine lv_aload_n hx hb dX7_batchPlatter_11 rfl (lv_at hl 1 rfl) ?_
    obtain ⟨r, hp, hf⟩ := x_bindE hf
    refine x_cr0 (x_rV ⟨hx, hb, hml, hown, hts⟩ (ct_X7_readyPlanner0 l g hfl q1.2 mt hp) (cwV 0 hts gX7_batchPlatter_X7_readyPlanner rfl rfl rfl (by decide +kernel) ⟨Nat.le_of_ble_eq_true rfl, Nat.le_of_ble_eq_true rfl⟩) hK hW hS (x_recv (i := g.1) (k := 7) (j := 0) hK hW ⟨⟨hfl, rfl⟩, by decide⟩ rfl (by decide)) rfl hl.1 (rest := []) rfl (Nat.le_of_ble_eq_true rfl) dX7_batchPlatter_12 ⟨Nat.le_of_ble_eq_true rfl, Nat.le_of_ble_eq_true rfl⟩) hS (fun H locs hW hS => ?_)
    have hW : World g (q1.2, mt) H := hW
    refine W.eq (g2 := F0 m 15 ls [.ref (adr r 2 0)]) rfl ?_
    refine lv_astore_n (lv' := [(3, .ref (adr r 2 0)), (2, .int q1.1), (0, .ref (adr g.1 7 0)), (1, .int a1)]) hx hb dX7_batchPlatter_15 rfl hl (by decide) rfl (fun ls hl => ?_)
    refine lv_iload_n hx hb dX7_batchPlatter_16 rfl (lv_at hl 3 rfl) ?_
    refine lv_if_lt (tgt := 28) hx hb dX7_batchPlatter_17 (by decide) (fun hc => ?_) (fun hc => ?_)
    · have hf := x_iteT hf hc
      refine lv_ldc (v := -1000001) hx hb hown (hts (.constant RX7 87 (-1000001)) (by decide +kernel)) dX7_batchPlatter_28 ?_
      refine lv_goto (tgt := 39) hx hb dX7_batchPlatter_30 (by decide) ?_
      cases hf
      exact x_iret hx hb hr hlocks hK hW hS rfl dX7_batchPlatter_39
    · have hf := x_iteF hf hc
      refine lv_iload_n hx hb dX7_batchPlatter_20 rfl (lv_at hl 3 rfl) ?_
      refine lv_aload_n hx hb dX7_batchPlatter_21 rfl (lv_at hl 0 rfl) ?_
      refine x_get (i := r) (k := 2) (j := 0) (t := 3) hx hb hts i_2 hown hK hW ⟨hp, by decide⟩ rfl ⟨by decide, by decide, rfl⟩ (hts (.fieldLink RX7 327 "OpticalJukebox$Planner" "orderLength" "I") (by decide +kernel)) (v := .int (k_pd q1.2 2 0 3)) rfl dX7_batchPlatter_22 ?_
      refine lv_icmp_lt (tgt := 33) hx hb dX7_batchPlatter_25 (by decide) (fun hc => ?_) (fun hc => ?_)
      · have hf := x_iteT hf hc
        refine lv_aload_n hx hb dX7_batchPlatter_33 rfl (lv_at hl 0 rfl) ?_
        refine x_get (i := r) (k := 2) (j := 0) (t := 2) hx hb hts i_2 hown hK hW ⟨hp, by decide⟩ rfl ⟨by decide, by decide, rfl⟩ (hts (.fieldLink RX7 332 "OpticalJukebox$Planner" "order" "[I") (by decide +kernel)) (v := .ref (adr r 25 0)) rfl dX7_batchPlatter_34 ?_
        refine lv_iload_n hx hb dX7_batchPlatter_37 rfl (lv_at hl 3 rfl) ?_
        obtain ⟨hg1, hf⟩ := x_guardE hf
        refine x_iald (i := r) (k := 25) (j := 0) (f := k_pd q1.2 25 0) hx hb hK hW ⟨hp, by decide⟩ (by decide) rfl rfl hg1 dX7_batchPlatter_38 ?_
        cases hf
        exact x_iret hx hb hr hlocks hK hW hS rfl dX7_batchPlatter_39
      · have hf := x_iteF hf hc
        refine lv_ldc (v := -1000001) hx hb hown (hts (.constant RX7 87 (-1000001)) (by decide +kernel)) dX7_batchPlatter_28 ?_
        refine lv_goto (tgt := 39) hx hb dX7_batchPlatter_30 (by decide) ?_
        cases hf
        exact x_iret hx hb hr hlocks hK hW hS rfl dX7_batchPlatter_39
  · have hf := x_iteF hf hc
    refine lv_iload_n hx hb dX7_batchPlatter_9 rfl (lv_at hl 0 rfl) ?_
    cases hf
    exact x_iret hx hb hr hlocks hK hW hS rfl dX7_batchPlatter_10
set_option maxRecDepth 20000 in
theorem ggX7_leastTimeWithoutOne_X7_batchProblem : GoodIn wsX7_leastTimeWithoutOne wsX7_batchProblem := goodIn_r _ [12, 2, 3, 13, 14, 15, 16, 17, 18, 19, 20, 21, 22, 23, 24, 25, 26, 27, 28, 29, 30, 31, 32, 33, 34, 35, 36, 37, 38, 39, 40, 41, 42, 43, 144, 145, 146, 147, 148, 149, 150, 151, 152, 153, 154, 155, 156, 157, 158, 159, 160, 161, 162, 163, 164, 165, 166, 167, 168, 169, 170, 171, 172, 173, 174, 175, 176, 177, 178, 179, 180, 181, 182, 183, 184, 185, 186] (by decide +kernel) (by decide +kernel)
set_option maxRecDepth 20000 in
theorem gX7_leastTimeWithoutOne_X7_batchProblem : GoodIn wsX7_leastTimeWithoutOne (wsV RX7 355 RX7 yX7_batchProblem wsX7_batchProblem) := goodIn_app (goodIn_of _ (by decide +kernel)) ggX7_leastTimeWithoutOne_X7_batchProblem
set_option maxRecDepth 20000 in
theorem ggX7_leastTimeWithoutOne_X7_readyPlanner : GoodIn wsX7_leastTimeWithoutOne wsX7_readyPlanner := goodIn_r _ [47, 48, 49, 50, 51, 52, 53, 54, 55, 56, 57, 58, 59, 60, 61, 62, 144, 145, 146, 147, 148, 149, 150, 151, 152, 187, 188, 189, 190, 191, 192] (by decide +kernel) (by decide +kernel)
set_option maxRecDepth 20000 in
theorem gX7_leastTimeWithoutOne_X7_readyPlanner : GoodIn wsX7_leastTimeWithoutOne (wsV RX7 320 RX7 yX7_readyPlanner wsX7_readyPlanner) := goodIn_app (goodIn_of _ (by decide +kernel)) ggX7_leastTimeWithoutOne_X7_readyPlanner
set_option maxRecDepth 20000 in
theorem ggX7_leastTimeWithoutOne_X2_timeWithout : GoodIn wsX7_leastTimeWithoutOne wsX2_timeWithout := goodIn_r _ [66, 67, 68, 69, 21, 70, 71, 72, 35, 23, 24, 25, 26, 27, 28, 73, 74, 75, 76, 77, 78, 79, 80, 81, 82, 83, 84, 85, 86, 87, 88, 89, 90, 91, 92, 51, 93, 62, 94, 58, 95, 5, 6, 7, 96, 97, 98, 99, 100, 101, 102, 103, 104, 105, 106, 107, 108, 109, 110, 111, 112, 59, 113, 114, 115, 116, 117, 118, 119, 120, 121, 122, 123, 124, 125, 126, 127, 128, 129, 130, 131, 34, 132, 133, 134, 135, 136, 137, 138, 139, 140, 141, 142, 143, 153, 154, 155, 156, 157, 158, 159, 160, 161, 162, 163, 164, 165, 166, 167, 168, 169, 170, 171, 172, 173, 174, 175, 176, 177, 193, 194, 195, 187, 188, 189, 190, 191, 192, 178, 179, 180, 181, 182, 183, 184, 185, 186] (by decide +kernel) (by decide +kernel)
set_option maxRecDepth 20000 in
theorem gX7_leastTimeWithoutOne_X2_timeWithout : GoodIn wsX7_leastTimeWithoutOne (wsV RX7 358 RX2 yX2_timeWithout wsX2_timeWithout) := goodIn_app (goodIn_of _ (by decide +kernel)) ggX7_leastTimeWithoutOne_X2_timeWithout
theorem dX7_leastTimeWithoutOne_0 : decode cX7_leastTimeWithoutOne 0 = .ok (.aload_n 0, 1) := by decide +kernel
theorem dX7_leastTimeWithoutOne_1 : decode cX7_leastTimeWithoutOne 1 = .ok (.iconst 2, 1) := by decide +kernel
theorem dX7_leastTimeWithoutOne_2 : decode cX7_leastTimeWithoutOne 2 = .ok (.invokevirtual 355, 3) := by decide +kernel
theorem dX7_leastTimeWithoutOne_5 : decode cX7_leastTimeWithoutOne 5 = .ok (.istore_n 1, 1) := by decide +kernel
theorem dX7_leastTimeWithoutOne_6 : decode cX7_leastTimeWithoutOne 6 = .ok (.iload_n 1, 1) := by decide +kernel
theorem dX7_leastTimeWithoutOne_7 : decode cX7_leastTimeWithoutOne 7 = .ok (.ifCond .eq 5, 3) := by decide +kernel
theorem dX7_leastTimeWithoutOne_10 : decode cX7_leastTimeWithoutOne 10 = .ok (.iload_n 1, 1) := by decide +kernel
theorem dX7_leastTimeWithoutOne_11 : decode cX7_leastTimeWithoutOne 11 = .ok (.ireturn, 1) := by decide +kernel
theorem dX7_leastTimeWithoutOne_12 : decode cX7_leastTimeWithoutOne 12 = .ok (.aload_n 0, 1) := by decide +kernel
theorem dX7_leastTimeWithoutOne_13 : decode cX7_leastTimeWithoutOne 13 = .ok (.invokevirtual 320, 3) := by decide +kernel
theorem dX7_leastTimeWithoutOne_16 : decode cX7_leastTimeWithoutOne 16 = .ok (.astore_n 2, 1) := by decide +kernel
theorem dX7_leastTimeWithoutOne_17 : decode cX7_leastTimeWithoutOne 17 = .ok (.ldc_w 367, 3) := by decide +kernel
theorem dX7_leastTimeWithoutOne_20 : decode cX7_leastTimeWithoutOne 20 = .ok (.istore_n 3, 1) := by decide +kernel
theorem dX7_leastTimeWithoutOne_21 : decode cX7_leastTimeWithoutOne 21 = .ok (.iconst 0, 1) := by decide +kernel
theorem dX7_leastTimeWithoutOne_22 : decode cX7_leastTimeWithoutOne 22 = .ok (.istore 4, 2) := by decide +kernel
theorem dX7_leastTimeWithoutOne_24 : decode cX7_leastTimeWithoutOne 24 = .ok (.iload 4, 2) := by decide +kernel
theorem dX7_leastTimeWithoutOne_26 : decode cX7_leastTimeWithoutOne 26 = .ok (.aload_n 0, 1) := by decide +kernel
theorem dX7_leastTimeWithoutOne_27 : decode cX7_leastTimeWithoutOne 27 = .ok (.getfield 19, 3) := by decide +kernel
theorem dX7_leastTimeWithoutOne_30 : decode cX7_leastTimeWithoutOne 30 = .ok (.getfield 305, 3) := by decide +kernel
theorem dX7_leastTimeWithoutOne_33 : decode cX7_leastTimeWithoutOne 33 = .ok (.if_icmp .ge 24, 3) := by decide +kernel
theorem dX7_leastTimeWithoutOne_36 : decode cX7_leastTimeWithoutOne 36 = .ok (.iload_n 3, 1) := by decide +kernel
theorem dX7_leastTimeWithoutOne_37 : decode cX7_leastTimeWithoutOne 37 = .ok (.aload_n 2, 1) := by decide +kernel
theorem dX7_leastTimeWithoutOne_38 : decode cX7_leastTimeWithoutOne 38 = .ok (.aload_n 0, 1) := by decide +kernel
theorem dX7_leastTimeWithoutOne_39 : decode cX7_leastTimeWithoutOne 39 = .ok (.getfield 19, 3) := by decide +kernel
theorem dX7_leastTimeWithoutOne_42 : decode cX7_leastTimeWithoutOne 42 = .ok (.iload 4, 2) := by decide +kernel
theorem dX7_leastTimeWithoutOne_44 : decode cX7_leastTimeWithoutOne 44 = .ok (.invokevirtual 358, 3) := by decide +kernel
theorem dX7_leastTimeWithoutOne_47 : decode cX7_leastTimeWithoutOne 47 = .ok (.invokestatic 368, 3) := by decide +kernel
theorem dX7_leastTimeWithoutOne_50 : decode cX7_leastTimeWithoutOne 50 = .ok (.istore_n 3, 1) := by decide +kernel
theorem dX7_leastTimeWithoutOne_51 : decode cX7_leastTimeWithoutOne 51 = .ok (.iinc 4 1, 3) := by decide +kernel
theorem dX7_leastTimeWithoutOne_54 : decode cX7_leastTimeWithoutOne 54 = .ok (.goto (-30), 3) := by decide +kernel
theorem dX7_leastTimeWithoutOne_57 : decode cX7_leastTimeWithoutOne 57 = .ok (.iload_n 3, 1) := by decide +kernel
theorem dX7_leastTimeWithoutOne_58 : decode cX7_leastTimeWithoutOne 58 = .ok (.ireturn, 1) := by decide +kernel
abbrev rm_X7_leastTimeWithoutOne : Room := { frames := 6, cells := 4, slots := 10356, locals := 150 }
set_option maxRecDepth 100000 in
set_option maxHeartbeats 8000000 in
theorem ct_X7_leastTimeWithoutOne (l : Launch) (g : GT) (hfl : 1 ≤ gf g) (cs : CT) (mt : MT) {q : Int32 × CT} (hf : f_X7_leastTimeWithoutOne cs = some q) : Met l yX7_leastTimeWithoutOne wsX7_leastTimeWithoutOne rm_X7_leastTimeWithoutOne (cPre g (cs, mt) [.ref (adr g.1 7 0)]) (cQi g q.1 (q.2, mt)) 4 10356 (gA g) := by
  have i_4 : ∀ w ∈ u_ws RX4 TX4 18, w ∈ wsX7_leastTimeWithoutOne := by decide +kernel
  have i_7 : ∀ w ∈ u_ws RX7 TX7 9, w ∈ wsX7_leastTimeWithoutOne := by decide +kernel
  refine x_met (by decide) rfl (Nat.le_of_ble_eq_true rfl) ?_
  intro p e s m below meth c hx hb hr hml hts hown hlocks hK hW hS ls hl
  have hown : s.vm.findClass RX7 = some m.cls := hown
  have hl : lv_has ls 5 [(0, .ref (adr g.1 7 0))] := hl
  rw [f_X7_leastTimeWithoutOne] at hf
  refine lv_aload_n hx hb dX7_leastTimeWithoutOne_0 rfl (lv_at hl 0 rfl) ?_
  refine lv_iconst (v := 2) hx hb dX7_leastTimeWithoutOne_1 (by decide) ?_
  obtain ⟨q1, h_q1, hf⟩ := x_bindE hf
  refine x_ci0 (x_rV ⟨hx, hb, hml, hown, hts⟩ (ct_X7_batchProblem l g hfl cs mt 2 h_q1) (cwV 1 hts gX7_leastTimeWithoutOne_X7_batchProblem rfl rfl rfl (by decide +kernel) ⟨Nat.le_of_ble_eq_true rfl, Nat.le_of_ble_eq_true rfl⟩) hK hW hS (x_recv (i := g.1) (k := 7) (j := 0) hK hW ⟨⟨hfl, rfl⟩, by decide⟩ rfl (by decide)) rfl hl.1 (rest := []) rfl (Nat.le_of_ble_eq_true rfl) dX7_leastTimeWithoutOne_2 ⟨Nat.le_of_ble_eq_true rfl, Nat.le_of_ble_eq_true rfl⟩) hS (fun H locs hW hS => ?_)
  have hW : World g (cs, mt) H := hW
  refine W.eq (g2 := F0 m 5 ls [.int q1]) rfl ?_
  refine lv_istore_n (lv' := [(1, .int q1), (0, .ref (adr g.1 7 0))]) hx hb dX7_leastTimeWithoutOne_5 rfl hl (by decide) rfl (fun ls hl => ?_)
  refine lv_iload_n hx hb dX7_leastTimeWithoutOne_6 rfl (lv_at hl 0 rfl) ?_
  refine lv_if_eq (tgt := 12) hx hb dX7_leastTimeWithoutOne_7 (by decide) (fun hc => ?_) (fun hc => ?_)
  · have hf := x_iteT hf hc
    refine lv_aload_n hx hb dX7_leastTimeWithoutOne_12 rfl (lv_at hl 1 rfl) ?_
    obtain ⟨r, h_r, hf⟩ := x_bindE hf
    refine x_cr (x_rV ⟨hx, hb, hml, hown, hts⟩ (ct_X7_readyPlanner l g hfl cs mt h_r) (cwV 0 hts gX7_leastTimeWithoutOne_X7_readyPlanner rfl rfl rfl (by decide +kernel) ⟨Nat.le_of_ble_eq_true rfl, Nat.le_of_ble_eq_true rfl⟩) hK hW hS (x_recv (i := g.1) (k := 7) (j := 0) hK hW ⟨⟨hfl, rfl⟩, by decide⟩ rfl (by decide)) rfl hl.1 (rest := []) rfl (Nat.le_of_ble_eq_true rfl) dX7_leastTimeWithoutOne_13 ⟨Nat.le_of_ble_eq_true rfl, Nat.le_of_ble_eq_true rfl⟩) hS (fun H locs hW hS => ?_)
    have hp := ready_pl h_r
    have hW : World g (r.2, mt) H := hW
    refine W.eq (g2 := F0 m 16 ls [.ref (adr r.1 2 0)]) rfl ?_
    refine W.cs (cells' := 4) (slots' := 10356) rfl rfl ?_
    refine lv_astore_n (lv' := [(2, .ref (adr r.1 2 0)), (1, .int q1), (0, .ref (adr g.1 7 0))]) hx hb dX7_leastTimeWithoutOne_16 rfl hl (by decide) rfl (fun ls hl => ?_)
    refine lv_ldcw (v := 2147483647) hx hb hown (hts (.constant RX7 367 (2147483647)) (by decide +kernel)) dX7_leastTimeWithoutOne_17 ?_
    refine lv_istore_n (lv' := [(3, .int (2147483647 : Int32)), (2, .ref (adr r.1 2 0)), (1, .int q1), (0, .ref (adr g.1 7 0))]) hx hb dX7_leastTimeWithoutOne_20 rfl hl (by decide) rfl (fun ls hl => ?_)
    refine lv_iconst (v := 0) hx hb dX7_leastTimeWithoutOne_21 (by decide) ?_
    refine lv_istore (lv' := [(4, .int (0 : Int32)), (3, .int (2147483647 : Int32)), (2, .ref (adr r.1 2 0)), (1, .int q1), (0, .ref (adr g.1 7 0))]) hx hb dX7_leastTimeWithoutOne_22 hl (by decide) rfl (fun ls hl => ?_)
    obtain ⟨t1, h_t, hf⟩ := x_bindE hf
    cases hf
    have L24 : ∀ (n : Nat) (pd : SD) (v3 v4 : Int32) (ls : Array Slot) (H : Heap) (locs : List Loc), lv_has ls 5 [(4, .int v4), (3, .int v3), (2, .ref (adr r.1 2 0)), (1, .int q1), (0, .ref (adr g.1 7 0))] → World g (kP r.2 pd, mt) H → va_S (gA g) s.heap H locs → f_X7_leastTimeWithoutOne_L (k_xs r.2 (k_st r.2)) n pd v3 v4 = some t1 → W p l e rm_X7_leastTimeWithoutOne s m [.ref (adr g.1 7 0)].toArray below meth c H locs 4 10356 (MQ below (cQi g t1.1 (kP r.2 t1.2, mt)) [.ref (adr g.1 7 0)].toArray s 4 10356 (gA g)) (F0 m 24 ls []) := by
      clear hW hS hl
      intro n
      induction n with
      | zero => intro pd v3 v4 ls H locs hl hW hS hf; cases hf
      | succ n ih =>
        intro pd v3 v4 ls H locs hl hW hS hf
        rw [f_X7_leastTimeWithoutOne_L] at hf
        refine lv_iload hx hb dX7_leastTimeWithoutOne_24 (lv_at hl 0 rfl) ?_
        refine lv_aload_n hx hb dX7_leastTimeWithoutOne_26 rfl (lv_at hl 4 rfl) ?_
        refine x_get (i := g.1) (k := 7) (j := 0) (t := 3) hx hb hts i_7 hown hK hW ⟨⟨hfl, rfl⟩, by decide⟩ rfl ⟨by decide, by decide, rfl⟩ (hts (.fieldLink RX7 19 "OpticalJukebox" "state" "LOpticalJukebox$State;") (by decide +kernel)) (v := .ref (adr (k_st r.2) 4 0)) rfl dX7_leastTimeWithoutOne_27 ?_
        refine x_get (i := (k_st r.2)) (k := 4) (j := 0) (t := 13) hx hb hts i_4 hown hK hW ⟨hW.2.2.2.1, by decide⟩ rfl ⟨by decide, by decide, rfl⟩ (hts (.fieldLink RX7 305 "OpticalJukebox$State" "requestCount" "I") (by decide +kernel)) (v := .int (k_xs r.2 (k_st r.2) 4 0 13)) rfl dX7_leastTimeWithoutOne_30 ?_
        refine lv_icmp_ge (tgt := 57) hx hb dX7_leastTimeWithoutOne_33 (by decide) (fun hc => ?_) (fun hc => ?_)
        · have hf := x_iteT hf hc
          refine lv_iload_n hx hb dX7_leastTimeWithoutOne_57 rfl (lv_at hl 1 rfl) ?_
          cases hf
          exact x_iret hx hb hr hlocks hK hW hS rfl dX7_leastTimeWithoutOne_58
        · have hf := x_iteF hf hc
          obtain ⟨t2, h_t2, hf⟩ := x_bindE hf
          obtain ⟨v5, e_v5, hf⟩ := x_letE hf
          refine lv_iload_n hx hb dX7_leastTimeWithoutOne_36 rfl (lv_at hl 1 rfl) ?_
          refine lv_aload_n hx hb dX7_leastTimeWithoutOne_37 rfl (lv_at hl 2 rfl) ?_
          refine lv_aload_n hx hb dX7_leastTimeWithoutOne_38 rfl (lv_at hl 4 rfl) ?_
          refine x_get (i := g.1) (k := 7) (j := 0) (t := 3) hx hb hts i_7 hown hK hW ⟨⟨hfl, rfl⟩, by decide⟩ rfl ⟨by decide, by decide, rfl⟩ (hts (.fieldLink RX7 19 "OpticalJukebox" "state" "LOpticalJukebox$State;") (by decide +kernel)) (v := .ref (adr (k_st r.2) 4 0)) rfl dX7_leastTimeWithoutOne_39 ?_
          refine lv_iload hx hb dX7_leastTimeWithoutOne_42 (lv_at hl 0 rfl) ?_
          refine x_ci0 (x_rV ⟨hx, hb, hml, hown, hts⟩ (ct_X2_timeWithout l g (r.2, mt) r.1 hp pd (k_st r.2) hW.2.2.2.1 (k_xs r.2 (k_st r.2)) v4 h_t2) (cwV 2 hts gX7_leastTimeWithoutOne_X2_timeWithout rfl rfl rfl (by decide +kernel) ⟨Nat.le_of_ble_eq_true rfl, Nat.le_of_ble_eq_true rfl⟩) hK (w_self_sd (c := kP r.2 pd) hW) hS (x_recv (i := r.1) (k := 2) (j := 0) hK hW ⟨hp, by decide⟩ rfl (by decide)) rfl hl.1 (rest := [.int v3]) rfl (Nat.le_of_ble_eq_true rfl) dX7_leastTimeWithoutOne_44 ⟨Nat.le_of_ble_eq_true rfl, Nat.le_of_ble_eq_true rfl⟩) hS (fun H locs hW hS => ?_)
          have hW : World g (kP r.2 t2.2, mt) H := w_unself_sd (c := kP r.2 t2.2) (i := k_st r.2) hW
          refine W.eq (g2 := F0 m 47 ls [.int t2.1, .int v3]) rfl ?_
          refine va_mmin hx hb (hml.trans hl.1.symm) hown (hts (.methodLink RX7 368 Lib.Math.min.name) (by decide +kernel)) (hts (.static Lib.Math.min.name) (by decide +kernel)) (hts (.initialized "java/lang/Math") (by decide +kernel)) (hts (.code Lib.Math.min.name Lib.Math.min.code 2 (some .int)) (by decide +kernel)) (Nat.le_of_ble_eq_true rfl) (Nat.le_of_ble_eq_true rfl) (Nat.le_of_ble_eq_true rfl) (Nat.le_of_ble_eq_true rfl) dX7_leastTimeWithoutOne_47 ?_
          refine W.eq (g2 := F0 m 50 ls [.int (if t2.1 < v3 then t2.1 else v3)]) rfl ?_
          refine lv_istore_n (lv' := [(3, .int (if t2.1 < v3 then t2.1 else v3)), (4, .int v4), (2, .ref (adr r.1 2 0)), (1, .int q1), (0, .ref (adr g.1 7 0))]) hx hb dX7_leastTimeWithoutOne_50 rfl hl (by decide) rfl (fun ls hl => ?_)
          refine lv_iinc (v := v5) (lv' := [(4, .int v5), (3, .int (if t2.1 < v3 then t2.1 else v3)), (2, .ref (adr r.1 2 0)), (1, .int q1), (0, .ref (adr g.1 7 0))]) hx hb dX7_leastTimeWithoutOne_51 hl (k := 1) rfl (by rw [e_v5]; rfl) (by decide) rfl (fun ls hl => ?_)
          refine lv_goto (tgt := 24) hx hb dX7_leastTimeWithoutOne_54 (by decide) ?_
          exact ih _ _ _ ls _ _ hl hW hS hf
    exact L24 fuel _ _ _ ls _ _ hl hW hS h_t
  · have hf := x_iteF hf hc
    refine lv_iload_n hx hb dX7_leastTimeWithoutOne_10 rfl (lv_at hl 0 rfl) ?_
    refine W.widen (k := 4) (n := 10356) (by decide) (by decide) ?_
    cases hf
    exact x_iret hx hb hr hlocks hK hW hS rfl dX7_leastTimeWithoutOne_11
theorem remember_pl {cs q : CT} (hf : f_X7_remember cs = some q) : k_pl q = k_pl cs := by
  have hk : ∀ {c q : CT} {i : Nat}, f_X1_keep_c c i = some q → k_pl q = k_pl c := by
    intro c q i hf
    rw [f_X1_keep_c] at hf
    obtain ⟨-, hf⟩ := x_guardE hf
    obtain ⟨sd, -, hf⟩ := x_bindE hf
    obtain ⟨c1, e1, hf⟩ := x_letE hf
    have h1 : k_pl c1 = k_pl c := by rw [e1]
    split at hf
    · cases hf; exact h1
    · cases hf; exact h1
  rw [f_X7_remember] at hf
  obtain ⟨c1, h1, hf⟩ := x_bindE hf
  have e1 : k_pl c1 = k_pl cs := by
    rw [f_X1_keep] at h1
    obtain ⟨p, -, h1⟩ := x_letE h1
    obtain ⟨-, h1⟩ := x_guardE h1
    split at h1
    · exact hk h1
    · obtain ⟨c2, h2, h1⟩ := x_bindE h1
      obtain ⟨c3, e3, h1⟩ := x_letE h1
      rw [f_newState] at h2
      obtain ⟨sd, -, h2⟩ := x_bindE h2
      cases h2
      exact (hk h1).trans (by first | rfl | (rw [e3]; rfl))
  unfold f_X7_forgetPlan at hf
  cases hpl : k_pl c1 with
  | none => rw [hpl] at hf; cases hf; rw [← e1]
  | some pi =>
    rw [hpl] at hf
    obtain ⟨pd, -, hf⟩ := x_bindE hf
    cases hf
    rw [← e1]
set_option maxRecDepth 20000 in
theorem ggX7_serveBatch_X7_planBatch : GoodIn wsX7_serveBatch wsX7_planBatch := goodIn_r _ [11, 1, 12, 13, 14, 10, 15, 6, 16, 17, 18, 19, 20, 21, 22, 23, 24, 25, 26, 27, 28, 29, 30, 31, 32, 33, 34, 35, 36, 37, 38, 39, 40, 41, 42, 43, 44, 45, 46, 47, 48, 49, 50, 51, 52, 53, 54, 55, 56, 57, 58, 59, 60, 61, 62, 63, 64, 65, 66, 67, 68, 69, 70, 71, 72, 73, 74, 75, 76, 77, 78, 79, 80, 81, 82, 83, 84, 85, 86, 87, 88, 89, 90, 91, 92, 93, 94, 95, 96, 97, 98, 99, 100, 101, 102, 103, 104, 105, 106, 107, 108, 109, 110, 111, 112, 113, 114, 115, 116, 117, 118, 119, 120, 121, 122, 123, 124, 125, 126, 127, 128, 129, 130, 131, 132, 133, 134, 135, 136, 137, 138, 139, 140, 141, 142, 143, 144, 145, 146, 147, 148, 271, 272, 273, 274, 275, 276, 277, 278, 279, 280, 281, 282, 283, 284, 285, 286, 287, 288, 289, 290, 291, 292, 293, 294, 295, 296, 297, 304, 305, 306, 307, 308, 309, 310, 311, 312, 313, 314, 315, 316, 317, 318, 319, 298, 299, 300, 301, 302, 303, 320, 321, 322] (by decide +kernel) (by decide +kernel)
set_option maxRecDepth 20000 in
theorem gX7_serveBatch_X7_planBatch : GoodIn wsX7_serveBatch (wsV RX7 317 RX7 yX7_planBatch wsX7_planBatch) := goodIn_app (goodIn_of _ (by decide +kernel)) ggX7_serveBatch_X7_planBatch
set_option maxRecDepth 20000 in
theorem ggX7_serveBatch_X7_remember : GoodIn wsX7_serveBatch wsX7_remember := goodIn_r _ [152, 153, 1, 154, 155, 156, 157, 158, 159, 160, 161, 162, 163, 24, 164, 165, 166, 167, 58, 59, 60, 132, 168, 82, 169, 37, 170, 30, 31, 76, 171, 172, 173, 43, 174, 175, 176, 177, 178, 179, 180, 181, 182, 183, 184, 185, 186, 187, 188, 189, 190, 191, 192, 81, 92, 193, 194, 195, 196, 75, 138, 197, 198, 199, 200, 201, 202, 203, 204, 205, 206, 207, 208, 209, 210, 211, 212, 213, 214, 215, 216, 217, 218, 219, 220, 221, 222, 223, 224, 225, 226, 46, 45, 227, 228, 229, 230, 231, 232, 233, 234, 235, 236, 237, 238, 239, 240, 241, 10, 242, 51, 243, 244, 245, 54, 246, 65, 271, 272, 273, 274, 275, 276, 277, 278, 279, 323, 324, 325, 280, 281, 282, 283, 284, 285, 286, 287, 288, 289, 290, 291, 292, 293, 294, 295, 296, 297, 320, 321, 322, 311, 312, 313, 314, 315, 316, 317, 318, 319, 304, 305, 306, 307, 308, 309, 310, 298, 299, 300, 301, 302, 303] (by decide +kernel) (by decide +kernel)
set_option maxRecDepth 20000 in
theorem gX7_serveBatch_X7_remember : GoodIn wsX7_serveBatch (wsV RX7 256 RX7 yX7_remember wsX7_remember) := goodIn_app (goodIn_of _ (by decide +kernel)) ggX7_serveBatch_X7_remember
set_option maxRecDepth 20000 in
theorem ggX7_serveBatch_X7_readyPlanner : GoodIn wsX7_serveBatch wsX7_readyPlanner := goodIn_r _ [50, 51, 52, 53, 54, 55, 56, 57, 58, 59, 60, 61, 62, 63, 64, 65, 271, 272, 273, 274, 275, 276, 277, 278, 279, 298, 299, 300, 301, 302, 303] (by decide +kernel) (by decide +kernel)
set_option maxRecDepth 20000 in
theorem gX7_serveBatch_X7_readyPlanner : GoodIn wsX7_serveBatch (wsV RX7 320 RX7 yX7_readyPlanner wsX7_readyPlanner) := goodIn_app (goodIn_of _ (by decide +kernel)) ggX7_serveBatch_X7_readyPlanner
set_option maxRecDepth 20000 in
theorem ggX7_serveBatch_X4_readInDrives : GoodIn wsX7_serveBatch wsX4_readInDrives := goodIn_r _ [250, 81, 251, 252, 253, 24, 254, 75, 76, 38, 82, 83, 197, 26, 27, 28, 29, 30, 31, 255, 256, 257, 258, 132, 259, 260, 261, 262, 263, 264, 92, 93, 280, 281, 282, 283, 284, 285, 286, 287, 288, 289, 290, 291, 292, 293, 294, 295, 296, 297, 304, 305, 306, 307, 308, 309, 310, 320, 321, 322] (by decide +kernel) (by decide +kernel)
set_option maxRecDepth 20000 in
theorem gX7_serveBatch_X4_readInDrives : GoodIn wsX7_serveBatch (wsV RX7 324 RX4 yX4_readInDrives wsX4_readInDrives) := goodIn_app (goodIn_of _ (by decide +kernel)) ggX7_serveBatch_X4_readInDrives
set_option maxRecDepth 20000 in
theorem ggX7_serveBatch_X4_bringInto : GoodIn wsX7_serveBatch wsX4_bringInto := goodIn_r _ [268, 82, 83, 197, 199, 137, 138, 198, 269, 129, 130, 24, 131, 132, 133, 134, 135, 136, 37, 139, 140, 118, 105, 119, 261, 262, 263, 264, 92, 93, 280, 281, 282, 283, 284, 285, 286, 287, 288, 289, 290, 291, 292, 293, 294, 295, 296, 297, 320, 321, 322, 311, 312, 313, 314, 315, 316, 317, 318, 319] (by decide +kernel) (by decide +kernel)
set_option maxRecDepth 20000 in
theorem gX7_serveBatch_X4_bringInto : GoodIn wsX7_serveBatch (wsV RX7 338 RX4 yX4_bringInto wsX4_bringInto) := goodIn_app (goodIn_of _ (by decide +kernel)) ggX7_serveBatch_X4_bringInto
set_option maxRecDepth 20000 in
theorem ggX7_serveBatch_X4_readRequestsIn : GoodIn wsX7_serveBatch wsX4_readRequestsIn := goodIn_r _ [254, 75, 76, 38, 82, 83, 197, 26, 27, 28, 24, 29, 30, 31, 255, 256, 257, 258, 132, 259, 260, 261, 262, 263, 264, 92, 93, 280, 281, 282, 283, 284, 285, 286, 287, 288, 289, 290, 291, 292, 293, 294, 295, 296, 297, 304, 305, 306, 307, 308, 309, 310, 320, 321, 322] (by decide +kernel) (by decide +kernel)
set_option maxRecDepth 20000 in
theorem gX7_serveBatch_X4_readRequestsIn : GoodIn wsX7_serveBatch (wsV RX7 341 RX4 yX4_readRequestsIn wsX4_readRequestsIn) := goodIn_app (goodIn_of _ (by decide +kernel)) ggX7_serveBatch_X4_readRequestsIn
theorem dX7_serveBatch_0 : decode cX7_serveBatch 0 = .ok (.aload_n 0, 1) := by decide +kernel
theorem dX7_serveBatch_1 : decode cX7_serveBatch 1 = .ok (.invokevirtual 317, 3) := by decide +kernel
theorem dX7_serveBatch_4 : decode cX7_serveBatch 4 = .ok (.istore_n 1, 1) := by decide +kernel
theorem dX7_serveBatch_5 : decode cX7_serveBatch 5 = .ok (.iload_n 1, 1) := by decide +kernel
theorem dX7_serveBatch_6 : decode cX7_serveBatch 6 = .ok (.ifCond .eq 5, 3) := by decide +kernel
theorem dX7_serveBatch_9 : decode cX7_serveBatch 9 = .ok (.iload_n 1, 1) := by decide +kernel
theorem dX7_serveBatch_10 : decode cX7_serveBatch 10 = .ok (.ireturn, 1) := by decide +kernel
theorem dX7_serveBatch_11 : decode cX7_serveBatch 11 = .ok (.aload_n 0, 1) := by decide +kernel
theorem dX7_serveBatch_12 : decode cX7_serveBatch 12 = .ok (.invokevirtual 256, 3) := by decide +kernel
theorem dX7_serveBatch_15 : decode cX7_serveBatch 15 = .ok (.aload_n 0, 1) := by decide +kernel
theorem dX7_serveBatch_16 : decode cX7_serveBatch 16 = .ok (.getfield 19, 3) := by decide +kernel
theorem dX7_serveBatch_19 : decode cX7_serveBatch 19 = .ok (.getfield 116, 3) := by decide +kernel
theorem dX7_serveBatch_22 : decode cX7_serveBatch 22 = .ok (.istore_n 2, 1) := by decide +kernel
theorem dX7_serveBatch_23 : decode cX7_serveBatch 23 = .ok (.aload_n 0, 1) := by decide +kernel
theorem dX7_serveBatch_24 : decode cX7_serveBatch 24 = .ok (.invokevirtual 320, 3) := by decide +kernel
theorem dX7_serveBatch_27 : decode cX7_serveBatch 27 = .ok (.astore_n 3, 1) := by decide +kernel
theorem dX7_serveBatch_28 : decode cX7_serveBatch 28 = .ok (.aload_n 0, 1) := by decide +kernel
theorem dX7_serveBatch_29 : decode cX7_serveBatch 29 = .ok (.getfield 19, 3) := by decide +kernel
theorem dX7_serveBatch_32 : decode cX7_serveBatch 32 = .ok (.invokevirtual 324, 3) := by decide +kernel
theorem dX7_serveBatch_35 : decode cX7_serveBatch 35 = .ok (.iconst 0, 1) := by decide +kernel
theorem dX7_serveBatch_36 : decode cX7_serveBatch 36 = .ok (.istore 4, 2) := by decide +kernel
theorem dX7_serveBatch_38 : decode cX7_serveBatch 38 = .ok (.iload 4, 2) := by decide +kernel
theorem dX7_serveBatch_40 : decode cX7_serveBatch 40 = .ok (.aload_n 3, 1) := by decide +kernel
theorem dX7_serveBatch_41 : decode cX7_serveBatch 41 = .ok (.getfield 327, 3) := by decide +kernel
theorem dX7_serveBatch_44 : decode cX7_serveBatch 44 = .ok (.if_icmp .ge 38, 3) := by decide +kernel
theorem dX7_serveBatch_47 : decode cX7_serveBatch 47 = .ok (.aload_n 0, 1) := by decide +kernel
theorem dX7_serveBatch_48 : decode cX7_serveBatch 48 = .ok (.getfield 19, 3) := by decide +kernel
theorem dX7_serveBatch_51 : decode cX7_serveBatch 51 = .ok (.aload_n 3, 1) := by decide +kernel
theorem dX7_serveBatch_52 : decode cX7_serveBatch 52 = .ok (.getfield 332, 3) := by decide +kernel
theorem dX7_serveBatch_55 : decode cX7_serveBatch 55 = .ok (.iload 4, 2) := by decide +kernel
theorem dX7_serveBatch_57 : decode cX7_serveBatch 57 = .ok (.iaload, 1) := by decide +kernel
theorem dX7_serveBatch_58 : decode cX7_serveBatch 58 = .ok (.aload_n 3, 1) := by decide +kernel
theorem dX7_serveBatch_59 : decode cX7_serveBatch 59 = .ok (.getfield 335, 3) := by decide +kernel
theorem dX7_serveBatch_62 : decode cX7_serveBatch 62 = .ok (.invokevirtual 338, 3) := by decide +kernel
theorem dX7_serveBatch_65 : decode cX7_serveBatch 65 = .ok (.aload_n 0, 1) := by decide +kernel
theorem dX7_serveBatch_66 : decode cX7_serveBatch 66 = .ok (.getfield 19, 3) := by decide +kernel
theorem dX7_serveBatch_69 : decode cX7_serveBatch 69 = .ok (.aload_n 3, 1) := by decide +kernel
theorem dX7_serveBatch_70 : decode cX7_serveBatch 70 = .ok (.getfield 335, 3) := by decide +kernel
theorem dX7_serveBatch_73 : decode cX7_serveBatch 73 = .ok (.invokevirtual 341, 3) := by decide +kernel
theorem dX7_serveBatch_76 : decode cX7_serveBatch 76 = .ok (.iinc 4 1, 3) := by decide +kernel
theorem dX7_serveBatch_79 : decode cX7_serveBatch 79 = .ok (.goto (-41), 3) := by decide +kernel
theorem dX7_serveBatch_82 : decode cX7_serveBatch 82 = .ok (.aload_n 0, 1) := by decide +kernel
theorem dX7_serveBatch_83 : decode cX7_serveBatch 83 = .ok (.getfield 19, 3) := by decide +kernel
theorem dX7_serveBatch_86 : decode cX7_serveBatch 86 = .ok (.iconst 0, 1) := by decide +kernel
theorem dX7_serveBatch_87 : decode cX7_serveBatch 87 = .ok (.putfield 305, 3) := by decide +kernel
theorem dX7_serveBatch_90 : decode cX7_serveBatch 90 = .ok (.aload_n 0, 1) := by decide +kernel
theorem dX7_serveBatch_91 : decode cX7_serveBatch 91 = .ok (.getfield 19, 3) := by decide +kernel
theorem dX7_serveBatch_94 : decode cX7_serveBatch 94 = .ok (.getfield 116, 3) := by decide +kernel
theorem dX7_serveBatch_97 : decode cX7_serveBatch 97 = .ok (.iload_n 2, 1) := by decide +kernel
theorem dX7_serveBatch_98 : decode cX7_serveBatch 98 = .ok (.isub, 1) := by decide +kernel
theorem dX7_serveBatch_99 : decode cX7_serveBatch 99 = .ok (.ireturn, 1) := by decide +kernel
abbrev rm_X7_serveBatch : Room := { frames := 7, cells := 95, slots := 11111, locals := 190 }
set_option maxRecDepth 100000 in
set_option maxHeartbeats 8000000 in
theorem ct_X7_serveBatch (l : Launch) (g : GT) (hfl : 1 ≤ gf g) (cs : CT) (mt : MT) {q : Int32 × CT} (hf : f_X7_serveBatch cs = some q) : Met l yX7_serveBatch wsX7_serveBatch rm_X7_serveBatch (cPre g (cs, mt) [.ref (adr g.1 7 0)]) (cQi g q.1 (q.2, mt)) 95 11111 (gA g) := by
  have i_2 : ∀ w ∈ u_ws RX2 TX2 6, w ∈ wsX7_serveBatch := by decide +kernel
  have i_4 : ∀ w ∈ u_ws RX4 TX4 18, w ∈ wsX7_serveBatch := by decide +kernel
  have i_7 : ∀ w ∈ u_ws RX7 TX7 9, w ∈ wsX7_serveBatch := by decide +kernel
  refine x_met (by decide) rfl (Nat.le_of_ble_eq_true rfl) ?_
  intro p e s m below meth c hx hb hr hml hts hown hlocks hK hW hS ls hl
  have hown : s.vm.findClass RX7 = some m.cls := hown
  have hl : lv_has ls 5 [(0, .ref (adr g.1 7 0))] := hl
  rw [f_X7_serveBatch] at hf
  refine lv_aload_n hx hb dX7_serveBatch_0 rfl (lv_at hl 0 rfl) ?_
  obtain ⟨q1, h_q1, hf⟩ := x_bindE hf
  refine x_ci (x_rV ⟨hx, hb, hml, hown, hts⟩ (ct_X7_planBatch l g hfl cs mt h_q1) (cwV 0 hts gX7_serveBatch_X7_planBatch rfl rfl rfl (by decide +kernel) ⟨Nat.le_of_ble_eq_true rfl, Nat.le_of_ble_eq_true rfl⟩) hK hW hS (x_recv (i := g.1) (k := 7) (j := 0) hK hW ⟨⟨hfl, rfl⟩, by decide⟩ rfl (by decide)) rfl hl.1 (rest := []) rfl (Nat.le_of_ble_eq_true rfl) dX7_serveBatch_1 ⟨Nat.le_of_ble_eq_true rfl, Nat.le_of_ble_eq_true rfl⟩) hS (fun H locs hW hS => ?_)
  have hW : World g (q1.2, mt) H := hW
  refine W.cs (cells' := 4) (slots' := 10356) rfl rfl ?_
  refine W.eq (g2 := F0 m 4 ls [.int q1.1]) rfl ?_
  refine lv_istore_n (lv' := [(1, .int q1.1), (0, .ref (adr g.1 7 0))]) hx hb dX7_serveBatch_4 rfl hl (by decide) rfl (fun ls hl => ?_)
  refine lv_iload_n hx hb dX7_serveBatch_5 rfl (lv_at hl 0 rfl) ?_
  refine lv_if_eq (tgt := 11) hx hb dX7_serveBatch_6 (by decide) (fun hc => ?_) (fun hc => ?_)
  · have hf := x_iteT hf hc
    refine lv_aload_n hx hb dX7_serveBatch_11 rfl (lv_at hl 1 rfl) ?_
    obtain ⟨c1, h_c1, hf⟩ := x_bindE hf
    refine x_cv (x_rV ⟨hx, hb, hml, hown, hts⟩ (ct_X7_remember l g hfl q1.2 mt h_c1) (cwV 0 hts gX7_serveBatch_X7_remember rfl rfl rfl (by decide +kernel) ⟨Nat.le_of_ble_eq_true rfl, Nat.le_of_ble_eq_true rfl⟩) hK hW hS (x_recv (i := g.1) (k := 7) (j := 0) hK hW ⟨⟨hfl, rfl⟩, by decide⟩ rfl (by decide)) rfl hl.1 (rest := []) rfl (Nat.le_of_ble_eq_true rfl) dX7_serveBatch_12 ⟨Nat.le_of_ble_eq_true rfl, Nat.le_of_ble_eq_true rfl⟩) hS (fun H locs hW hS => ?_)
    have hW : World g (c1, mt) H := hW
    refine W.cs (cells' := 95) (slots' := 11111) rfl rfl ?_
    obtain ⟨t0, e_t0, hf⟩ := x_letE hf
    refine lv_aload_n hx hb dX7_serveBatch_15 rfl (lv_at hl 1 rfl) ?_
    refine x_get (i := g.1) (k := 7) (j := 0) (t := 3) hx hb hts i_7 hown hK hW ⟨⟨hfl, rfl⟩, by decide⟩ rfl ⟨by decide, by decide, rfl⟩ (hts (.fieldLink RX7 19 "OpticalJukebox" "state" "LOpticalJukebox$State;") (by decide +kernel)) (v := .ref (adr (k_st c1) 4 0)) rfl dX7_serveBatch_16 ?_
    refine x_get (i := (k_st c1)) (k := 4) (j := 0) (t := 15) hx hb hts i_4 hown hK hW ⟨hW.2.2.2.1, by decide⟩ rfl ⟨by decide, by decide, rfl⟩ (hts (.fieldLink RX7 116 "OpticalJukebox$State" "clock" "I") (by decide +kernel)) (v := .int (k_xs c1 (k_st c1) 4 0 15)) rfl dX7_serveBatch_19 ?_
    refine x_topi e_t0 ?_
    refine lv_istore_n (lv' := [(2, .int t0), (1, .int q1.1), (0, .ref (adr g.1 7 0))]) hx hb dX7_serveBatch_22 rfl hl (by decide) rfl (fun ls hl => ?_)
    refine lv_aload_n hx hb dX7_serveBatch_23 rfl (lv_at hl 2 rfl) ?_
    obtain ⟨r, hp, hf⟩ := x_bindE hf
    refine x_cr0 (x_rV ⟨hx, hb, hml, hown, hts⟩ (ct_X7_readyPlanner0 l g hfl c1 mt hp) (cwV 0 hts gX7_serveBatch_X7_readyPlanner rfl rfl rfl (by decide +kernel) ⟨Nat.le_of_ble_eq_true rfl, Nat.le_of_ble_eq_true rfl⟩) hK hW hS (x_recv (i := g.1) (k := 7) (j := 0) hK hW ⟨⟨hfl, rfl⟩, by decide⟩ rfl (by decide)) rfl hl.1 (rest := []) rfl (Nat.le_of_ble_eq_true rfl) dX7_serveBatch_24 ⟨Nat.le_of_ble_eq_true rfl, Nat.le_of_ble_eq_true rfl⟩) hS (fun H locs hW hS => ?_)
    have hW : World g (c1, mt) H := hW
    refine W.eq (g2 := F0 m 27 ls [.ref (adr r 2 0)]) rfl ?_
    refine lv_astore_n (lv' := [(3, .ref (adr r 2 0)), (2, .int t0), (1, .int q1.1), (0, .ref (adr g.1 7 0))]) hx hb dX7_serveBatch_27 rfl hl (by decide) rfl (fun ls hl => ?_)
    obtain ⟨s1, h_s1, hf⟩ := x_bindE hf
    obtain ⟨s2, h_s2, hf⟩ := x_bindE hf
    obtain ⟨s3, e_s3, hf⟩ := x_letE hf
    cases hf
    refine lv_aload_n hx hb dX7_serveBatch_28 rfl (lv_at hl 3 rfl) ?_
    refine x_get (i := g.1) (k := 7) (j := 0) (t := 3) hx hb hts i_7 hown hK hW ⟨⟨hfl, rfl⟩, by decide⟩ rfl ⟨by decide, by decide, rfl⟩ (hts (.fieldLink RX7 19 "OpticalJukebox" "state" "LOpticalJukebox$State;") (by decide +kernel)) (v := .ref (adr (k_st c1) 4 0)) rfl dX7_serveBatch_29 ?_
    refine x_cv0 (x_rV ⟨hx, hb, hml, hown, hts⟩ (ct_X4_readInDrives l g (c1, mt) (k_st c1) hW.2.2.2.1 (k_xs c1 (k_st c1)) h_s1) (cwV 0 hts gX7_serveBatch_X4_readInDrives rfl rfl rfl (by decide +kernel) ⟨Nat.le_of_ble_eq_true rfl, Nat.le_of_ble_eq_true rfl⟩) hK (w_self_sd hW) hS (x_recv (i := (k_st c1)) (k := 4) (j := 0) hK hW ⟨hW.2.2.2.1, by decide⟩ rfl (by decide)) rfl hl.1 (rest := []) rfl (Nat.le_of_ble_eq_true rfl) dX7_serveBatch_32 ⟨Nat.le_of_ble_eq_true rfl, Nat.le_of_ble_eq_true rfl⟩) hS (fun H locs hW hS => ?_)
    have hW : World g (kS c1 (k_st c1) s1, mt) H := hW
    refine lv_iconst (v := 0) hx hb dX7_serveBatch_35 (by decide) ?_
    refine lv_istore (lv' := [(4, .int (0 : Int32)), (3, .ref (adr r 2 0)), (2, .int t0), (1, .int q1.1), (0, .ref (adr g.1 7 0))]) hx hb dX7_serveBatch_36 hl (by decide) rfl (fun ls hl => ?_)
    have L38 : ∀ (n : Nat) (sd : SD) (v4 : Int32) (ls : Array Slot) (H : Heap) (locs : List Loc), lv_has ls 5 [(4, .int v4), (3, .ref (adr r 2 0)), (2, .int t0), (1, .int q1.1), (0, .ref (adr g.1 7 0))] → World g (kS c1 (k_st c1) sd, mt) H → va_S (gA g) s.heap H locs → f_X7_serveBatch_L (k_pd c1) n sd v4 = some s2 → W p l e rm_X7_serveBatch s m [.ref (adr g.1 7 0)].toArray below meth c H locs 95 11111 (MQ below (cQi g (s3 4 0 15 - t0) (kS c1 (k_st c1) s3, mt)) [.ref (adr g.1 7 0)].toArray s 95 11111 (gA g)) (F0 m 38 ls []) := by
      clear hW hS hl
      intro n
      induction n with
      | zero => intro sd v4 ls H locs hl hW hS hf; cases hf
      | succ n ih =>
        intro sd v4 ls H locs hl hW hS hf
        rw [f_X7_serveBatch_L] at hf
        refine lv_iload hx hb dX7_serveBatch_38 (lv_at hl 0 rfl) ?_
        refine lv_aload_n hx hb dX7_serveBatch_40 rfl (lv_at hl 1 rfl) ?_
        refine x_get (i := r) (k := 2) (j := 0) (t := 3) hx hb hts i_2 hown hK hW ⟨hp, by decide⟩ rfl ⟨by decide, by decide, rfl⟩ (hts (.fieldLink RX7 327 "OpticalJukebox$Planner" "orderLength" "I") (by decide +kernel)) (v := .int (k_pd c1 2 0 3)) rfl dX7_serveBatch_41 ?_
        refine lv_icmp_ge (tgt := 82) hx hb dX7_serveBatch_44 (by decide) (fun hc => ?_) (fun hc => ?_)
        · have hf := x_iteT hf hc
          cases hf
          refine lv_aload_n hx hb dX7_serveBatch_82 rfl (lv_at hl 4 rfl) ?_
          refine x_get (i := g.1) (k := 7) (j := 0) (t := 3) hx hb hts i_7 hown hK hW ⟨⟨hfl, rfl⟩, by decide⟩ rfl ⟨by decide, by decide, rfl⟩ (hts (.fieldLink RX7 19 "OpticalJukebox" "state" "LOpticalJukebox$State;") (by decide +kernel)) (v := .ref (adr (k_st c1) 4 0)) rfl dX7_serveBatch_83 ?_
          refine lv_iconst (v := 0) hx hb dX7_serveBatch_86 (by decide) ?_
          refine x_put (i := (k_st c1)) (k := 4) (j := 0) (t := 13) (w' := (kS c1 (k_st c1) s3, mt)) hx hb hts i_4 tyX4 tyX4_ok nmX4 hown hK hW ⟨hW.2.2.2.1, by decide⟩ hS rfl ⟨by decide, by decide, rfl⟩ (hts (.fieldLink RX7 305 "OpticalJukebox$State" "requestCount" "I") (by decide +kernel)) rfl (ty := .int) (by decide +kernel) rfl rfl ⟨rfl, rfl⟩ dX7_serveBatch_87 (fp_S (w := (c1, mt)) e_s3 rfl) (fun H locs hW hS => ?_)
          refine lv_aload_n hx hb dX7_serveBatch_90 rfl (lv_at hl 4 rfl) ?_
          refine x_get (i := g.1) (k := 7) (j := 0) (t := 3) hx hb hts i_7 hown hK hW ⟨⟨hfl, rfl⟩, by decide⟩ rfl ⟨by decide, by decide, rfl⟩ (hts (.fieldLink RX7 19 "OpticalJukebox" "state" "LOpticalJukebox$State;") (by decide +kernel)) (v := .ref (adr (k_st c1) 4 0)) rfl dX7_serveBatch_91 ?_
          refine x_get (i := (k_st c1)) (k := 4) (j := 0) (t := 15) hx hb hts i_4 hown hK hW ⟨hW.2.2.2.1, by decide⟩ rfl ⟨by decide, by decide, rfl⟩ (hts (.fieldLink RX7 116 "OpticalJukebox$State" "clock" "I") (by decide +kernel)) (v := .int (s3 4 0 15)) (sv_S (w := (c1, mt)) rfl (fun _ => rfl) rfl) dX7_serveBatch_94 ?_
          refine lv_iload_n hx hb dX7_serveBatch_97 rfl (lv_at hl 2 rfl) ?_
          refine lv_isub hx hb dX7_serveBatch_98 ?_
          exact x_iret hx hb hr hlocks hK hW hS rfl dX7_serveBatch_99
        · have hf := x_iteF hf hc
          obtain ⟨hg1, hf⟩ := x_guardE hf
          obtain ⟨u1, h_u1, hf⟩ := x_bindE hf
          obtain ⟨u2, h_u2, hf⟩ := x_bindE hf
          obtain ⟨v5, e_v5, hf⟩ := x_letE hf
          refine lv_aload_n hx hb dX7_serveBatch_47 rfl (lv_at hl 4 rfl) ?_
          refine x_get (i := g.1) (k := 7) (j := 0) (t := 3) hx hb hts i_7 hown hK hW ⟨⟨hfl, rfl⟩, by decide⟩ rfl ⟨by decide, by decide, rfl⟩ (hts (.fieldLink RX7 19 "OpticalJukebox" "state" "LOpticalJukebox$State;") (by decide +kernel)) (v := .ref (adr (k_st c1) 4 0)) rfl dX7_serveBatch_48 ?_
          refine lv_aload_n hx hb dX7_serveBatch_51 rfl (lv_at hl 1 rfl) ?_
          refine x_get (i := r) (k := 2) (j := 0) (t := 2) hx hb hts i_2 hown hK hW ⟨hp, by decide⟩ rfl ⟨by decide, by decide, rfl⟩ (hts (.fieldLink RX7 332 "OpticalJukebox$Planner" "order" "[I") (by decide +kernel)) (v := .ref (adr r 25 0)) rfl dX7_serveBatch_52 ?_
          refine lv_iload hx hb dX7_serveBatch_55 (lv_at hl 0 rfl) ?_
          refine x_iald (i := r) (k := 25) (j := 0) (f := k_pd c1 25 0) hx hb hK hW ⟨hp, by decide⟩ (by decide) rfl rfl hg1 dX7_serveBatch_57 ?_
          refine lv_aload_n hx hb dX7_serveBatch_58 rfl (lv_at hl 1 rfl) ?_
          refine x_get (i := r) (k := 2) (j := 0) (t := 4) hx hb hts i_2 hown hK hW ⟨hp, by decide⟩ rfl ⟨by decide, by decide, rfl⟩ (hts (.fieldLink RX7 335 "OpticalJukebox$Planner" "drive" "I") (by decide +kernel)) (v := .int (k_pd c1 2 0 4)) rfl dX7_serveBatch_59 ?_
          refine x_cv0 (x_rV ⟨hx, hb, hml, hown, hts⟩ (ct_X4_bringInto l g (c1, mt) (k_st c1) hW.2.2.2.1 sd _ _ h_u1) (cwV 2 hts gX7_serveBatch_X4_bringInto rfl rfl rfl (by decide +kernel) ⟨Nat.le_of_ble_eq_true rfl, Nat.le_of_ble_eq_true rfl⟩) hK hW hS (x_recv (i := (k_st c1)) (k := 4) (j := 0) hK hW ⟨hW.2.2.2.1, by decide⟩ rfl (by decide)) rfl hl.1 (rest := []) rfl (Nat.le_of_ble_eq_true rfl) dX7_serveBatch_62 ⟨Nat.le_of_ble_eq_true rfl, Nat.le_of_ble_eq_true rfl⟩) hS (fun H locs hW hS => ?_)
          have hW : World g (kS c1 (k_st c1) u1, mt) H := hW
          refine lv_aload_n hx hb dX7_serveBatch_65 rfl (lv_at hl 4 rfl) ?_
          refine x_get (i := g.1) (k := 7) (j := 0) (t := 3) hx hb hts i_7 hown hK hW ⟨⟨hfl, rfl⟩, by decide⟩ rfl ⟨by decide, by decide, rfl⟩ (hts (.fieldLink RX7 19 "OpticalJukebox" "state" "LOpticalJukebox$State;") (by decide +kernel)) (v := .ref (adr (k_st c1) 4 0)) rfl dX7_serveBatch_66 ?_
          refine lv_aload_n hx hb dX7_serveBatch_69 rfl (lv_at hl 1 rfl) ?_
          refine x_get (i := r) (k := 2) (j := 0) (t := 4) hx hb hts i_2 hown hK hW ⟨hp, by decide⟩ rfl ⟨by decide, by decide, rfl⟩ (hts (.fieldLink RX7 335 "OpticalJukebox$Planner" "drive" "I") (by decide +kernel)) (v := .int (k_pd c1 2 0 4)) rfl dX7_serveBatch_70 ?_
          refine x_cv0 (x_rV ⟨hx, hb, hml, hown, hts⟩ (ct_X4_readRequestsIn l g (c1, mt) (k_st c1) hW.2.2.2.1 u1 _ h_u2) (cwV 1 hts gX7_serveBatch_X4_readRequestsIn rfl rfl rfl (by decide +kernel) ⟨Nat.le_of_ble_eq_true rfl, Nat.le_of_ble_eq_true rfl⟩) hK hW hS (x_recv (i := (k_st c1)) (k := 4) (j := 0) hK hW ⟨hW.2.2.2.1, by decide⟩ rfl (by decide)) rfl hl.1 (rest := []) rfl (Nat.le_of_ble_eq_true rfl) dX7_serveBatch_73 ⟨Nat.le_of_ble_eq_true rfl, Nat.le_of_ble_eq_true rfl⟩) hS (fun H locs hW hS => ?_)
          have hW : World g (kS c1 (k_st c1) u2, mt) H := hW
          refine lv_iinc (v := v5) (lv' := [(4, .int v5), (3, .ref (adr r 2 0)), (2, .int t0), (1, .int q1.1), (0, .ref (adr g.1 7 0))]) hx hb dX7_serveBatch_76 hl (k := 0) rfl (by rw [e_v5]; rfl) (by decide) rfl (fun ls hl => ?_)
          refine lv_goto (tgt := 38) hx hb dX7_serveBatch_79 (by decide) ?_
          exact ih _ _ ls _ _ hl hW hS hf
    exact L38 fuel _ _ ls _ _ hl hW hS h_s2
  · have hf := x_iteF hf hc
    refine lv_iload_n hx hb dX7_serveBatch_9 rfl (lv_at hl 0 rfl) ?_
    refine W.widen (k := 95) (n := 11111) (by decide) (by decide) ?_
    cases hf
    exact x_iret hx hb hr hlocks hK hW hS rfl dX7_serveBatch_10
set_option maxRecDepth 20000 in
theorem ggX7_oneByOneTime_X7_batchProblem : GoodIn wsX7_oneByOneTime wsX7_batchProblem := goodIn_r _ [10, 2, 3, 11, 12, 13, 4, 14, 15, 16, 17, 18, 19, 20, 21, 22, 23, 24, 25, 26, 27, 28, 29, 30, 31, 32, 33, 34, 35, 36, 37, 38, 39, 40, 146, 147, 148, 149, 150, 151, 152, 153, 154, 155, 156, 157, 158, 159, 160, 161, 162, 163, 164, 165, 166, 167, 168, 169, 170, 171, 172, 173, 174, 175, 176, 177, 178, 179, 180, 181, 182, 183, 184, 185, 186, 187, 188] (by decide +kernel) (by decide +kernel)
set_option maxRecDepth 20000 in
theorem gX7_oneByOneTime_X7_batchProblem : GoodIn wsX7_oneByOneTime (wsV RX7 355 RX7 yX7_batchProblem wsX7_batchProblem) := goodIn_app (goodIn_of _ (by decide +kernel)) ggX7_oneByOneTime_X7_batchProblem
set_option maxRecDepth 20000 in
theorem ggX7_oneByOneTime_X4_copyFrom : GoodIn wsX7_oneByOneTime wsX4_copyFrom := goodIn_r _ [44, 45, 46, 47, 48, 49, 50, 51, 52, 53, 54, 31, 55, 56, 24, 25, 57, 58, 59, 60, 61, 62, 63, 64, 65, 66, 67, 68, 69, 70, 71, 72, 73, 74, 37, 75, 76, 77, 78, 79, 40, 39, 80, 81, 82, 83, 84, 85, 86, 87, 88, 89, 90, 91, 92, 93, 94, 95, 155, 156, 157, 158, 159, 160, 161, 162, 163, 164, 165, 166, 167, 168, 169, 170, 171, 172, 189, 190, 191, 180, 181, 182, 183, 184, 185, 186, 187, 188, 173, 174, 175, 176, 177, 178, 179] (by decide +kernel) (by decide +kernel)
set_option maxRecDepth 20000 in
theorem gX7_oneByOneTime_X4_copyFrom : GoodIn wsX7_oneByOneTime (wsV RX7 362 RX4 yX4_copyFrom wsX4_copyFrom) := goodIn_app (goodIn_of _ (by decide +kernel)) ggX7_oneByOneTime_X4_copyFrom
set_option maxRecDepth 20000 in
theorem ggX7_oneByOneTime_X4_readFile : GoodIn wsX7_oneByOneTime wsX4_readFile := goodIn_r _ [99, 32, 61, 20, 21, 22, 18, 23, 24, 25, 100, 101, 102, 103, 104, 105, 106, 107, 108, 109, 110, 111, 51, 52, 112, 113, 114, 115, 116, 53, 117, 118, 119, 120, 121, 63, 122, 60, 62, 123, 124, 125, 126, 46, 127, 128, 129, 130, 31, 131, 132, 133, 134, 135, 136, 137, 138, 139, 140, 141, 142, 143, 144, 145, 173, 174, 175, 176, 177, 178, 179, 155, 156, 157, 158, 159, 160, 161, 162, 163, 164, 165, 166, 167, 168, 169, 170, 171, 172, 189, 190, 191, 180, 181, 182, 183, 184, 185, 186, 187, 188] (by decide +kernel) (by decide +kernel)
set_option maxRecDepth 20000 in
theorem gX7_oneByOneTime_X4_readFile : GoodIn wsX7_oneByOneTime (wsV RX7 265 RX4 yX4_readFile wsX4_readFile) := goodIn_app (goodIn_of _ (by decide +kernel)) ggX7_oneByOneTime_X4_readFile
theorem dX7_oneByOneTime_0 : decode cX7_oneByOneTime 0 = .ok (.aload_n 0, 1) := by decide +kernel
theorem dX7_oneByOneTime_1 : decode cX7_oneByOneTime 1 = .ok (.iconst 1, 1) := by decide +kernel
theorem dX7_oneByOneTime_2 : decode cX7_oneByOneTime 2 = .ok (.invokevirtual 355, 3) := by decide +kernel
theorem dX7_oneByOneTime_5 : decode cX7_oneByOneTime 5 = .ok (.istore_n 1, 1) := by decide +kernel
theorem dX7_oneByOneTime_6 : decode cX7_oneByOneTime 6 = .ok (.iload_n 1, 1) := by decide +kernel
theorem dX7_oneByOneTime_7 : decode cX7_oneByOneTime 7 = .ok (.ifCond .eq 5, 3) := by decide +kernel
theorem dX7_oneByOneTime_10 : decode cX7_oneByOneTime 10 = .ok (.iload_n 1, 1) := by decide +kernel
theorem dX7_oneByOneTime_11 : decode cX7_oneByOneTime 11 = .ok (.ireturn, 1) := by decide +kernel
theorem dX7_oneByOneTime_12 : decode cX7_oneByOneTime 12 = .ok (.aload_n 0, 1) := by decide +kernel
theorem dX7_oneByOneTime_13 : decode cX7_oneByOneTime 13 = .ok (.getfield 23, 3) := by decide +kernel
theorem dX7_oneByOneTime_16 : decode cX7_oneByOneTime 16 = .ok (.aload_n 0, 1) := by decide +kernel
theorem dX7_oneByOneTime_17 : decode cX7_oneByOneTime 17 = .ok (.getfield 19, 3) := by decide +kernel
theorem dX7_oneByOneTime_20 : decode cX7_oneByOneTime 20 = .ok (.invokevirtual 362, 3) := by decide +kernel
theorem dX7_oneByOneTime_23 : decode cX7_oneByOneTime 23 = .ok (.iconst 0, 1) := by decide +kernel
theorem dX7_oneByOneTime_24 : decode cX7_oneByOneTime 24 = .ok (.istore_n 2, 1) := by decide +kernel
theorem dX7_oneByOneTime_25 : decode cX7_oneByOneTime 25 = .ok (.iload_n 2, 1) := by decide +kernel
theorem dX7_oneByOneTime_26 : decode cX7_oneByOneTime 26 = .ok (.aload_n 0, 1) := by decide +kernel
theorem dX7_oneByOneTime_27 : decode cX7_oneByOneTime 27 = .ok (.getfield 19, 3) := by decide +kernel
theorem dX7_oneByOneTime_30 : decode cX7_oneByOneTime 30 = .ok (.getfield 305, 3) := by decide +kernel
theorem dX7_oneByOneTime_33 : decode cX7_oneByOneTime 33 = .ok (.if_icmp .ge 25, 3) := by decide +kernel
theorem dX7_oneByOneTime_36 : decode cX7_oneByOneTime 36 = .ok (.aload_n 0, 1) := by decide +kernel
theorem dX7_oneByOneTime_37 : decode cX7_oneByOneTime 37 = .ok (.getfield 23, 3) := by decide +kernel
theorem dX7_oneByOneTime_40 : decode cX7_oneByOneTime 40 = .ok (.aload_n 0, 1) := by decide +kernel
theorem dX7_oneByOneTime_41 : decode cX7_oneByOneTime 41 = .ok (.getfield 19, 3) := by decide +kernel
theorem dX7_oneByOneTime_44 : decode cX7_oneByOneTime 44 = .ok (.getfield 308, 3) := by decide +kernel
theorem dX7_oneByOneTime_47 : decode cX7_oneByOneTime 47 = .ok (.iload_n 2, 1) := by decide +kernel
theorem dX7_oneByOneTime_48 : decode cX7_oneByOneTime 48 = .ok (.iaload, 1) := by decide +kernel
theorem dX7_oneByOneTime_49 : decode cX7_oneByOneTime 49 = .ok (.invokevirtual 265, 3) := by decide +kernel
theorem dX7_oneByOneTime_52 : decode cX7_oneByOneTime 52 = .ok (.iinc 2 1, 3) := by decide +kernel
theorem dX7_oneByOneTime_55 : decode cX7_oneByOneTime 55 = .ok (.goto (-30), 3) := by decide +kernel
theorem dX7_oneByOneTime_58 : decode cX7_oneByOneTime 58 = .ok (.aload_n 0, 1) := by decide +kernel
theorem dX7_oneByOneTime_59 : decode cX7_oneByOneTime 59 = .ok (.getfield 23, 3) := by decide +kernel
theorem dX7_oneByOneTime_62 : decode cX7_oneByOneTime 62 = .ok (.getfield 116, 3) := by decide +kernel
theorem dX7_oneByOneTime_65 : decode cX7_oneByOneTime 65 = .ok (.aload_n 0, 1) := by decide +kernel
theorem dX7_oneByOneTime_66 : decode cX7_oneByOneTime 66 = .ok (.getfield 19, 3) := by decide +kernel
theorem dX7_oneByOneTime_69 : decode cX7_oneByOneTime 69 = .ok (.getfield 116, 3) := by decide +kernel
theorem dX7_oneByOneTime_72 : decode cX7_oneByOneTime 72 = .ok (.isub, 1) := by decide +kernel
theorem dX7_oneByOneTime_73 : decode cX7_oneByOneTime 73 = .ok (.ireturn, 1) := by decide +kernel
abbrev rm_X7_oneByOneTime : Room := { frames := 6, cells := 0, slots := 0, locals := 150 }
set_option maxRecDepth 100000 in
set_option maxHeartbeats 8000000 in
theorem ct_X7_oneByOneTime (l : Launch) (g : GT) (hfl : 1 ≤ gf g) (cs : CT) (mt : MT) {q : Int32 × CT} (hf : f_X7_oneByOneTime cs = some q) : Met l yX7_oneByOneTime wsX7_oneByOneTime rm_X7_oneByOneTime (cPre g (cs, mt) [.ref (adr g.1 7 0)]) (cQi g q.1 (q.2, mt)) 0 0 (gA g) := by
  have i_4 : ∀ w ∈ u_ws RX4 TX4 18, w ∈ wsX7_oneByOneTime := by decide +kernel
  have i_7 : ∀ w ∈ u_ws RX7 TX7 9, w ∈ wsX7_oneByOneTime := by decide +kernel
  refine x_met (by decide) rfl (Nat.le_of_ble_eq_true rfl) ?_
  intro p e s m below meth c hx hb hr hml hts hown hlocks hK hW hS ls hl
  have hown : s.vm.findClass RX7 = some m.cls := hown
  have hl : lv_has ls 3 [(0, .ref (adr g.1 7 0))] := hl
  rw [f_X7_oneByOneTime] at hf
  refine lv_aload_n hx hb dX7_oneByOneTime_0 rfl (lv_at hl 0 rfl) ?_
  refine lv_iconst (v := 1) hx hb dX7_oneByOneTime_1 (by decide) ?_
  obtain ⟨q1, h_q1, hf⟩ := x_bindE hf
  refine x_ci0 (x_rV ⟨hx, hb, hml, hown, hts⟩ (ct_X7_batchProblem l g hfl cs mt 1 h_q1) (cwV 1 hts gX7_oneByOneTime_X7_batchProblem rfl rfl rfl (by decide +kernel) ⟨Nat.le_of_ble_eq_true rfl, Nat.le_of_ble_eq_true rfl⟩) hK hW hS (x_recv (i := g.1) (k := 7) (j := 0) hK hW ⟨⟨hfl, rfl⟩, by decide⟩ rfl (by decide)) rfl hl.1 (rest := []) rfl (Nat.le_of_ble_eq_true rfl) dX7_oneByOneTime_2 ⟨Nat.le_of_ble_eq_true rfl, Nat.le_of_ble_eq_true rfl⟩) hS (fun H locs hW hS => ?_)
  have hW : World g (cs, mt) H := hW
  refine W.eq (g2 := F0 m 5 ls [.int q1]) rfl ?_
  refine lv_istore_n (lv' := [(1, .int q1), (0, .ref (adr g.1 7 0))]) hx hb dX7_oneByOneTime_5 rfl hl (by decide) rfl (fun ls hl => ?_)
  refine lv_iload_n hx hb dX7_oneByOneTime_6 rfl (lv_at hl 0 rfl) ?_
  refine lv_if_eq (tgt := 12) hx hb dX7_oneByOneTime_7 (by decide) (fun hc => ?_) (fun hc => ?_)
  · have hf := x_iteT hf hc
    obtain ⟨hne, hf⟩ := x_guardE hf
    obtain ⟨s1, h_s1, hf⟩ := x_bindE hf
    obtain ⟨s2, h_s2, hf⟩ := x_bindE hf
    cases hf
    have hst : k_st cs ∈ k_S cs := hW.2.2.2.1
    have hsp : k_sp cs ∈ k_S cs := hW.2.2.2.2.1
    refine lv_aload_n hx hb dX7_oneByOneTime_12 rfl (lv_at hl 1 rfl) ?_
    refine x_get (i := g.1) (k := 7) (j := 0) (t := 4) hx hb hts i_7 hown hK hW ⟨⟨hfl, rfl⟩, by decide⟩ rfl ⟨by decide, by decide, rfl⟩ (hts (.fieldLink RX7 23 "OpticalJukebox" "spare" "LOpticalJukebox$State;") (by decide +kernel)) (v := .ref (adr (k_sp cs) 4 0)) rfl dX7_oneByOneTime_13 ?_
    refine lv_aload_n hx hb dX7_oneByOneTime_16 rfl (lv_at hl 1 rfl) ?_
    refine x_get (i := g.1) (k := 7) (j := 0) (t := 3) hx hb hts i_7 hown hK hW ⟨⟨hfl, rfl⟩, by decide⟩ rfl ⟨by decide, by decide, rfl⟩ (hts (.fieldLink RX7 19 "OpticalJukebox" "state" "LOpticalJukebox$State;") (by decide +kernel)) (v := .ref (adr (k_st cs) 4 0)) rfl dX7_oneByOneTime_17 ?_
    refine x_cv0 (x_rV ⟨hx, hb, hml, hown, hts⟩ (ct_X4_copyFrom l g (cs, mt) (k_sp cs) hsp (k_st cs) hst hne (k_xs cs (k_sp cs)) (k_xs cs (k_st cs)) h_s1) (cwV 1 hts gX7_oneByOneTime_X4_copyFrom rfl rfl rfl (by decide +kernel) ⟨Nat.le_of_ble_eq_true rfl, Nat.le_of_ble_eq_true rfl⟩) hK (w_two hW) hS (x_recv (i := (k_sp cs)) (k := 4) (j := 0) hK hW ⟨hsp, by decide⟩ rfl (by decide)) rfl hl.1 (rest := []) rfl (Nat.le_of_ble_eq_true rfl) dX7_oneByOneTime_20 ⟨Nat.le_of_ble_eq_true rfl, Nat.le_of_ble_eq_true rfl⟩) hS (fun H locs hW hS => ?_)
    have hW : World g (wS (wS (cs, mt) (k_st cs) (k_xs cs (k_st cs))) (k_sp cs) s1) H := hW
    refine lv_iconst (v := 0) hx hb dX7_oneByOneTime_23 (by decide) ?_
    refine lv_istore_n (lv' := [(2, .int (0 : Int32)), (1, .int q1), (0, .ref (adr g.1 7 0))]) hx hb dX7_oneByOneTime_24 rfl hl (by decide) rfl (fun ls hl => ?_)
    have L25 : ∀ (n : Nat) (so : SD) (v2 : Int32) (ls : Array Slot) (H : Heap) (locs : List Loc), lv_has ls 3 [(2, .int v2), (1, .int q1), (0, .ref (adr g.1 7 0))] → World g (wS (wS (cs, mt) (k_st cs) (k_xs cs (k_st cs))) (k_sp cs) so) H → va_S (gA g) s.heap H locs → f_X7_oneByOneTime_L (k_xs cs (k_st cs)) n so v2 = some s2 → W p l e rm_X7_oneByOneTime s m [.ref (adr g.1 7 0)].toArray below meth c H locs 0 0 (MQ below (cQi g (s2 4 0 15 - (k_xs cs (k_st cs)) 4 0 15) (kS cs (k_sp cs) s2, mt)) [.ref (adr g.1 7 0)].toArray s 0 0 (gA g)) (F0 m 25 ls []) := by
      clear hW hS hl
      intro n
      induction n with
      | zero => intro so v2 ls H locs hl hW hS hf; cases hf
      | succ n ih =>
        intro so v2 ls H locs hl hW hS hf
        rw [f_X7_oneByOneTime_L] at hf
        refine lv_iload_n hx hb dX7_oneByOneTime_25 rfl (lv_at hl 0 rfl) ?_
        refine lv_aload_n hx hb dX7_oneByOneTime_26 rfl (lv_at hl 2 rfl) ?_
        refine x_get (i := g.1) (k := 7) (j := 0) (t := 3) hx hb hts i_7 hown hK hW ⟨⟨hfl, rfl⟩, by decide⟩ rfl ⟨by decide, by decide, rfl⟩ (hts (.fieldLink RX7 19 "OpticalJukebox" "state" "LOpticalJukebox$State;") (by decide +kernel)) (v := .ref (adr (k_st cs) 4 0)) rfl dX7_oneByOneTime_27 ?_
        refine x_get (i := (k_st cs)) (k := 4) (j := 0) (t := 13) hx hb hts i_4 hown hK hW ⟨hst, by decide⟩ rfl ⟨by decide, by decide, rfl⟩ (hts (.fieldLink RX7 305 "OpticalJukebox$State" "requestCount" "I") (by decide +kernel)) (v := .int (k_xs cs (k_st cs) 4 0 13)) (sv_S2 hne rfl (fun _ => rfl) rfl) dX7_oneByOneTime_30 ?_
        refine lv_icmp_ge (tgt := 58) hx hb dX7_oneByOneTime_33 (by decide) (fun hc => ?_) (fun hc => ?_)
        · have hf := x_iteT hf hc
          cases hf
          refine lv_aload_n hx hb dX7_oneByOneTime_58 rfl (lv_at hl 2 rfl) ?_
          refine x_get (i := g.1) (k := 7) (j := 0) (t := 4) hx hb hts i_7 hown hK hW ⟨⟨hfl, rfl⟩, by decide⟩ rfl ⟨by decide, by decide, rfl⟩ (hts (.fieldLink RX7 23 "OpticalJukebox" "spare" "LOpticalJukebox$State;") (by decide +kernel)) (v := .ref (adr (k_sp cs) 4 0)) rfl dX7_oneByOneTime_59 ?_
          refine x_get (i := (k_sp cs)) (k := 4) (j := 0) (t := 15) hx hb hts i_4 hown hK hW ⟨hsp, by decide⟩ rfl ⟨by decide, by decide, rfl⟩ (hts (.fieldLink RX7 116 "OpticalJukebox$State" "clock" "I") (by decide +kernel)) (v := .int (s2 4 0 15)) (sv_S (w := wS (cs, mt) (k_st cs) (k_xs cs (k_st cs))) rfl (fun _ => rfl) rfl) dX7_oneByOneTime_62 ?_
          refine lv_aload_n hx hb dX7_oneByOneTime_65 rfl (lv_at hl 2 rfl) ?_
          refine x_get (i := g.1) (k := 7) (j := 0) (t := 3) hx hb hts i_7 hown hK hW ⟨⟨hfl, rfl⟩, by decide⟩ rfl ⟨by decide, by decide, rfl⟩ (hts (.fieldLink RX7 19 "OpticalJukebox" "state" "LOpticalJukebox$State;") (by decide +kernel)) (v := .ref (adr (k_st cs) 4 0)) rfl dX7_oneByOneTime_66 ?_
          refine x_get (i := (k_st cs)) (k := 4) (j := 0) (t := 15) hx hb hts i_4 hown hK hW ⟨hst, by decide⟩ rfl ⟨by decide, by decide, rfl⟩ (hts (.fieldLink RX7 116 "OpticalJukebox$State" "clock" "I") (by decide +kernel)) (v := .int (k_xs cs (k_st cs) 4 0 15)) (sv_S2 hne rfl (fun _ => rfl) rfl) dX7_oneByOneTime_69 ?_
          refine lv_isub hx hb dX7_oneByOneTime_72 ?_
          exact x_iret hx hb hr hlocks hK (w_two' hW) hS rfl dX7_oneByOneTime_73
        · have hf := x_iteF hf hc
          obtain ⟨hg1, hf⟩ := x_guardE hf
          obtain ⟨u1, h_u1, hf⟩ := x_bindE hf
          obtain ⟨v5, e_v5, hf⟩ := x_letE hf
          refine lv_aload_n hx hb dX7_oneByOneTime_36 rfl (lv_at hl 2 rfl) ?_
          refine x_get (i := g.1) (k := 7) (j := 0) (t := 4) hx hb hts i_7 hown hK hW ⟨⟨hfl, rfl⟩, by decide⟩ rfl ⟨by decide, by decide, rfl⟩ (hts (.fieldLink RX7 23 "OpticalJukebox" "spare" "LOpticalJukebox$State;") (by decide +kernel)) (v := .ref (adr (k_sp cs) 4 0)) rfl dX7_oneByOneTime_37 ?_
          refine lv_aload_n hx hb dX7_oneByOneTime_40 rfl (lv_at hl 2 rfl) ?_
          refine x_get (i := g.1) (k := 7) (j := 0) (t := 3) hx hb hts i_7 hown hK hW ⟨⟨hfl, rfl⟩, by decide⟩ rfl ⟨by decide, by decide, rfl⟩ (hts (.fieldLink RX7 19 "OpticalJukebox" "state" "LOpticalJukebox$State;") (by decide +kernel)) (v := .ref (adr (k_st cs) 4 0)) rfl dX7_oneByOneTime_41 ?_
          refine x_get (i := (k_st cs)) (k := 4) (j := 0) (t := 12) hx hb hts i_4 hown hK hW ⟨hst, by decide⟩ rfl ⟨by decide, by decide, rfl⟩ (hts (.fieldLink RX7 308 "OpticalJukebox$State" "requests" "[I") (by decide +kernel)) (v := .ref (adr (k_st cs) 15 0)) rfl dX7_oneByOneTime_44 ?_
          refine lv_iload_n hx hb dX7_oneByOneTime_47 rfl (lv_at hl 0 rfl) ?_
          refine x_iald (i := (k_st cs)) (k := 15) (j := 0) (f := k_xs cs (k_st cs) 15 0) hx hb hK hW ⟨hst, by decide⟩ (by decide) (ct_S2 hne rfl (fun _ => rfl)) rfl hg1 dX7_oneByOneTime_48 ?_
          refine x_cv0 (x_rV ⟨hx, hb, hml, hown, hts⟩ (ct_X4_readFile l g (wS (cs, mt) (k_st cs) (k_xs cs (k_st cs))) (k_sp cs) hsp so _ h_u1) (cwV 1 hts gX7_oneByOneTime_X4_readFile rfl rfl rfl (by decide +kernel) ⟨Nat.le_of_ble_eq_true rfl, Nat.le_of_ble_eq_true rfl⟩) hK hW hS (x_recv (i := (k_sp cs)) (k := 4) (j := 0) hK hW ⟨hsp, by decide⟩ rfl (by decide)) rfl hl.1 (rest := []) rfl (Nat.le_of_ble_eq_true rfl) dX7_oneByOneTime_49 ⟨Nat.le_of_ble_eq_true rfl, Nat.le_of_ble_eq_true rfl⟩) hS (fun H locs hW hS => ?_)
          have hW : World g (wS (wS (cs, mt) (k_st cs) (k_xs cs (k_st cs))) (k_sp cs) u1) H := hW
          refine lv_iinc (v := v5) (lv' := [(2, .int v5), (1, .int q1), (0, .ref (adr g.1 7 0))]) hx hb dX7_oneByOneTime_52 hl (k := 0) rfl (by rw [e_v5]; rfl) (by decide) rfl (fun ls hl => ?_)
          refine lv_goto (tgt := 25) hx hb dX7_oneByOneTime_55 (by decide) ?_
          exact ih _ _ ls _ _ hl hW hS hf
    exact L25 fuel _ _ ls _ _ hl hW hS h_s2
  · have hf := x_iteF hf hc
    refine lv_iload_n hx hb dX7_oneByOneTime_10 rfl (lv_at hl 0 rfl) ?_
    cases hf
    exact x_iret hx hb hr hlocks hK hW hS rfl dX7_oneByOneTime_11
