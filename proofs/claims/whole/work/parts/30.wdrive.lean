theorem dX0_copyFrom_0 : decode cX0_copyFrom 0 = .ok (.aload_n 0, 1) := by decide +kernel
theorem dX0_copyFrom_1 : decode cX0_copyFrom 1 = .ok (.aload_n 1, 1) := by decide +kernel
theorem dX0_copyFrom_2 : decode cX0_copyFrom 2 = .ok (.getfield 7, 3) := by decide +kernel
theorem dX0_copyFrom_5 : decode cX0_copyFrom 5 = .ok (.putfield 7, 3) := by decide +kernel
theorem dX0_copyFrom_8 : decode cX0_copyFrom 8 = .ok (.aload_n 0, 1) := by decide +kernel
theorem dX0_copyFrom_9 : decode cX0_copyFrom 9 = .ok (.aload_n 1, 1) := by decide +kernel
theorem dX0_copyFrom_10 : decode cX0_copyFrom 10 = .ok (.getfield 13, 3) := by decide +kernel
theorem dX0_copyFrom_13 : decode cX0_copyFrom 13 = .ok (.putfield 13, 3) := by decide +kernel
theorem dX0_copyFrom_16 : decode cX0_copyFrom 16 = .ok (.aload_n 0, 1) := by decide +kernel
theorem dX0_copyFrom_17 : decode cX0_copyFrom 17 = .ok (.aload_n 1, 1) := by decide +kernel
theorem dX0_copyFrom_18 : decode cX0_copyFrom 18 = .ok (.getfield 16, 3) := by decide +kernel
theorem dX0_copyFrom_21 : decode cX0_copyFrom 21 = .ok (.putfield 16, 3) := by decide +kernel
theorem dX0_copyFrom_24 : decode cX0_copyFrom 24 = .ok (.return_, 1) := by decide +kernel
theorem dX6_copyFrom_0 : decode cX6_copyFrom 0 = .ok (.aload_n 0, 1) := by decide +kernel
theorem dX6_copyFrom_1 : decode cX6_copyFrom 1 = .ok (.aload_n 1, 1) := by decide +kernel
theorem dX6_copyFrom_2 : decode cX6_copyFrom 2 = .ok (.getfield 7, 3) := by decide +kernel
theorem dX6_copyFrom_5 : decode cX6_copyFrom 5 = .ok (.putfield 7, 3) := by decide +kernel
theorem dX6_copyFrom_8 : decode cX6_copyFrom 8 = .ok (.aload_n 0, 1) := by decide +kernel
theorem dX6_copyFrom_9 : decode cX6_copyFrom 9 = .ok (.aload_n 1, 1) := by decide +kernel
theorem dX6_copyFrom_10 : decode cX6_copyFrom 10 = .ok (.getfield 13, 3) := by decide +kernel
theorem dX6_copyFrom_13 : decode cX6_copyFrom 13 = .ok (.putfield 13, 3) := by decide +kernel
theorem dX6_copyFrom_16 : decode cX6_copyFrom 16 = .ok (.aload_n 0, 1) := by decide +kernel
theorem dX6_copyFrom_17 : decode cX6_copyFrom 17 = .ok (.aload_n 1, 1) := by decide +kernel
theorem dX6_copyFrom_18 : decode cX6_copyFrom 18 = .ok (.getfield 16, 3) := by decide +kernel
theorem dX6_copyFrom_21 : decode cX6_copyFrom 21 = .ok (.putfield 16, 3) := by decide +kernel
theorem dX6_copyFrom_24 : decode cX6_copyFrom 24 = .ok (.aload_n 0, 1) := by decide +kernel
theorem dX6_copyFrom_25 : decode cX6_copyFrom 25 = .ok (.aload_n 1, 1) := by decide +kernel
theorem dX6_copyFrom_26 : decode cX6_copyFrom 26 = .ok (.getfield 19, 3) := by decide +kernel
theorem dX6_copyFrom_29 : decode cX6_copyFrom 29 = .ok (.putfield 19, 3) := by decide +kernel
theorem dX6_copyFrom_32 : decode cX6_copyFrom 32 = .ok (.aload_n 0, 1) := by decide +kernel
theorem dX6_copyFrom_33 : decode cX6_copyFrom 33 = .ok (.aload_n 1, 1) := by decide +kernel
theorem dX6_copyFrom_34 : decode cX6_copyFrom 34 = .ok (.getfield 22, 3) := by decide +kernel
theorem dX6_copyFrom_37 : decode cX6_copyFrom 37 = .ok (.putfield 22, 3) := by decide +kernel
theorem dX6_copyFrom_40 : decode cX6_copyFrom 40 = .ok (.aload_n 0, 1) := by decide +kernel
theorem dX6_copyFrom_41 : decode cX6_copyFrom 41 = .ok (.aload_n 1, 1) := by decide +kernel
theorem dX6_copyFrom_42 : decode cX6_copyFrom 42 = .ok (.getfield 25, 3) := by decide +kernel
theorem dX6_copyFrom_45 : decode cX6_copyFrom 45 = .ok (.putfield 25, 3) := by decide +kernel
theorem dX6_copyFrom_48 : decode cX6_copyFrom 48 = .ok (.aload_n 0, 1) := by decide +kernel
theorem dX6_copyFrom_49 : decode cX6_copyFrom 49 = .ok (.aload_n 1, 1) := by decide +kernel
theorem dX6_copyFrom_50 : decode cX6_copyFrom 50 = .ok (.getfield 28, 3) := by decide +kernel
theorem dX6_copyFrom_53 : decode cX6_copyFrom 53 = .ok (.putfield 28, 3) := by decide +kernel
theorem dX6_copyFrom_56 : decode cX6_copyFrom 56 = .ok (.return_, 1) := by decide +kernel
theorem dX6_holds_0 : decode cX6_holds 0 = .ok (.aload_n 0, 1) := by decide +kernel
theorem dX6_holds_1 : decode cX6_holds 1 = .ok (.getfield 13, 3) := by decide +kernel
theorem dX6_holds_4 : decode cX6_holds 4 = .ok (.iload_n 1, 1) := by decide +kernel
theorem dX6_holds_5 : decode cX6_holds 5 = .ok (.if_icmp .ne 28, 3) := by decide +kernel
theorem dX6_holds_8 : decode cX6_holds 8 = .ok (.iload_n 2, 1) := by decide +kernel
theorem dX6_holds_9 : decode cX6_holds 9 = .ok (.aload_n 0, 1) := by decide +kernel
theorem dX6_holds_10 : decode cX6_holds 10 = .ok (.getfield 16, 3) := by decide +kernel
theorem dX6_holds_13 : decode cX6_holds 13 = .ok (.if_icmp .lt 20, 3) := by decide +kernel
theorem dX6_holds_16 : decode cX6_holds 16 = .ok (.iload_n 2, 1) := by decide +kernel
theorem dX6_holds_17 : decode cX6_holds 17 = .ok (.aload_n 0, 1) := by decide +kernel
theorem dX6_holds_18 : decode cX6_holds 18 = .ok (.getfield 16, 3) := by decide +kernel
theorem dX6_holds_21 : decode cX6_holds 21 = .ok (.aload_n 0, 1) := by decide +kernel
theorem dX6_holds_22 : decode cX6_holds 22 = .ok (.getfield 19, 3) := by decide +kernel
theorem dX6_holds_25 : decode cX6_holds 25 = .ok (.iadd, 1) := by decide +kernel
theorem dX6_holds_26 : decode cX6_holds 26 = .ok (.if_icmp .ge 7, 3) := by decide +kernel
theorem dX6_holds_29 : decode cX6_holds 29 = .ok (.iconst 1, 1) := by decide +kernel
theorem dX6_holds_30 : decode cX6_holds 30 = .ok (.goto 4, 3) := by decide +kernel
theorem dX6_holds_33 : decode cX6_holds 33 = .ok (.iconst 0, 1) := by decide +kernel
theorem dX6_holds_34 : decode cX6_holds 34 = .ok (.ireturn, 1) := by decide +kernel
abbrev rm_X0_copyFrom : Room := { frames := 0, cells := 0, slots := 0, locals := 0 }
set_option maxRecDepth 100000 in
set_option maxHeartbeats 4000000 in
theorem ct_X0_copyFrom (l : Launch) (g : GT) (w : WT) (i : Nat) (hi : i ∈ k_S w.1) (i2 : Nat) (hi2 : i2 ∈ k_S w.1) (hne : i2 ≠ i) (sd : SD) (so : SD) (j : Nat) (hj : j < 4) (j2 : Nat) (hj2 : j2 < 4) {q : SD} (hf : f_X0_copyFrom sd so j j2 = some q) : Met l yX0_copyFrom wsX0_copyFrom rm_X0_copyFrom (cPre g (wS (wS w i2 so) i sd) [.ref (adr i 0 j), .ref (adr i2 0 j2)]) (cQv g (wS (wS w i2 so) i q)) 0 0 (gA g) := by
  have i_0 : ∀ w ∈ u_ws RX0 TX0 3, w ∈ wsX0_copyFrom := by decide +kernel
  refine x_met (by decide) rfl (Nat.le_of_ble_eq_true rfl) ?_
  intro p e s m below meth c hx hb hr hml hts hown hlocks hK hW hS ls hl
  have hown : s.vm.findClass RX0 = some m.cls := hown
  have hl : lv_has ls 2 [(0, .ref (adr i 0 j)), (1, .ref (adr i2 0 j2))] := hl
  rw [f_X0_copyFrom] at hf
  refine lv_aload_n hx hb dX0_copyFrom_0 rfl (lv_at hl 0 rfl) ?_
  refine lv_aload_n hx hb dX0_copyFrom_1 rfl (lv_at hl 1 rfl) ?_
  refine x_get (i := i2) (k := 0) (j := j2) (t := 0) hx hb hts i_0 hown hK hW ⟨hi2, hj2⟩ rfl ⟨by decide, by decide, rfl⟩ (hts (.fieldLink RX0 7 "OpticalJukebox$Drive" "position" "I") (by decide +kernel)) (sv_S2 hne rfl (fun _ => rfl) rfl) dX0_copyFrom_2 ?_
  obtain ⟨sd1, e_sd1, hf⟩ := x_letE hf
  refine x_put (i := i) (k := 0) (j := j) (t := 0) (w' := wS (wS w i2 so) i sd1) hx hb hts i_0 tyX0 tyX0_ok nmX0 hown hK hW ⟨hi, hj⟩ hS rfl ⟨by decide, by decide, rfl⟩ (hts (.fieldLink RX0 7 "OpticalJukebox$Drive" "position" "I") (by decide +kernel)) rfl (ty := .int) (by decide +kernel) rfl rfl ⟨rfl, rfl⟩ dX0_copyFrom_5 (fp_S e_sd1 rfl) (fun H locs hW hS => ?_)
  refine lv_aload_n hx hb dX0_copyFrom_8 rfl (lv_at hl 0 rfl) ?_
  refine lv_aload_n hx hb dX0_copyFrom_9 rfl (lv_at hl 1 rfl) ?_
  refine x_get (i := i2) (k := 0) (j := j2) (t := 1) hx hb hts i_0 hown hK hW ⟨hi2, hj2⟩ rfl ⟨by decide, by decide, rfl⟩ (hts (.fieldLink RX0 13 "OpticalJukebox$Drive" "platter" "I") (by decide +kernel)) (sv_S2 hne rfl (fun _ => rfl) rfl) dX0_copyFrom_10 ?_
  obtain ⟨sd2, e_sd2, hf⟩ := x_letE hf
  refine x_put (i := i) (k := 0) (j := j) (t := 1) (w' := wS (wS w i2 so) i sd2) hx hb hts i_0 tyX0 tyX0_ok nmX0 hown hK hW ⟨hi, hj⟩ hS rfl ⟨by decide, by decide, rfl⟩ (hts (.fieldLink RX0 13 "OpticalJukebox$Drive" "platter" "I") (by decide +kernel)) rfl (ty := .int) (by decide +kernel) rfl rfl ⟨rfl, rfl⟩ dX0_copyFrom_13 (fp_S e_sd2 rfl) (fun H locs hW hS => ?_)
  refine lv_aload_n hx hb dX0_copyFrom_16 rfl (lv_at hl 0 rfl) ?_
  refine lv_aload_n hx hb dX0_copyFrom_17 rfl (lv_at hl 1 rfl) ?_
  refine x_get (i := i2) (k := 0) (j := j2) (t := 2) hx hb hts i_0 hown hK hW ⟨hi2, hj2⟩ rfl ⟨by decide, by decide, rfl⟩ (hts (.fieldLink RX0 16 "OpticalJukebox$Drive" "lastUse" "I") (by decide +kernel)) (sv_S2 hne rfl (fun _ => rfl) rfl) dX0_copyFrom_18 ?_
  obtain ⟨sd3, e_sd3, hf⟩ := x_letE hf
  refine x_put (i := i) (k := 0) (j := j) (t := 2) (w' := wS (wS w i2 so) i sd3) hx hb hts i_0 tyX0 tyX0_ok nmX0 hown hK hW ⟨hi, hj⟩ hS rfl ⟨by decide, by decide, rfl⟩ (hts (.fieldLink RX0 16 "OpticalJukebox$Drive" "lastUse" "I") (by decide +kernel)) rfl (ty := .int) (by decide +kernel) rfl rfl ⟨rfl, rfl⟩ dX0_copyFrom_21 (fp_S e_sd3 rfl) (fun H locs hW hS => ?_)
  cases hf
  exact x_vret hx hb hr hlocks hK hW hS dX0_copyFrom_24
abbrev rm_X6_copyFrom : Room := { frames := 0, cells := 0, slots := 0, locals := 0 }
set_option maxRecDepth 100000 in
set_option maxHeartbeats 4000000 in
theorem ct_X6_copyFrom (l : Launch) (g : GT) (w : WT) (i : Nat) (hi : i ∈ k_S w.1) (i2 : Nat) (hi2 : i2 ∈ k_S w.1) (hne : i2 ≠ i) (sd : SD) (so : SD) (j : Nat) (hj : j < 40) (j2 : Nat) (hj2 : j2 < 40) {q : SD} (hf : f_X6_copyFrom sd so j j2 = some q) : Met l yX6_copyFrom wsX6_copyFrom rm_X6_copyFrom (cPre g (wS (wS w i2 so) i sd) [.ref (adr i 6 j), .ref (adr i2 6 j2)]) (cQv g (wS (wS w i2 so) i q)) 0 0 (gA g) := by
  have i_6 : ∀ w ∈ u_ws RX6 TX6 7, w ∈ wsX6_copyFrom := by decide +kernel
  refine x_met (by decide) rfl (Nat.le_of_ble_eq_true rfl) ?_
  intro p e s m below meth c hx hb hr hml hts hown hlocks hK hW hS ls hl
  have hown : s.vm.findClass RX6 = some m.cls := hown
  have hl : lv_has ls 2 [(0, .ref (adr i 6 j)), (1, .ref (adr i2 6 j2))] := hl
  rw [f_X6_copyFrom] at hf
  refine lv_aload_n hx hb dX6_copyFrom_0 rfl (lv_at hl 0 rfl) ?_
  refine lv_aload_n hx hb dX6_copyFrom_1 rfl (lv_at hl 1 rfl) ?_
  refine x_get (i := i2) (k := 6) (j := j2) (t := 0) hx hb hts i_6 hown hK hW ⟨hi2, hj2⟩ rfl ⟨by decide, by decide, rfl⟩ (hts (.fieldLink RX6 7 "OpticalJukebox$Version" "file" "I") (by decide +kernel)) (sv_S2 hne rfl (fun _ => rfl) rfl) dX6_copyFrom_2 ?_
  obtain ⟨sd1, e_sd1, hf⟩ := x_letE hf
  refine x_put (i := i) (k := 6) (j := j) (t := 0) (w' := wS (wS w i2 so) i sd1) hx hb hts i_6 tyX6 tyX6_ok nmX6 hown hK hW ⟨hi, hj⟩ hS rfl ⟨by decide, by decide, rfl⟩ (hts (.fieldLink RX6 7 "OpticalJukebox$Version" "file" "I") (by decide +kernel)) rfl (ty := .int) (by decide +kernel) rfl rfl ⟨rfl, rfl⟩ dX6_copyFrom_5 (fp_S e_sd1 rfl) (fun H locs hW hS => ?_)
  refine lv_aload_n hx hb dX6_copyFrom_8 rfl (lv_at hl 0 rfl) ?_
  refine lv_aload_n hx hb dX6_copyFrom_9 rfl (lv_at hl 1 rfl) ?_
  refine x_get (i := i2) (k := 6) (j := j2) (t := 1) hx hb hts i_6 hown hK hW ⟨hi2, hj2⟩ rfl ⟨by decide, by decide, rfl⟩ (hts (.fieldLink RX6 13 "OpticalJukebox$Version" "platter" "I") (by decide +kernel)) (sv_S2 hne rfl (fun _ => rfl) rfl) dX6_copyFrom_10 ?_
  obtain ⟨sd2, e_sd2, hf⟩ := x_letE hf
  refine x_put (i := i) (k := 6) (j := j) (t := 1) (w' := wS (wS w i2 so) i sd2) hx hb hts i_6 tyX6 tyX6_ok nmX6 hown hK hW ⟨hi, hj⟩ hS rfl ⟨by decide, by decide, rfl⟩ (hts (.fieldLink RX6 13 "OpticalJukebox$Version" "platter" "I") (by decide +kernel)) rfl (ty := .int) (by decide +kernel) rfl rfl ⟨rfl, rfl⟩ dX6_copyFrom_13 (fp_S e_sd2 rfl) (fun H locs hW hS => ?_)
  refine lv_aload_n hx hb dX6_copyFrom_16 rfl (lv_at hl 0 rfl) ?_
  refine lv_aload_n hx hb dX6_copyFrom_17 rfl (lv_at hl 1 rfl) ?_
  refine x_get (i := i2) (k := 6) (j := j2) (t := 2) hx hb hts i_6 hown hK hW ⟨hi2, hj2⟩ rfl ⟨by decide, by decide, rfl⟩ (hts (.fieldLink RX6 16 "OpticalJukebox$Version" "start" "I") (by decide +kernel)) (sv_S2 hne rfl (fun _ => rfl) rfl) dX6_copyFrom_18 ?_
  obtain ⟨sd3, e_sd3, hf⟩ := x_letE hf
  refine x_put (i := i) (k := 6) (j := j) (t := 2) (w' := wS (wS w i2 so) i sd3) hx hb hts i_6 tyX6 tyX6_ok nmX6 hown hK hW ⟨hi, hj⟩ hS rfl ⟨by decide, by decide, rfl⟩ (hts (.fieldLink RX6 16 "OpticalJukebox$Version" "start" "I") (by decide +kernel)) rfl (ty := .int) (by decide +kernel) rfl rfl ⟨rfl, rfl⟩ dX6_copyFrom_21 (fp_S e_sd3 rfl) (fun H locs hW hS => ?_)
  refine lv_aload_n hx hb dX6_copyFrom_24 rfl (lv_at hl 0 rfl) ?_
  refine lv_aload_n hx hb dX6_copyFrom_25 rfl (lv_at hl 1 rfl) ?_
  refine x_get (i := i2) (k := 6) (j := j2) (t := 3) hx hb hts i_6 hown hK hW ⟨hi2, hj2⟩ rfl ⟨by decide, by decide, rfl⟩ (hts (.fieldLink RX6 19 "OpticalJukebox$Version" "size" "I") (by decide +kernel)) (sv_S2 hne rfl (fun _ => rfl) rfl) dX6_copyFrom_26 ?_
  obtain ⟨sd4, e_sd4, hf⟩ := x_letE hf
  refine x_put (i := i) (k := 6) (j := j) (t := 3) (w' := wS (wS w i2 so) i sd4) hx hb hts i_6 tyX6 tyX6_ok nmX6 hown hK hW ⟨hi, hj⟩ hS rfl ⟨by decide, by decide, rfl⟩ (hts (.fieldLink RX6 19 "OpticalJukebox$Version" "size" "I") (by decide +kernel)) rfl (ty := .int) (by decide +kernel) rfl rfl ⟨rfl, rfl⟩ dX6_copyFrom_29 (fp_S e_sd4 rfl) (fun H locs hW hS => ?_)
  refine lv_aload_n hx hb dX6_copyFrom_32 rfl (lv_at hl 0 rfl) ?_
  refine lv_aload_n hx hb dX6_copyFrom_33 rfl (lv_at hl 1 rfl) ?_
  refine x_get (i := i2) (k := 6) (j := j2) (t := 4) hx hb hts i_6 hown hK hW ⟨hi2, hj2⟩ rfl ⟨by decide, by decide, rfl⟩ (hts (.fieldLink RX6 22 "OpticalJukebox$Version" "session" "I") (by decide +kernel)) (sv_S2 hne rfl (fun _ => rfl) rfl) dX6_copyFrom_34 ?_
  obtain ⟨sd5, e_sd5, hf⟩ := x_letE hf
  refine x_put (i := i) (k := 6) (j := j) (t := 4) (w' := wS (wS w i2 so) i sd5) hx hb hts i_6 tyX6 tyX6_ok nmX6 hown hK hW ⟨hi, hj⟩ hS rfl ⟨by decide, by decide, rfl⟩ (hts (.fieldLink RX6 22 "OpticalJukebox$Version" "session" "I") (by decide +kernel)) rfl (ty := .int) (by decide +kernel) rfl rfl ⟨rfl, rfl⟩ dX6_copyFrom_37 (fp_S e_sd5 rfl) (fun H locs hW hS => ?_)
  refine lv_aload_n hx hb dX6_copyFrom_40 rfl (lv_at hl 0 rfl) ?_
  refine lv_aload_n hx hb dX6_copyFrom_41 rfl (lv_at hl 1 rfl) ?_
  refine x_get (i := i2) (k := 6) (j := j2) (t := 5) hx hb hts i_6 hown hK hW ⟨hi2, hj2⟩ rfl ⟨by decide, by decide, rfl⟩ (hts (.fieldLink RX6 25 "OpticalJukebox$Version" "remapped" "I") (by decide +kernel)) (sv_S2 hne rfl (fun _ => rfl) rfl) dX6_copyFrom_42 ?_
  obtain ⟨sd6, e_sd6, hf⟩ := x_letE hf
  refine x_put (i := i) (k := 6) (j := j) (t := 5) (w' := wS (wS w i2 so) i sd6) hx hb hts i_6 tyX6 tyX6_ok nmX6 hown hK hW ⟨hi, hj⟩ hS rfl ⟨by decide, by decide, rfl⟩ (hts (.fieldLink RX6 25 "OpticalJukebox$Version" "remapped" "I") (by decide +kernel)) rfl (ty := .int) (by decide +kernel) rfl rfl ⟨rfl, rfl⟩ dX6_copyFrom_45 (fp_S e_sd6 rfl) (fun H locs hW hS => ?_)
  refine lv_aload_n hx hb dX6_copyFrom_48 rfl (lv_at hl 0 rfl) ?_
  refine lv_aload_n hx hb dX6_copyFrom_49 rfl (lv_at hl 1 rfl) ?_
  refine x_get (i := i2) (k := 6) (j := j2) (t := 6) hx hb hts i_6 hown hK hW ⟨hi2, hj2⟩ rfl ⟨by decide, by decide, rfl⟩ (hts (.fieldLink RX6 28 "OpticalJukebox$Version" "damaged" "Z") (by decide +kernel)) (sv_S2 hne rfl (fun _ => rfl) rfl) dX6_copyFrom_50 ?_
  obtain ⟨hg7, hf⟩ := x_guardE hf
  obtain ⟨sd8, e_sd8, hf⟩ := x_letE hf
  refine x_put (i := i) (k := 6) (j := j) (t := 6) (w' := wS (wS w i2 so) i sd8) hx hb hts i_6 tyX6 tyX6_ok nmX6 hown hK hW ⟨hi, hj⟩ hS rfl ⟨by decide, by decide, rfl⟩ (hts (.fieldLink RX6 28 "OpticalJukebox$Version" "damaged" "Z") (by decide +kernel)) rfl (ty := .boolean) (by decide +kernel) (nar_b hg7) (fit_b hg7) ⟨rfl, rfl⟩ dX6_copyFrom_53 (fp_S e_sd8 rfl) (fun H locs hW hS => ?_)
  cases hf
  exact x_vret hx hb hr hlocks hK hW hS dX6_copyFrom_56
abbrev rm_X6_holds : Room := { frames := 0, cells := 0, slots := 0, locals := 0 }
set_option maxRecDepth 100000 in
set_option maxHeartbeats 4000000 in
theorem ct_X6_holds (l : Launch) (g : GT) (w : WT) (i : Nat) (hi : i ∈ k_S w.1) (sd : SD) (j : Nat) (hj : j < 40) (a1 : Int32) (a2 : Int32) {q : Int32} (hf : f_X6_holds sd j a1 a2 = some q) : Met l yX6_holds wsX6_holds rm_X6_holds (cPre g (wS w i sd) [.ref (adr i 6 j), .int a1, .int a2]) (cQi g q (wS w i sd)) 0 0 (gA g) := by
  have i_6 : ∀ w ∈ u_ws RX6 TX6 7, w ∈ wsX6_holds := by decide +kernel
  refine x_met (by decide) rfl (Nat.le_of_ble_eq_true rfl) ?_
  intro p e s m below meth c hx hb hr hml hts hown hlocks hK hW hS ls hl
  have hown : s.vm.findClass RX6 = some m.cls := hown
  have hl : lv_has ls 3 [(0, .ref (adr i 6 j)), (1, .int a1), (2, .int a2)] := hl
  rw [f_X6_holds] at hf
  refine lv_aload_n hx hb dX6_holds_0 rfl (lv_at hl 0 rfl) ?_
  refine x_get (i := i) (k := 6) (j := j) (t := 1) hx hb hts i_6 hown hK hW ⟨hi, hj⟩ rfl ⟨by decide, by decide, rfl⟩ (hts (.fieldLink RX6 13 "OpticalJukebox$Version" "platter" "I") (by decide +kernel)) (sv_S rfl (fun _ => rfl) rfl) dX6_holds_1 ?_
  refine lv_iload_n hx hb dX6_holds_4 rfl (lv_at hl 1 rfl) ?_
  refine lv_icmp_ne (tgt := 33) hx hb dX6_holds_5 (by decide) (fun hc => ?_) (fun hc => ?_)
  · have hf := x_iteF hf hc
    refine lv_iconst (v := 0) hx hb dX6_holds_33 (by decide) ?_
    cases hf
    exact x_zret hx hb hr hlocks hK hW hS (Or.inl rfl) rfl dX6_holds_34
  · have hf := x_iteT hf hc
    refine lv_iload_n hx hb dX6_holds_8 rfl (lv_at hl 2 rfl) ?_
    refine lv_aload_n hx hb dX6_holds_9 rfl (lv_at hl 0 rfl) ?_
    refine x_get (i := i) (k := 6) (j := j) (t := 2) hx hb hts i_6 hown hK hW ⟨hi, hj⟩ rfl ⟨by decide, by decide, rfl⟩ (hts (.fieldLink RX6 16 "OpticalJukebox$Version" "start" "I") (by decide +kernel)) (sv_S rfl (fun _ => rfl) rfl) dX6_holds_10 ?_
    refine lv_icmp_lt (tgt := 33) hx hb dX6_holds_13 (by decide) (fun hc => ?_) (fun hc => ?_)
    · have hf := x_iteT hf hc
      refine lv_iconst (v := 0) hx hb dX6_holds_33 (by decide) ?_
      cases hf
      exact x_zret hx hb hr hlocks hK hW hS (Or.inl rfl) rfl dX6_holds_34
    · have hf := x_iteF hf hc
      refine lv_iload_n hx hb dX6_holds_16 rfl (lv_at hl 2 rfl) ?_
      refine lv_aload_n hx hb dX6_holds_17 rfl (lv_at hl 0 rfl) ?_
      refine x_get (i := i) (k := 6) (j := j) (t := 2) hx hb hts i_6 hown hK hW ⟨hi, hj⟩ rfl ⟨by decide, by decide, rfl⟩ (hts (.fieldLink RX6 16 "OpticalJukebox$Version" "start" "I") (by decide +kernel)) (sv_S rfl (fun _ => rfl) rfl) dX6_holds_18 ?_
      refine lv_aload_n hx hb dX6_holds_21 rfl (lv_at hl 0 rfl) ?_
      refine x_get (i := i) (k := 6) (j := j) (t := 3) hx hb hts i_6 hown hK hW ⟨hi, hj⟩ rfl ⟨by decide, by decide, rfl⟩ (hts (.fieldLink RX6 19 "OpticalJukebox$Version" "size" "I") (by decide +kernel)) (sv_S rfl (fun _ => rfl) rfl) dX6_holds_22 ?_
      refine lv_iadd hx hb dX6_holds_25 ?_
      refine lv_icmp_ge (tgt := 33) hx hb dX6_holds_26 (by decide) (fun hc => ?_) (fun hc => ?_)
      · have hf := x_iteT hf hc
        refine lv_iconst (v := 0) hx hb dX6_holds_33 (by decide) ?_
        cases hf
        exact x_zret hx hb hr hlocks hK hW hS (Or.inl rfl) rfl dX6_holds_34
      · have hf := x_iteF hf hc
        refine lv_iconst (v := 1) hx hb dX6_holds_29 (by decide) ?_
        refine lv_goto (tgt := 34) hx hb dX6_holds_30 (by decide) ?_
        cases hf
        exact x_zret hx hb hr hlocks hK hW hS (Or.inr rfl) rfl dX6_holds_34
