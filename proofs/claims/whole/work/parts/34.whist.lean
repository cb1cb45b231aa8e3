theorem dX1_forgetAll_0 : decode cX1_forgetAll 0 = .ok (.aload_n 0, 1) := by decide +kernel
theorem dX1_forgetAll_1 : decode cX1_forgetAll 1 = .ok (.iconst 0, 1) := by decide +kernel
theorem dX1_forgetAll_2 : decode cX1_forgetAll 2 = .ok (.putfield 17, 3) := by decide +kernel
theorem dX1_forgetAll_5 : decode cX1_forgetAll 5 = .ok (.return_, 1) := by decide +kernel
abbrev rm_X1_forgetAll : Room := { frames := 0, cells := 0, slots := 0, locals := 0 }
set_option maxRecDepth 100000 in
set_option maxHeartbeats 4000000 in
theorem ct_X1_forgetAll (l : Launch) (g : GT) (hfl : 1 ≤ gf g) (w : WT) (hz : Nat → Option Nat) (hd : SD) {q : SD} (hf : f_X1_forgetAll hd  = some q) : Met l yX1_forgetAll wsX1_forgetAll rm_X1_forgetAll (cPre g (wH w hd hz) [.ref (adr (g.1 + 186) 1 0)]) (cQv g (wH w q hz)) 0 0 (gA g) := by
  have i_1 : ∀ w ∈ u_ws RX1 TX1 3, w ∈ wsX1_forgetAll := by decide +kernel
  refine x_met (by decide) rfl (Nat.le_of_ble_eq_true rfl) ?_
  intro p e s m below meth c hx hb hr hml hts hown hlocks hK hW hS ls hl
  have hown : s.vm.findClass RX1 = some m.cls := hown
  have hl : lv_has ls 1 [(0, .ref (adr (g.1 + 186) 1 0))] := hl
  rw [f_X1_forgetAll] at hf
  refine lv_aload_n hx hb dX1_forgetAll_0 rfl (lv_at hl 0 rfl) ?_
  refine lv_iconst (v := 0) hx hb dX1_forgetAll_1 (by decide) ?_
  obtain ⟨hd1, e_hd1, hf⟩ := x_letE hf
  refine x_put (i := (g.1 + 186)) (k := 1) (j := 0) (t := 2) (w' := wH w hd1 hz) hx hb hts i_1 tyX1 tyX1_ok nmX1 hown hK hW ⟨⟨hfl, rfl⟩, by decide⟩ hS rfl ⟨by decide, by decide, rfl⟩ (hts (.fieldLink RX1 17 "OpticalJukebox$History" "count" "I") (by decide +kernel)) rfl (ty := .int) (by decide +kernel) rfl rfl ⟨rfl, rfl⟩ dX1_forgetAll_2 (fp_H e_hd1 rfl) (fun H locs hW hS => ?_)
  cases hf
  exact x_vret hx hb hr hlocks hK hW hS dX1_forgetAll_5
