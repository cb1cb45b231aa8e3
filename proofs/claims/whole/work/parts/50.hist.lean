/-! the history and the planner: contracts by hand -/
set_option maxRecDepth 20000 in
theorem ggX1_keep_X4_init : GoodIn wsX1_keep wsX4_init := goodIn_r _ [9, 10, 11, 12, 13, 14, 15, 16, 17, 18, 19, 20, 21, 22, 23, 24, 25, 26, 27, 28, 29, 30, 31, 32, 33, 34, 35, 36, 37, 38, 39, 40, 41, 42, 43, 6, 44, 45, 46, 47, 48, 49, 50, 51, 52, 53, 54, 55, 56, 57, 58, 59, 60, 101, 102, 103, 104, 105, 106, 107, 108, 109, 110, 111, 112, 113, 114, 115, 116, 117, 118, 119, 120, 121, 122, 123, 124, 125, 126, 127, 128, 129, 130, 131, 132, 133, 134, 135, 136, 137] (by decide +kernel) (by decide +kernel)
set_option maxRecDepth 20000 in
theorem gX1_keep_X4_init : GoodIn wsX1_keep (wsX4_init) := ggX1_keep_X4_init
set_option maxRecDepth 20000 in
theorem ggX1_keep_X4_copyFrom : GoodIn wsX1_keep wsX4_copyFrom := goodIn_r _ [64, 45, 14, 65, 66, 67, 68, 46, 16, 47, 48, 18, 49, 50, 20, 21, 51, 22, 52, 53, 54, 55, 56, 69, 70, 71, 24, 72, 73, 74, 75, 76, 77, 78, 26, 79, 80, 81, 82, 83, 84, 85, 35, 86, 36, 37, 87, 88, 89, 28, 90, 91, 92, 93, 94, 95, 96, 97, 101, 102, 103, 104, 105, 106, 107, 108, 109, 110, 111, 112, 113, 114, 115, 116, 117, 118, 119, 120, 121, 122, 123, 124, 125, 126, 127, 128, 129, 130, 131, 132, 133, 134, 135, 136, 137] (by decide +kernel) (by decide +kernel)
set_option maxRecDepth 20000 in
theorem gX1_keep_X4_copyFrom : GoodIn wsX1_keep (wsV RX1 25 RX4 yX4_copyFrom wsX4_copyFrom) := goodIn_app (goodIn_of _ (by decide +kernel)) ggX1_keep_X4_copyFrom
theorem dX1_keep_0 : decode cX1_keep 0 = .ok (.aload_n 0, 1) := by decide +kernel
theorem dX1_keep_1 : decode cX1_keep 1 = .ok (.getfield 21, 3) := by decide +kernel
theorem dX1_keep_4 : decode cX1_keep 4 = .ok (.aload_n 0, 1) := by decide +kernel
theorem dX1_keep_5 : decode cX1_keep 5 = .ok (.getfield 17, 3) := by decide +kernel
theorem dX1_keep_8 : decode cX1_keep 8 = .ok (.iadd, 1) := by decide +kernel
theorem dX1_keep_9 : decode cX1_keep 9 = .ok (.bipush 16, 2) := by decide +kernel
theorem dX1_keep_11 : decode cX1_keep 11 = .ok (.irem, 1) := by decide +kernel
theorem dX1_keep_12 : decode cX1_keep 12 = .ok (.istore_n 2, 1) := by decide +kernel
theorem dX1_keep_13 : decode cX1_keep 13 = .ok (.aload_n 0, 1) := by decide +kernel
theorem dX1_keep_14 : decode cX1_keep 14 = .ok (.getfield 11, 3) := by decide +kernel
theorem dX1_keep_17 : decode cX1_keep 17 = .ok (.iload_n 2, 1) := by decide +kernel
theorem dX1_keep_18 : decode cX1_keep 18 = .ok (.aaload, 1) := by decide +kernel
theorem dX1_keep_19 : decode cX1_keep 19 = .ok (.ifnonnull 16, 3) := by decide +kernel
theorem dX1_keep_22 : decode cX1_keep 22 = .ok (.aload_n 0, 1) := by decide +kernel
theorem dX1_keep_23 : decode cX1_keep 23 = .ok (.getfield 11, 3) := by decide +kernel
theorem dX1_keep_26 : decode cX1_keep 26 = .ok (.iload_n 2, 1) := by decide +kernel
theorem dX1_keep_27 : decode cX1_keep 27 = .ok (.new 9, 3) := by decide +kernel
theorem dX1_keep_30 : decode cX1_keep 30 = .ok (.dup, 1) := by decide +kernel
theorem dX1_keep_31 : decode cX1_keep 31 = .ok (.invokespecial 24, 3) := by decide +kernel
theorem dX1_keep_34 : decode cX1_keep 34 = .ok (.aastore, 1) := by decide +kernel
theorem dX1_keep_35 : decode cX1_keep 35 = .ok (.aload_n 0, 1) := by decide +kernel
theorem dX1_keep_36 : decode cX1_keep 36 = .ok (.getfield 11, 3) := by decide +kernel
theorem dX1_keep_39 : decode cX1_keep 39 = .ok (.iload_n 2, 1) := by decide +kernel
theorem dX1_keep_40 : decode cX1_keep 40 = .ok (.aaload, 1) := by decide +kernel
theorem dX1_keep_41 : decode cX1_keep 41 = .ok (.aload_n 1, 1) := by decide +kernel
theorem dX1_keep_42 : decode cX1_keep 42 = .ok (.invokevirtual 25, 3) := by decide +kernel
theorem dX1_keep_45 : decode cX1_keep 45 = .ok (.aload_n 0, 1) := by decide +kernel
theorem dX1_keep_46 : decode cX1_keep 46 = .ok (.getfield 17, 3) := by decide +kernel
theorem dX1_keep_49 : decode cX1_keep 49 = .ok (.bipush 16, 2) := by decide +kernel
theorem dX1_keep_51 : decode cX1_keep 51 = .ok (.if_icmp .ge 16, 3) := by decide +kernel
theorem dX1_keep_54 : decode cX1_keep 54 = .ok (.aload_n 0, 1) := by decide +kernel
theorem dX1_keep_55 : decode cX1_keep 55 = .ok (.dup, 1) := by decide +kernel
theorem dX1_keep_56 : decode cX1_keep 56 = .ok (.getfield 17, 3) := by decide +kernel
theorem dX1_keep_59 : decode cX1_keep 59 = .ok (.iconst 1, 1) := by decide +kernel
theorem dX1_keep_60 : decode cX1_keep 60 = .ok (.iadd, 1) := by decide +kernel
theorem dX1_keep_61 : decode cX1_keep 61 = .ok (.putfield 17, 3) := by decide +kernel
theorem dX1_keep_64 : decode cX1_keep 64 = .ok (.goto 16, 3) := by decide +kernel
theorem dX1_keep_67 : decode cX1_keep 67 = .ok (.aload_n 0, 1) := by decide +kernel
theorem dX1_keep_68 : decode cX1_keep 68 = .ok (.aload_n 0, 1) := by decide +kernel
theorem dX1_keep_69 : decode cX1_keep 69 = .ok (.getfield 21, 3) := by decide +kernel
theorem dX1_keep_72 : decode cX1_keep 72 = .ok (.iconst 1, 1) := by decide +kernel
theorem dX1_keep_73 : decode cX1_keep 73 = .ok (.iadd, 1) := by decide +kernel
theorem dX1_keep_74 : decode cX1_keep 74 = .ok (.bipush 16, 2) := by decide +kernel
theorem dX1_keep_76 : decode cX1_keep 76 = .ok (.irem, 1) := by decide +kernel
theorem dX1_keep_77 : decode cX1_keep 77 = .ok (.putfield 21, 3) := by decide +kernel
theorem dX1_keep_80 : decode cX1_keep 80 = .ok (.return_, 1) := by decide +kernel
theorem dX1_goBack_0 : decode cX1_goBack 0 = .ok (.aload_n 0, 1) := by decide +kernel
theorem dX1_goBack_1 : decode cX1_goBack 1 = .ok (.getfield 17, 3) := by decide +kernel
theorem dX1_goBack_4 : decode cX1_goBack 4 = .ok (.ifCond .ne 5, 3) := by decide +kernel
theorem dX1_goBack_7 : decode cX1_goBack 7 = .ok (.aload_n 1, 1) := by decide +kernel
theorem dX1_goBack_8 : decode cX1_goBack 8 = .ok (.areturn, 1) := by decide +kernel
theorem dX1_goBack_9 : decode cX1_goBack 9 = .ok (.aload_n 0, 1) := by decide +kernel
theorem dX1_goBack_10 : decode cX1_goBack 10 = .ok (.dup, 1) := by decide +kernel
theorem dX1_goBack_11 : decode cX1_goBack 11 = .ok (.getfield 17, 3) := by decide +kernel
theorem dX1_goBack_14 : decode cX1_goBack 14 = .ok (.iconst 1, 1) := by decide +kernel
theorem dX1_goBack_15 : decode cX1_goBack 15 = .ok (.isub, 1) := by decide +kernel
theorem dX1_goBack_16 : decode cX1_goBack 16 = .ok (.putfield 17, 3) := by decide +kernel
theorem dX1_goBack_19 : decode cX1_goBack 19 = .ok (.aload_n 0, 1) := by decide +kernel
theorem dX1_goBack_20 : decode cX1_goBack 20 = .ok (.getfield 21, 3) := by decide +kernel
theorem dX1_goBack_23 : decode cX1_goBack 23 = .ok (.aload_n 0, 1) := by decide +kernel
theorem dX1_goBack_24 : decode cX1_goBack 24 = .ok (.getfield 17, 3) := by decide +kernel
theorem dX1_goBack_27 : decode cX1_goBack 27 = .ok (.iadd, 1) := by decide +kernel
theorem dX1_goBack_28 : decode cX1_goBack 28 = .ok (.bipush 16, 2) := by decide +kernel
theorem dX1_goBack_30 : decode cX1_goBack 30 = .ok (.irem, 1) := by decide +kernel
theorem dX1_goBack_31 : decode cX1_goBack 31 = .ok (.istore_n 2, 1) := by decide +kernel
theorem dX1_goBack_32 : decode cX1_goBack 32 = .ok (.aload_n 0, 1) := by decide +kernel
theorem dX1_goBack_33 : decode cX1_goBack 33 = .ok (.getfield 11, 3) := by decide +kernel
theorem dX1_goBack_36 : decode cX1_goBack 36 = .ok (.iload_n 2, 1) := by decide +kernel
theorem dX1_goBack_37 : decode cX1_goBack 37 = .ok (.aaload, 1) := by decide +kernel
theorem dX1_goBack_38 : decode cX1_goBack 38 = .ok (.astore_n 3, 1) := by decide +kernel
theorem dX1_goBack_39 : decode cX1_goBack 39 = .ok (.aload_n 0, 1) := by decide +kernel
theorem dX1_goBack_40 : decode cX1_goBack 40 = .ok (.getfield 11, 3) := by decide +kernel
theorem dX1_goBack_43 : decode cX1_goBack 43 = .ok (.iload_n 2, 1) := by decide +kernel
theorem dX1_goBack_44 : decode cX1_goBack 44 = .ok (.aload_n 1, 1) := by decide +kernel
theorem dX1_goBack_45 : decode cX1_goBack 45 = .ok (.aastore, 1) := by decide +kernel
theorem dX1_goBack_46 : decode cX1_goBack 46 = .ok (.aload_n 3, 1) := by decide +kernel
theorem dX1_goBack_47 : decode cX1_goBack 47 = .ok (.ifnonnull 7, 3) := by decide +kernel
theorem dX1_goBack_50 : decode cX1_goBack 50 = .ok (.aload_n 1, 1) := by decide +kernel
theorem dX1_goBack_51 : decode cX1_goBack 51 = .ok (.goto 4, 3) := by decide +kernel
theorem dX1_goBack_54 : decode cX1_goBack 54 = .ok (.aload_n 3, 1) := by decide +kernel
theorem dX1_goBack_55 : decode cX1_goBack 55 = .ok (.areturn, 1) := by decide +kernel
set_option maxRecDepth 20000 in
theorem ggX7_readyPlanner_X2_init : GoodIn wsX7_readyPlanner wsX2_init := goodIn_r _ [6, 7, 8, 9, 10, 11, 12, 13, 14, 15, 25, 26, 27, 28, 29, 30] (by decide +kernel) (by decide +kernel)
set_option maxRecDepth 20000 in
theorem gX7_readyPlanner_X2_init_n380 : GoodIn wsX7_readyPlanner (wsX2_init) := ggX7_readyPlanner_X2_init
theorem dX7_readyPlanner_0 : decode cX7_readyPlanner 0 = .ok (.aload_n 0, 1) := by decide +kernel
theorem dX7_readyPlanner_1 : decode cX7_readyPlanner 1 = .ok (.getfield 376, 3) := by decide +kernel
theorem dX7_readyPlanner_4 : decode cX7_readyPlanner 4 = .ok (.ifnonnull 14, 3) := by decide +kernel
theorem dX7_readyPlanner_7 : decode cX7_readyPlanner 7 = .ok (.aload_n 0, 1) := by decide +kernel
theorem dX7_readyPlanner_8 : decode cX7_readyPlanner 8 = .ok (.new 328, 3) := by decide +kernel
theorem dX7_readyPlanner_11 : decode cX7_readyPlanner 11 = .ok (.dup, 1) := by decide +kernel
theorem dX7_readyPlanner_12 : decode cX7_readyPlanner 12 = .ok (.invokespecial 380, 3) := by decide +kernel
theorem dX7_readyPlanner_15 : decode cX7_readyPlanner 15 = .ok (.putfield 376, 3) := by decide +kernel
theorem dX7_readyPlanner_18 : decode cX7_readyPlanner 18 = .ok (.aload_n 0, 1) := by decide +kernel
theorem dX7_readyPlanner_19 : decode cX7_readyPlanner 19 = .ok (.getfield 376, 3) := by decide +kernel
theorem dX7_readyPlanner_22 : decode cX7_readyPlanner 22 = .ok (.areturn, 1) := by decide +kernel
set_option maxRecDepth 20000 in
theorem ggX7_forgetPlan_X2_forgetTable : GoodIn wsX7_forgetPlan wsX2_forgetTable := goodIn_r _ [6, 7, 17, 18, 19, 20, 21, 22] (by decide +kernel) (by decide +kernel)
set_option maxRecDepth 20000 in
theorem gX7_forgetPlan_X2_forgetTable : GoodIn wsX7_forgetPlan (wsV RX7 381 RX2 yX2_forgetTable wsX2_forgetTable) := goodIn_app (goodIn_of _ (by decide +kernel)) ggX7_forgetPlan_X2_forgetTable
theorem dX7_forgetPlan_0 : decode cX7_forgetPlan 0 = .ok (.aload_n 0, 1) := by decide +kernel
theorem dX7_forgetPlan_1 : decode cX7_forgetPlan 1 = .ok (.getfield 376, 3) := by decide +kernel
theorem dX7_forgetPlan_4 : decode cX7_forgetPlan 4 = .ok (.ifnull 10, 3) := by decide +kernel
theorem dX7_forgetPlan_7 : decode cX7_forgetPlan 7 = .ok (.aload_n 0, 1) := by decide +kernel
theorem dX7_forgetPlan_8 : decode cX7_forgetPlan 8 = .ok (.getfield 376, 3) := by decide +kernel
theorem dX7_forgetPlan_11 : decode cX7_forgetPlan 11 = .ok (.invokevirtual 381, 3) := by decide +kernel
theorem dX7_forgetPlan_14 : decode cX7_forgetPlan 14 = .ok (.return_, 1) := by decide +kernel
set_option maxRecDepth 20000 in
theorem ggX7_remember_X1_keep : GoodIn wsX7_remember wsX1_keep := goodIn_r _ [7, 8, 9, 10, 11, 12, 13, 14, 15, 16, 17, 18, 19, 20, 21, 22, 23, 24, 25, 26, 27, 28, 29, 30, 31, 32, 33, 34, 35, 36, 37, 38, 39, 40, 41, 42, 43, 44, 45, 46, 47, 48, 49, 50, 51, 52, 53, 54, 55, 56, 57, 58, 59, 60, 61, 62, 63, 64, 65, 66, 67, 68, 69, 70, 71, 72, 73, 74, 75, 76, 77, 78, 79, 80, 81, 82, 83, 84, 85, 86, 87, 88, 89, 90, 91, 92, 93, 94, 95, 96, 97, 98, 99, 100, 101, 102, 103, 104, 126, 127, 128, 129, 130, 131, 132, 133, 134, 135, 136, 137, 138, 139, 140, 141, 142, 143, 144, 145, 146, 147, 148, 149, 150, 151, 152, 153, 154, 155, 156, 157, 158, 159, 160, 161, 162, 163, 164, 165] (by decide +kernel) (by decide +kernel)
set_option maxRecDepth 20000 in
theorem gX7_remember_X1_keep : GoodIn wsX7_remember (wsV RX7 351 RX1 yX1_keep wsX1_keep) := goodIn_app (goodIn_of _ (by decide +kernel)) ggX7_remember_X1_keep
set_option maxRecDepth 20000 in
theorem ggX7_remember_X7_forgetPlan : GoodIn wsX7_remember wsX7_forgetPlan := goodIn_r _ [109, 110, 111, 112, 113, 114, 115, 116, 117, 118, 119, 120, 121, 122, 123, 124, 125, 166, 167, 168, 169, 170, 171] (by decide +kernel) (by decide +kernel)
set_option maxRecDepth 20000 in
theorem gX7_remember_X7_forgetPlan : GoodIn wsX7_remember (wsV RX7 67 RX7 yX7_forgetPlan wsX7_forgetPlan) := goodIn_app (goodIn_of _ (by decide +kernel)) ggX7_remember_X7_forgetPlan
theorem dX7_remember_0 : decode cX7_remember 0 = .ok (.aload_n 0, 1) := by decide +kernel
theorem dX7_remember_1 : decode cX7_remember 1 = .ok (.getfield 29, 3) := by decide +kernel
theorem dX7_remember_4 : decode cX7_remember 4 = .ok (.aload_n 0, 1) := by decide +kernel
theorem dX7_remember_5 : decode cX7_remember 5 = .ok (.getfield 19, 3) := by decide +kernel
theorem dX7_remember_8 : decode cX7_remember 8 = .ok (.invokevirtual 351, 3) := by decide +kernel
theorem dX7_remember_11 : decode cX7_remember 11 = .ok (.aload_n 0, 1) := by decide +kernel
theorem dX7_remember_12 : decode cX7_remember 12 = .ok (.invokevirtual 67, 3) := by decide +kernel
theorem dX7_remember_15 : decode cX7_remember 15 = .ok (.return_, 1) := by decide +kernel

section HROWS
variable {p : Program} {l : Launch} {e : Env} {R : Room} {s : State} {m : MethodId} {args : Array Value} {below : List Frame} {meth : Method} {c : Code} {H H0 : Heap} {locs : List Loc} {cells slots : Nat} {Q : State → Prop} {pc : Nat} {ls : Array Slot} {rest st0 : List Value} {cc : ByteArray} {g : GT} {A : Nat → Prop} {cs : CT} {mt : MT}
theorem rr_put (hexec : p.tables.exec = Jvm.exec) (hb : c.code = cc) {own C : String} {T : u_T} {N ci index : Nat} {Ts : List Cond} (hts : ∀ w ∈ Ts, w.before args s = true) (hin : ∀ w ∈ u_ws C T N, w ∈ Ts) (ty0 : Nat → FieldType) (hty : ∀ k, k < N → parseFieldDescriptor (T k).2.2.1 = some (ty0 k)) (hnm : ∀ a, a < N → ∀ b, b < N → a ≠ b → (T a).2.1 ≠ (T b).2.1) (hown : s.vm.findClass own = some m.cls) (hK : wK g s) {a : Nat} {fs : List Value} (he : va_at (gD g) vwCl (a, .inr (ci, fs)) H) (hS0 : va_S A H0 H locs) (hA : A a) (hc : vwCl[ci]? = some (C, T, N)) (k : Nat) (hk : k < N) (hlink : (Cond.fieldLink own index (T k).1 (T k).2.1 (T k).2.2.1).before args s = true) (hfin : (T k).2.2.2 = false) {ty : FieldType} {v : Value} (hd : parseFieldDescriptor (T k).2.2.1 = some ty) (hn : narrow ty v = v) (hfit : fits ty v = true) (hl : k < fs.length)
    (hdg : decode cc pc = .ok (.putfield index, 3)) (kk : ∀ (H1 : Heap) (locs1 : List Loc), H1.size = H.size → va_at (gD g) vwCl (a, .inr (ci, fs.set k v)) H1 → (∀ q : Nat, q ≠ a → H1[q]? = H[q]?) → va_S A H0 H1 locs1 → W p l e R s m args below meth c H1 locs1 cells slots Q (F0 m (pc + 3) ls rest)) : W p l e R s m args below meth c H locs cells slots Q (F0 m pc ls (v :: .ref a :: rest)) := by
  have hap := va_apart (own := own) hts hin ty0 hty hnm hK.1 hc
  obtain ⟨r, h1, cell, q1, q2, q3, q4⟩ := he
  have hr : r = (C, T, N) := Option.some.inj (h1.symm.trans hc)
  subst hr
  obtain ⟨hS, hfc, kC, hkC, hkind⟩ := hK.1.1 ci _ hc
  obtain ⟨cf, kf, fi, f, hi, hsl⟩ := hS k hk
  have hlay := hts _ (hin _ (u_in_lay hk))
  unfold u_lay at hlay
  rw [if_neg (by rw [hfin]; decide)] at hlay
  have hst := (u_facts hfc hkC (u_lays hts hin hk) hi).1
  have h6 := u_store hfc hkC hkind hlay hi hd hn hfit
  refine W.putK hexec hb (f := f) ⟨hown, hlink, ⟨_, _, _, hi⟩, hst⟩ (by rw [q2]; exact h6) q1 q3 (by rw [hsl]; exact k2_hasslot (q4 k hk)) rfl rfl hdg fun H' e1 e2 e3 => ?_
  rw [hsl] at e1 ⊢
  exact kk H' _ e2 ⟨_, hc, t_OB.to (V := updV (vp_V fs) k v) ⟨_, e1, q2, q3, t_set q4 hap hk v⟩ (fun j _ => vp_updV_set hl v j)⟩ e3 (hS0.put e2 e3 hA)
theorem wf_hz {hz' : Nat → Option Nat} (hW : World g (cs, mt) H) (hv : ∀ t q, hz' t = some q → q ∈ k_S cs) : WFit g (cs, mt) (kH cs (k_hd cs) hz', mt) (g.1 + 186) 22 0 (.inl (gy g 6, 16, .inr (.inr (.inr (.inr (fun t => (hz' t).map (fun q => adr q 4 0))))))) := by
  obtain ⟨-, -, -, v1, v2, v3⟩ := hW
  refine ⟨⟨rfl, rfl, rfl, v1, v2, hv⟩, rfl, fun i' k' j' hd hne => ?_⟩
  have h22 : k' ≠ 22 := fun z => by
    subst z
    have hj : j' < 1 := hd.2
    exact hne ⟨own_2 rfl hd, rfl, by omega⟩
  unfold cellOf
  have hv : sval (kH cs (k_hd cs) hz', mt) i' k' j' = sval (cs, mt) i' k' j' := rfl
  have hc : conts (kH cs (k_hd cs) hz', mt) i' k' j' = conts (cs, mt) i' k' j' := by
    unfold conts
    split <;> first | rfl | (exact absurd rfl h22)
  rw [hv, hc]
theorem x_aastH (hexec : p.tables.exec = Jvm.exec) (hb : c.code = cc) (hK : wK g s) (hfl : 1 ≤ gf g) (hW : World g (cs, mt) H) (hS : va_S (gA g) H0 H locs) {v : Nat} (hv : v ∈ k_S cs) {i : Int32} (hin : vp_in i 16) (hdg : decode cc pc = .ok (.aastore, 1))
    (kk : ∀ (H1 : Heap) (locs1 : List Loc), World g (kH cs (k_hd cs) (va_up (k_hz cs) i.toNatClampNeg (some v)), mt) H1 → va_S (gA g) H0 H1 locs1 → W p l e R s m args below meth c H1 locs1 cells slots Q (F0 m (pc + 1) ls rest)) : W p l e R s m args below meth c H locs cells slots Q (F0 m pc ls (.ref (adr v 4 0) :: .int i :: .ref (adr (g.1 + 186) 22 0) :: rest)) := by
  have hlt : i.toNatClampNeg < 16 := x_lt hin
  have h0 : ¬ i < 0 := fun q => hin (Or.inl q)
  have hn : wdm g (cs, mt) (g.1 + 186) 22 0 := ⟨⟨hfl, rfl⟩, by decide⟩
  have ha : H[adr (g.1 + 186) 22 0]? = some (vp_cell (gy g 6) (16, .inr (.inr (.inr (.inr (fun t => (k_hz cs t).map (fun q => adr q 4 0))))))) := hW.cell hn
  have hcv := hW.cell (i := v) (k := 4) (j := 0) ⟨hv, by decide⟩
  rw [cell_obj (by decide)] at hcv
  obtain ⟨r', hr', cellV, g1, g2, g3, -⟩ := hcv
  have hcls := (hK.1.1 4 (RX4, TX4, 18) rfl).2
  obtain ⟨kA, comp, k1, k2, k3, -⟩ := (hK.1.2 6 _ rfl).2
  have hcomp : comp = (gD g).1 4 := Option.some.inj (k3.symm.trans hcls.1)
  subst hcomp
  obtain ⟨kC, hkC, -⟩ := hcls.2
  refine W.aast hexec hb ha (fun q h => by cases h) (fun h => by cases h) k1 k2 rfl hkC ⟨h0, by show _ < (arrV _ _ _).slots.size; rw [arrV_size]; exact hlt⟩ g1 (fun q h => by rw [g3] at h; cases h) (by rw [g2]; exact hkC) (by rw [g2]; exact va_assign hcls) rfl rfl hdg fun H1 e z oq => ?_
  refine kk H1 _ (hW.set hn (wf_hz hW (fun t q h => ?_)) ?_ z oq) (hS.put z oq (hW.A hn))
  · by_cases ht : t = i.toNatClampNeg
    · rw [ht, va_up_self] at h
      rw [← Option.some.inj h]
      exact hv
    · rw [va_up_ne _ _ ht] at h
      exact hW.2.2.2.2.2 t q h
  · show H1[adr (g.1 + 186) 22 0]? = some (vp_cell _ _)
    rw [e, vp_cell_q, vp_cell_q, arrV_store]
    congr 2
    funext q
    by_cases hq : q = i.toNatClampNeg
    · subst hq
      simp [updV, va_up, va_rf]
    · simp [updV, va_up, hq]
theorem wf_st {st' : Nat} (hW : World g (cs, mt) H) (hv : st' ∈ k_S cs) : WFit g (cs, mt) (kZ cs (st', k_sp cs, k_pl cs), mt) g.1 7 0 (.inr (7, ((List.range (nf 7)).map (sval (cs, mt) g.1 7 0)).set 3 (.ref (adr st' 4 0)))) := by
  obtain ⟨-, -, -, v1, v2, v3⟩ := hW
  refine ⟨⟨rfl, rfl, rfl, hv, v2, v3⟩, rfl, fun i' k' j' hd hne => ?_⟩
  have h7 : k' ≠ 7 := fun z => by
    subst z
    have hj : j' < 1 := hd.2
    exact hne ⟨own_4 rfl hd, rfl, by omega⟩
  unfold cellOf
  have hv : sval (kZ cs (st', k_sp cs, k_pl cs), mt) i' k' j' = sval (cs, mt) i' k' j' := by
    funext t
    unfold sval
    have hz : zt (kZ cs (st', k_sp cs, k_pl cs), mt) k' t = zt (cs, mt) k' t := by
      unfold zt
      split <;> first | rfl | (exact absurd rfl h7)
    rw [hz]
    rfl
  rw [hv]
  rfl
theorem wf_sp {sp' : Nat} (hW : World g (cs, mt) H) (hv : sp' ∈ k_S cs) : WFit g (cs, mt) (kZ cs (k_st cs, sp', k_pl cs), mt) g.1 7 0 (.inr (7, ((List.range (nf 7)).map (sval (cs, mt) g.1 7 0)).set 4 (.ref (adr sp' 4 0)))) := by
  obtain ⟨-, -, -, v1, v2, v3⟩ := hW
  refine ⟨⟨rfl, rfl, rfl, v1, hv, v3⟩, rfl, fun i' k' j' hd hne => ?_⟩
  have h7 : k' ≠ 7 := fun z => by
    subst z
    have hj : j' < 1 := hd.2
    exact hne ⟨own_4 rfl hd, rfl, by omega⟩
  unfold cellOf
  have hv : sval (kZ cs (k_st cs, sp', k_pl cs), mt) i' k' j' = sval (cs, mt) i' k' j' := by
    funext t
    unfold sval
    have hz : zt (kZ cs (k_st cs, sp', k_pl cs), mt) k' t = zt (cs, mt) k' t := by
      unfold zt
      split <;> first | rfl | (exact absurd rfl h7)
    rw [hz]
    rfl
  rw [hv]
  rfl
end HROWS
abbrev rm_X7_forgetPlan : Room := { frames := 1, cells := 0, slots := 0, locals := 20 }
set_option maxRecDepth 100000 in
set_option maxHeartbeats 4000000 in
theorem ct_X7_forgetPlan (l : Launch) (g : GT) (hfl : 1 ≤ gf g) (cs : CT) (mt : MT) {q : CT} (hf : f_X7_forgetPlan cs = some q) : Met l yX7_forgetPlan wsX7_forgetPlan rm_X7_forgetPlan (cPre g (cs, mt) [.ref (adr g.1 7 0)]) (cQv g (q, mt)) 0 0 (gA g) := by
  have i_7 : ∀ w ∈ u_ws RX7 TX7 9, w ∈ wsX7_forgetPlan := by decide +kernel
  refine x_met (by decide) rfl (Nat.le_of_ble_eq_true rfl) ?_
  intro p e s m below meth c hx hb hr hml hts hown hlocks hK hW hS ls hl
  have hown : s.vm.findClass RX7 = some m.cls := hown
  have hl : lv_has ls 1 [(0, .ref (adr g.1 7 0))] := hl
  refine lv_aload_n hx hb dX7_forgetPlan_0 rfl (lv_at hl 0 rfl) ?_
  unfold f_X7_forgetPlan at hf
  cases hpl : k_pl cs with
  | none =>
    rw [hpl] at hf
    refine x_get (i := g.1) (k := 7) (j := 0) (t := 6) hx hb hts i_7 hown hK hW ⟨⟨hfl, rfl⟩, by decide⟩ rfl ⟨by decide, by decide, rfl⟩ (hts (.fieldLink RX7 376 "OpticalJukebox" "planner" "LOpticalJukebox$Planner;") (by decide +kernel)) (v := .null) (by show va_rf (Option.map _ (k_pl cs)) = _; rw [hpl]; rfl) dX7_forgetPlan_1 ?_
    refine lv_ifnullN (tgt := 14) hx hb dX7_forgetPlan_4 (by decide) ?_
    cases hf
    exact x_vret hx hb hr hlocks hK hW hS dX7_forgetPlan_14
  | some pi =>
    rw [hpl] at hf
    obtain ⟨q1, h1, hf⟩ := x_bindE hf
    refine x_get (i := g.1) (k := 7) (j := 0) (t := 6) hx hb hts i_7 hown hK hW ⟨⟨hfl, rfl⟩, by decide⟩ rfl ⟨by decide, by decide, rfl⟩ (hts (.fieldLink RX7 376 "OpticalJukebox" "planner" "LOpticalJukebox$Planner;") (by decide +kernel)) (v := .ref (adr pi 2 0)) (by show va_rf (Option.map _ (k_pl cs)) = _; rw [hpl]; rfl) dX7_forgetPlan_1 ?_
    refine lv_ifnull hx hb dX7_forgetPlan_4 ?_
    refine lv_aload_n hx hb dX7_forgetPlan_7 rfl (lv_at hl 0 rfl) ?_
    refine x_get (i := g.1) (k := 7) (j := 0) (t := 6) hx hb hts i_7 hown hK hW ⟨⟨hfl, rfl⟩, by decide⟩ rfl ⟨by decide, by decide, rfl⟩ (hts (.fieldLink RX7 376 "OpticalJukebox" "planner" "LOpticalJukebox$Planner;") (by decide +kernel)) (v := .ref (adr pi 2 0)) (by show va_rf (Option.map _ (k_pl cs)) = _; rw [hpl]; rfl) dX7_forgetPlan_8 ?_
    refine x_cv0 (x_rV ⟨hx, hb, hml, hown, hts⟩ (ct_X2_forgetTable l g (cs, mt) pi hpl (k_pd cs) h1) (cwV 0 hts gX7_forgetPlan_X2_forgetTable rfl rfl rfl (by decide +kernel) ⟨Nat.le_of_ble_eq_true rfl, Nat.le_of_ble_eq_true rfl⟩) hK hW hS (x_recv (i := pi) (k := 2) (j := 0) hK hW ⟨hpl, by decide⟩ rfl (by decide)) rfl hl.1 (rest := []) rfl (Nat.le_of_ble_eq_true rfl) dX7_forgetPlan_11 ⟨Nat.le_of_ble_eq_true rfl, Nat.le_of_ble_eq_true rfl⟩) hS (fun H locs hW hS => ?_)
    cases hf
    exact x_vret hx hb hr hlocks hK hW hS dX7_forgetPlan_14

