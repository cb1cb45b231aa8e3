set_option maxRecDepth 20000 in
theorem ggL_law_X7_write : GoodIn wsL_law wsX7_write := goodIn_q _ [(50, 9), (0, 19), (23, 12), (5, 15), (26, 21), (39, 5), (15, 7), (15, 8), (0, 18), (15, 9), (3, 3), (23, 13), (15, 11), (15, 12), (15, 13), (3, 0), (38, 16), (38, 17), (0, 2), (38, 18), (50, 10), (50, 11), (50, 12), (50, 13), (50, 14), (4, 18), (28, 4), (28, 5), (23, 10), (43, 13), (38, 19), (14, 6), (14, 7), (2, 2), (14, 8), (11, 23), (11, 22), (11, 20), (14, 9), (14, 10), (14, 11), (14, 12), (11, 19), (11, 21), (14, 13), (14, 14), (14, 15), (14, 16), (14, 17), (12, 12), (12, 13), (12, 14), (2, 13), (46, 14), (46, 15), (46, 16), (46, 17), (1, 0), (46, 18), (46, 19), (46, 20), (0, 23), (46, 21), (46, 22), (16, 17), (3, 17), (3, 16), (0, 17), (46, 23), (1, 10), (1, 11), (1, 12), (0, 10), (0, 11), (1, 13), (1, 14), (1, 15), (1, 16), (1, 17), (1, 18), (1, 19), (1, 20), (1, 21), (1, 22), (1, 23), (2, 0), (2, 1), (2, 3), (2, 4), (2, 5), (2, 6), (2, 7), (2, 8), (2, 9), (2, 10), (2, 11), (2, 12), (2, 14), (2, 15), (2, 16), (2, 17), (2, 18), (2, 19), (2, 20), (2, 21), (2, 22), (2, 23), (3, 1), (3, 2), (3, 4), (3, 5), (3, 6), (3, 7), (3, 8), (3, 9), (3, 10), (3, 11), (3, 12), (47, 0), (47, 1), (47, 2), (47, 3), (47, 4), (47, 5), (47, 6), (47, 7), (47, 8), (47, 9), (47, 10), (47, 11), (47, 12), (47, 13), (47, 14), (47, 15), (47, 16), (47, 17), (47, 18), (11, 18), (47, 19), (47, 20), (47, 21), (47, 22), (47, 23), (48, 0), (13, 8), (13, 9), (13, 10), (48, 1), (48, 2), (48, 3), (16, 18), (16, 19), (16, 20), (16, 21), (16, 22), (16, 23), (17, 0), (17, 1), (17, 2), (17, 3), (17, 4), (50, 15), (50, 16), (50, 17), (50, 18), (50, 0), (48, 5), (48, 6), (48, 7), (29, 12), (28, 7), (28, 8), (28, 9), (28, 10), (24, 9), (24, 10), (24, 11), (10, 17), (28, 11), (28, 12), (28, 13), (28, 14), (10, 18), (48, 8), (48, 9), (48, 10), (48, 11), (10, 16), (29, 13), (29, 14), (29, 15), (29, 16), (29, 17), (29, 18), (29, 19), (29, 20), (11, 9), (29, 21), (29, 22), (6, 4), (29, 23), (48, 12), (48, 13), (48, 14), (48, 15), (50, 19), (14, 19), (14, 20), (14, 21), (14, 22), (14, 23), (15, 0), (15, 1), (15, 2), (15, 3), (12, 19), (15, 4), (15, 5), (15, 6), (15, 10), (15, 14), (15, 15), (15, 16), (15, 17), (15, 18), (15, 19), (15, 20), (15, 21), (15, 22), (67, 0), (67, 1), (67, 2), (67, 3), (67, 4), (67, 5), (67, 6), (67, 7), (67, 8), (70, 0), (70, 1), (70, 2), (70, 3), (70, 4), (70, 5), (70, 6), (70, 7), (70, 8), (70, 9), (70, 10), (70, 11), (70, 12), (70, 13), (70, 14), (70, 15), (70, 16), (70, 17), (73, 0), (73, 1), (73, 2), (73, 3), (73, 4), (73, 5), (73, 6), (73, 7), (73, 8), (71, 0), (71, 1), (71, 2), (72, 0), (72, 1), (72, 2), (74, 0), (74, 1), (74, 2), (74, 3), (74, 4), (74, 5), (74, 6), (75, 0), (75, 1), (75, 2), (75, 3), (75, 4), (75, 5)] rfl (by decide +kernel)
set_option maxRecDepth 20000 in
theorem gL_law_X7_write : GoodIn wsL_law (wsV RL 177 RX7 yX7_write wsX7_write) := goodIn_app (goodIn_q _ [(50, 6), (50, 7), (50, 8), (0, 2)] rfl (by decide +kernel)) ggL_law_X7_write
set_option maxRecDepth 20000 in
theorem ggL_law_X8_write : GoodIn wsL_law wsX8_write := goodIn_q _ [(50, 23), (5, 4), (23, 18), (3, 22), (39, 14), (39, 15), (39, 16), (0, 5), (39, 17), (17, 19), (17, 20), (17, 21), (51, 0), (51, 1), (51, 2), (51, 3), (39, 0), (17, 9), (5, 6), (28, 19), (44, 2), (23, 19), (23, 20), (23, 21), (23, 22), (21, 14), (21, 15), (21, 16), (21, 17), (21, 18), (21, 19), (48, 20), (48, 21), (48, 22), (48, 23), (17, 18), (4, 1), (51, 4), (51, 5), (51, 6), (51, 7), (44, 19), (44, 20), (44, 21), (44, 22), (28, 20), (28, 21), (28, 22), (28, 23), (24, 20), (24, 21), (24, 22), (24, 23), (29, 0), (29, 1), (29, 2), (29, 3), (30, 17), (30, 18), (30, 19), (30, 20), (30, 21), (30, 22), (30, 23), (31, 0), (31, 1), (31, 2), (31, 3), (31, 4), (31, 5), (31, 6), (31, 7), (31, 8), (31, 9), (31, 10), (31, 11), (31, 12), (31, 13), (31, 14), (31, 15), (21, 20), (21, 21), (21, 22), (49, 0), (49, 1), (49, 2), (49, 3), (68, 0), (68, 1), (68, 2), (68, 3), (68, 4), (68, 5), (68, 6), (68, 7), (68, 8), (68, 9), (68, 10), (68, 11), (68, 12), (68, 13), (68, 14), (68, 15), (68, 16), (68, 17), (68, 18), (68, 19), (68, 20), (68, 21), (68, 22), (68, 23), (68, 24), (68, 25), (68, 26)] rfl (by decide +kernel)
set_option maxRecDepth 20000 in
theorem gL_law_X8_write : GoodIn wsL_law (wsV RL 181 RX8 yX8_write wsX8_write) := goodIn_app (goodIn_q _ [(50, 20), (50, 21), (50, 22), (0, 5)] rfl (by decide +kernel)) ggL_law_X8_write
theorem dL_law_1234 : decode cL_law 1234 = .ok (.aload_n 1, 1) := by decide +kernel
theorem dL_law_1235 : decode cL_law 1235 = .ok (.aload_n 0, 1) := by decide +kernel
theorem dL_law_1236 : decode cL_law 1236 = .ok (.iload_n 3, 1) := by decide +kernel
theorem dL_law_1237 : decode cL_law 1237 = .ok (.iconst 1, 1) := by decide +kernel
theorem dL_law_1238 : decode cL_law 1238 = .ok (.iadd, 1) := by decide +kernel
theorem dL_law_1239 : decode cL_law 1239 = .ok (.iaload, 1) := by decide +kernel
theorem dL_law_1240 : decode cL_law 1240 = .ok (.aload_n 0, 1) := by decide +kernel
theorem dL_law_1241 : decode cL_law 1241 = .ok (.iload_n 3, 1) := by decide +kernel
theorem dL_law_1242 : decode cL_law 1242 = .ok (.iconst 2, 1) := by decide +kernel
theorem dL_law_1243 : decode cL_law 1243 = .ok (.iadd, 1) := by decide +kernel
theorem dL_law_1244 : decode cL_law 1244 = .ok (.iaload, 1) := by decide +kernel
theorem dL_law_1245 : decode cL_law 1245 = .ok (.aload_n 0, 1) := by decide +kernel
theorem dL_law_1246 : decode cL_law 1246 = .ok (.iload_n 3, 1) := by decide +kernel
theorem dL_law_1247 : decode cL_law 1247 = .ok (.iconst 3, 1) := by decide +kernel
theorem dL_law_1248 : decode cL_law 1248 = .ok (.iadd, 1) := by decide +kernel
theorem dL_law_1249 : decode cL_law 1249 = .ok (.iaload, 1) := by decide +kernel
theorem dL_law_1250 : decode cL_law 1250 = .ok (.invokevirtual 177, 3) := by decide +kernel
theorem dL_law_1253 : decode cL_law 1253 = .ok (.aload_n 2, 1) := by decide +kernel
theorem dL_law_1254 : decode cL_law 1254 = .ok (.aload_n 0, 1) := by decide +kernel
theorem dL_law_1255 : decode cL_law 1255 = .ok (.iload_n 3, 1) := by decide +kernel
theorem dL_law_1256 : decode cL_law 1256 = .ok (.iconst 1, 1) := by decide +kernel
theorem dL_law_1257 : decode cL_law 1257 = .ok (.iadd, 1) := by decide +kernel
theorem dL_law_1258 : decode cL_law 1258 = .ok (.iaload, 1) := by decide +kernel
theorem dL_law_1259 : decode cL_law 1259 = .ok (.aload_n 0, 1) := by decide +kernel
theorem dL_law_1260 : decode cL_law 1260 = .ok (.iload_n 3, 1) := by decide +kernel
theorem dL_law_1261 : decode cL_law 1261 = .ok (.iconst 2, 1) := by decide +kernel
theorem dL_law_1262 : decode cL_law 1262 = .ok (.iadd, 1) := by decide +kernel
theorem dL_law_1263 : decode cL_law 1263 = .ok (.iaload, 1) := by decide +kernel
theorem dL_law_1264 : decode cL_law 1264 = .ok (.aload_n 0, 1) := by decide +kernel
theorem dL_law_1265 : decode cL_law 1265 = .ok (.iload_n 3, 1) := by decide +kernel
theorem dL_law_1266 : decode cL_law 1266 = .ok (.iconst 3, 1) := by decide +kernel
theorem dL_law_1267 : decode cL_law 1267 = .ok (.iadd, 1) := by decide +kernel
theorem dL_law_1268 : decode cL_law 1268 = .ok (.iaload, 1) := by decide +kernel
theorem dL_law_1269 : decode cL_law 1269 = .ok (.invokevirtual 181, 3) := by decide +kernel
theorem dL_law_1272 : decode cL_law 1272 = .ok (.if_icmp .eq 419, 3) := by decide +kernel
theorem dL_law_1275 : decode cL_law 1275 = .ok (.iconst 0, 1) := by decide +kernel
theorem dL_law_1276 : decode cL_law 1276 = .ok (.ireturn, 1) := by decide +kernel
set_option maxRecDepth 100000 in
set_option maxHeartbeats 2000000 in
theorem lc_40 {p : Program} {l : Launch} {e : Env} {s : State} {m : MethodId} {below : List Frame} {meth : Method} {c : Code} {Q : State → Prop} {g : GT} {b L i : Nat} {xs : Nat → Int32} {H : Heap} {locs : List Loc} {ls : Array Slot} {cells slots : Nat} {cs : CT} {md : SD} {mn : Nat → Int64} {mw : Int64} (X : lwX p s m meth c g b L xs) (hi : i + 6 ≤ L) (hL : L ≤ 3072) (hS : va_S (gA g) s.heap H locs) (hl : lv_has ls 4 [(0, .ref b), (1, .ref (adr g.1 7 0)), (2, .ref (adr (g.1 + 189) 8 0)), (3, .int (nI i))]) (hfl : gf g = 2) (hW : World g (cs, (md, mn, mw)) H) {q : (Int32 × CT)} {q' : (Int32 × SD)} (h7 : f_X7_write cs (xs (nI i + 1).toNatClampNeg) (xs (nI i + 2).toNatClampNeg) (xs (nI i + 3).toNatClampNeg) = some q) (h8 : f_X8_write md (xs (nI i + 1).toNatClampNeg) (xs (nI i + 2).toNatClampNeg) (xs (nI i + 3).toNatClampNeg) = some q') (he : q.1 = q'.1) (hc : cells + 91 ≤ 600000) (hs : slots + 755 ≤ 7302250) (K : ∀ (H1 : Heap) (locs1 : List Loc), World g (q.2, (q'.2, mn, mw)) H1 → va_S (gA g) s.heap H1 locs1 → W p l e room_1 s m #[Value.ref b] below meth c H1 locs1 (cells + 91) (slots + 755) Q (F0 m 1691 ls [])) : W p l e room_1 s m #[Value.ref b] below meth c H locs cells slots Q (F0 m 1234 ls []) := by
  obtain ⟨hx, hb, hml, hown, hts, hX, hbl, hbA, hK⟩ := X
  have hv1 : vp_in (nI i + 1) L := lw_in1 hi hL
  have hv2 : vp_in (nI i + 2) L := lw_in2 hi hL
  have hv3 : vp_in (nI i + 3) L := lw_in3 hi hL
  refine lv_aload_n hx hb dL_law_1234 rfl (lv_at hl 1 rfl) ?_
  refine lv_aload_n hx hb dL_law_1235 rfl (lv_at hl 0 rfl) ?_
  refine lv_iload_n hx hb dL_law_1236 rfl (lv_at hl 3 rfl) ?_
  refine lv_iconst (v := 1) hx hb dL_law_1237 (by decide) ?_
  refine lv_iadd hx hb dL_law_1238 ?_
  refine va_sld hx hb hX hbl hbA hS hv1 dL_law_1239 ?_
  refine lv_aload_n hx hb dL_law_1240 rfl (lv_at hl 0 rfl) ?_
  refine lv_iload_n hx hb dL_law_1241 rfl (lv_at hl 3 rfl) ?_
  refine lv_iconst (v := 2) hx hb dL_law_1242 (by decide) ?_
  refine lv_iadd hx hb dL_law_1243 ?_
  refine va_sld hx hb hX hbl hbA hS hv2 dL_law_1244 ?_
  refine lv_aload_n hx hb dL_law_1245 rfl (lv_at hl 0 rfl) ?_
  refine lv_iload_n hx hb dL_law_1246 rfl (lv_at hl 3 rfl) ?_
  refine lv_iconst (v := 3) hx hb dL_law_1247 (by decide) ?_
  refine lv_iadd hx hb dL_law_1248 ?_
  refine va_sld hx hb hX hbl hbA hS hv3 dL_law_1249 ?_
  refine x_ci (x_rV ⟨hx, hb, hml, hown, hts⟩ (ct_X7_write l g (Nat.le_of_lt_succ (by rw [hfl]; decide)) cs (md, mn, mw) (xs (nI i + 1).toNatClampNeg) (xs (nI i + 2).toNatClampNeg) (xs (nI i + 3).toNatClampNeg) h7) (cwV 3 hts gL_law_X7_write rfl rfl rfl (by decide +kernel) ⟨Nat.le_of_ble_eq_true rfl, Nat.le_of_ble_eq_true rfl⟩) hK hW hS (x_recv (i := g.1) (k := 7) (j := 0) hK hW ⟨⟨Nat.le_of_lt_succ (by rw [hfl]; decide), rfl⟩, by decide⟩ rfl (by decide)) rfl hl.1 (rest := []) rfl (Nat.le_of_ble_eq_true rfl) dL_law_1250 ⟨hc, hs⟩) hS (fun H locs hW hS => ?_)
  have hW : World g (q.2, (md, mn, mw)) H := hW
  refine lv_aload_n hx hb dL_law_1253 rfl (lv_at hl 2 rfl) ?_
  refine lv_aload_n hx hb dL_law_1254 rfl (lv_at hl 0 rfl) ?_
  refine lv_iload_n hx hb dL_law_1255 rfl (lv_at hl 3 rfl) ?_
  refine lv_iconst (v := 1) hx hb dL_law_1256 (by decide) ?_
  refine lv_iadd hx hb dL_law_1257 ?_
  refine va_sld hx hb hX hbl hbA hS hv1 dL_law_1258 ?_
  refine lv_aload_n hx hb dL_law_1259 rfl (lv_at hl 0 rfl) ?_
  refine lv_iload_n hx hb dL_law_1260 rfl (lv_at hl 3 rfl) ?_
  refine lv_iconst (v := 2) hx hb dL_law_1261 (by decide) ?_
  refine lv_iadd hx hb dL_law_1262 ?_
  refine va_sld hx hb hX hbl hbA hS hv2 dL_law_1263 ?_
  refine lv_aload_n hx hb dL_law_1264 rfl (lv_at hl 0 rfl) ?_
  refine lv_iload_n hx hb dL_law_1265 rfl (lv_at hl 3 rfl) ?_
  refine lv_iconst (v := 3) hx hb dL_law_1266 (by decide) ?_
  refine lv_iadd hx hb dL_law_1267 ?_
  refine va_sld hx hb hX hbl hbA hS hv3 dL_law_1268 ?_
  refine x_ci0 (x_rV ⟨hx, hb, hml, hown, hts⟩ (ct_X8_write l g (Nat.le_of_eq hfl.symm) (q.2, (md, mn, mw)) md mn mw (xs (nI i + 1).toNatClampNeg) (xs (nI i + 2).toNatClampNeg) (xs (nI i + 3).toNatClampNeg) h8) (cwV 3 hts gL_law_X8_write rfl rfl rfl (by decide +kernel) ⟨Nat.le_of_ble_eq_true rfl, Nat.le_of_ble_eq_true rfl⟩) hK hW hS (x_recv (i := g.1 + 189) (k := 8) (j := 0) hK hW ⟨⟨Nat.le_of_eq hfl.symm, rfl⟩, by decide⟩ rfl (by decide)) rfl hl.1 (rest := [.int q.1]) rfl (Nat.le_of_ble_eq_true rfl) dL_law_1269 ⟨hc, hs⟩) hS (fun H locs hW hS => ?_)
  have hW : World g (q.2, (q'.2, mn, mw)) H := hW
  refine lv_icmp_eq (tgt := 1691) hx hb dL_law_1272 (by decide) (fun _ => ?_) (fun h => absurd he h)
  exact K H locs hW hS
set_option maxRecDepth 20000 in
theorem ggL_law_X7_create : GoodIn wsL_law wsX7_create := goodIn_q _ [(51, 11), (0, 19), (23, 12), (5, 15), (5, 21), (4, 18), (23, 13), (15, 11), (15, 12), (0, 18), (15, 13), (3, 0), (38, 16), (38, 17), (0, 2), (38, 18), (50, 10), (50, 11), (50, 12), (50, 13), (50, 14), (28, 4), (28, 5), (23, 10), (43, 13), (38, 19), (14, 6), (14, 7), (2, 2), (14, 8), (11, 23), (11, 22), (11, 20), (14, 9), (14, 10), (14, 11), (14, 12), (11, 19), (11, 21), (14, 13), (14, 14), (14, 15), (14, 16), (14, 17), (12, 12), (12, 13), (12, 14), (2, 13), (46, 14), (46, 15), (46, 16), (46, 17), (1, 0), (46, 18), (46, 19), (46, 20), (0, 23), (46, 21), (46, 22), (16, 17), (3, 17), (3, 16), (0, 17), (46, 23), (1, 10), (1, 11), (1, 12), (0, 10), (0, 11), (1, 13), (1, 14), (1, 15), (1, 16), (1, 17), (1, 18), (1, 19), (1, 20), (1, 21), (1, 22), (1, 23), (2, 0), (2, 1), (2, 3), (2, 4), (2, 5), (2, 6), (2, 7), (2, 8), (2, 9), (2, 10), (2, 11), (2, 12), (2, 14), (2, 15), (2, 16), (2, 17), (2, 18), (2, 19), (2, 20), (2, 21), (2, 22), (2, 23), (3, 1), (3, 2), (3, 3), (3, 4), (3, 5), (3, 6), (3, 7), (3, 8), (3, 9), (3, 10), (3, 11), (3, 12), (47, 0), (47, 1), (47, 2), (47, 3), (47, 4), (47, 5), (47, 6), (47, 7), (47, 8), (47, 9), (47, 10), (47, 11), (47, 12), (47, 13), (47, 14), (47, 15), (47, 16), (47, 17), (47, 18), (11, 18), (47, 19), (47, 20), (47, 21), (47, 22), (47, 23), (48, 0), (13, 8), (13, 9), (13, 10), (48, 1), (48, 2), (48, 3), (16, 18), (16, 19), (16, 20), (16, 21), (16, 22), (16, 23), (17, 0), (17, 1), (17, 2), (17, 3), (17, 4), (50, 15), (50, 16), (50, 17), (50, 18), (50, 0), (48, 5), (48, 6), (48, 7), (29, 12), (28, 7), (28, 8), (28, 9), (28, 10), (24, 9), (24, 10), (24, 11), (10, 17), (28, 11), (28, 12), (28, 13), (28, 14), (10, 18), (48, 8), (48, 9), (48, 10), (48, 11), (10, 16), (29, 13), (29, 14), (29, 15), (29, 16), (29, 17), (29, 18), (29, 19), (29, 20), (11, 9), (29, 21), (29, 22), (6, 4), (29, 23), (48, 12), (48, 13), (48, 14), (48, 15), (50, 19), (14, 19), (14, 20), (14, 21), (14, 22), (14, 23), (15, 0), (15, 1), (15, 2), (15, 3), (12, 19), (15, 4), (15, 5), (15, 6), (15, 7), (15, 8), (15, 9), (15, 10), (15, 14), (15, 15), (15, 16), (15, 17), (15, 18), (15, 19), (15, 20), (15, 21), (15, 22), (67, 0), (67, 1), (67, 2), (67, 3), (67, 4), (67, 5), (67, 6), (67, 7), (67, 8), (70, 0), (70, 1), (70, 2), (70, 3), (70, 4), (70, 5), (70, 6), (70, 7), (70, 8), (70, 9), (70, 10), (70, 11), (70, 12), (70, 13), (70, 14), (70, 15), (70, 16), (70, 17), (73, 0), (73, 1), (73, 2), (73, 3), (73, 4), (73, 5), (73, 6), (73, 7), (73, 8), (71, 0), (71, 1), (71, 2), (72, 0), (72, 1), (72, 2), (74, 0), (74, 1), (74, 2), (74, 3), (74, 4), (74, 5), (74, 6), (75, 0), (75, 1), (75, 2), (75, 3), (75, 4), (75, 5)] rfl (by decide +kernel)
set_option maxRecDepth 20000 in
theorem gL_law_X7_create : GoodIn wsL_law (wsV RL 182 RX7 yX7_create wsX7_create) := goodIn_app (goodIn_q _ [(51, 8), (51, 9), (51, 10), (0, 2)] rfl (by decide +kernel)) ggL_law_X7_create
set_option maxRecDepth 20000 in
theorem ggL_law_X8_create : GoodIn wsL_law wsX8_create := goodIn_q _ [(51, 15), (5, 4), (3, 22), (51, 0), (51, 1), (51, 2), (0, 5), (51, 3), (23, 18), (39, 0), (17, 9), (5, 6), (28, 19), (44, 2), (23, 19), (23, 20), (23, 21), (23, 22), (17, 19), (17, 20), (17, 21), (21, 14), (21, 15), (21, 16), (21, 17), (21, 18), (21, 19), (48, 20), (48, 21), (48, 22), (48, 23), (17, 18), (4, 1), (51, 4), (51, 5), (51, 6), (51, 7), (44, 19), (44, 20), (44, 21), (44, 22), (28, 20), (28, 21), (28, 22), (28, 23), (24, 20), (24, 21), (24, 22), (24, 23), (29, 0), (29, 1), (29, 2), (29, 3), (30, 17), (30, 18), (30, 19), (30, 20), (30, 21), (30, 22), (30, 23), (31, 0), (31, 1), (31, 2), (31, 3), (31, 4), (31, 5), (31, 6), (31, 7), (31, 8), (31, 9), (31, 10), (31, 11), (31, 12), (31, 13), (31, 14), (31, 15), (21, 20), (21, 21), (21, 22), (68, 0), (68, 1), (68, 2), (68, 3), (68, 4), (68, 5), (68, 6), (68, 7), (68, 8), (68, 9), (68, 10), (68, 11), (68, 12), (68, 13), (68, 14), (68, 15), (68, 16), (68, 17), (68, 18), (68, 19), (68, 20), (68, 21), (68, 22), (68, 23), (68, 24), (68, 25), (68, 26)] rfl (by decide +kernel)
set_option maxRecDepth 20000 in
theorem gL_law_X8_create : GoodIn wsL_law (wsV RL 185 RX8 yX8_create wsX8_create) := goodIn_app (goodIn_q _ [(51, 12), (51, 13), (51, 14), (0, 5)] rfl (by decide +kernel)) ggL_law_X8_create
theorem dL_law_1277 : decode cL_law 1277 = .ok (.aload_n 1, 1) := by decide +kernel
theorem dL_law_1278 : decode cL_law 1278 = .ok (.aload_n 0, 1) := by decide +kernel
theorem dL_law_1279 : decode cL_law 1279 = .ok (.iload_n 3, 1) := by decide +kernel
theorem dL_law_1280 : decode cL_law 1280 = .ok (.iconst 1, 1) := by decide +kernel
theorem dL_law_1281 : decode cL_law 1281 = .ok (.iadd, 1) := by decide +kernel
theorem dL_law_1282 : decode cL_law 1282 = .ok (.iaload, 1) := by decide +kernel
theorem dL_law_1283 : decode cL_law 1283 = .ok (.aload_n 0, 1) := by decide +kernel
theorem dL_law_1284 : decode cL_law 1284 = .ok (.iload_n 3, 1) := by decide +kernel
theorem dL_law_1285 : decode cL_law 1285 = .ok (.iconst 2, 1) := by decide +kernel
theorem dL_law_1286 : decode cL_law 1286 = .ok (.iadd, 1) := by decide +kernel
theorem dL_law_1287 : decode cL_law 1287 = .ok (.iaload, 1) := by decide +kernel
theorem dL_law_1288 : decode cL_law 1288 = .ok (.invokevirtual 182, 3) := by decide +kernel
theorem dL_law_1291 : decode cL_law 1291 = .ok (.aload_n 2, 1) := by decide +kernel
theorem dL_law_1292 : decode cL_law 1292 = .ok (.aload_n 0, 1) := by decide +kernel
theorem dL_law_1293 : decode cL_law 1293 = .ok (.iload_n 3, 1) := by decide +kernel
theorem dL_law_1294 : decode cL_law 1294 = .ok (.iconst 1, 1) := by decide +kernel
theorem dL_law_1295 : decode cL_law 1295 = .ok (.iadd, 1) := by decide +kernel
theorem dL_law_1296 : decode cL_law 1296 = .ok (.iaload, 1) := by decide +kernel
theorem dL_law_1297 : decode cL_law 1297 = .ok (.aload_n 0, 1) := by decide +kernel
theorem dL_law_1298 : decode cL_law 1298 = .ok (.iload_n 3, 1) := by decide +kernel
theorem dL_law_1299 : decode cL_law 1299 = .ok (.iconst 2, 1) := by decide +kernel
theorem dL_law_1300 : decode cL_law 1300 = .ok (.iadd, 1) := by decide +kernel
theorem dL_law_1301 : decode cL_law 1301 = .ok (.iaload, 1) := by decide +kernel
theorem dL_law_1302 : decode cL_law 1302 = .ok (.invokevirtual 185, 3) := by decide +kernel
theorem dL_law_1305 : decode cL_law 1305 = .ok (.if_icmp .eq 386, 3) := by decide +kernel
theorem dL_law_1308 : decode cL_law 1308 = .ok (.iconst 0, 1) := by decide +kernel
theorem dL_law_1309 : decode cL_law 1309 = .ok (.ireturn, 1) := by decide +kernel
set_option maxRecDepth 100000 in
set_option maxHeartbeats 2000000 in
theorem lc_41 {p : Program} {l : Launch} {e : Env} {s : State} {m : MethodId} {below : List Frame} {meth : Method} {c : Code} {Q : State → Prop} {g : GT} {b L i : Nat} {xs : Nat → Int32} {H : Heap} {locs : List Loc} {ls : Array Slot} {cells slots : Nat} {cs : CT} {md : SD} {mn : Nat → Int64} {mw : Int64} (X : lwX p s m meth c g b L xs) (hi : i + 6 ≤ L) (hL : L ≤ 3072) (hS : va_S (gA g) s.heap H locs) (hl : lv_has ls 4 [(0, .ref b), (1, .ref (adr g.1 7 0)), (2, .ref (adr (g.1 + 189) 8 0)), (3, .int (nI i))]) (hfl : gf g = 2) (hW : World g (cs, (md, mn, mw)) H) {q : (Int32 × CT)} {q' : (Int32 × SD)} (h7 : f_X7_create cs (xs (nI i + 1).toNatClampNeg) (xs (nI i + 2).toNatClampNeg) = some q) (h8 : f_X8_create md (xs (nI i + 1).toNatClampNeg) (xs (nI i + 2).toNatClampNeg) = some q') (he : q.1 = q'.1) (hc : cells + 91 ≤ 600000) (hs : slots + 755 ≤ 7302250) (K : ∀ (H1 : Heap) (locs1 : List Loc), World g (q.2, (q'.2, mn, mw)) H1 → va_S (gA g) s.heap H1 locs1 → W p l e room_1 s m #[Value.ref b] below meth c H1 locs1 (cells + 91) (slots + 755) Q (F0 m 1691 ls [])) : W p l e room_1 s m #[Value.ref b] below meth c H locs cells slots Q (F0 m 1277 ls []) := by
  obtain ⟨hx, hb, hml, hown, hts, hX, hbl, hbA, hK⟩ := X
  have hv1 : vp_in (nI i + 1) L := lw_in1 hi hL
  have hv2 : vp_in (nI i + 2) L := lw_in2 hi hL
  refine lv_aload_n hx hb dL_law_1277 rfl (lv_at hl 1 rfl) ?_
  refine lv_aload_n hx hb dL_law_1278 rfl (lv_at hl 0 rfl) ?_
  refine lv_iload_n hx hb dL_law_1279 rfl (lv_at hl 3 rfl) ?_
  refine lv_iconst (v := 1) hx hb dL_law_1280 (by decide) ?_
  refine lv_iadd hx hb dL_law_1281 ?_
  refine va_sld hx hb hX hbl hbA hS hv1 dL_law_1282 ?_
  refine lv_aload_n hx hb dL_law_1283 rfl (lv_at hl 0 rfl) ?_
  refine lv_iload_n hx hb dL_law_1284 rfl (lv_at hl 3 rfl) ?_
  refine lv_iconst (v := 2) hx hb dL_law_1285 (by decide) ?_
  refine lv_iadd hx hb dL_law_1286 ?_
  refine va_sld hx hb hX hbl hbA hS hv2 dL_law_1287 ?_
  refine x_ci (x_rV ⟨hx, hb, hml, hown, hts⟩ (ct_X7_create l g (Nat.le_of_lt_succ (by rw [hfl]; decide)) cs (md, mn, mw) (xs (nI i + 1).toNatClampNeg) (xs (nI i + 2).toNatClampNeg) h7) (cwV 2 hts gL_law_X7_create rfl rfl rfl (by decide +kernel) ⟨Nat.le_of_ble_eq_true rfl, Nat.le_of_ble_eq_true rfl⟩) hK hW hS (x_recv (i := g.1) (k := 7) (j := 0) hK hW ⟨⟨Nat.le_of_lt_succ (by rw [hfl]; decide), rfl⟩, by decide⟩ rfl (by decide)) rfl hl.1 (rest := []) rfl (Nat.le_of_ble_eq_true rfl) dL_law_1288 ⟨hc, hs⟩) hS (fun H locs hW hS => ?_)
  have hW : World g (q.2, (md, mn, mw)) H := hW
  refine lv_aload_n hx hb dL_law_1291 rfl (lv_at hl 2 rfl) ?_
  refine lv_aload_n hx hb dL_law_1292 rfl (lv_at hl 0 rfl) ?_
  refine lv_iload_n hx hb dL_law_1293 rfl (lv_at hl 3 rfl) ?_
  refine lv_iconst (v := 1) hx hb dL_law_1294 (by decide) ?_
  refine lv_iadd hx hb dL_law_1295 ?_
  refine va_sld hx hb hX hbl hbA hS hv1 dL_law_1296 ?_
  refine lv_aload_n hx hb dL_law_1297 rfl (lv_at hl 0 rfl) ?_
  refine lv_iload_n hx hb dL_law_1298 rfl (lv_at hl 3 rfl) ?_
  refine lv_iconst (v := 2) hx hb dL_law_1299 (by decide) ?_
  refine lv_iadd hx hb dL_law_1300 ?_
  refine va_sld hx hb hX hbl hbA hS hv2 dL_law_1301 ?_
  refine x_ci0 (x_rV ⟨hx, hb, hml, hown, hts⟩ (ct_X8_create l g (Nat.le_of_eq hfl.symm) (q.2, (md, mn, mw)) md mn mw (xs (nI i + 1).toNatClampNeg) (xs (nI i + 2).toNatClampNeg) h8) (cwV 2 hts gL_law_X8_create rfl rfl rfl (by decide +kernel) ⟨Nat.le_of_ble_eq_true rfl, Nat.le_of_ble_eq_true rfl⟩) hK hW hS (x_recv (i := g.1 + 189) (k := 8) (j := 0) hK hW ⟨⟨Nat.le_of_eq hfl.symm, rfl⟩, by decide⟩ rfl (by decide)) rfl hl.1 (rest := [.int q.1]) rfl (Nat.le_of_ble_eq_true rfl) dL_law_1302 ⟨hc, hs⟩) hS (fun H locs hW hS => ?_)
  have hW : World g (q.2, (q'.2, mn, mw)) H := hW
  refine lv_icmp_eq (tgt := 1691) hx hb dL_law_1305 (by decide) (fun _ => ?_) (fun h => absurd he h)
  exact K H locs hW hS
set_option maxRecDepth 20000 in
theorem ggL_law_X7_closeSession : GoodIn wsL_law wsX7_closeSession := goodIn_q _ [(51, 19), (0, 19), (23, 12), (23, 10), (33, 7), (23, 1), (28, 4), (28, 5), (23, 13), (15, 11), (15, 12), (0, 18), (15, 13), (3, 0), (46, 14), (46, 15), (46, 16), (0, 2), (46, 17), (1, 0), (46, 18), (46, 19), (46, 20), (0, 23), (46, 21), (46, 22), (16, 17), (3, 17), (3, 16), (0, 17), (46, 23), (1, 10), (1, 11), (1, 12), (0, 10), (0, 11), (1, 13), (1, 14), (1, 15), (1, 16), (1, 17), (1, 18), (1, 19), (1, 20), (1, 21), (1, 22), (1, 23), (2, 0), (2, 1), (2, 2), (2, 3), (2, 4), (2, 5), (2, 6), (2, 7), (2, 8), (2, 9), (2, 10), (2, 11), (2, 12), (2, 13), (2, 14), (2, 15), (2, 16), (2, 17), (2, 18), (2, 19), (2, 20), (2, 21), (2, 22), (2, 23), (3, 1), (3, 2), (3, 3), (3, 4), (3, 5), (3, 6), (3, 7), (3, 8), (3, 9), (3, 10), (3, 11), (3, 12), (47, 0), (47, 1), (47, 2), (47, 3), (47, 4), (47, 5), (47, 6), (47, 7), (47, 8), (47, 9), (47, 10), (47, 11), (47, 12), (47, 13), (47, 14), (47, 15), (47, 16), (47, 17), (47, 18), (11, 18), (11, 19), (11, 20), (11, 21), (11, 22), (11, 23), (47, 19), (47, 20), (47, 21), (47, 22), (47, 23), (48, 0), (13, 8), (13, 9), (13, 10), (48, 1), (48, 2), (48, 3), (16, 18), (16, 19), (16, 20), (16, 21), (16, 22), (16, 23), (17, 0), (17, 1), (17, 2), (17, 3), (17, 4), (51, 20), (51, 21), (51, 22), (51, 23), (50, 0), (48, 5), (48, 6), (48, 7), (29, 12), (28, 7), (28, 8), (28, 9), (28, 10), (24, 9), (24, 10), (24, 11), (10, 17), (28, 11), (28, 12), (28, 13), (28, 14), (10, 18), (48, 8), (48, 9), (48, 10), (48, 11), (10, 16), (29, 13), (29, 14), (29, 15), (29, 16), (29, 17), (29, 18), (29, 19), (29, 20), (11, 9), (29, 21), (29, 22), (6, 4), (29, 23), (48, 12), (48, 13), (48, 14), (48, 15), (52, 0), (16, 5), (16, 6), (16, 7), (16, 8), (6, 3), (6, 5), (14, 9), (14, 10), (14, 11), (14, 12), (15, 19), (15, 20), (15, 21), (15, 22), (67, 0), (67, 1), (67, 2), (67, 3), (67, 4), (67, 5), (67, 6), (67, 7), (67, 8), (70, 0), (70, 1), (70, 2), (70, 3), (70, 4), (70, 5), (70, 6), (70, 7), (70, 8), (70, 9), (70, 10), (70, 11), (70, 12), (70, 13), (70, 14), (70, 15), (70, 16), (70, 17), (73, 0), (73, 1), (73, 2), (73, 3), (73, 4), (73, 5), (73, 6), (73, 7), (73, 8), (71, 0), (71, 1), (71, 2), (72, 0), (72, 1), (72, 2), (74, 0), (74, 1), (74, 2), (74, 3), (74, 4), (74, 5), (74, 6), (75, 0), (75, 1), (75, 2), (75, 3), (75, 4), (75, 5)] rfl (by decide +kernel)
set_option maxRecDepth 20000 in
theorem gL_law_X7_closeSession : GoodIn wsL_law (wsV RL 186 RX7 yX7_closeSession wsX7_closeSession) := goodIn_app (goodIn_q _ [(51, 16), (51, 17), (51, 18), (0, 2)] rfl (by decide +kernel)) ggL_law_X7_closeSession
set_option maxRecDepth 20000 in
theorem ggL_law_X8_closeSession : GoodIn wsL_law wsX8_closeSession := goodIn_q _ [(52, 4), (5, 4), (23, 18), (3, 22), (4, 8), (28, 19), (23, 19), (23, 20), (23, 21), (0, 5), (23, 22), (17, 19), (17, 20), (17, 21), (48, 20), (48, 21), (48, 22), (48, 23), (17, 18), (4, 1), (44, 19), (44, 20), (44, 21), (44, 22), (28, 20), (28, 21), (28, 22), (28, 23), (24, 20), (24, 21), (24, 22), (24, 23), (29, 0), (29, 1), (29, 2), (29, 3), (30, 17), (30, 18), (30, 19), (30, 20), (30, 21), (30, 22), (30, 23), (31, 0), (31, 1), (31, 2), (31, 3), (31, 4), (31, 5), (31, 6), (31, 7), (31, 8), (31, 9), (31, 10), (31, 11), (31, 12), (31, 13), (31, 14), (31, 15), (22, 6), (22, 7), (22, 8), (22, 9), (6, 3), (6, 4), (6, 5), (22, 3), (22, 4), (22, 5), (68, 0), (68, 1), (68, 2), (68, 3), (68, 4), (68, 5), (68, 6), (68, 7), (68, 8), (68, 9), (68, 10), (68, 11), (68, 12), (68, 13), (68, 14), (68, 15), (68, 16), (68, 17), (68, 18), (68, 19), (68, 20), (68, 21), (68, 22), (68, 23), (68, 24), (68, 25), (68, 26)] rfl (by decide +kernel)
set_option maxRecDepth 20000 in
theorem gL_law_X8_closeSession : GoodIn wsL_law (wsV RL 189 RX8 yX8_closeSession wsX8_closeSession) := goodIn_app (goodIn_q _ [(52, 1), (52, 2), (52, 3), (0, 5)] rfl (by decide +kernel)) ggL_law_X8_closeSession
theorem dL_law_1310 : decode cL_law 1310 = .ok (.aload_n 1, 1) := by decide +kernel
theorem dL_law_1311 : decode cL_law 1311 = .ok (.aload_n 0, 1) := by decide +kernel
theorem dL_law_1312 : decode cL_law 1312 = .ok (.iload_n 3, 1) := by decide +kernel
theorem dL_law_1313 : decode cL_law 1313 = .ok (.iconst 1, 1) := by decide +kernel
theorem dL_law_1314 : decode cL_law 1314 = .ok (.iadd, 1) := by decide +kernel
theorem dL_law_1315 : decode cL_law 1315 = .ok (.iaload, 1) := by decide +kernel
theorem dL_law_1316 : decode cL_law 1316 = .ok (.invokevirtual 186, 3) := by decide +kernel
theorem dL_law_1319 : decode cL_law 1319 = .ok (.aload_n 2, 1) := by decide +kernel
theorem dL_law_1320 : decode cL_law 1320 = .ok (.aload_n 0, 1) := by decide +kernel
theorem dL_law_1321 : decode cL_law 1321 = .ok (.iload_n 3, 1) := by decide +kernel
theorem dL_law_1322 : decode cL_law 1322 = .ok (.iconst 1, 1) := by decide +kernel
theorem dL_law_1323 : decode cL_law 1323 = .ok (.iadd, 1) := by decide +kernel
theorem dL_law_1324 : decode cL_law 1324 = .ok (.iaload, 1) := by decide +kernel
theorem dL_law_1325 : decode cL_law 1325 = .ok (.invokevirtual 189, 3) := by decide +kernel
theorem dL_law_1328 : decode cL_law 1328 = .ok (.if_icmp .eq 363, 3) := by decide +kernel
theorem dL_law_1331 : decode cL_law 1331 = .ok (.iconst 0, 1) := by decide +kernel
theorem dL_law_1332 : decode cL_law 1332 = .ok (.ireturn, 1) := by decide +kernel
set_option maxRecDepth 100000 in
set_option maxHeartbeats 2000000 in
theorem lc_42 {p : Program} {l : Launch} {e : Env} {s : State} {m : MethodId} {below : List Frame} {meth : Method} {c : Code} {Q : State → Prop} {g : GT} {b L i : Nat} {xs : Nat → Int32} {H : Heap} {locs : List Loc} {ls : Array Slot} {cells slots : Nat} {cs : CT} {md : SD} {mn : Nat → Int64} {mw : Int64} (X : lwX p s m meth c g b L xs) (hi : i + 6 ≤ L) (hL : L ≤ 3072) (hS : va_S (gA g) s.heap H locs) (hl : lv_has ls 4 [(0, .ref b), (1, .ref (adr g.1 7 0)), (2, .ref (adr (g.1 + 189) 8 0)), (3, .int (nI i))]) (hfl : gf g = 2) (hW : World g (cs, (md, mn, mw)) H) {q : (Int32 × CT)} {q' : (Int32 × SD)} (h7 : f_X7_closeSession cs (xs (nI i + 1).toNatClampNeg) = some q) (h8 : f_X8_closeSession md (xs (nI i + 1).toNatClampNeg) = some q') (he : q.1 = q'.1) (hc : cells + 91 ≤ 600000) (hs : slots + 755 ≤ 7302250) (K : ∀ (H1 : Heap) (locs1 : List Loc), World g (q.2, (q'.2, mn, mw)) H1 → va_S (gA g) s.heap H1 locs1 → W p l e room_1 s m #[Value.ref b] below meth c H1 locs1 (cells + 91) (slots + 755) Q (F0 m 1691 ls [])) : W p l e room_1 s m #[Value.ref b] below meth c H locs cells slots Q (F0 m 1310 ls []) := by
  obtain ⟨hx, hb, hml, hown, hts, hX, hbl, hbA, hK⟩ := X
  have hv1 : vp_in (nI i + 1) L := lw_in1 hi hL
  refine lv_aload_n hx hb dL_law_1310 rfl (lv_at hl 1 rfl) ?_
  refine lv_aload_n hx hb dL_law_1311 rfl (lv_at hl 0 rfl) ?_
  refine lv_iload_n hx hb dL_law_1312 rfl (lv_at hl 3 rfl) ?_
  refine lv_iconst (v := 1) hx hb dL_law_1313 (by decide) ?_
  refine lv_iadd hx hb dL_law_1314 ?_
  refine va_sld hx hb hX hbl hbA hS hv1 dL_law_1315 ?_
  refine x_ci (x_rV ⟨hx, hb, hml, hown, hts⟩ (ct_X7_closeSession l g (Nat.le_of_lt_succ (by rw [hfl]; decide)) cs (md, mn, mw) (xs (nI i + 1).toNatClampNeg) h7) (cwV 1 hts gL_law_X7_closeSession rfl rfl rfl (by decide +kernel) ⟨Nat.le_of_ble_eq_true rfl, Nat.le_of_ble_eq_true rfl⟩) hK hW hS (x_recv (i := g.1) (k := 7) (j := 0) hK hW ⟨⟨Nat.le_of_lt_succ (by rw [hfl]; decide), rfl⟩, by decide⟩ rfl (by decide)) rfl hl.1 (rest := []) rfl (Nat.le_of_ble_eq_true rfl) dL_law_1316 ⟨hc, hs⟩) hS (fun H locs hW hS => ?_)
  have hW : World g (q.2, (md, mn, mw)) H := hW
  refine lv_aload_n hx hb dL_law_1319 rfl (lv_at hl 2 rfl) ?_
  refine lv_aload_n hx hb dL_law_1320 rfl (lv_at hl 0 rfl) ?_
  refine lv_iload_n hx hb dL_law_1321 rfl (lv_at hl 3 rfl) ?_
  refine lv_iconst (v := 1) hx hb dL_law_1322 (by decide) ?_
  refine lv_iadd hx hb dL_law_1323 ?_
  refine va_sld hx hb hX hbl hbA hS hv1 dL_law_1324 ?_
  refine x_ci0 (x_rV ⟨hx, hb, hml, hown, hts⟩ (ct_X8_closeSession l g (Nat.le_of_eq hfl.symm) (q.2, (md, mn, mw)) md mn mw (xs (nI i + 1).toNatClampNeg) h8) (cwV 1 hts gL_law_X8_closeSession rfl rfl rfl (by decide +kernel) ⟨Nat.le_of_ble_eq_true rfl, Nat.le_of_ble_eq_true rfl⟩) hK hW hS (x_recv (i := g.1 + 189) (k := 8) (j := 0) hK hW ⟨⟨Nat.le_of_eq hfl.symm, rfl⟩, by decide⟩ rfl (by decide)) rfl hl.1 (rest := [.int q.1]) rfl (Nat.le_of_ble_eq_true rfl) dL_law_1325 ⟨hc, hs⟩) hS (fun H locs hW hS => ?_)
  have hW : World g (q.2, (q'.2, mn, mw)) H := hW
  refine lv_icmp_eq (tgt := 1691) hx hb dL_law_1328 (by decide) (fun _ => ?_) (fun h => absurd he h)
  exact K H locs hW hS
set_option maxRecDepth 20000 in
theorem ggL_law_X7_markBad : GoodIn wsL_law wsX7_markBad := goodIn_q _ [(52, 8), (0, 19), (23, 12), (23, 10), (52, 9), (52, 10), (4, 18), (35, 23), (36, 0), (36, 1), (0, 18), (36, 2), (1, 18), (36, 3), (15, 10), (15, 11), (15, 12), (15, 13), (3, 0), (52, 11), (12, 12), (12, 13), (2, 2), (12, 14), (2, 13), (46, 14), (46, 15), (46, 16), (0, 2), (46, 17), (1, 0), (46, 18), (46, 19), (46, 20), (0, 23), (46, 21), (46, 22), (16, 17), (3, 17), (3, 16), (0, 17), (46, 23), (1, 10), (1, 11), (1, 12), (0, 10), (0, 11), (1, 13), (1, 14), (1, 15), (1, 16), (1, 17), (1, 19), (1, 20), (1, 21), (1, 22), (1, 23), (2, 0), (2, 1), (2, 3), (2, 4), (2, 5), (2, 6), (2, 7), (2, 8), (2, 9), (2, 10), (2, 11), (2, 12), (2, 14), (2, 15), (2, 16), (2, 17), (2, 18), (2, 19), (2, 20), (2, 21), (2, 22), (2, 23), (3, 1), (3, 2), (3, 3), (3, 4), (3, 5), (3, 6), (3, 7), (3, 8), (3, 9), (3, 10), (3, 11), (3, 12), (47, 0), (47, 1), (47, 2), (47, 3), (47, 4), (47, 5), (47, 6), (47, 7), (47, 8), (47, 9), (47, 10), (47, 11), (47, 12), (47, 13), (47, 14), (47, 15), (47, 16), (47, 17), (47, 18), (11, 18), (11, 19), (11, 20), (11, 21), (11, 22), (11, 23), (47, 19), (47, 20), (47, 21), (47, 22), (47, 23), (48, 0), (13, 8), (13, 9), (13, 10), (48, 1), (48, 2), (48, 3), (16, 18), (16, 19), (16, 20), (16, 21), (16, 22), (16, 23), (17, 0), (17, 1), (17, 2), (17, 3), (17, 4), (52, 12), (12, 16), (12, 17), (12, 18), (12, 19), (12, 20), (12, 21), (12, 22), (12, 23), (13, 0), (13, 1), (13, 2), (13, 3), (13, 4), (13, 5), (13, 6), (13, 7), (52, 13), (52, 14), (52, 15), (52, 16), (67, 0), (67, 1), (67, 2), (67, 3), (67, 4), (67, 5), (67, 6), (67, 7), (67, 8), (70, 0), (70, 1), (70, 2), (70, 3), (70, 4), (70, 5), (70, 6), (70, 7), (70, 8), (70, 9), (70, 10), (70, 11), (70, 12), (70, 13), (70, 14), (70, 15), (70, 16), (70, 17), (73, 0), (73, 1), (73, 2), (73, 3), (73, 4), (73, 5), (73, 6), (73, 7), (73, 8), (71, 0), (71, 1), (71, 2), (72, 0), (72, 1), (72, 2), (74, 0), (74, 1), (74, 2), (74, 3), (74, 4), (74, 5), (74, 6), (75, 0), (75, 1), (75, 2), (75, 3), (75, 4), (75, 5)] rfl (by decide +kernel)
set_option maxRecDepth 20000 in
theorem gL_law_X7_markBad : GoodIn wsL_law (wsV RL 190 RX7 yX7_markBad wsX7_markBad) := goodIn_app (goodIn_q _ [(52, 5), (52, 6), (52, 7), (0, 2)] rfl (by decide +kernel)) ggL_law_X7_markBad
set_option maxRecDepth 20000 in
theorem ggL_law_X8_markBad : GoodIn wsL_law wsX8_markBad := goodIn_q _ [(52, 20), (5, 4), (23, 18), (3, 22), (52, 21), (5, 6), (36, 13), (36, 14), (36, 15), (0, 5), (36, 16), (23, 19), (23, 20), (23, 21), (23, 22), (17, 19), (17, 20), (17, 21), (20, 21), (20, 22), (20, 23), (48, 20), (48, 21), (48, 22), (48, 23), (17, 18), (4, 1), (21, 0), (21, 1), (21, 2), (21, 3), (21, 4), (21, 5), (68, 0), (68, 1), (68, 2), (68, 3), (68, 4), (68, 5), (68, 6), (68, 7), (68, 8), (68, 9), (68, 10), (68, 11), (68, 12), (68, 13), (68, 14), (68, 15), (68, 16), (68, 17), (68, 18), (68, 19), (68, 20), (68, 21), (68, 22), (68, 23), (68, 24), (68, 25), (68, 26)] rfl (by decide +kernel)
set_option maxRecDepth 20000 in
theorem gL_law_X8_markBad : GoodIn wsL_law (wsV RL 193 RX8 yX8_markBad wsX8_markBad) := goodIn_app (goodIn_q _ [(52, 17), (52, 18), (52, 19), (0, 5)] rfl (by decide +kernel)) ggL_law_X8_markBad
theorem dL_law_1333 : decode cL_law 1333 = .ok (.aload_n 1, 1) := by decide +kernel
theorem dL_law_1334 : decode cL_law 1334 = .ok (.aload_n 0, 1) := by decide +kernel
theorem dL_law_1335 : decode cL_law 1335 = .ok (.iload_n 3, 1) := by decide +kernel
theorem dL_law_1336 : decode cL_law 1336 = .ok (.iconst 1, 1) := by decide +kernel
theorem dL_law_1337 : decode cL_law 1337 = .ok (.iadd, 1) := by decide +kernel
theorem dL_law_1338 : decode cL_law 1338 = .ok (.iaload, 1) := by decide +kernel
theorem dL_law_1339 : decode cL_law 1339 = .ok (.aload_n 0, 1) := by decide +kernel
theorem dL_law_1340 : decode cL_law 1340 = .ok (.iload_n 3, 1) := by decide +kernel
theorem dL_law_1341 : decode cL_law 1341 = .ok (.iconst 2, 1) := by decide +kernel
theorem dL_law_1342 : decode cL_law 1342 = .ok (.iadd, 1) := by decide +kernel
theorem dL_law_1343 : decode cL_law 1343 = .ok (.iaload, 1) := by decide +kernel
theorem dL_law_1344 : decode cL_law 1344 = .ok (.invokevirtual 190, 3) := by decide +kernel
theorem dL_law_1347 : decode cL_law 1347 = .ok (.aload_n 2, 1) := by decide +kernel
theorem dL_law_1348 : decode cL_law 1348 = .ok (.aload_n 0, 1) := by decide +kernel
theorem dL_law_1349 : decode cL_law 1349 = .ok (.iload_n 3, 1) := by decide +kernel
theorem dL_law_1350 : decode cL_law 1350 = .ok (.iconst 1, 1) := by decide +kernel
theorem dL_law_1351 : decode cL_law 1351 = .ok (.iadd, 1) := by decide +kernel
theorem dL_law_1352 : decode cL_law 1352 = .ok (.iaload, 1) := by decide +kernel
theorem dL_law_1353 : decode cL_law 1353 = .ok (.aload_n 0, 1) := by decide +kernel
theorem dL_law_1354 : decode cL_law 1354 = .ok (.iload_n 3, 1) := by decide +kernel
theorem dL_law_1355 : decode cL_law 1355 = .ok (.iconst 2, 1) := by decide +kernel
theorem dL_law_1356 : decode cL_law 1356 = .ok (.iadd, 1) := by decide +kernel
theorem dL_law_1357 : decode cL_law 1357 = .ok (.iaload, 1) := by decide +kernel
theorem dL_law_1358 : decode cL_law 1358 = .ok (.invokevirtual 193, 3) := by decide +kernel
theorem dL_law_1361 : decode cL_law 1361 = .ok (.if_icmp .eq 330, 3) := by decide +kernel
theorem dL_law_1364 : decode cL_law 1364 = .ok (.iconst 0, 1) := by decide +kernel
theorem dL_law_1365 : decode cL_law 1365 = .ok (.ireturn, 1) := by decide +kernel
set_option maxRecDepth 100000 in
set_option maxHeartbeats 2000000 in
theorem lc_43 {p : Program} {l : Launch} {e : Env} {s : State} {m : MethodId} {below : List Frame} {meth : Method} {c : Code} {Q : State → Prop} {g : GT} {b L i : Nat} {xs : Nat → Int32} {H : Heap} {locs : List Loc} {ls : Array Slot} {cells slots : Nat} {cs : CT} {md : SD} {mn : Nat → Int64} {mw : Int64} (X : lwX p s m meth c g b L xs) (hi : i + 6 ≤ L) (hL : L ≤ 3072) (hS : va_S (gA g) s.heap H locs) (hl : lv_has ls 4 [(0, .ref b), (1, .ref (adr g.1 7 0)), (2, .ref (adr (g.1 + 189) 8 0)), (3, .int (nI i))]) (hfl : gf g = 2) (hW : World g (cs, (md, mn, mw)) H) {q : (Int32 × CT)} {q' : (Int32 × SD)} (h7 : f_X7_markBad cs (xs (nI i + 1).toNatClampNeg) (xs (nI i + 2).toNatClampNeg) = some q) (h8 : f_X8_markBad md (xs (nI i + 1).toNatClampNeg) (xs (nI i + 2).toNatClampNeg) = some q') (he : q.1 = q'.1) (hc : cells + 91 ≤ 600000) (hs : slots + 755 ≤ 7302250) (K : ∀ (H1 : Heap) (locs1 : List Loc), World g (q.2, (q'.2, mn, mw)) H1 → va_S (gA g) s.heap H1 locs1 → W p l e room_1 s m #[Value.ref b] below meth c H1 locs1 (cells + 91) (slots + 755) Q (F0 m 1691 ls [])) : W p l e room_1 s m #[Value.ref b] below meth c H locs cells slots Q (F0 m 1333 ls []) := by
  obtain ⟨hx, hb, hml, hown, hts, hX, hbl, hbA, hK⟩ := X
  have hv1 : vp_in (nI i + 1) L := lw_in1 hi hL
  have hv2 : vp_in (nI i + 2) L := lw_in2 hi hL
  refine lv_aload_n hx hb dL_law_1333 rfl (lv_at hl 1 rfl) ?_
  refine lv_aload_n hx hb dL_law_1334 rfl (lv_at hl 0 rfl) ?_
  refine lv_iload_n hx hb dL_law_1335 rfl (lv_at hl 3 rfl) ?_
  refine lv_iconst (v := 1) hx hb dL_law_1336 (by decide) ?_
  refine lv_iadd hx hb dL_law_1337 ?_
  refine va_sld hx hb hX hbl hbA hS hv1 dL_law_1338 ?_
  refine lv_aload_n hx hb dL_law_1339 rfl (lv_at hl 0 rfl) ?_
  refine lv_iload_n hx hb dL_law_1340 rfl (lv_at hl 3 rfl) ?_
  refine lv_iconst (v := 2) hx hb dL_law_1341 (by decide) ?_
  refine lv_iadd hx hb dL_law_1342 ?_
  refine va_sld hx hb hX hbl hbA hS hv2 dL_law_1343 ?_
  refine x_ci (x_rV ⟨hx, hb, hml, hown, hts⟩ (ct_X7_markBad l g (Nat.le_of_lt_succ (by rw [hfl]; decide)) cs (md, mn, mw) (xs (nI i + 1).toNatClampNeg) (xs (nI i + 2).toNatClampNeg) h7) (cwV 2 hts gL_law_X7_markBad rfl rfl rfl (by decide +kernel) ⟨Nat.le_of_ble_eq_true rfl, Nat.le_of_ble_eq_true rfl⟩) hK hW hS (x_recv (i := g.1) (k := 7) (j := 0) hK hW ⟨⟨Nat.le_of_lt_succ (by rw [hfl]; decide), rfl⟩, by decide⟩ rfl (by decide)) rfl hl.1 (rest := []) rfl (Nat.le_of_ble_eq_true rfl) dL_law_1344 ⟨hc, hs⟩) hS (fun H locs hW hS => ?_)
  have hW : World g (q.2, (md, mn, mw)) H := hW
  refine lv_aload_n hx hb dL_law_1347 rfl (lv_at hl 2 rfl) ?_
  refine lv_aload_n hx hb dL_law_1348 rfl (lv_at hl 0 rfl) ?_
  refine lv_iload_n hx hb dL_law_1349 rfl (lv_at hl 3 rfl) ?_
  refine lv_iconst (v := 1) hx hb dL_law_1350 (by decide) ?_
  refine lv_iadd hx hb dL_law_1351 ?_
  refine va_sld hx hb hX hbl hbA hS hv1 dL_law_1352 ?_
  refine lv_aload_n hx hb dL_law_1353 rfl (lv_at hl 0 rfl) ?_
  refine lv_iload_n hx hb dL_law_1354 rfl (lv_at hl 3 rfl) ?_
  refine lv_iconst (v := 2) hx hb dL_law_1355 (by decide) ?_
  refine lv_iadd hx hb dL_law_1356 ?_
  refine va_sld hx hb hX hbl hbA hS hv2 dL_law_1357 ?_
  refine x_ci0 (x_rV ⟨hx, hb, hml, hown, hts⟩ (ct_X8_markBad l g (Nat.le_of_eq hfl.symm) (q.2, (md, mn, mw)) md mn mw (xs (nI i + 1).toNatClampNeg) (xs (nI i + 2).toNatClampNeg) h8) (cwV 2 hts gL_law_X8_markBad rfl rfl rfl (by decide +kernel) ⟨Nat.le_of_ble_eq_true rfl, Nat.le_of_ble_eq_true rfl⟩) hK hW hS (x_recv (i := g.1 + 189) (k := 8) (j := 0) hK hW ⟨⟨Nat.le_of_eq hfl.symm, rfl⟩, by decide⟩ rfl (by decide)) rfl hl.1 (rest := [.int q.1]) rfl (Nat.le_of_ble_eq_true rfl) dL_law_1358 ⟨hc, hs⟩) hS (fun H locs hW hS => ?_)
  have hW : World g (q.2, (q'.2, mn, mw)) H := hW
  refine lv_icmp_eq (tgt := 1691) hx hb dL_law_1361 (by decide) (fun _ => ?_) (fun h => absurd he h)
  exact K H locs hW hS
set_option maxRecDepth 20000 in
theorem ggL_law_X7_moveHome : GoodIn wsL_law wsX7_moveHome := goodIn_q _ [(53, 1), (0, 19), (23, 12), (23, 10), (23, 11), (52, 9), (23, 1), (4, 18), (23, 13), (15, 11), (15, 12), (0, 18), (15, 13), (3, 0), (24, 3), (24, 4), (24, 5), (24, 6), (2, 21), (24, 8), (24, 9), (24, 10), (24, 11), (2, 22), (1, 16), (10, 17), (24, 7), (11, 6), (11, 7), (11, 8), (1, 18), (11, 9), (46, 14), (46, 15), (46, 16), (0, 2), (46, 17), (1, 0), (46, 18), (46, 19), (46, 20), (0, 23), (46, 21), (46, 22), (16, 17), (3, 17), (3, 16), (0, 17), (46, 23), (1, 10), (1, 11), (1, 12), (0, 10), (0, 11), (1, 13), (1, 14), (1, 15), (1, 17), (1, 19), (1, 20), (1, 21), (1, 22), (1, 23), (2, 0), (2, 1), (2, 2), (2, 3), (2, 4), (2, 5), (2, 6), (2, 7), (2, 8), (2, 9), (2, 10), (2, 11), (2, 12), (2, 13), (2, 14), (2, 15), (2, 16), (2, 17), (2, 18), (2, 19), (2, 20), (2, 23), (3, 1), (3, 2), (3, 3), (3, 4), (3, 5), (3, 6), (3, 7), (3, 8), (3, 9), (3, 10), (3, 11), (3, 12), (47, 0), (47, 1), (47, 2), (47, 3), (47, 4), (47, 5), (47, 6), (47, 7), (47, 8), (47, 9), (47, 10), (47, 11), (47, 12), (47, 13), (47, 14), (47, 15), (47, 16), (47, 17), (47, 18), (11, 18), (11, 19), (11, 20), (11, 21), (11, 22), (11, 23), (47, 19), (47, 20), (47, 21), (47, 22), (47, 23), (48, 0), (13, 8), (13, 9), (13, 10), (48, 1), (48, 2), (48, 3), (16, 18), (16, 19), (16, 20), (16, 21), (16, 22), (16, 23), (17, 0), (17, 1), (17, 2), (17, 3), (17, 4), (67, 0), (67, 1), (67, 2), (67, 3), (67, 4), (67, 5), (67, 6), (67, 7), (67, 8), (70, 0), (70, 1), (70, 2), (70, 3), (70, 4), (70, 5), (70, 6), (70, 7), (70, 8), (70, 9), (70, 10), (70, 11), (70, 12), (70, 13), (70, 14), (70, 15), (70, 16), (70, 17), (73, 0), (73, 1), (73, 2), (73, 3), (73, 4), (73, 5), (73, 6), (73, 7), (73, 8), (72, 0), (72, 1), (72, 2), (71, 0), (71, 1), (71, 2), (74, 0), (74, 1), (74, 2), (74, 3), (74, 4), (74, 5), (74, 6), (75, 0), (75, 1), (75, 2), (75, 3), (75, 4), (75, 5)] rfl (by decide +kernel)
set_option maxRecDepth 20000 in
theorem gL_law_X7_moveHome : GoodIn wsL_law (wsV RL 194 RX7 yX7_moveHome wsX7_moveHome) := goodIn_app (goodIn_q _ [(52, 22), (52, 23), (53, 0), (0, 2)] rfl (by decide +kernel)) ggL_law_X7_moveHome
set_option maxRecDepth 20000 in
theorem ggL_law_X8_moveHome : GoodIn wsL_law wsX8_moveHome := goodIn_q _ [(53, 5), (5, 4), (23, 18), (3, 22), (52, 21), (4, 8), (5, 6), (23, 19), (23, 20), (23, 21), (0, 5), (23, 22), (17, 19), (17, 20), (17, 21), (24, 16), (24, 17), (24, 18), (24, 19), (24, 20), (24, 21), (24, 22), (24, 23), (20, 14), (20, 15), (20, 16), (48, 20), (48, 21), (48, 22), (48, 23), (17, 18), (4, 1), (68, 0), (68, 1), (68, 2), (68, 3), (68, 4), (68, 5), (68, 6), (68, 7), (68, 8), (68, 9), (68, 10), (68, 11), (68, 12), (68, 13), (68, 14), (68, 15), (68, 16), (68, 17), (68, 18), (68, 19), (68, 20), (68, 21), (68, 22), (68, 23), (68, 24), (68, 25), (68, 26)] rfl (by decide +kernel)
set_option maxRecDepth 20000 in
theorem gL_law_X8_moveHome : GoodIn wsL_law (wsV RL 197 RX8 yX8_moveHome wsX8_moveHome) := goodIn_app (goodIn_q _ [(53, 2), (53, 3), (53, 4), (0, 5)] rfl (by decide +kernel)) ggL_law_X8_moveHome
theorem dL_law_1366 : decode cL_law 1366 = .ok (.aload_n 1, 1) := by decide +kernel
theorem dL_law_1367 : decode cL_law 1367 = .ok (.aload_n 0, 1) := by decide +kernel
theorem dL_law_1368 : decode cL_law 1368 = .ok (.iload_n 3, 1) := by decide +kernel
theorem dL_law_1369 : decode cL_law 1369 = .ok (.iconst 1, 1) := by decide +kernel
theorem dL_law_1370 : decode cL_law 1370 = .ok (.iadd, 1) := by decide +kernel
theorem dL_law_1371 : decode cL_law 1371 = .ok (.iaload, 1) := by decide +kernel
theorem dL_law_1372 : decode cL_law 1372 = .ok (.aload_n 0, 1) := by decide +kernel
theorem dL_law_1373 : decode cL_law 1373 = .ok (.iload_n 3, 1) := by decide +kernel
theorem dL_law_1374 : decode cL_law 1374 = .ok (.iconst 2, 1) := by decide +kernel
theorem dL_law_1375 : decode cL_law 1375 = .ok (.iadd, 1) := by decide +kernel
theorem dL_law_1376 : decode cL_law 1376 = .ok (.iaload, 1) := by decide +kernel
theorem dL_law_1377 : decode cL_law 1377 = .ok (.invokevirtual 194, 3) := by decide +kernel
theorem dL_law_1380 : decode cL_law 1380 = .ok (.aload_n 2, 1) := by decide +kernel
theorem dL_law_1381 : decode cL_law 1381 = .ok (.aload_n 0, 1) := by decide +kernel
theorem dL_law_1382 : decode cL_law 1382 = .ok (.iload_n 3, 1) := by decide +kernel
theorem dL_law_1383 : decode cL_law 1383 = .ok (.iconst 1, 1) := by decide +kernel
theorem dL_law_1384 : decode cL_law 1384 = .ok (.iadd, 1) := by decide +kernel
theorem dL_law_1385 : decode cL_law 1385 = .ok (.iaload, 1) := by decide +kernel
theorem dL_law_1386 : decode cL_law 1386 = .ok (.aload_n 0, 1) := by decide +kernel
theorem dL_law_1387 : decode cL_law 1387 = .ok (.iload_n 3, 1) := by decide +kernel
theorem dL_law_1388 : decode cL_law 1388 = .ok (.iconst 2, 1) := by decide +kernel
theorem dL_law_1389 : decode cL_law 1389 = .ok (.iadd, 1) := by decide +kernel
theorem dL_law_1390 : decode cL_law 1390 = .ok (.iaload, 1) := by decide +kernel
theorem dL_law_1391 : decode cL_law 1391 = .ok (.invokevirtual 197, 3) := by decide +kernel
theorem dL_law_1394 : decode cL_law 1394 = .ok (.if_icmp .eq 297, 3) := by decide +kernel
theorem dL_law_1397 : decode cL_law 1397 = .ok (.iconst 0, 1) := by decide +kernel
theorem dL_law_1398 : decode cL_law 1398 = .ok (.ireturn, 1) := by decide +kernel
set_option maxRecDepth 100000 in
set_option maxHeartbeats 2000000 in
theorem lc_44 {p : Program} {l : Launch} {e : Env} {s : State} {m : MethodId} {below : List Frame} {meth : Method} {c : Code} {Q : State → Prop} {g : GT} {b L i : Nat} {xs : Nat → Int32} {H : Heap} {locs : List Loc} {ls : Array Slot} {cells slots : Nat} {cs : CT} {md : SD} {mn : Nat → Int64} {mw : Int64} (X : lwX p s m meth c g b L xs) (hi : i + 6 ≤ L) (hL : L ≤ 3072) (hS : va_S (gA g) s.heap H locs) (hl : lv_has ls 4 [(0, .ref b), (1, .ref (adr g.1 7 0)), (2, .ref (adr (g.1 + 189) 8 0)), (3, .int (nI i))]) (hfl : gf g = 2) (hW : World g (cs, (md, mn, mw)) H) {q : (Int32 × CT)} {q' : (Int32 × SD)} (h7 : f_X7_moveHome cs (xs (nI i + 1).toNatClampNeg) (xs (nI i + 2).toNatClampNeg) = some q) (h8 : f_X8_moveHome md (xs (nI i + 1).toNatClampNeg) (xs (nI i + 2).toNatClampNeg) = some q') (he : q.1 = q'.1) (hc : cells + 91 ≤ 600000) (hs : slots + 755 ≤ 7302250) (K : ∀ (H1 : Heap) (locs1 : List Loc), World g (q.2, (q'.2, mn, mw)) H1 → va_S (gA g) s.heap H1 locs1 → W p l e room_1 s m #[Value.ref b] below meth c H1 locs1 (cells + 91) (slots + 755) Q (F0 m 1691 ls [])) : W p l e room_1 s m #[Value.ref b] below meth c H locs cells slots Q (F0 m 1366 ls []) := by
  obtain ⟨hx, hb, hml, hown, hts, hX, hbl, hbA, hK⟩ := X
  have hv1 : vp_in (nI i + 1) L := lw_in1 hi hL
  have hv2 : vp_in (nI i + 2) L := lw_in2 hi hL
  refine lv_aload_n hx hb dL_law_1366 rfl (lv_at hl 1 rfl) ?_
  refine lv_aload_n hx hb dL_law_1367 rfl (lv_at hl 0 rfl) ?_
  refine lv_iload_n hx hb dL_law_1368 rfl (lv_at hl 3 rfl) ?_
  refine lv_iconst (v := 1) hx hb dL_law_1369 (by decide) ?_
  refine lv_iadd hx hb dL_law_1370 ?_
  refine va_sld hx hb hX hbl hbA hS hv1 dL_law_1371 ?_
  refine lv_aload_n hx hb dL_law_1372 rfl (lv_at hl 0 rfl) ?_
  refine lv_iload_n hx hb dL_law_1373 rfl (lv_at hl 3 rfl) ?_
  refine lv_iconst (v := 2) hx hb dL_law_1374 (by decide) ?_
  refine lv_iadd hx hb dL_law_1375 ?_
  refine va_sld hx hb hX hbl hbA hS hv2 dL_law_1376 ?_
  refine x_ci (x_rV ⟨hx, hb, hml, hown, hts⟩ (ct_X7_moveHome l g (Nat.le_of_lt_succ (by rw [hfl]; decide)) cs (md, mn, mw) (xs (nI i + 1).toNatClampNeg) (xs (nI i + 2).toNatClampNeg) h7) (cwV 2 hts gL_law_X7_moveHome rfl rfl rfl (by decide +kernel) ⟨Nat.le_of_ble_eq_true rfl, Nat.le_of_ble_eq_true rfl⟩) hK hW hS (x_recv (i := g.1) (k := 7) (j := 0) hK hW ⟨⟨Nat.le_of_lt_succ (by rw [hfl]; decide), rfl⟩, by decide⟩ rfl (by decide)) rfl hl.1 (rest := []) rfl (Nat.le_of_ble_eq_true rfl) dL_law_1377 ⟨hc, hs⟩) hS (fun H locs hW hS => ?_)
  have hW : World g (q.2, (md, mn, mw)) H := hW
  refine lv_aload_n hx hb dL_law_1380 rfl (lv_at hl 2 rfl) ?_
  refine lv_aload_n hx hb dL_law_1381 rfl (lv_at hl 0 rfl) ?_
  refine lv_iload_n hx hb dL_law_1382 rfl (lv_at hl 3 rfl) ?_
  refine lv_iconst (v := 1) hx hb dL_law_1383 (by decide) ?_
  refine lv_iadd hx hb dL_law_1384 ?_
  refine va_sld hx hb hX hbl hbA hS hv1 dL_law_1385 ?_
  refine lv_aload_n hx hb dL_law_1386 rfl (lv_at hl 0 rfl) ?_
  refine lv_iload_n hx hb dL_law_1387 rfl (lv_at hl 3 rfl) ?_
  refine lv_iconst (v := 2) hx hb dL_law_1388 (by decide) ?_
  refine lv_iadd hx hb dL_law_1389 ?_
  refine va_sld hx hb hX hbl hbA hS hv2 dL_law_1390 ?_
  refine x_ci0 (x_rV ⟨hx, hb, hml, hown, hts⟩ (ct_X8_moveHome l g (Nat.le_of_eq hfl.symm) (q.2, (md, mn, mw)) md mn mw (xs (nI i + 1).toNatClampNeg) (xs (nI i + 2).toNatClampNeg) h8) (cwV 2 hts gL_law_X8_moveHome rfl rfl rfl (by decide +kernel) ⟨Nat.le_of_ble_eq_true rfl, Nat.le_of_ble_eq_true rfl⟩) hK hW hS (x_recv (i := g.1 + 189) (k := 8) (j := 0) hK hW ⟨⟨Nat.le_of_eq hfl.symm, rfl⟩, by decide⟩ rfl (by decide)) rfl hl.1 (rest := [.int q.1]) rfl (Nat.le_of_ble_eq_true rfl) dL_law_1391 ⟨hc, hs⟩) hS (fun H locs hW hS => ?_)
  have hW : World g (q.2, (q'.2, mn, mw)) H := hW
  refine lv_icmp_eq (tgt := 1691) hx hb dL_law_1394 (by decide) (fun _ => ?_) (fun h => absurd he h)
  exact K H locs hW hS
set_option maxRecDepth 20000 in
theorem ggL_law_X7_setTimes : GoodIn wsL_law wsX7_setTimes := goodIn_q _ [(53, 9), (5, 15), (0, 19), (53, 10), (52, 9), (53, 11), (53, 12), (0, 2), (53, 13), (46, 14), (46, 15), (46, 16), (46, 17), (1, 0), (46, 18), (46, 19), (46, 20), (0, 23), (46, 21), (46, 22), (16, 17), (3, 17), (3, 16), (0, 17), (0, 18), (46, 23), (1, 10), (1, 11), (1, 12), (0, 10), (0, 11), (1, 13), (1, 14), (1, 15), (1, 16), (1, 17), (1, 18), (1, 19), (1, 20), (1, 21), (1, 22), (1, 23), (2, 0), (2, 1), (2, 2), (2, 3), (2, 4), (2, 5), (2, 6), (2, 7), (2, 8), (2, 9), (2, 10), (2, 11), (2, 12), (2, 13), (2, 14), (2, 15), (2, 16), (2, 17), (2, 18), (2, 19), (2, 20), (2, 21), (2, 22), (2, 23), (3, 0), (3, 1), (3, 2), (3, 3), (3, 4), (3, 5), (3, 6), (3, 7), (3, 8), (3, 9), (3, 10), (3, 11), (3, 12), (47, 0), (47, 1), (47, 2), (47, 3), (47, 4), (47, 5), (47, 6), (47, 7), (47, 8), (47, 9), (47, 10), (47, 11), (47, 12), (47, 13), (47, 14), (47, 15), (47, 16), (47, 17), (47, 18), (11, 18), (11, 19), (11, 20), (11, 21), (11, 22), (11, 23), (47, 19), (47, 20), (47, 21), (47, 22), (47, 23), (48, 0), (13, 8), (13, 9), (13, 10), (48, 1), (48, 2), (48, 3), (16, 18), (16, 19), (16, 20), (16, 21), (16, 22), (16, 23), (17, 0), (17, 1), (17, 2), (17, 3), (17, 4), (53, 14), (67, 0), (67, 1), (67, 2), (67, 3), (67, 4), (67, 5), (67, 6), (67, 7), (67, 8), (70, 0), (70, 1), (70, 2), (70, 3), (70, 4), (70, 5), (70, 6), (70, 7), (70, 8), (70, 9), (70, 10), (70, 11), (70, 12), (70, 13), (70, 14), (70, 15), (70, 16), (70, 17), (71, 0), (71, 1), (71, 2), (72, 0), (72, 1), (72, 2), (73, 0), (73, 1), (73, 2), (73, 3), (73, 4), (73, 5), (73, 6), (73, 7), (73, 8), (74, 0), (74, 1), (74, 2), (74, 3), (74, 4), (74, 5), (74, 6), (75, 0), (75, 1), (75, 2), (75, 3), (75, 4), (75, 5)] rfl (by decide +kernel)
set_option maxRecDepth 20000 in
theorem gL_law_X7_setTimes : GoodIn wsL_law (wsV RL 198 RX7 yX7_setTimes wsX7_setTimes) := goodIn_app (goodIn_q _ [(53, 6), (53, 7), (53, 8), (0, 2)] rfl (by decide +kernel)) ggL_law_X7_setTimes
set_option maxRecDepth 20000 in
theorem ggL_law_X8_setTimes : GoodIn wsL_law wsX8_setTimes := goodIn_q _ [(53, 18), (5, 4), (53, 19), (17, 9), (3, 22), (52, 21), (17, 19), (17, 20), (0, 5), (17, 21), (48, 20), (48, 21), (48, 22), (48, 23), (17, 18), (4, 1), (68, 0), (68, 1), (68, 2), (68, 3), (68, 4), (68, 5), (68, 6), (68, 7), (68, 8), (68, 9), (68, 10), (68, 11), (68, 12), (68, 13), (68, 14), (68, 15), (68, 16), (68, 17), (68, 18), (68, 19), (68, 20), (68, 21), (68, 22), (68, 23), (68, 24), (68, 25), (68, 26)] rfl (by decide +kernel)
set_option maxRecDepth 20000 in
theorem gL_law_X8_setTimes : GoodIn wsL_law (wsV RL 201 RX8 yX8_setTimes wsX8_setTimes) := goodIn_app (goodIn_q _ [(53, 15), (53, 16), (53, 17), (0, 5)] rfl (by decide +kernel)) ggL_law_X8_setTimes
theorem dL_law_1399 : decode cL_law 1399 = .ok (.aload_n 1, 1) := by decide +kernel
theorem dL_law_1400 : decode cL_law 1400 = .ok (.aload_n 0, 1) := by decide +kernel
theorem dL_law_1401 : decode cL_law 1401 = .ok (.iload_n 3, 1) := by decide +kernel
theorem dL_law_1402 : decode cL_law 1402 = .ok (.iconst 1, 1) := by decide +kernel
theorem dL_law_1403 : decode cL_law 1403 = .ok (.iadd, 1) := by decide +kernel
theorem dL_law_1404 : decode cL_law 1404 = .ok (.iaload, 1) := by decide +kernel
theorem dL_law_1405 : decode cL_law 1405 = .ok (.aload_n 0, 1) := by decide +kernel
theorem dL_law_1406 : decode cL_law 1406 = .ok (.iload_n 3, 1) := by decide +kernel
theorem dL_law_1407 : decode cL_law 1407 = .ok (.iconst 2, 1) := by decide +kernel
theorem dL_law_1408 : decode cL_law 1408 = .ok (.iadd, 1) := by decide +kernel
theorem dL_law_1409 : decode cL_law 1409 = .ok (.iaload, 1) := by decide +kernel
theorem dL_law_1410 : decode cL_law 1410 = .ok (.aload_n 0, 1) := by decide +kernel
theorem dL_law_1411 : decode cL_law 1411 = .ok (.iload_n 3, 1) := by decide +kernel
theorem dL_law_1412 : decode cL_law 1412 = .ok (.iconst 3, 1) := by decide +kernel
theorem dL_law_1413 : decode cL_law 1413 = .ok (.iadd, 1) := by decide +kernel
theorem dL_law_1414 : decode cL_law 1414 = .ok (.iaload, 1) := by decide +kernel
theorem dL_law_1415 : decode cL_law 1415 = .ok (.aload_n 0, 1) := by decide +kernel
theorem dL_law_1416 : decode cL_law 1416 = .ok (.iload_n 3, 1) := by decide +kernel
theorem dL_law_1417 : decode cL_law 1417 = .ok (.iconst 4, 1) := by decide +kernel
theorem dL_law_1418 : decode cL_law 1418 = .ok (.iadd, 1) := by decide +kernel
theorem dL_law_1419 : decode cL_law 1419 = .ok (.iaload, 1) := by decide +kernel
theorem dL_law_1420 : decode cL_law 1420 = .ok (.aload_n 0, 1) := by decide +kernel
theorem dL_law_1421 : decode cL_law 1421 = .ok (.iload_n 3, 1) := by decide +kernel
theorem dL_law_1422 : decode cL_law 1422 = .ok (.iconst 5, 1) := by decide +kernel
theorem dL_law_1423 : decode cL_law 1423 = .ok (.iadd, 1) := by decide +kernel
theorem dL_law_1424 : decode cL_law 1424 = .ok (.iaload, 1) := by decide +kernel
theorem dL_law_1425 : decode cL_law 1425 = .ok (.invokevirtual 198, 3) := by decide +kernel
theorem dL_law_1428 : decode cL_law 1428 = .ok (.aload_n 2, 1) := by decide +kernel
theorem dL_law_1429 : decode cL_law 1429 = .ok (.aload_n 0, 1) := by decide +kernel
theorem dL_law_1430 : decode cL_law 1430 = .ok (.iload_n 3, 1) := by decide +kernel
theorem dL_law_1431 : decode cL_law 1431 = .ok (.iconst 1, 1) := by decide +kernel
theorem dL_law_1432 : decode cL_law 1432 = .ok (.iadd, 1) := by decide +kernel
theorem dL_law_1433 : decode cL_law 1433 = .ok (.iaload, 1) := by decide +kernel
theorem dL_law_1434 : decode cL_law 1434 = .ok (.aload_n 0, 1) := by decide +kernel
theorem dL_law_1435 : decode cL_law 1435 = .ok (.iload_n 3, 1) := by decide +kernel
theorem dL_law_1436 : decode cL_law 1436 = .ok (.iconst 2, 1) := by decide +kernel
theorem dL_law_1437 : decode cL_law 1437 = .ok (.iadd, 1) := by decide +kernel
theorem dL_law_1438 : decode cL_law 1438 = .ok (.iaload, 1) := by decide +kernel
theorem dL_law_1439 : decode cL_law 1439 = .ok (.aload_n 0, 1) := by decide +kernel
theorem dL_law_1440 : decode cL_law 1440 = .ok (.iload_n 3, 1) := by decide +kernel
theorem dL_law_1441 : decode cL_law 1441 = .ok (.iconst 3, 1) := by decide +kernel
theorem dL_law_1442 : decode cL_law 1442 = .ok (.iadd, 1) := by decide +kernel
theorem dL_law_1443 : decode cL_law 1443 = .ok (.iaload, 1) := by decide +kernel
theorem dL_law_1444 : decode cL_law 1444 = .ok (.aload_n 0, 1) := by decide +kernel
theorem dL_law_1445 : decode cL_law 1445 = .ok (.iload_n 3, 1) := by decide +kernel
theorem dL_law_1446 : decode cL_law 1446 = .ok (.iconst 4, 1) := by decide +kernel
theorem dL_law_1447 : decode cL_law 1447 = .ok (.iadd, 1) := by decide +kernel
theorem dL_law_1448 : decode cL_law 1448 = .ok (.iaload, 1) := by decide +kernel
theorem dL_law_1449 : decode cL_law 1449 = .ok (.aload_n 0, 1) := by decide +kernel
theorem dL_law_1450 : decode cL_law 1450 = .ok (.iload_n 3, 1) := by decide +kernel
theorem dL_law_1451 : decode cL_law 1451 = .ok (.iconst 5, 1) := by decide +kernel
theorem dL_law_1452 : decode cL_law 1452 = .ok (.iadd, 1) := by decide +kernel
theorem dL_law_1453 : decode cL_law 1453 = .ok (.iaload, 1) := by decide +kernel
theorem dL_law_1454 : decode cL_law 1454 = .ok (.invokevirtual 201, 3) := by decide +kernel
theorem dL_law_1457 : decode cL_law 1457 = .ok (.if_icmp .eq 234, 3) := by decide +kernel
theorem dL_law_1460 : decode cL_law 1460 = .ok (.iconst 0, 1) := by decide +kernel
theorem dL_law_1461 : decode cL_law 1461 = .ok (.ireturn, 1) := by decide +kernel
set_option maxRecDepth 100000 in
set_option maxHeartbeats 2000000 in
theorem lc_45 {p : Program} {l : Launch} {e : Env} {s : State} {m : MethodId} {below : List Frame} {meth : Method} {c : Code} {Q : State → Prop} {g : GT} {b L i : Nat} {xs : Nat → Int32} {H : Heap} {locs : List Loc} {ls : Array Slot} {cells slots : Nat} {cs : CT} {md : SD} {mn : Nat → Int64} {mw : Int64} (X : lwX p s m meth c g b L xs) (hi : i + 6 ≤ L) (hL : L ≤ 3072) (hS : va_S (gA g) s.heap H locs) (hl : lv_has ls 4 [(0, .ref b), (1, .ref (adr g.1 7 0)), (2, .ref (adr (g.1 + 189) 8 0)), (3, .int (nI i))]) (hfl : gf g = 2) (hW : World g (cs, (md, mn, mw)) H) {q : (Int32 × CT)} {q' : (Int32 × SD)} (h7 : f_X7_setTimes cs (xs (nI i + 1).toNatClampNeg) (xs (nI i + 2).toNatClampNeg) (xs (nI i + 3).toNatClampNeg) (xs (nI i + 4).toNatClampNeg) (xs (nI i + 5).toNatClampNeg) = some q) (h8 : f_X8_setTimes md (xs (nI i + 1).toNatClampNeg) (xs (nI i + 2).toNatClampNeg) (xs (nI i + 3).toNatClampNeg) (xs (nI i + 4).toNatClampNeg) (xs (nI i + 5).toNatClampNeg) = some q') (he : q.1 = q'.1) (hc : cells + 91 ≤ 600000) (hs : slots + 755 ≤ 7302250) (K : ∀ (H1 : Heap) (locs1 : List Loc), World g (q.2, (q'.2, mn, mw)) H1 → va_S (gA g) s.heap H1 locs1 → W p l e room_1 s m #[Value.ref b] below meth c H1 locs1 (cells + 91) (slots + 755) Q (F0 m 1691 ls [])) : W p l e room_1 s m #[Value.ref b] below meth c H locs cells slots Q (F0 m 1399 ls []) := by
  obtain ⟨hx, hb, hml, hown, hts, hX, hbl, hbA, hK⟩ := X
  have hv1 : vp_in (nI i + 1) L := lw_in1 hi hL
  have hv2 : vp_in (nI i + 2) L := lw_in2 hi hL
  have hv3 : vp_in (nI i + 3) L := lw_in3 hi hL
  have hv4 : vp_in (nI i + 4) L := lw_in4 hi hL
  have hv5 : vp_in (nI i + 5) L := lw_in5 hi hL
  refine lv_aload_n hx hb dL_law_1399 rfl (lv_at hl 1 rfl) ?_
  refine lv_aload_n hx hb dL_law_1400 rfl (lv_at hl 0 rfl) ?_
  refine lv_iload_n hx hb dL_law_1401 rfl (lv_at hl 3 rfl) ?_
  refine lv_iconst (v := 1) hx hb dL_law_1402 (by decide) ?_
  refine lv_iadd hx hb dL_law_1403 ?_
  refine va_sld hx hb hX hbl hbA hS hv1 dL_law_1404 ?_
  refine lv_aload_n hx hb dL_law_1405 rfl (lv_at hl 0 rfl) ?_
  refine lv_iload_n hx hb dL_law_1406 rfl (lv_at hl 3 rfl) ?_
  refine lv_iconst (v := 2) hx hb dL_law_1407 (by decide) ?_
  refine lv_iadd hx hb dL_law_1408 ?_
  refine va_sld hx hb hX hbl hbA hS hv2 dL_law_1409 ?_
  refine lv_aload_n hx hb dL_law_1410 rfl (lv_at hl 0 rfl) ?_
  refine lv_iload_n hx hb dL_law_1411 rfl (lv_at hl 3 rfl) ?_
  refine lv_iconst (v := 3) hx hb dL_law_1412 (by decide) ?_
  refine lv_iadd hx hb dL_law_1413 ?_
  refine va_sld hx hb hX hbl hbA hS hv3 dL_law_1414 ?_
  refine lv_aload_n hx hb dL_law_1415 rfl (lv_at hl 0 rfl) ?_
  refine lv_iload_n hx hb dL_law_1416 rfl (lv_at hl 3 rfl) ?_
  refine lv_iconst (v := 4) hx hb dL_law_1417 (by decide) ?_
  refine lv_iadd hx hb dL_law_1418 ?_
  refine va_sld hx hb hX hbl hbA hS hv4 dL_law_1419 ?_
  refine lv_aload_n hx hb dL_law_1420 rfl (lv_at hl 0 rfl) ?_
  refine lv_iload_n hx hb dL_law_1421 rfl (lv_at hl 3 rfl) ?_
  refine lv_iconst (v := 5) hx hb dL_law_1422 (by decide) ?_
  refine lv_iadd hx hb dL_law_1423 ?_
  refine va_sld hx hb hX hbl hbA hS hv5 dL_law_1424 ?_
  refine x_ci (x_rV ⟨hx, hb, hml, hown, hts⟩ (ct_X7_setTimes l g (Nat.le_of_lt_succ (by rw [hfl]; decide)) cs (md, mn, mw) (xs (nI i + 1).toNatClampNeg) (xs (nI i + 2).toNatClampNeg) (xs (nI i + 3).toNatClampNeg) (xs (nI i + 4).toNatClampNeg) (xs (nI i + 5).toNatClampNeg) h7) (cwV 5 hts gL_law_X7_setTimes rfl rfl rfl (by decide +kernel) ⟨Nat.le_of_ble_eq_true rfl, Nat.le_of_ble_eq_true rfl⟩) hK hW hS (x_recv (i := g.1) (k := 7) (j := 0) hK hW ⟨⟨Nat.le_of_lt_succ (by rw [hfl]; decide), rfl⟩, by decide⟩ rfl (by decide)) rfl hl.1 (rest := []) rfl (Nat.le_of_ble_eq_true rfl) dL_law_1425 ⟨hc, hs⟩) hS (fun H locs hW hS => ?_)
  have hW : World g (q.2, (md, mn, mw)) H := hW
  refine lv_aload_n hx hb dL_law_1428 rfl (lv_at hl 2 rfl) ?_
  refine lv_aload_n hx hb dL_law_1429 rfl (lv_at hl 0 rfl) ?_
  refine lv_iload_n hx hb dL_law_1430 rfl (lv_at hl 3 rfl) ?_
  refine lv_iconst (v := 1) hx hb dL_law_1431 (by decide) ?_
  refine lv_iadd hx hb dL_law_1432 ?_
  refine va_sld hx hb hX hbl hbA hS hv1 dL_law_1433 ?_
  refine lv_aload_n hx hb dL_law_1434 rfl (lv_at hl 0 rfl) ?_
  refine lv_iload_n hx hb dL_law_1435 rfl (lv_at hl 3 rfl) ?_
  refine lv_iconst (v := 2) hx hb dL_law_1436 (by decide) ?_
  refine lv_iadd hx hb dL_law_1437 ?_
  refine va_sld hx hb hX hbl hbA hS hv2 dL_law_1438 ?_
  refine lv_aload_n hx hb dL_law_1439 rfl (lv_at hl 0 rfl) ?_
  refine lv_iload_n hx hb dL_law_1440 rfl (lv_at hl 3 rfl) ?_
  refine lv_iconst (v := 3) hx hb dL_law_1441 (by decide) ?_
  refine lv_iadd hx hb dL_law_1442 ?_
  refine va_sld hx hb hX hbl hbA hS hv3 dL_law_1443 ?_
  refine lv_aload_n hx hb dL_law_1444 rfl (lv_at hl 0 rfl) ?_
  refine lv_iload_n hx hb dL_law_1445 rfl (lv_at hl 3 rfl) ?_
  refine lv_iconst (v := 4) hx hb dL_law_1446 (by decide) ?_
  refine lv_iadd hx hb dL_law_1447 ?_
  refine va_sld hx hb hX hbl hbA hS hv4 dL_law_1448 ?_
  refine lv_aload_n hx hb dL_law_1449 rfl (lv_at hl 0 rfl) ?_
  refine lv_iload_n hx hb dL_law_1450 rfl (lv_at hl 3 rfl) ?_
  refine lv_iconst (v := 5) hx hb dL_law_1451 (by decide) ?_
  refine lv_iadd hx hb dL_law_1452 ?_
  refine va_sld hx hb hX hbl hbA hS hv5 dL_law_1453 ?_
  refine x_ci0 (x_rV ⟨hx, hb, hml, hown, hts⟩ (ct_X8_setTimes l g (Nat.le_of_eq hfl.symm) (q.2, (md, mn, mw)) md mn mw (xs (nI i + 1).toNatClampNeg) (xs (nI i + 2).toNatClampNeg) (xs (nI i + 3).toNatClampNeg) (xs (nI i + 4).toNatClampNeg) (xs (nI i + 5).toNatClampNeg) h8) (cwV 5 hts gL_law_X8_setTimes rfl rfl rfl (by decide +kernel) ⟨Nat.le_of_ble_eq_true rfl, Nat.le_of_ble_eq_true rfl⟩) hK hW hS (x_recv (i := g.1 + 189) (k := 8) (j := 0) hK hW ⟨⟨Nat.le_of_eq hfl.symm, rfl⟩, by decide⟩ rfl (by decide)) rfl hl.1 (rest := [.int q.1]) rfl (Nat.le_of_ble_eq_true rfl) dL_law_1454 ⟨hc, hs⟩) hS (fun H locs hW hS => ?_)
  have hW : World g (q.2, (q'.2, mn, mw)) H := hW
  refine lv_icmp_eq (tgt := 1691) hx hb dL_law_1457 (by decide) (fun _ => ?_) (fun h => absurd he h)
  exact K H locs hW hS
set_option maxRecDepth 20000 in
theorem ggL_law_X7_request : GoodIn wsL_law wsX7_request := goodIn_q _ [(53, 23), (0, 19), (23, 12), (43, 13), (54, 0), (4, 18), (54, 1), (39, 5), (15, 7), (15, 8), (0, 18), (15, 9), (3, 3), (42, 8), (42, 9), (42, 10), (42, 11), (42, 12), (40, 0), (40, 1), (40, 2), (1, 20), (1, 21), (42, 13), (42, 14), (42, 15), (42, 16), (12, 19), (1, 18), (14, 23), (15, 5), (42, 17), (42, 18), (42, 19), (2, 2), (42, 20), (11, 23), (11, 22), (46, 14), (46, 15), (46, 16), (0, 2), (46, 17), (1, 0), (46, 18), (46, 19), (46, 20), (0, 23), (46, 21), (46, 22), (16, 17), (3, 17), (3, 16), (0, 17), (46, 23), (1, 10), (1, 11), (1, 12), (0, 10), (0, 11), (1, 13), (1, 14), (1, 15), (1, 16), (1, 17), (1, 19), (1, 22), (1, 23), (2, 0), (2, 1), (2, 3), (2, 4), (2, 5), (2, 6), (2, 7), (2, 8), (2, 9), (2, 10), (2, 11), (2, 12), (2, 13), (2, 14), (2, 15), (2, 16), (2, 17), (2, 18), (2, 19), (2, 20), (2, 21), (2, 22), (2, 23), (3, 0), (3, 1), (3, 2), (3, 4), (3, 5), (3, 6), (3, 7), (3, 8), (3, 9), (3, 10), (3, 11), (3, 12), (47, 0), (47, 1), (47, 2), (47, 3), (47, 4), (47, 5), (47, 6), (47, 7), (47, 8), (47, 9), (47, 10), (47, 11), (47, 12), (47, 13), (47, 14), (47, 15), (47, 16), (47, 17), (47, 18), (11, 18), (11, 19), (11, 20), (11, 21), (47, 19), (47, 20), (47, 21), (47, 22), (47, 23), (48, 0), (13, 8), (13, 9), (13, 10), (48, 1), (48, 2), (48, 3), (16, 18), (16, 19), (16, 20), (16, 21), (16, 22), (16, 23), (17, 0), (17, 1), (17, 2), (17, 3), (17, 4), (67, 0), (67, 1), (67, 2), (67, 3), (67, 4), (67, 5), (67, 6), (67, 7), (67, 8), (70, 0), (70, 1), (70, 2), (70, 3), (70, 4), (70, 5), (70, 6), (70, 7), (70, 8), (70, 9), (70, 10), (70, 11), (70, 12), (70, 13), (70, 14), (70, 15), (70, 16), (70, 17), (74, 0), (74, 1), (74, 2), (74, 3), (74, 4), (74, 5), (74, 6), (73, 0), (73, 1), (73, 2), (73, 3), (73, 4), (73, 5), (73, 6), (73, 7), (73, 8), (71, 0), (71, 1), (71, 2), (72, 0), (72, 1), (72, 2), (75, 0), (75, 1), (75, 2), (75, 3), (75, 4), (75, 5)] rfl (by decide +kernel)
set_option maxRecDepth 20000 in
theorem gL_law_X7_request : GoodIn wsL_law (wsV RL 202 RX7 yX7_request wsX7_request) := goodIn_app (goodIn_q _ [(53, 20), (53, 21), (53, 22), (0, 2)] rfl (by decide +kernel)) ggL_law_X7_request
set_option maxRecDepth 20000 in
theorem ggL_law_X8_request : GoodIn wsL_law wsX8_request := goodIn_q _ [(54, 5), (5, 4), (23, 18), (44, 2), (3, 22), (5, 6), (39, 14), (39, 15), (39, 16), (0, 5), (39, 17), (17, 19), (17, 20), (17, 21), (44, 3), (44, 4), (44, 5), (44, 6), (40, 11), (40, 12), (40, 13), (40, 14), (44, 7), (44, 8), (44, 9), (44, 10), (43, 1), (43, 2), (43, 3), (43, 4), (48, 20), (48, 21), (48, 22), (48, 23), (17, 18), (4, 1), (68, 0), (68, 1), (68, 2), (68, 3), (68, 4), (68, 5), (68, 6), (68, 7), (68, 8), (68, 9), (68, 10), (68, 11), (68, 12), (68, 13), (68, 14), (68, 15), (68, 16), (68, 17), (68, 18), (68, 19), (68, 20), (68, 21), (68, 22), (68, 23), (68, 24), (68, 25), (68, 26)] rfl (by decide +kernel)
set_option maxRecDepth 20000 in
theorem gL_law_X8_request : GoodIn wsL_law (wsV RL 205 RX8 yX8_request wsX8_request) := goodIn_app (goodIn_q _ [(54, 2), (54, 3), (54, 4), (0, 5)] rfl (by decide +kernel)) ggL_law_X8_request
theorem dL_law_1462 : decode cL_law 1462 = .ok (.aload_n 1, 1) := by decide +kernel
theorem dL_law_1463 : decode cL_law 1463 = .ok (.aload_n 0, 1) := by decide +kernel
theorem dL_law_1464 : decode cL_law 1464 = .ok (.iload_n 3, 1) := by decide +kernel
theorem dL_law_1465 : decode cL_law 1465 = .ok (.iconst 1, 1) := by decide +kernel
theorem dL_law_1466 : decode cL_law 1466 = .ok (.iadd, 1) := by decide +kernel
theorem dL_law_1467 : decode cL_law 1467 = .ok (.iaload, 1) := by decide +kernel
theorem dL_law_1468 : decode cL_law 1468 = .ok (.invokevirtual 202, 3) := by decide +kernel
theorem dL_law_1471 : decode cL_law 1471 = .ok (.aload_n 2, 1) := by decide +kernel
theorem dL_law_1472 : decode cL_law 1472 = .ok (.aload_n 0, 1) := by decide +kernel
theorem dL_law_1473 : decode cL_law 1473 = .ok (.iload_n 3, 1) := by decide +kernel
theorem dL_law_1474 : decode cL_law 1474 = .ok (.iconst 1, 1) := by decide +kernel
theorem dL_law_1475 : decode cL_law 1475 = .ok (.iadd, 1) := by decide +kernel
theorem dL_law_1476 : decode cL_law 1476 = .ok (.iaload, 1) := by decide +kernel
theorem dL_law_1477 : decode cL_law 1477 = .ok (.invokevirtual 205, 3) := by decide +kernel
theorem dL_law_1480 : decode cL_law 1480 = .ok (.if_icmp .eq 211, 3) := by decide +kernel
theorem dL_law_1483 : decode cL_law 1483 = .ok (.iconst 0, 1) := by decide +kernel
theorem dL_law_1484 : decode cL_law 1484 = .ok (.ireturn, 1) := by decide +kernel
set_option maxRecDepth 100000 in
set_option maxHeartbeats 2000000 in
theorem lc_46 {p : Program} {l : Launch} {e : Env} {s : State} {m : MethodId} {below : List Frame} {meth : Method} {c : Code} {Q : State → Prop} {g : GT} {b L i : Nat} {xs : Nat → Int32} {H : Heap} {locs : List Loc} {ls : Array Slot} {cells slots : Nat} {cs : CT} {md : SD} {mn : Nat → Int64} {mw : Int64} (X : lwX p s m meth c g b L xs) (hi : i + 6 ≤ L) (hL : L ≤ 3072) (hS : va_S (gA g) s.heap H locs) (hl : lv_has ls 4 [(0, .ref b), (1, .ref (adr g.1 7 0)), (2, .ref (adr (g.1 + 189) 8 0)), (3, .int (nI i))]) (hfl : gf g = 2) (hW : World g (cs, (md, mn, mw)) H) {q : (Int32 × CT)} {q' : (Int32 × SD)} (h7 : f_X7_request cs (xs (nI i + 1).toNatClampNeg) = some q) (h8 : f_X8_request md (xs (nI i + 1).toNatClampNeg) = some q') (he : q.1 = q'.1) (hc : cells + 91 ≤ 600000) (hs : slots + 755 ≤ 7302250) (K : ∀ (H1 : Heap) (locs1 : List Loc), World g (q.2, (q'.2, mn, mw)) H1 → va_S (gA g) s.heap H1 locs1 → W p l e room_1 s m #[Value.ref b] below meth c H1 locs1 (cells + 91) (slots + 755) Q (F0 m 1691 ls [])) : W p l e room_1 s m #[Value.ref b] below meth c H locs cells slots Q (F0 m 1462 ls []) := by
  obtain ⟨hx, hb, hml, hown, hts, hX, hbl, hbA, hK⟩ := X
  have hv1 : vp_in (nI i + 1) L := lw_in1 hi hL
  refine lv_aload_n hx hb dL_law_1462 rfl (lv_at hl 1 rfl) ?_
  refine lv_aload_n hx hb dL_law_1463 rfl (lv_at hl 0 rfl) ?_
  refine lv_iload_n hx hb dL_law_1464 rfl (lv_at hl 3 rfl) ?_
  refine lv_iconst (v := 1) hx hb dL_law_1465 (by decide) ?_
  refine lv_iadd hx hb dL_law_1466 ?_
  refine va_sld hx hb hX hbl hbA hS hv1 dL_law_1467 ?_
  refine x_ci (x_rV ⟨hx, hb, hml, hown, hts⟩ (ct_X7_request l g (Nat.le_of_lt_succ (by rw [hfl]; decide)) cs (md, mn, mw) (xs (nI i + 1).toNatClampNeg) h7) (cwV 1 hts gL_law_X7_request rfl rfl rfl (by decide +kernel) ⟨Nat.le_of_ble_eq_true rfl, Nat.le_of_ble_eq_true rfl⟩) hK hW hS (x_recv (i := g.1) (k := 7) (j := 0) hK hW ⟨⟨Nat.le_of_lt_succ (by rw [hfl]; decide), rfl⟩, by decide⟩ rfl (by decide)) rfl hl.1 (rest := []) rfl (Nat.le_of_ble_eq_true rfl) dL_law_1468 ⟨hc, hs⟩) hS (fun H locs hW hS => ?_)
  have hW : World g (q.2, (md, mn, mw)) H := hW
  refine lv_aload_n hx hb dL_law_1471 rfl (lv_at hl 2 rfl) ?_
  refine lv_aload_n hx hb dL_law_1472 rfl (lv_at hl 0 rfl) ?_
  refine lv_iload_n hx hb dL_law_1473 rfl (lv_at hl 3 rfl) ?_
  refine lv_iconst (v := 1) hx hb dL_law_1474 (by decide) ?_
  refine lv_iadd hx hb dL_law_1475 ?_
  refine va_sld hx hb hX hbl hbA hS hv1 dL_law_1476 ?_
  refine x_ci0 (x_rV ⟨hx, hb, hml, hown, hts⟩ (ct_X8_request l g (Nat.le_of_eq hfl.symm) (q.2, (md, mn, mw)) md mn mw (xs (nI i + 1).toNatClampNeg) h8) (cwV 1 hts gL_law_X8_request rfl rfl rfl (by decide +kernel) ⟨Nat.le_of_ble_eq_true rfl, Nat.le_of_ble_eq_true rfl⟩) hK hW hS (x_recv (i := g.1 + 189) (k := 8) (j := 0) hK hW ⟨⟨Nat.le_of_eq hfl.symm, rfl⟩, by decide⟩ rfl (by decide)) rfl hl.1 (rest := [.int q.1]) rfl (Nat.le_of_ble_eq_true rfl) dL_law_1477 ⟨hc, hs⟩) hS (fun H locs hW hS => ?_)
  have hW : World g (q.2, (q'.2, mn, mw)) H := hW
  refine lv_icmp_eq (tgt := 1691) hx hb dL_law_1480 (by decide) (fun _ => ?_) (fun h => absurd he h)
  exact K H locs hW hS
set_option maxRecDepth 20000 in
theorem ggL_law_X7_dropRequest : GoodIn wsL_law wsX7_dropRequest := goodIn_q _ [(54, 9), (0, 19), (23, 12), (54, 10), (54, 11), (54, 12), (0, 18), (54, 13), (3, 4), (46, 14), (46, 15), (46, 16), (0, 2), (46, 17), (1, 0), (46, 18), (46, 19), (46, 20), (0, 23), (46, 21), (46, 22), (16, 17), (3, 17), (3, 16), (0, 17), (46, 23), (1, 10), (1, 11), (1, 12), (0, 10), (0, 11), (1, 13), (1, 14), (1, 15), (1, 16), (1, 17), (1, 18), (1, 19), (1, 20), (1, 21), (1, 22), (1, 23), (2, 0), (2, 1), (2, 2), (2, 3), (2, 4), (2, 5), (2, 6), (2, 7), (2, 8), (2, 9), (2, 10), (2, 11), (2, 12), (2, 13), (2, 14), (2, 15), (2, 16), (2, 17), (2, 18), (2, 19), (2, 20), (2, 21), (2, 22), (2, 23), (3, 0), (3, 1), (3, 2), (3, 3), (3, 5), (3, 6), (3, 7), (3, 8), (3, 9), (3, 10), (3, 11), (3, 12), (47, 0), (47, 1), (47, 2), (47, 3), (47, 4), (47, 5), (47, 6), (47, 7), (47, 8), (47, 9), (47, 10), (47, 11), (47, 12), (47, 13), (47, 14), (47, 15), (47, 16), (47, 17), (47, 18), (11, 18), (11, 19), (11, 20), (11, 21), (11, 22), (11, 23), (47, 19), (47, 20), (47, 21), (47, 22), (47, 23), (48, 0), (13, 8), (13, 9), (13, 10), (48, 1), (48, 2), (48, 3), (16, 18), (16, 19), (16, 20), (16, 21), (16, 22), (16, 23), (17, 0), (17, 1), (17, 2), (17, 3), (17, 4), (54, 14), (54, 15), (54, 16), (54, 17), (67, 0), (67, 1), (67, 2), (67, 3), (67, 4), (67, 5), (67, 6), (67, 7), (67, 8), (70, 0), (70, 1), (70, 2), (70, 3), (70, 4), (70, 5), (70, 6), (70, 7), (70, 8), (70, 9), (70, 10), (70, 11), (70, 12), (70, 13), (70, 14), (70, 15), (70, 16), (70, 17), (71, 0), (71, 1), (71, 2), (72, 0), (72, 1), (72, 2), (73, 0), (73, 1), (73, 2), (73, 3), (73, 4), (73, 5), (73, 6), (73, 7), (73, 8), (74, 0), (74, 1), (74, 2), (74, 3), (74, 4), (74, 5), (74, 6), (75, 0), (75, 1), (75, 2), (75, 3), (75, 4), (75, 5)] rfl (by decide +kernel)
set_option maxRecDepth 20000 in
theorem gL_law_X7_dropRequest : GoodIn wsL_law (wsV RL 206 RX7 yX7_dropRequest wsX7_dropRequest) := goodIn_app (goodIn_q _ [(54, 6), (54, 7), (54, 8), (0, 2)] rfl (by decide +kernel)) ggL_law_X7_dropRequest
set_option maxRecDepth 20000 in
theorem ggL_law_X8_dropRequest : GoodIn wsL_law wsX8_dropRequest := goodIn_q _ [(54, 21), (5, 4), (23, 18), (3, 22), (54, 22), (54, 23), (55, 0), (0, 5), (55, 1), (17, 19), (17, 20), (17, 21), (48, 20), (48, 21), (48, 22), (48, 23), (17, 18), (4, 1), (55, 2), (55, 3), (55, 4), (55, 5), (68, 0), (68, 1), (68, 2), (68, 3), (68, 4), (68, 5), (68, 6), (68, 7), (68, 8), (68, 9), (68, 10), (68, 11), (68, 12), (68, 13), (68, 14), (68, 15), (68, 16), (68, 17), (68, 18), (68, 19), (68, 20), (68, 21), (68, 22), (68, 23), (68, 24), (68, 25), (68, 26)] rfl (by decide +kernel)
set_option maxRecDepth 20000 in
theorem gL_law_X8_dropRequest : GoodIn wsL_law (wsV RL 209 RX8 yX8_dropRequest wsX8_dropRequest) := goodIn_app (goodIn_q _ [(54, 18), (54, 19), (54, 20), (0, 5)] rfl (by decide +kernel)) ggL_law_X8_dropRequest
theorem dL_law_1485 : decode cL_law 1485 = .ok (.aload_n 1, 1) := by decide +kernel
theorem dL_law_1486 : decode cL_law 1486 = .ok (.aload_n 0, 1) := by decide +kernel
theorem dL_law_1487 : decode cL_law 1487 = .ok (.iload_n 3, 1) := by decide +kernel
theorem dL_law_1488 : decode cL_law 1488 = .ok (.iconst 1, 1) := by decide +kernel
theorem dL_law_1489 : decode cL_law 1489 = .ok (.iadd, 1) := by decide +kernel
theorem dL_law_1490 : decode cL_law 1490 = .ok (.iaload, 1) := by decide +kernel
theorem dL_law_1491 : decode cL_law 1491 = .ok (.invokevirtual 206, 3) := by decide +kernel
theorem dL_law_1494 : decode cL_law 1494 = .ok (.aload_n 2, 1) := by decide +kernel
theorem dL_law_1495 : decode cL_law 1495 = .ok (.aload_n 0, 1) := by decide +kernel
theorem dL_law_1496 : decode cL_law 1496 = .ok (.iload_n 3, 1) := by decide +kernel
theorem dL_law_1497 : decode cL_law 1497 = .ok (.iconst 1, 1) := by decide +kernel
theorem dL_law_1498 : decode cL_law 1498 = .ok (.iadd, 1) := by decide +kernel
theorem dL_law_1499 : decode cL_law 1499 = .ok (.iaload, 1) := by decide +kernel
theorem dL_law_1500 : decode cL_law 1500 = .ok (.invokevirtual 209, 3) := by decide +kernel
theorem dL_law_1503 : decode cL_law 1503 = .ok (.if_icmp .eq 188, 3) := by decide +kernel
theorem dL_law_1506 : decode cL_law 1506 = .ok (.iconst 0, 1) := by decide +kernel
theorem dL_law_1507 : decode cL_law 1507 = .ok (.ireturn, 1) := by decide +kernel
set_option maxRecDepth 100000 in
set_option maxHeartbeats 2000000 in
theorem lc_47 {p : Program} {l : Launch} {e : Env} {s : State} {m : MethodId} {below : List Frame} {meth : Method} {c : Code} {Q : State → Prop} {g : GT} {b L i : Nat} {xs : Nat → Int32} {H : Heap} {locs : List Loc} {ls : Array Slot} {cells slots : Nat} {cs : CT} {md : SD} {mn : Nat → Int64} {mw : Int64} (X : lwX p s m meth c g b L xs) (hi : i + 6 ≤ L) (hL : L ≤ 3072) (hS : va_S (gA g) s.heap H locs) (hl : lv_has ls 4 [(0, .ref b), (1, .ref (adr g.1 7 0)), (2, .ref (adr (g.1 + 189) 8 0)), (3, .int (nI i))]) (hfl : gf g = 2) (hW : World g (cs, (md, mn, mw)) H) {q : (Int32 × CT)} {q' : (Int32 × SD)} (h7 : f_X7_dropRequest cs (xs (nI i + 1).toNatClampNeg) = some q) (h8 : f_X8_dropRequest md (xs (nI i + 1).toNatClampNeg) = some q') (he : q.1 = q'.1) (hc : cells + 91 ≤ 600000) (hs : slots + 755 ≤ 7302250) (K : ∀ (H1 : Heap) (locs1 : List Loc), World g (q.2, (q'.2, mn, mw)) H1 → va_S (gA g) s.heap H1 locs1 → W p l e room_1 s m #[Value.ref b] below meth c H1 locs1 (cells + 91) (slots + 755) Q (F0 m 1691 ls [])) : W p l e room_1 s m #[Value.ref b] below meth c H locs cells slots Q (F0 m 1485 ls []) := by
  obtain ⟨hx, hb, hml, hown, hts, hX, hbl, hbA, hK⟩ := X
  have hv1 : vp_in (nI i + 1) L := lw_in1 hi hL
  refine lv_aload_n hx hb dL_law_1485 rfl (lv_at hl 1 rfl) ?_
  refine lv_aload_n hx hb dL_law_1486 rfl (lv_at hl 0 rfl) ?_
  refine lv_iload_n hx hb dL_law_1487 rfl (lv_at hl 3 rfl) ?_
  refine lv_iconst (v := 1) hx hb dL_law_1488 (by decide) ?_
  refine lv_iadd hx hb dL_law_1489 ?_
  refine va_sld hx hb hX hbl hbA hS hv1 dL_law_1490 ?_
  refine x_ci (x_rV ⟨hx, hb, hml, hown, hts⟩ (ct_X7_dropRequest l g (Nat.le_of_lt_succ (by rw [hfl]; decide)) cs (md, mn, mw) (xs (nI i + 1).toNatClampNeg) h7) (cwV 1 hts gL_law_X7_dropRequest rfl rfl rfl (by decide +kernel) ⟨Nat.le_of_ble_eq_true rfl, Nat.le_of_ble_eq_true rfl⟩) hK hW hS (x_recv (i := g.1) (k := 7) (j := 0) hK hW ⟨⟨Nat.le_of_lt_succ (by rw [hfl]; decide), rfl⟩, by decide⟩ rfl (by decide)) rfl hl.1 (rest := []) rfl (Nat.le_of_ble_eq_true rfl) dL_law_1491 ⟨hc, hs⟩) hS (fun H locs hW hS => ?_)
  have hW : World g (q.2, (md, mn, mw)) H := hW
  refine lv_aload_n hx hb dL_law_1494 rfl (lv_at hl 2 rfl) ?_
  refine lv_aload_n hx hb dL_law_1495 rfl (lv_at hl 0 rfl) ?_
  refine lv_iload_n hx hb dL_law_1496 rfl (lv_at hl 3 rfl) ?_
  refine lv_iconst (v := 1) hx hb dL_law_1497 (by decide) ?_
  refine lv_iadd hx hb dL_law_1498 ?_
  refine va_sld hx hb hX hbl hbA hS hv1 dL_law_1499 ?_
  refine x_ci0 (x_rV ⟨hx, hb, hml, hown, hts⟩ (ct_X8_dropRequest l g (Nat.le_of_eq hfl.symm) (q.2, (md, mn, mw)) md mn mw (xs (nI i + 1).toNatClampNeg) h8) (cwV 1 hts gL_law_X8_dropRequest rfl rfl rfl (by decide +kernel) ⟨Nat.le_of_ble_eq_true rfl, Nat.le_of_ble_eq_true rfl⟩) hK hW hS (x_recv (i := g.1 + 189) (k := 8) (j := 0) hK hW ⟨⟨Nat.le_of_eq hfl.symm, rfl⟩, by decide⟩ rfl (by decide)) rfl hl.1 (rest := [.int q.1]) rfl (Nat.le_of_ble_eq_true rfl) dL_law_1500 ⟨hc, hs⟩) hS (fun H locs hW hS => ?_)
  have hW : World g (q.2, (q'.2, mn, mw)) H := hW
  refine lv_icmp_eq (tgt := 1691) hx hb dL_law_1503 (by decide) (fun _ => ?_) (fun h => absurd he h)
  exact K H locs hW hS
