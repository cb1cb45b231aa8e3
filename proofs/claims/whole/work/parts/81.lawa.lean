/-! the law: what stands all along -/
def lwX (p : Program) (s : State) (m : MethodId) (meth : Method) (c : Code) (g : GT) (b L : Nat) (xs : Nat → Int32) : Prop := p.tables.exec = Jvm.exec ∧ c.code = code ∧ c.maxLocals = 4 ∧ s.vm.findClass RL = some m.cls ∧ (∀ w ∈ wsL_law, w.before #[Value.ref b] s = true) ∧ va_X b L xs s s.heap ∧ b < s.heap.size ∧ ¬ gA g b ∧ wK g s
theorem lw_in0 {i L : Nat} (hi : i + 6 ≤ L) (hL : L ≤ 3072) : vp_in (nI i + 0) L := by
  show vp_in (nI i + nI 0) L
  rw [nI_add]
  exact vp_in_nI (by omega) (by omega)
theorem lw_in1 {i L : Nat} (hi : i + 6 ≤ L) (hL : L ≤ 3072) : vp_in (nI i + 1) L := by
  show vp_in (nI i + nI 1) L
  rw [nI_add]
  exact vp_in_nI (by omega) (by omega)
theorem lw_in2 {i L : Nat} (hi : i + 6 ≤ L) (hL : L ≤ 3072) : vp_in (nI i + 2) L := by
  show vp_in (nI i + nI 2) L
  rw [nI_add]
  exact vp_in_nI (by omega) (by omega)
theorem lw_in3 {i L : Nat} (hi : i + 6 ≤ L) (hL : L ≤ 3072) : vp_in (nI i + 3) L := by
  show vp_in (nI i + nI 3) L
  rw [nI_add]
  exact vp_in_nI (by omega) (by omega)
theorem lw_in4 {i L : Nat} (hi : i + 6 ≤ L) (hL : L ≤ 3072) : vp_in (nI i + 4) L := by
  show vp_in (nI i + nI 4) L
  rw [nI_add]
  exact vp_in_nI (by omega) (by omega)
theorem lw_in5 {i L : Nat} (hi : i + 6 ≤ L) (hL : L ≤ 3072) : vp_in (nI i + 5) L := by
  show vp_in (nI i + nI 5) L
  rw [nI_add]
  exact vp_in_nI (by omega) (by omega)
set_option maxRecDepth 20000 in
theorem ggL_law_X7_feed : GoodIn wsL_law wsX7_feed := goodIn_r _ [112, 15, 113, 114, 115, 116, 117, 14, 118, 119, 30, 1587, 1588, 1589, 1590, 1591, 1592, 1593, 1594, 1595, 1623, 1624, 1625, 1626, 1627, 1628, 1629, 1630, 1631] (by decide +kernel) (by decide +kernel)
set_option maxRecDepth 20000 in
theorem gL_law_X7_feed : GoodIn wsL_law (wsV RL 13 RX7 yX7_feed wsX7_feed) := goodIn_app (goodIn_of _ (by decide +kernel)) ggL_law_X7_feed
set_option maxRecDepth 20000 in
theorem ggL_law_X8_feed : GoodIn wsL_law wsX8_feed := goodIn_r _ [123, 124, 125, 126, 127, 128, 129, 5, 130, 102, 1596, 1597, 1598, 1599, 1600, 1601, 1602, 1603, 1604, 1605, 1606, 1607, 1608, 1609, 1610, 1611, 1612, 1613, 1614, 1615, 1616, 1617, 1618, 1619, 1620, 1621, 1622] (by decide +kernel) (by decide +kernel)
set_option maxRecDepth 20000 in
theorem gL_law_X8_feed : GoodIn wsL_law (wsV RL 17 RX8 yX8_feed wsX8_feed) := goodIn_app (goodIn_of _ (by decide +kernel)) ggL_law_X8_feed
theorem dL_law_284 : decode cL_law 284 = .ok (.aload_n 1, 1) := by decide +kernel
theorem dL_law_285 : decode cL_law 285 = .ok (.aload_n 0, 1) := by decide +kernel
theorem dL_law_286 : decode cL_law 286 = .ok (.iload_n 3, 1) := by decide +kernel
theorem dL_law_287 : decode cL_law 287 = .ok (.iconst 1, 1) := by decide +kernel
theorem dL_law_288 : decode cL_law 288 = .ok (.iadd, 1) := by decide +kernel
theorem dL_law_289 : decode cL_law 289 = .ok (.iaload, 1) := by decide +kernel
theorem dL_law_290 : decode cL_law 290 = .ok (.aload_n 0, 1) := by decide +kernel
theorem dL_law_291 : decode cL_law 291 = .ok (.iload_n 3, 1) := by decide +kernel
theorem dL_law_292 : decode cL_law 292 = .ok (.iconst 2, 1) := by decide +kernel
theorem dL_law_293 : decode cL_law 293 = .ok (.iadd, 1) := by decide +kernel
theorem dL_law_294 : decode cL_law 294 = .ok (.iaload, 1) := by decide +kernel
theorem dL_law_295 : decode cL_law 295 = .ok (.aload_n 0, 1) := by decide +kernel
theorem dL_law_296 : decode cL_law 296 = .ok (.iload_n 3, 1) := by decide +kernel
theorem dL_law_297 : decode cL_law 297 = .ok (.iconst 3, 1) := by decide +kernel
theorem dL_law_298 : decode cL_law 298 = .ok (.iadd, 1) := by decide +kernel
theorem dL_law_299 : decode cL_law 299 = .ok (.iaload, 1) := by decide +kernel
theorem dL_law_300 : decode cL_law 300 = .ok (.aload_n 0, 1) := by decide +kernel
theorem dL_law_301 : decode cL_law 301 = .ok (.iload_n 3, 1) := by decide +kernel
theorem dL_law_302 : decode cL_law 302 = .ok (.iconst 4, 1) := by decide +kernel
theorem dL_law_303 : decode cL_law 303 = .ok (.iadd, 1) := by decide +kernel
theorem dL_law_304 : decode cL_law 304 = .ok (.iaload, 1) := by decide +kernel
theorem dL_law_305 : decode cL_law 305 = .ok (.aload_n 0, 1) := by decide +kernel
theorem dL_law_306 : decode cL_law 306 = .ok (.iload_n 3, 1) := by decide +kernel
theorem dL_law_307 : decode cL_law 307 = .ok (.iconst 5, 1) := by decide +kernel
theorem dL_law_308 : decode cL_law 308 = .ok (.iadd, 1) := by decide +kernel
theorem dL_law_309 : decode cL_law 309 = .ok (.iaload, 1) := by decide +kernel
theorem dL_law_310 : decode cL_law 310 = .ok (.invokevirtual 13, 3) := by decide +kernel
theorem dL_law_313 : decode cL_law 313 = .ok (.aload_n 2, 1) := by decide +kernel
theorem dL_law_314 : decode cL_law 314 = .ok (.aload_n 0, 1) := by decide +kernel
theorem dL_law_315 : decode cL_law 315 = .ok (.iload_n 3, 1) := by decide +kernel
theorem dL_law_316 : decode cL_law 316 = .ok (.iconst 1, 1) := by decide +kernel
theorem dL_law_317 : decode cL_law 317 = .ok (.iadd, 1) := by decide +kernel
theorem dL_law_318 : decode cL_law 318 = .ok (.iaload, 1) := by decide +kernel
theorem dL_law_319 : decode cL_law 319 = .ok (.aload_n 0, 1) := by decide +kernel
theorem dL_law_320 : decode cL_law 320 = .ok (.iload_n 3, 1) := by decide +kernel
theorem dL_law_321 : decode cL_law 321 = .ok (.iconst 2, 1) := by decide +kernel
theorem dL_law_322 : decode cL_law 322 = .ok (.iadd, 1) := by decide +kernel
theorem dL_law_323 : decode cL_law 323 = .ok (.iaload, 1) := by decide +kernel
theorem dL_law_324 : decode cL_law 324 = .ok (.aload_n 0, 1) := by decide +kernel
theorem dL_law_325 : decode cL_law 325 = .ok (.iload_n 3, 1) := by decide +kernel
theorem dL_law_326 : decode cL_law 326 = .ok (.iconst 3, 1) := by decide +kernel
theorem dL_law_327 : decode cL_law 327 = .ok (.iadd, 1) := by decide +kernel
theorem dL_law_328 : decode cL_law 328 = .ok (.iaload, 1) := by decide +kernel
theorem dL_law_329 : decode cL_law 329 = .ok (.aload_n 0, 1) := by decide +kernel
theorem dL_law_330 : decode cL_law 330 = .ok (.iload_n 3, 1) := by decide +kernel
theorem dL_law_331 : decode cL_law 331 = .ok (.iconst 4, 1) := by decide +kernel
theorem dL_law_332 : decode cL_law 332 = .ok (.iadd, 1) := by decide +kernel
theorem dL_law_333 : decode cL_law 333 = .ok (.iaload, 1) := by decide +kernel
theorem dL_law_334 : decode cL_law 334 = .ok (.aload_n 0, 1) := by decide +kernel
theorem dL_law_335 : decode cL_law 335 = .ok (.iload_n 3, 1) := by decide +kernel
theorem dL_law_336 : decode cL_law 336 = .ok (.iconst 5, 1) := by decide +kernel
theorem dL_law_337 : decode cL_law 337 = .ok (.iadd, 1) := by decide +kernel
theorem dL_law_338 : decode cL_law 338 = .ok (.iaload, 1) := by decide +kernel
theorem dL_law_339 : decode cL_law 339 = .ok (.invokevirtual 17, 3) := by decide +kernel
theorem dL_law_342 : decode cL_law 342 = .ok (.if_icmp .eq 1349, 3) := by decide +kernel
theorem dL_law_345 : decode cL_law 345 = .ok (.iconst 0, 1) := by decide +kernel
theorem dL_law_346 : decode cL_law 346 = .ok (.ireturn, 1) := by decide +kernel
set_option maxRecDepth 100000 in
set_option maxHeartbeats 2000000 in
theorem lc_0 {p : Program} {l : Launch} {e : Env} {s : State} {m : MethodId} {below : List Frame} {meth : Method} {c : Code} {Q : State → Prop} {g : GT} {b L i : Nat} {xs : Nat → Int32} {H : Heap} {locs : List Loc} {ls : Array Slot} {cells slots : Nat} {cs : CT} {md : SD} {mn : Nat → Int64} {mw : Int64} (X : lwX p s m meth c g b L xs) (hi : i + 6 ≤ L) (hL : L ≤ 3072) (hS : va_S (gA g) s.heap H locs) (hl : lv_has ls 4 [(0, .ref b), (1, .ref (adr g.1 7 0)), (2, .ref (adr (g.1 + 189) 8 0)), (3, .int (nI i))]) (hfl : gf g = 2) (hW : World g (cs, (md, mn, mw)) H) {q : (Int32 × SD)} {q' : (Int32 × SD)} (h7 : f_X7_feed (k_rd cs) (xs (nI i + 1).toNatClampNeg) (xs (nI i + 2).toNatClampNeg) (xs (nI i + 3).toNatClampNeg) (xs (nI i + 4).toNatClampNeg) (xs (nI i + 5).toNatClampNeg) = some q) (h8 : f_X8_feed md (xs (nI i + 1).toNatClampNeg) (xs (nI i + 2).toNatClampNeg) (xs (nI i + 3).toNatClampNeg) (xs (nI i + 4).toNatClampNeg) (xs (nI i + 5).toNatClampNeg) = some q') (he : q.1 = q'.1) (hc : cells + 0 ≤ 600000) (hs : slots + 0 ≤ 7302250) (K : ∀ (H1 : Heap) (locs1 : List Loc), World g ((kR cs q.2 (k_rn cs)), (q'.2, mn, mw)) H1 → va_S (gA g) s.heap H1 locs1 → W p l e room_1 s m #[Value.ref b] below meth c H1 locs1 (cells + 0) (slots + 0) Q (F0 m 1691 ls [])) : W p l e room_1 s m #[Value.ref b] below meth c H locs cells slots Q (F0 m 284 ls []) := by
  obtain ⟨hx, hb, hml, hown, hts, hX, hbl, hbA, hK⟩ := X
  have hv1 : vp_in (nI i + 1) L := lw_in1 hi hL
  have hv2 : vp_in (nI i + 2) L := lw_in2 hi hL
  have hv3 : vp_in (nI i + 3) L := lw_in3 hi hL
  have hv4 : vp_in (nI i + 4) L := lw_in4 hi hL
  have hv5 : vp_in (nI i + 5) L := lw_in5 hi hL
  refine lv_aload_n hx hb dL_law_284 rfl (lv_at hl 1 rfl) ?_
  refine lv_aload_n hx hb dL_law_285 rfl (lv_at hl 0 rfl) ?_
  refine lv_iload_n hx hb dL_law_286 rfl (lv_at hl 3 rfl) ?_
  refine lv_iconst (v := 1) hx hb dL_law_287 (by decide) ?_
  refine lv_iadd hx hb dL_law_288 ?_
  refine va_sld hx hb hX hbl hbA hS hv1 dL_law_289 ?_
  refine lv_aload_n hx hb dL_law_290 rfl (lv_at hl 0 rfl) ?_
  refine lv_iload_n hx hb dL_law_291 rfl (lv_at hl 3 rfl) ?_
  refine lv_iconst (v := 2) hx hb dL_law_292 (by decide) ?_
  refine lv_iadd hx hb dL_law_293 ?_
  refine va_sld hx hb hX hbl hbA hS hv2 dL_law_294 ?_
  refine lv_aload_n hx hb dL_law_295 rfl (lv_at hl 0 rfl) ?_
  refine lv_iload_n hx hb dL_law_296 rfl (lv_at hl 3 rfl) ?_
  refine lv_iconst (v := 3) hx hb dL_law_297 (by decide) ?_
  refine lv_iadd hx hb dL_law_298 ?_
  refine va_sld hx hb hX hbl hbA hS hv3 dL_law_299 ?_
  refine lv_aload_n hx hb dL_law_300 rfl (lv_at hl 0 rfl) ?_
  refine lv_iload_n hx hb dL_law_301 rfl (lv_at hl 3 rfl) ?_
  refine lv_iconst (v := 4) hx hb dL_law_302 (by decide) ?_
  refine lv_iadd hx hb dL_law_303 ?_
  refine va_sld hx hb hX hbl hbA hS hv4 dL_law_304 ?_
  refine lv_aload_n hx hb dL_law_305 rfl (lv_at hl 0 rfl) ?_
  refine lv_iload_n hx hb dL_law_306 rfl (lv_at hl 3 rfl) ?_
  refine lv_iconst (v := 5) hx hb dL_law_307 (by decide) ?_
  refine lv_iadd hx hb dL_law_308 ?_
  refine va_sld hx hb hX hbl hbA hS hv5 dL_law_309 ?_
  refine x_ci (x_rV ⟨hx, hb, hml, hown, hts⟩ (ct_X7_feed l g (Nat.le_of_lt_succ (by rw [hfl]; decide)) cs (md, mn, mw) (xs (nI i + 1).toNatClampNeg) (xs (nI i + 2).toNatClampNeg) (xs (nI i + 3).toNatClampNeg) (xs (nI i + 4).toNatClampNeg) (xs (nI i + 5).toNatClampNeg) h7) (cwV 5 hts gL_law_X7_feed rfl rfl rfl (by decide +kernel) ⟨Nat.le_of_ble_eq_true rfl, Nat.le_of_ble_eq_true rfl⟩) hK hW hS (x_recv (i := g.1) (k := 7) (j := 0) hK hW ⟨⟨Nat.le_of_lt_succ (by rw [hfl]; decide), rfl⟩, by decide⟩ rfl (by decide)) rfl hl.1 (rest := []) rfl (Nat.le_of_ble_eq_true rfl) dL_law_310 ⟨hc, hs⟩) hS (fun H locs hW hS => ?_)
  have hW : World g ((kR cs q.2 (k_rn cs)), (md, mn, mw)) H := hW
  refine lv_aload_n hx hb dL_law_313 rfl (lv_at hl 2 rfl) ?_
  refine lv_aload_n hx hb dL_law_314 rfl (lv_at hl 0 rfl) ?_
  refine lv_iload_n hx hb dL_law_315 rfl (lv_at hl 3 rfl) ?_
  refine lv_iconst (v := 1) hx hb dL_law_316 (by decide) ?_
  refine lv_iadd hx hb dL_law_317 ?_
  refine va_sld hx hb hX hbl hbA hS hv1 dL_law_318 ?_
  refine lv_aload_n hx hb dL_law_319 rfl (lv_at hl 0 rfl) ?_
  refine lv_iload_n hx hb dL_law_320 rfl (lv_at hl 3 rfl) ?_
  refine lv_iconst (v := 2) hx hb dL_law_321 (by decide) ?_
  refine lv_iadd hx hb dL_law_322 ?_
  refine va_sld hx hb hX hbl hbA hS hv2 dL_law_323 ?_
  refine lv_aload_n hx hb dL_law_324 rfl (lv_at hl 0 rfl) ?_
  refine lv_iload_n hx hb dL_law_325 rfl (lv_at hl 3 rfl) ?_
  refine lv_iconst (v := 3) hx hb dL_law_326 (by decide) ?_
  refine lv_iadd hx hb dL_law_327 ?_
  refine va_sld hx hb hX hbl hbA hS hv3 dL_law_328 ?_
  refine lv_aload_n hx hb dL_law_329 rfl (lv_at hl 0 rfl) ?_
  refine lv_iload_n hx hb dL_law_330 rfl (lv_at hl 3 rfl) ?_
  refine lv_iconst (v := 4) hx hb dL_law_331 (by decide) ?_
  refine lv_iadd hx hb dL_law_332 ?_
  refine va_sld hx hb hX hbl hbA hS hv4 dL_law_333 ?_
  refine lv_aload_n hx hb dL_law_334 rfl (lv_at hl 0 rfl) ?_
  refine lv_iload_n hx hb dL_law_335 rfl (lv_at hl 3 rfl) ?_
  refine lv_iconst (v := 5) hx hb dL_law_336 (by decide) ?_
  refine lv_iadd hx hb dL_law_337 ?_
  refine va_sld hx hb hX hbl hbA hS hv5 dL_law_338 ?_
  refine x_ci0 (x_rV ⟨hx, hb, hml, hown, hts⟩ (ct_X8_feed l g (Nat.le_of_eq hfl.symm) ((kR cs q.2 (k_rn cs)), (md, mn, mw)) md mn mw (xs (nI i + 1).toNatClampNeg) (xs (nI i + 2).toNatClampNeg) (xs (nI i + 3).toNatClampNeg) (xs (nI i + 4).toNatClampNeg) (xs (nI i + 5).toNatClampNeg) h8) (cwV 5 hts gL_law_X8_feed rfl rfl rfl (by decide +kernel) ⟨Nat.le_of_ble_eq_true rfl, Nat.le_of_ble_eq_true rfl⟩) hK hW hS (x_recv (i := g.1 + 189) (k := 8) (j := 0) hK hW ⟨⟨Nat.le_of_eq hfl.symm, rfl⟩, by decide⟩ rfl (by decide)) rfl hl.1 (rest := [.int q.1]) rfl (Nat.le_of_ble_eq_true rfl) dL_law_339 ⟨hc, hs⟩) hS (fun H locs hW hS => ?_)
  have hW : World g ((kR cs q.2 (k_rn cs)), (q'.2, mn, mw)) H := hW
  refine lv_icmp_eq (tgt := 1691) hx hb dL_law_342 (by decide) (fun _ => ?_) (fun h => absurd he h)
  exact K H locs hW hS
set_option maxRecDepth 20000 in
theorem ggL_law_X7_load : GoodIn wsL_law wsX7_load := goodIn_r _ [134, 15, 113, 135, 20, 136, 137, 138, 139, 140, 19, 24, 141, 142, 143, 144, 14, 145, 119, 146, 147, 148, 149, 150, 151, 152, 153, 154, 155, 66, 67, 18, 68, 69, 70, 71, 72, 73, 74, 75, 76, 77, 78, 79, 80, 81, 82, 83, 84, 38, 156, 157, 158, 159, 160, 30, 161, 162, 163, 164, 165, 166, 167, 168, 169, 170, 171, 172, 173, 174, 175, 176, 177, 178, 179, 180, 181, 182, 183, 184, 185, 186, 187, 188, 189, 190, 191, 192, 193, 194, 195, 196, 197, 198, 199, 200, 201, 202, 203, 204, 205, 206, 207, 208, 209, 210, 211, 212, 213, 214, 215, 216, 217, 218, 219, 220, 221, 222, 223, 224, 225, 226, 227, 228, 229, 230, 231, 232, 233, 234, 235, 236, 237, 238, 239, 240, 241, 242, 243, 244, 245, 246, 247, 248, 249, 250, 251, 252, 253, 254, 255, 40, 256, 257, 258, 259, 260, 261, 262, 263, 264, 265, 266, 267, 268, 269, 270, 271, 272, 42, 273, 274, 275, 276, 277, 278, 279, 280, 50, 281, 282, 283, 284, 285, 286, 287, 61, 288, 289, 290, 291, 292, 293, 294, 295, 296, 297, 298, 299, 300, 301, 302, 303, 304, 305, 306, 44, 307, 308, 309, 310, 311, 312, 313, 314, 315, 316, 317, 318, 52, 319, 320, 321, 322, 323, 324, 325, 326, 327, 328, 329, 330, 331, 332, 333, 334, 335, 32, 336, 337, 338, 339, 340, 341, 342, 343, 344, 345, 346, 347, 348, 349, 350, 351, 352, 353, 354, 355, 356, 357, 358, 359, 360, 361, 362, 363, 364, 365, 45, 366, 367, 368, 369, 370, 371, 372, 373, 374, 375, 376, 377, 378, 59, 60, 379, 380, 381, 382, 383, 384, 385, 386, 387, 388, 389, 390, 391, 392, 393, 394, 395, 396, 397, 398, 399, 23, 400, 401, 402, 403, 404, 2, 405, 406, 407, 408, 409, 410, 411, 412, 1587, 1588, 1589, 1590, 1591, 1592, 1593, 1594, 1595, 1623, 1624, 1625, 1626, 1627, 1628, 1629, 1630, 1631, 1632, 1633, 1634, 1635, 1636, 1637, 1638, 1639, 1640, 1641, 1642, 1643, 1644, 1645, 1646, 1647, 1648, 1649, 1653, 1654, 1655, 1656, 1657, 1658, 1659, 1660, 1661, 1662, 1663, 1664, 1665, 1666, 1667, 1668, 1669, 1670, 1671, 1650, 1651, 1652, 1672, 1673, 1674, 1675, 1676, 1677, 1678] (by decide +kernel) (by decide +kernel)
set_option maxRecDepth 20000 in
theorem gL_law_X7_load : GoodIn wsL_law (wsV RL 18 RX7 yX7_load wsX7_load) := goodIn_app (goodIn_of _ (by decide +kernel)) ggL_law_X7_load
set_option maxRecDepth 20000 in
theorem ggL_law_X8_load : GoodIn wsL_law wsX8_load := goodIn_r _ [416, 124, 125, 417, 418, 419, 420, 421, 95, 422, 423, 424, 104, 105, 425, 94, 426, 427, 428, 5, 429, 106, 107, 108, 430, 431, 432, 433, 434, 102, 435, 436, 437, 438, 439, 440, 441, 442, 443, 444, 445, 446, 447, 448, 449, 450, 451, 452, 453, 454, 455, 456, 457, 458, 459, 460, 461, 462, 463, 464, 465, 466, 467, 468, 469, 470, 471, 472, 473, 474, 475, 476, 477, 478, 479, 480, 481, 482, 483, 484, 485, 486, 487, 488, 489, 490, 491, 492, 493, 494, 495, 496, 497, 498, 499, 500, 501, 502, 503, 504, 505, 506, 507, 508, 509, 510, 511, 512, 513, 103, 514, 515, 516, 517, 518, 519, 520, 521, 522, 523, 524, 525, 526, 527, 528, 529, 530, 531, 532, 533, 534, 535, 536, 537, 147, 148, 149, 538, 539, 540, 1596, 1597, 1598, 1599, 1600, 1601, 1602, 1603, 1604, 1605, 1606, 1607, 1608, 1609, 1610, 1611, 1612, 1613, 1614, 1615, 1616, 1617, 1618, 1619, 1620, 1621, 1622] (by decide +kernel) (by decide +kernel)
set_option maxRecDepth 20000 in
theorem gL_law_X8_load : GoodIn wsL_law (wsV RL 22 RX8 yX8_load wsX8_load) := goodIn_app (goodIn_of _ (by decide +kernel)) ggL_law_X8_load
theorem dL_law_347 : decode cL_law 347 = .ok (.aload_n 1, 1) := by decide +kernel
theorem dL_law_348 : decode cL_law 348 = .ok (.aload_n 0, 1) := by decide +kernel
theorem dL_law_349 : decode cL_law 349 = .ok (.iload_n 3, 1) := by decide +kernel
theorem dL_law_350 : decode cL_law 350 = .ok (.iconst 1, 1) := by decide +kernel
theorem dL_law_351 : decode cL_law 351 = .ok (.iadd, 1) := by decide +kernel
theorem dL_law_352 : decode cL_law 352 = .ok (.iaload, 1) := by decide +kernel
theorem dL_law_353 : decode cL_law 353 = .ok (.invokevirtual 18, 3) := by decide +kernel
theorem dL_law_356 : decode cL_law 356 = .ok (.aload_n 2, 1) := by decide +kernel
theorem dL_law_357 : decode cL_law 357 = .ok (.aload_n 0, 1) := by decide +kernel
theorem dL_law_358 : decode cL_law 358 = .ok (.iload_n 3, 1) := by decide +kernel
theorem dL_law_359 : decode cL_law 359 = .ok (.iconst 1, 1) := by decide +kernel
theorem dL_law_360 : decode cL_law 360 = .ok (.iadd, 1) := by decide +kernel
theorem dL_law_361 : decode cL_law 361 = .ok (.iaload, 1) := by decide +kernel
theorem dL_law_362 : decode cL_law 362 = .ok (.invokevirtual 22, 3) := by decide +kernel
theorem dL_law_365 : decode cL_law 365 = .ok (.if_icmp .eq 1326, 3) := by decide +kernel
theorem dL_law_368 : decode cL_law 368 = .ok (.iconst 0, 1) := by decide +kernel
theorem dL_law_369 : decode cL_law 369 = .ok (.ireturn, 1) := by decide +kernel
set_option maxRecDepth 100000 in
set_option maxHeartbeats 2000000 in
theorem lc_1 {p : Program} {l : Launch} {e : Env} {s : State} {m : MethodId} {below : List Frame} {meth : Method} {c : Code} {Q : State → Prop} {g : GT} {b L i : Nat} {xs : Nat → Int32} {H : Heap} {locs : List Loc} {ls : Array Slot} {cells slots : Nat} {cs : CT} {md : SD} {mn : Nat → Int64} {mw : Int64} (X : lwX p s m meth c g b L xs) (hi : i + 6 ≤ L) (hL : L ≤ 3072) (hS : va_S (gA g) s.heap H locs) (hl : lv_has ls 4 [(0, .ref b), (1, .ref (adr g.1 7 0)), (2, .ref (adr (g.1 + 189) 8 0)), (3, .int (nI i))]) (hfl : gf g = 2) (hW : World g (cs, (md, mn, mw)) H) {q : Int32 × CT} {q' : (Int32 × SD × (Nat → Int64) × Int64)} (h7 : f_X7_load cs (xs (nI i + 1).toNatClampNeg) = some q) (h8 : f_X8_load md mn mw (xs (nI i + 1).toNatClampNeg) = some q') (he : q.1 = q'.1) (hc : cells + 0 ≤ 600000) (hs : slots + 0 ≤ 7302250) (K : ∀ (H1 : Heap) (locs1 : List Loc), World g (q.2, (q'.2.1, q'.2.2.1, q'.2.2.2)) H1 → va_S (gA g) s.heap H1 locs1 → W p l e room_1 s m #[Value.ref b] below meth c H1 locs1 (cells + 0) (slots + 0) Q (F0 m 1691 ls [])) : W p l e room_1 s m #[Value.ref b] below meth c H locs cells slots Q (F0 m 347 ls []) := by
  obtain ⟨hx, hb, hml, hown, hts, hX, hbl, hbA, hK⟩ := X
  have hv1 : vp_in (nI i + 1) L := lw_in1 hi hL
  refine lv_aload_n hx hb dL_law_347 rfl (lv_at hl 1 rfl) ?_
  refine lv_aload_n hx hb dL_law_348 rfl (lv_at hl 0 rfl) ?_
  refine lv_iload_n hx hb dL_law_349 rfl (lv_at hl 3 rfl) ?_
  refine lv_iconst (v := 1) hx hb dL_law_350 (by decide) ?_
  refine lv_iadd hx hb dL_law_351 ?_
  refine va_sld hx hb hX hbl hbA hS hv1 dL_law_352 ?_
  refine x_ci (x_rV ⟨hx, hb, hml, hown, hts⟩ (ct_X7_load l g (Nat.le_of_lt_succ (by rw [hfl]; decide)) cs (md, mn, mw) (xs (nI i + 1).toNatClampNeg) h7) (cwV 1 hts gL_law_X7_load rfl rfl rfl (by decide +kernel) ⟨Nat.le_of_ble_eq_true rfl, Nat.le_of_ble_eq_true rfl⟩) hK hW hS (x_recv (i := g.1) (k := 7) (j := 0) hK hW ⟨⟨Nat.le_of_lt_succ (by rw [hfl]; decide), rfl⟩, by decide⟩ rfl (by decide)) rfl hl.1 (rest := []) rfl (Nat.le_of_ble_eq_true rfl) dL_law_353 ⟨hc, hs⟩) hS (fun H locs hW hS => ?_)
  have hW : World g (q.2, (md, mn, mw)) H := hW
  refine lv_aload_n hx hb dL_law_356 rfl (lv_at hl 2 rfl) ?_
  refine lv_aload_n hx hb dL_law_357 rfl (lv_at hl 0 rfl) ?_
  refine lv_iload_n hx hb dL_law_358 rfl (lv_at hl 3 rfl) ?_
  refine lv_iconst (v := 1) hx hb dL_law_359 (by decide) ?_
  refine lv_iadd hx hb dL_law_360 ?_
  refine va_sld hx hb hX hbl hbA hS hv1 dL_law_361 ?_
  refine x_ci0 (x_rV ⟨hx, hb, hml, hown, hts⟩ (ct_X8_load l g (Nat.le_of_eq hfl.symm) (q.2, (md, mn, mw)) md mn mw (xs (nI i + 1).toNatClampNeg) h8) (cwV 1 hts gL_law_X8_load rfl rfl rfl (by decide +kernel) ⟨Nat.le_of_ble_eq_true rfl, Nat.le_of_ble_eq_true rfl⟩) hK hW hS (x_recv (i := g.1 + 189) (k := 8) (j := 0) hK hW ⟨⟨Nat.le_of_eq hfl.symm, rfl⟩, by decide⟩ rfl (by decide)) rfl hl.1 (rest := [.int q.1]) rfl (Nat.le_of_ble_eq_true rfl) dL_law_362 ⟨hc, hs⟩) hS (fun H locs hW hS => ?_)
  have hW : World g (q.2, (q'.2.1, q'.2.2.1, q'.2.2.2)) H := hW
  refine lv_icmp_eq (tgt := 1691) hx hb dL_law_365 (by decide) (fun _ => ?_) (fun h => absurd he h)
  exact K H locs hW hS
set_option maxRecDepth 20000 in
theorem ggL_law_X7_errorKind : GoodIn wsL_law wsX7_errorKind := goodIn_r _ [544, 137, 1587, 1588, 1589, 1590, 1591, 1592, 1593, 1594, 1595] (by decide +kernel) (by decide +kernel)
set_option maxRecDepth 20000 in
theorem gL_law_X7_errorKind : GoodIn wsL_law (wsV RL 23 RX7 yX7_errorKind wsX7_errorKind) := goodIn_app (goodIn_of _ (by decide +kernel)) ggL_law_X7_errorKind
set_option maxRecDepth 20000 in
theorem ggL_law_X8_errorKind : GoodIn wsL_law wsX8_errorKind := goodIn_r _ [548, 124, 423, 1596, 1597, 1598, 1599, 1600, 1601, 1602, 1603, 1604, 1605, 1606, 1607, 1608, 1609, 1610, 1611, 1612, 1613, 1614, 1615, 1616, 1617, 1618, 1619, 1620, 1621, 1622] (by decide +kernel) (by decide +kernel)
set_option maxRecDepth 20000 in
theorem gL_law_X8_errorKind : GoodIn wsL_law (wsV RL 27 RX8 yX8_errorKind wsX8_errorKind) := goodIn_app (goodIn_of _ (by decide +kernel)) ggL_law_X8_errorKind
theorem dL_law_370 : decode cL_law 370 = .ok (.aload_n 1, 1) := by decide +kernel
theorem dL_law_371 : decode cL_law 371 = .ok (.invokevirtual 23, 3) := by decide +kernel
theorem dL_law_374 : decode cL_law 374 = .ok (.aload_n 2, 1) := by decide +kernel
theorem dL_law_375 : decode cL_law 375 = .ok (.invokevirtual 27, 3) := by decide +kernel
theorem dL_law_378 : decode cL_law 378 = .ok (.if_icmp .eq 1313, 3) := by decide +kernel
theorem dL_law_381 : decode cL_law 381 = .ok (.iconst 0, 1) := by decide +kernel
theorem dL_law_382 : decode cL_law 382 = .ok (.ireturn, 1) := by decide +kernel
set_option maxRecDepth 100000 in
set_option maxHeartbeats 2000000 in
theorem lc_2 {p : Program} {l : Launch} {e : Env} {s : State} {m : MethodId} {below : List Frame} {meth : Method} {c : Code} {Q : State → Prop} {g : GT} {b L i : Nat} {xs : Nat → Int32} {H : Heap} {locs : List Loc} {ls : Array Slot} {cells slots : Nat} {cs : CT} {md : SD} {mn : Nat → Int64} {mw : Int64} (X : lwX p s m meth c g b L xs) (hi : i + 6 ≤ L) (hL : L ≤ 3072) (hS : va_S (gA g) s.heap H locs) (hl : lv_has ls 4 [(0, .ref b), (1, .ref (adr g.1 7 0)), (2, .ref (adr (g.1 + 189) 8 0)), (3, .int (nI i))]) (hfl : gf g = 2) (hW : World g (cs, (md, mn, mw)) H) {q : Int32} {q' : (Int32 × SD)} (h7 : f_X7_errorKind (k_jd cs)  = some q) (h8 : f_X8_errorKind md  = some q') (he : q = q'.1) (hc : cells + 0 ≤ 600000) (hs : slots + 0 ≤ 7302250) (K : ∀ (H1 : Heap) (locs1 : List Loc), World g (cs, (q'.2, mn, mw)) H1 → va_S (gA g) s.heap H1 locs1 → W p l e room_1 s m #[Value.ref b] below meth c H1 locs1 (cells + 0) (slots + 0) Q (F0 m 1691 ls [])) : W p l e room_1 s m #[Value.ref b] below meth c H locs cells slots Q (F0 m 370 ls []) := by
  obtain ⟨hx, hb, hml, hown, hts, hX, hbl, hbA, hK⟩ := X
  refine lv_aload_n hx hb dL_law_370 rfl (lv_at hl 1 rfl) ?_
  refine x_ci (x_rV ⟨hx, hb, hml, hown, hts⟩ (ct_X7_errorKind l g (Nat.le_of_lt_succ (by rw [hfl]; decide)) cs (md, mn, mw)  h7) (cwV 0 hts gL_law_X7_errorKind rfl rfl rfl (by decide +kernel) ⟨Nat.le_of_ble_eq_true rfl, Nat.le_of_ble_eq_true rfl⟩) hK hW hS (x_recv (i := g.1) (k := 7) (j := 0) hK hW ⟨⟨Nat.le_of_lt_succ (by rw [hfl]; decide), rfl⟩, by decide⟩ rfl (by decide)) rfl hl.1 (rest := []) rfl (Nat.le_of_ble_eq_true rfl) dL_law_371 ⟨hc, hs⟩) hS (fun H locs hW hS => ?_)
  have hW : World g (cs, (md, mn, mw)) H := hW
  refine lv_aload_n hx hb dL_law_374 rfl (lv_at hl 2 rfl) ?_
  refine x_ci0 (x_rV ⟨hx, hb, hml, hown, hts⟩ (ct_X8_errorKind l g (Nat.le_of_eq hfl.symm) (cs, (md, mn, mw)) md mn mw  h8) (cwV 0 hts gL_law_X8_errorKind rfl rfl rfl (by decide +kernel) ⟨Nat.le_of_ble_eq_true rfl, Nat.le_of_ble_eq_true rfl⟩) hK hW hS (x_recv (i := g.1 + 189) (k := 8) (j := 0) hK hW ⟨⟨Nat.le_of_eq hfl.symm, rfl⟩, by decide⟩ rfl (by decide)) rfl hl.1 (rest := [.int q]) rfl (Nat.le_of_ble_eq_true rfl) dL_law_375 ⟨hc, hs⟩) hS (fun H locs hW hS => ?_)
  have hW : World g (cs, (q'.2, mn, mw)) H := hW
  refine lv_icmp_eq (tgt := 1691) hx hb dL_law_378 (by decide) (fun _ => ?_) (fun h => absurd he h)
  exact K H locs hW hS
set_option maxRecDepth 20000 in
theorem ggL_law_X7_errorPosition : GoodIn wsL_law wsX7_errorPosition := goodIn_r _ [552, 137, 553, 139, 1587, 1588, 1589, 1590, 1591, 1592, 1593, 1594, 1595] (by decide +kernel) (by decide +kernel)
set_option maxRecDepth 20000 in
theorem gL_law_X7_errorPosition : GoodIn wsL_law (wsV RL 28 RX7 yX7_errorPosition wsX7_errorPosition) := goodIn_app (goodIn_of _ (by decide +kernel)) ggL_law_X7_errorPosition
set_option maxRecDepth 20000 in
theorem ggL_law_X8_errorPosition : GoodIn wsL_law wsX8_errorPosition := goodIn_r _ [557, 124, 105, 1596, 1597, 1598, 1599, 1600, 1601, 1602, 1603, 1604, 1605, 1606, 1607, 1608, 1609, 1610, 1611, 1612, 1613, 1614, 1615, 1616, 1617, 1618, 1619, 1620, 1621, 1622] (by decide +kernel) (by decide +kernel)
set_option maxRecDepth 20000 in
theorem gL_law_X8_errorPosition : GoodIn wsL_law (wsV RL 31 RX8 yX8_errorPosition wsX8_errorPosition) := goodIn_app (goodIn_of _ (by decide +kernel)) ggL_law_X8_errorPosition
theorem dL_law_383 : decode cL_law 383 = .ok (.aload_n 1, 1) := by decide +kernel
theorem dL_law_384 : decode cL_law 384 = .ok (.invokevirtual 28, 3) := by decide +kernel
theorem dL_law_387 : decode cL_law 387 = .ok (.aload_n 2, 1) := by decide +kernel
theorem dL_law_388 : decode cL_law 388 = .ok (.invokevirtual 31, 3) := by decide +kernel
theorem dL_law_391 : decode cL_law 391 = .ok (.if_icmp .eq 1300, 3) := by decide +kernel
theorem dL_law_394 : decode cL_law 394 = .ok (.iconst 0, 1) := by decide +kernel
theorem dL_law_395 : decode cL_law 395 = .ok (.ireturn, 1) := by decide +kernel
set_option maxRecDepth 100000 in
set_option maxHeartbeats 2000000 in
theorem lc_3 {p : Program} {l : Launch} {e : Env} {s : State} {m : MethodId} {below : List Frame} {meth : Method} {c : Code} {Q : State → Prop} {g : GT} {b L i : Nat} {xs : Nat → Int32} {H : Heap} {locs : List Loc} {ls : Array Slot} {cells slots : Nat} {cs : CT} {md : SD} {mn : Nat → Int64} {mw : Int64} (X : lwX p s m meth c g b L xs) (hi : i + 6 ≤ L) (hL : L ≤ 3072) (hS : va_S (gA g) s.heap H locs) (hl : lv_has ls 4 [(0, .ref b), (1, .ref (adr g.1 7 0)), (2, .ref (adr (g.1 + 189) 8 0)), (3, .int (nI i))]) (hfl : gf g = 2) (hW : World g (cs, (md, mn, mw)) H) {q : Int32} {q' : (Int32 × SD)} (h7 : f_X7_errorPosition (k_jd cs)  = some q) (h8 : f_X8_errorPosition md  = some q') (he : q = q'.1) (hc : cells + 0 ≤ 600000) (hs : slots + 0 ≤ 7302250) (K : ∀ (H1 : Heap) (locs1 : List Loc), World g (cs, (q'.2, mn, mw)) H1 → va_S (gA g) s.heap H1 locs1 → W p l e room_1 s m #[Value.ref b] below meth c H1 locs1 (cells + 0) (slots + 0) Q (F0 m 1691 ls [])) : W p l e room_1 s m #[Value.ref b] below meth c H locs cells slots Q (F0 m 383 ls []) := by
  obtain ⟨hx, hb, hml, hown, hts, hX, hbl, hbA, hK⟩ := X
  refine lv_aload_n hx hb dL_law_383 rfl (lv_at hl 1 rfl) ?_
  refine x_ci (x_rV ⟨hx, hb, hml, hown, hts⟩ (ct_X7_errorPosition l g (Nat.le_of_lt_succ (by rw [hfl]; decide)) cs (md, mn, mw)  h7) (cwV 0 hts gL_law_X7_errorPosition rfl rfl rfl (by decide +kernel) ⟨Nat.le_of_ble_eq_true rfl, Nat.le_of_ble_eq_true rfl⟩) hK hW hS (x_recv (i := g.1) (k := 7) (j := 0) hK hW ⟨⟨Nat.le_of_lt_succ (by rw [hfl]; decide), rfl⟩, by decide⟩ rfl (by decide)) rfl hl.1 (rest := []) rfl (Nat.le_of_ble_eq_true rfl) dL_law_384 ⟨hc, hs⟩) hS (fun H locs hW hS => ?_)
  have hW : World g (cs, (md, mn, mw)) H := hW
  refine lv_aload_n hx hb dL_law_387 rfl (lv_at hl 2 rfl) ?_
  refine x_ci0 (x_rV ⟨hx, hb, hml, hown, hts⟩ (ct_X8_errorPosition l g (Nat.le_of_eq hfl.symm) (cs, (md, mn, mw)) md mn mw  h8) (cwV 0 hts gL_law_X8_errorPosition rfl rfl rfl (by decide +kernel) ⟨Nat.le_of_ble_eq_true rfl, Nat.le_of_ble_eq_true rfl⟩) hK hW hS (x_recv (i := g.1 + 189) (k := 8) (j := 0) hK hW ⟨⟨Nat.le_of_eq hfl.symm, rfl⟩, by decide⟩ rfl (by decide)) rfl hl.1 (rest := [.int q]) rfl (Nat.le_of_ble_eq_true rfl) dL_law_388 ⟨hc, hs⟩) hS (fun H locs hW hS => ?_)
  have hW : World g (cs, (q'.2, mn, mw)) H := hW
  refine lv_icmp_eq (tgt := 1691) hx hb dL_law_391 (by decide) (fun _ => ?_) (fun h => absurd he h)
  exact K H locs hW hS
set_option maxRecDepth 20000 in
theorem ggL_law_X7_homeSlot : GoodIn wsL_law wsX7_homeSlot := goodIn_r _ [561, 19, 562, 563, 564, 565, 371, 372, 18, 373, 72, 1587, 1588, 1589, 1590, 1591, 1592, 1593, 1594, 1595, 1632, 1633, 1634, 1635, 1636, 1637, 1638, 1639, 1640, 1641, 1642, 1643, 1644, 1645, 1646, 1647, 1648, 1649, 1656, 1657, 1658, 1659, 1660, 1661, 1662, 1663, 1664] (by decide +kernel) (by decide +kernel)
set_option maxRecDepth 20000 in
theorem gL_law_X7_homeSlot : GoodIn wsL_law (wsV RL 32 RX7 yX7_homeSlot wsX7_homeSlot) := goodIn_app (goodIn_of _ (by decide +kernel)) ggL_law_X7_homeSlot
set_option maxRecDepth 20000 in
theorem ggL_law_X8_homeSlot : GoodIn wsL_law wsX8_homeSlot := goodIn_r _ [569, 124, 94, 570, 571, 572, 573, 5, 574, 427, 428, 429, 1596, 1597, 1598, 1599, 1600, 1601, 1602, 1603, 1604, 1605, 1606, 1607, 1608, 1609, 1610, 1611, 1612, 1613, 1614, 1615, 1616, 1617, 1618, 1619, 1620, 1621, 1622] (by decide +kernel) (by decide +kernel)
set_option maxRecDepth 20000 in
theorem gL_law_X8_homeSlot : GoodIn wsL_law (wsV RL 35 RX8 yX8_homeSlot wsX8_homeSlot) := goodIn_app (goodIn_of _ (by decide +kernel)) ggL_law_X8_homeSlot
theorem dL_law_396 : decode cL_law 396 = .ok (.aload_n 1, 1) := by decide +kernel
theorem dL_law_397 : decode cL_law 397 = .ok (.aload_n 0, 1) := by decide +kernel
theorem dL_law_398 : decode cL_law 398 = .ok (.iload_n 3, 1) := by decide +kernel
theorem dL_law_399 : decode cL_law 399 = .ok (.iconst 1, 1) := by decide +kernel
theorem dL_law_400 : decode cL_law 400 = .ok (.iadd, 1) := by decide +kernel
theorem dL_law_401 : decode cL_law 401 = .ok (.iaload, 1) := by decide +kernel
theorem dL_law_402 : decode cL_law 402 = .ok (.invokevirtual 32, 3) := by decide +kernel
theorem dL_law_405 : decode cL_law 405 = .ok (.aload_n 2, 1) := by decide +kernel
theorem dL_law_406 : decode cL_law 406 = .ok (.aload_n 0, 1) := by decide +kernel
theorem dL_law_407 : decode cL_law 407 = .ok (.iload_n 3, 1) := by decide +kernel
theorem dL_law_408 : decode cL_law 408 = .ok (.iconst 1, 1) := by decide +kernel
theorem dL_law_409 : decode cL_law 409 = .ok (.iadd, 1) := by decide +kernel
theorem dL_law_410 : decode cL_law 410 = .ok (.iaload, 1) := by decide +kernel
theorem dL_law_411 : decode cL_law 411 = .ok (.invokevirtual 35, 3) := by decide +kernel
theorem dL_law_414 : decode cL_law 414 = .ok (.if_icmp .eq 1277, 3) := by decide +kernel
theorem dL_law_417 : decode cL_law 417 = .ok (.iconst 0, 1) := by decide +kernel
theorem dL_law_418 : decode cL_law 418 = .ok (.ireturn, 1) := by decide +kernel
set_option maxRecDepth 100000 in
set_option maxHeartbeats 2000000 in
theorem lc_4 {p : Program} {l : Launch} {e : Env} {s : State} {m : MethodId} {below : List Frame} {meth : Method} {c : Code} {Q : State → Prop} {g : GT} {b L i : Nat} {xs : Nat → Int32} {H : Heap} {locs : List Loc} {ls : Array Slot} {cells slots : Nat} {cs : CT} {md : SD} {mn : Nat → Int64} {mw : Int64} (X : lwX p s m meth c g b L xs) (hi : i + 6 ≤ L) (hL : L ≤ 3072) (hS : va_S (gA g) s.heap H locs) (hl : lv_has ls 4 [(0, .ref b), (1, .ref (adr g.1 7 0)), (2, .ref (adr (g.1 + 189) 8 0)), (3, .int (nI i))]) (hfl : gf g = 2) (hW : World g (cs, (md, mn, mw)) H) {q : Int32} {q' : (Int32 × SD)} (h7 : f_X7_homeSlot (k_xs cs (k_st cs)) (xs (nI i + 1).toNatClampNeg) = some q) (h8 : f_X8_homeSlot md (xs (nI i + 1).toNatClampNeg) = some q') (he : q = q'.1) (hc : cells + 0 ≤ 600000) (hs : slots + 0 ≤ 7302250) (K : ∀ (H1 : Heap) (locs1 : List Loc), World g (cs, (q'.2, mn, mw)) H1 → va_S (gA g) s.heap H1 locs1 → W p l e room_1 s m #[Value.ref b] below meth c H1 locs1 (cells + 0) (slots + 0) Q (F0 m 1691 ls [])) : W p l e room_1 s m #[Value.ref b] below meth c H locs cells slots Q (F0 m 396 ls []) := by
  obtain ⟨hx, hb, hml, hown, hts, hX, hbl, hbA, hK⟩ := X
  have hv1 : vp_in (nI i + 1) L := lw_in1 hi hL
  refine lv_aload_n hx hb dL_law_396 rfl (lv_at hl 1 rfl) ?_
  refine lv_aload_n hx hb dL_law_397 rfl (lv_at hl 0 rfl) ?_
  refine lv_iload_n hx hb dL_law_398 rfl (lv_at hl 3 rfl) ?_
  refine lv_iconst (v := 1) hx hb dL_law_399 (by decide) ?_
  refine lv_iadd hx hb dL_law_400 ?_
  refine va_sld hx hb hX hbl hbA hS hv1 dL_law_401 ?_
  refine x_ci (x_rV ⟨hx, hb, hml, hown, hts⟩ (ct_X7_homeSlot l g (Nat.le_of_lt_succ (by rw [hfl]; decide)) cs (md, mn, mw) (xs (nI i + 1).toNatClampNeg) h7) (cwV 1 hts gL_law_X7_homeSlot rfl rfl rfl (by decide +kernel) ⟨Nat.le_of_ble_eq_true rfl, Nat.le_of_ble_eq_true rfl⟩) hK hW hS (x_recv (i := g.1) (k := 7) (j := 0) hK hW ⟨⟨Nat.le_of_lt_succ (by rw [hfl]; decide), rfl⟩, by decide⟩ rfl (by decide)) rfl hl.1 (rest := []) rfl (Nat.le_of_ble_eq_true rfl) dL_law_402 ⟨hc, hs⟩) hS (fun H locs hW hS => ?_)
  have hW : World g (cs, (md, mn, mw)) H := hW
  refine lv_aload_n hx hb dL_law_405 rfl (lv_at hl 2 rfl) ?_
  refine lv_aload_n hx hb dL_law_406 rfl (lv_at hl 0 rfl) ?_
  refine lv_iload_n hx hb dL_law_407 rfl (lv_at hl 3 rfl) ?_
  refine lv_iconst (v := 1) hx hb dL_law_408 (by decide) ?_
  refine lv_iadd hx hb dL_law_409 ?_
  refine va_sld hx hb hX hbl hbA hS hv1 dL_law_410 ?_
  refine x_ci0 (x_rV ⟨hx, hb, hml, hown, hts⟩ (ct_X8_homeSlot l g (Nat.le_of_eq hfl.symm) (cs, (md, mn, mw)) md mn mw (xs (nI i + 1).toNatClampNeg) h8) (cwV 1 hts gL_law_X8_homeSlot rfl rfl rfl (by decide +kernel) ⟨Nat.le_of_ble_eq_true rfl, Nat.le_of_ble_eq_true rfl⟩) hK hW hS (x_recv (i := g.1 + 189) (k := 8) (j := 0) hK hW ⟨⟨Nat.le_of_eq hfl.symm, rfl⟩, by decide⟩ rfl (by decide)) rfl hl.1 (rest := [.int q]) rfl (Nat.le_of_ble_eq_true rfl) dL_law_411 ⟨hc, hs⟩) hS (fun H locs hW hS => ?_)
  have hW : World g (cs, (q'.2, mn, mw)) H := hW
  refine lv_icmp_eq (tgt := 1691) hx hb dL_law_414 (by decide) (fun _ => ?_) (fun h => absurd he h)
  exact K H locs hW hS
set_option maxRecDepth 20000 in
theorem ggL_law_X7_platterInSlot : GoodIn wsL_law wsX7_platterInSlot := goodIn_r _ [578, 19, 564, 553, 579, 580, 581, 18, 582, 69, 583, 270, 271, 272, 72, 42, 273, 584, 585, 586, 587, 70, 40, 257, 1587, 1588, 1589, 1590, 1591, 1592, 1593, 1594, 1595, 1632, 1633, 1634, 1635, 1636, 1637, 1638, 1639, 1640, 1641, 1642, 1643, 1644, 1645, 1646, 1647, 1648, 1649, 1656, 1657, 1658, 1659, 1660, 1661, 1662, 1663, 1664, 1653, 1654, 1655] (by decide +kernel) (by decide +kernel)
set_option maxRecDepth 20000 in
theorem gL_law_X7_platterInSlot : GoodIn wsL_law (wsV RL 36 RX7 yX7_platterInSlot wsX7_platterInSlot) := goodIn_app (goodIn_of _ (by decide +kernel)) ggL_law_X7_platterInSlot
set_option maxRecDepth 20000 in
theorem ggL_law_X8_platterInSlot : GoodIn wsL_law wsX8_platterInSlot := goodIn_r _ [591, 124, 570, 94, 104, 592, 593, 594, 5, 595, 427, 428, 429, 596, 597, 598, 599, 1596, 1597, 1598, 1599, 1600, 1601, 1602, 1603, 1604, 1605, 1606, 1607, 1608, 1609, 1610, 1611, 1612, 1613, 1614, 1615, 1616, 1617, 1618, 1619, 1620, 1621, 1622] (by decide +kernel) (by decide +kernel)
set_option maxRecDepth 20000 in
theorem gL_law_X8_platterInSlot : GoodIn wsL_law (wsV RL 39 RX8 yX8_platterInSlot wsX8_platterInSlot) := goodIn_app (goodIn_of _ (by decide +kernel)) ggL_law_X8_platterInSlot
theorem dL_law_419 : decode cL_law 419 = .ok (.aload_n 1, 1) := by decide +kernel
theorem dL_law_420 : decode cL_law 420 = .ok (.aload_n 0, 1) := by decide +kernel
theorem dL_law_421 : decode cL_law 421 = .ok (.iload_n 3, 1) := by decide +kernel
theorem dL_law_422 : decode cL_law 422 = .ok (.iconst 1, 1) := by decide +kernel
theorem dL_law_423 : decode cL_law 423 = .ok (.iadd, 1) := by decide +kernel
theorem dL_law_424 : decode cL_law 424 = .ok (.iaload, 1) := by decide +kernel
theorem dL_law_425 : decode cL_law 425 = .ok (.invokevirtual 36, 3) := by decide +kernel
theorem dL_law_428 : decode cL_law 428 = .ok (.aload_n 2, 1) := by decide +kernel
theorem dL_law_429 : decode cL_law 429 = .ok (.aload_n 0, 1) := by decide +kernel
theorem dL_law_430 : decode cL_law 430 = .ok (.iload_n 3, 1) := by decide +kernel
theorem dL_law_431 : decode cL_law 431 = .ok (.iconst 1, 1) := by decide +kernel
theorem dL_law_432 : decode cL_law 432 = .ok (.iadd, 1) := by decide +kernel
theorem dL_law_433 : decode cL_law 433 = .ok (.iaload, 1) := by decide +kernel
theorem dL_law_434 : decode cL_law 434 = .ok (.invokevirtual 39, 3) := by decide +kernel
theorem dL_law_437 : decode cL_law 437 = .ok (.if_icmp .eq 1254, 3) := by decide +kernel
theorem dL_law_440 : decode cL_law 440 = .ok (.iconst 0, 1) := by decide +kernel
theorem dL_law_441 : decode cL_law 441 = .ok (.ireturn, 1) := by decide +kernel
set_option maxRecDepth 100000 in
set_option maxHeartbeats 2000000 in
theorem lc_5 {p : Program} {l : Launch} {e : Env} {s : State} {m : MethodId} {below : List Frame} {meth : Method} {c : Code} {Q : State → Prop} {g : GT} {b L i : Nat} {xs : Nat → Int32} {H : Heap} {locs : List Loc} {ls : Array Slot} {cells slots : Nat} {cs : CT} {md : SD} {mn : Nat → Int64} {mw : Int64} (X : lwX p s m meth c g b L xs) (hi : i + 6 ≤ L) (hL : L ≤ 3072) (hS : va_S (gA g) s.heap H locs) (hl : lv_has ls 4 [(0, .ref b), (1, .ref (adr g.1 7 0)), (2, .ref (adr (g.1 + 189) 8 0)), (3, .int (nI i))]) (hfl : gf g = 2) (hW : World g (cs, (md, mn, mw)) H) {q : Int32} {q' : (Int32 × SD)} (h7 : f_X7_platterInSlot (k_xs cs (k_st cs)) (xs (nI i + 1).toNatClampNeg) = some q) (h8 : f_X8_platterInSlot md (xs (nI i + 1).toNatClampNeg) = some q') (he : q = q'.1) (hc : cells + 0 ≤ 600000) (hs : slots + 0 ≤ 7302250) (K : ∀ (H1 : Heap) (locs1 : List Loc), World g (cs, (q'.2, mn, mw)) H1 → va_S (gA g) s.heap H1 locs1 → W p l e room_1 s m #[Value.ref b] below meth c H1 locs1 (cells + 0) (slots + 0) Q (F0 m 1691 ls [])) : W p l e room_1 s m #[Value.ref b] below meth c H locs cells slots Q (F0 m 419 ls []) := by
  obtain ⟨hx, hb, hml, hown, hts, hX, hbl, hbA, hK⟩ := X
  have hv1 : vp_in (nI i + 1) L := lw_in1 hi hL
  refine lv_aload_n hx hb dL_law_419 rfl (lv_at hl 1 rfl) ?_
  refine lv_aload_n hx hb dL_law_420 rfl (lv_at hl 0 rfl) ?_
  refine lv_iload_n hx hb dL_law_421 rfl (lv_at hl 3 rfl) ?_
  refine lv_iconst (v := 1) hx hb dL_law_422 (by decide) ?_
  refine lv_iadd hx hb dL_law_423 ?_
  refine va_sld hx hb hX hbl hbA hS hv1 dL_law_424 ?_
  refine x_ci (x_rV ⟨hx, hb, hml, hown, hts⟩ (ct_X7_platterInSlot l g (Nat.le_of_lt_succ (by rw [hfl]; decide)) cs (md, mn, mw) (xs (nI i + 1).toNatClampNeg) h7) (cwV 1 hts gL_law_X7_platterInSlot rfl rfl rfl (by decide +kernel) ⟨Nat.le_of_ble_eq_true rfl, Nat.le_of_ble_eq_true rfl⟩) hK hW hS (x_recv (i := g.1) (k := 7) (j := 0) hK hW ⟨⟨Nat.le_of_lt_succ (by rw [hfl]; decide), rfl⟩, by decide⟩ rfl (by decide)) rfl hl.1 (rest := []) rfl (Nat.le_of_ble_eq_true rfl) dL_law_425 ⟨hc, hs⟩) hS (fun H locs hW hS => ?_)
  have hW : World g (cs, (md, mn, mw)) H := hW
  refine lv_aload_n hx hb dL_law_428 rfl (lv_at hl 2 rfl) ?_
  refine lv_aload_n hx hb dL_law_429 rfl (lv_at hl 0 rfl) ?_
  refine lv_iload_n hx hb dL_law_430 rfl (lv_at hl 3 rfl) ?_
  refine lv_iconst (v := 1) hx hb dL_law_431 (by decide) ?_
  refine lv_iadd hx hb dL_law_432 ?_
  refine va_sld hx hb hX hbl hbA hS hv1 dL_law_433 ?_
  refine x_ci0 (x_rV ⟨hx, hb, hml, hown, hts⟩ (ct_X8_platterInSlot l g (Nat.le_of_eq hfl.symm) (cs, (md, mn, mw)) md mn mw (xs (nI i + 1).toNatClampNeg) h8) (cwV 1 hts gL_law_X8_platterInSlot rfl rfl rfl (by decide +kernel) ⟨Nat.le_of_ble_eq_true rfl, Nat.le_of_ble_eq_true rfl⟩) hK hW hS (x_recv (i := g.1 + 189) (k := 8) (j := 0) hK hW ⟨⟨Nat.le_of_eq hfl.symm, rfl⟩, by decide⟩ rfl (by decide)) rfl hl.1 (rest := [.int q]) rfl (Nat.le_of_ble_eq_true rfl) dL_law_434 ⟨hc, hs⟩) hS (fun H locs hW hS => ?_)
  have hW : World g (cs, (q'.2, mn, mw)) H := hW
  refine lv_icmp_eq (tgt := 1691) hx hb dL_law_437 (by decide) (fun _ => ?_) (fun h => absurd he h)
  exact K H locs hW hS
set_option maxRecDepth 20000 in
theorem ggL_law_X7_driveOf : GoodIn wsL_law wsX7_driveOf := goodIn_r _ [603, 19, 564, 565, 371, 372, 18, 373, 72, 584, 585, 586, 587, 70, 40, 257, 604, 605, 2, 606, 553, 1587, 1588, 1589, 1590, 1591, 1592, 1593, 1594, 1595, 1632, 1633, 1634, 1635, 1636, 1637, 1638, 1639, 1640, 1641, 1642, 1643, 1644, 1645, 1646, 1647, 1648, 1649, 1653, 1654, 1655] (by decide +kernel) (by decide +kernel)
set_option maxRecDepth 20000 in
theorem gL_law_X7_driveOf : GoodIn wsL_law (wsV RL 40 RX7 yX7_driveOf wsX7_driveOf) := goodIn_app (goodIn_of _ (by decide +kernel)) ggL_law_X7_driveOf
set_option maxRecDepth 20000 in
theorem ggL_law_X8_driveOf : GoodIn wsL_law wsX8_driveOf := goodIn_r _ [610, 124, 570, 571, 572, 573, 5, 574, 94, 427, 428, 429, 596, 597, 598, 599, 611, 612, 613, 104, 1596, 1597, 1598, 1599, 1600, 1601, 1602, 1603, 1604, 1605, 1606, 1607, 1608, 1609, 1610, 1611, 1612, 1613, 1614, 1615, 1616, 1617, 1618, 1619, 1620, 1621, 1622] (by decide +kernel) (by decide +kernel)
set_option maxRecDepth 20000 in
theorem gL_law_X8_driveOf : GoodIn wsL_law (wsV RL 43 RX8 yX8_driveOf wsX8_driveOf) := goodIn_app (goodIn_of _ (by decide +kernel)) ggL_law_X8_driveOf
theorem dL_law_442 : decode cL_law 442 = .ok (.aload_n 1, 1) := by decide +kernel
theorem dL_law_443 : decode cL_law 443 = .ok (.aload_n 0, 1) := by decide +kernel
theorem dL_law_444 : decode cL_law 444 = .ok (.iload_n 3, 1) := by decide +kernel
theorem dL_law_445 : decode cL_law 445 = .ok (.iconst 1, 1) := by decide +kernel
theorem dL_law_446 : decode cL_law 446 = .ok (.iadd, 1) := by decide +kernel
theorem dL_law_447 : decode cL_law 447 = .ok (.iaload, 1) := by decide +kernel
theorem dL_law_448 : decode cL_law 448 = .ok (.invokevirtual 40, 3) := by decide +kernel
theorem dL_law_451 : decode cL_law 451 = .ok (.aload_n 2, 1) := by decide +kernel
theorem dL_law_452 : decode cL_law 452 = .ok (.aload_n 0, 1) := by decide +kernel
theorem dL_law_453 : decode cL_law 453 = .ok (.iload_n 3, 1) := by decide +kernel
theorem dL_law_454 : decode cL_law 454 = .ok (.iconst 1, 1) := by decide +kernel
theorem dL_law_455 : decode cL_law 455 = .ok (.iadd, 1) := by decide +kernel
theorem dL_law_456 : decode cL_law 456 = .ok (.iaload, 1) := by decide +kernel
theorem dL_law_457 : decode cL_law 457 = .ok (.invokevirtual 43, 3) := by decide +kernel
theorem dL_law_460 : decode cL_law 460 = .ok (.if_icmp .eq 1231, 3) := by decide +kernel
theorem dL_law_463 : decode cL_law 463 = .ok (.iconst 0, 1) := by decide +kernel
theorem dL_law_464 : decode cL_law 464 = .ok (.ireturn, 1) := by decide +kernel
set_option maxRecDepth 100000 in
set_option maxHeartbeats 2000000 in
theorem lc_6 {p : Program} {l : Launch} {e : Env} {s : State} {m : MethodId} {below : List Frame} {meth : Method} {c : Code} {Q : State → Prop} {g : GT} {b L i : Nat} {xs : Nat → Int32} {H : Heap} {locs : List Loc} {ls : Array Slot} {cells slots : Nat} {cs : CT} {md : SD} {mn : Nat → Int64} {mw : Int64} (X : lwX p s m meth c g b L xs) (hi : i + 6 ≤ L) (hL : L ≤ 3072) (hS : va_S (gA g) s.heap H locs) (hl : lv_has ls 4 [(0, .ref b), (1, .ref (adr g.1 7 0)), (2, .ref (adr (g.1 + 189) 8 0)), (3, .int (nI i))]) (hfl : gf g = 2) (hW : World g (cs, (md, mn, mw)) H) {q : Int32} {q' : (Int32 × SD)} (h7 : f_X7_driveOf (k_xs cs (k_st cs)) (xs (nI i + 1).toNatClampNeg) = some q) (h8 : f_X8_driveOf md (xs (nI i + 1).toNatClampNeg) = some q') (he : q = q'.1) (hc : cells + 0 ≤ 600000) (hs : slots + 0 ≤ 7302250) (K : ∀ (H1 : Heap) (locs1 : List Loc), World g (cs, (q'.2, mn, mw)) H1 → va_S (gA g) s.heap H1 locs1 → W p l e room_1 s m #[Value.ref b] below meth c H1 locs1 (cells + 0) (slots + 0) Q (F0 m 1691 ls [])) : W p l e room_1 s m #[Value.ref b] below meth c H locs cells slots Q (F0 m 442 ls []) := by
  obtain ⟨hx, hb, hml, hown, hts, hX, hbl, hbA, hK⟩ := X
  have hv1 : vp_in (nI i + 1) L := lw_in1 hi hL
  refine lv_aload_n hx hb dL_law_442 rfl (lv_at hl 1 rfl) ?_
  refine lv_aload_n hx hb dL_law_443 rfl (lv_at hl 0 rfl) ?_
  refine lv_iload_n hx hb dL_law_444 rfl (lv_at hl 3 rfl) ?_
  refine lv_iconst (v := 1) hx hb dL_law_445 (by decide) ?_
  refine lv_iadd hx hb dL_law_446 ?_
  refine va_sld hx hb hX hbl hbA hS hv1 dL_law_447 ?_
  refine x_ci (x_rV ⟨hx, hb, hml, hown, hts⟩ (ct_X7_driveOf l g (Nat.le_of_lt_succ (by rw [hfl]; decide)) cs (md, mn, mw) (xs (nI i + 1).toNatClampNeg) h7) (cwV 1 hts gL_law_X7_driveOf rfl rfl rfl (by decide +kernel) ⟨Nat.le_of_ble_eq_true rfl, Nat.le_of_ble_eq_true rfl⟩) hK hW hS (x_recv (i := g.1) (k := 7) (j := 0) hK hW ⟨⟨Nat.le_of_lt_succ (by rw [hfl]; decide), rfl⟩, by decide⟩ rfl (by decide)) rfl hl.1 (rest := []) rfl (Nat.le_of_ble_eq_true rfl) dL_law_448 ⟨hc, hs⟩) hS (fun H locs hW hS => ?_)
  have hW : World g (cs, (md, mn, mw)) H := hW
  refine lv_aload_n hx hb dL_law_451 rfl (lv_at hl 2 rfl) ?_
  refine lv_aload_n hx hb dL_law_452 rfl (lv_at hl 0 rfl) ?_
  refine lv_iload_n hx hb dL_law_453 rfl (lv_at hl 3 rfl) ?_
  refine lv_iconst (v := 1) hx hb dL_law_454 (by decide) ?_
  refine lv_iadd hx hb dL_law_455 ?_
  refine va_sld hx hb hX hbl hbA hS hv1 dL_law_456 ?_
  refine x_ci0 (x_rV ⟨hx, hb, hml, hown, hts⟩ (ct_X8_driveOf l g (Nat.le_of_eq hfl.symm) (cs, (md, mn, mw)) md mn mw (xs (nI i + 1).toNatClampNeg) h8) (cwV 1 hts gL_law_X8_driveOf rfl rfl rfl (by decide +kernel) ⟨Nat.le_of_ble_eq_true rfl, Nat.le_of_ble_eq_true rfl⟩) hK hW hS (x_recv (i := g.1 + 189) (k := 8) (j := 0) hK hW ⟨⟨Nat.le_of_eq hfl.symm, rfl⟩, by decide⟩ rfl (by decide)) rfl hl.1 (rest := [.int q]) rfl (Nat.le_of_ble_eq_true rfl) dL_law_457 ⟨hc, hs⟩) hS (fun H locs hW hS => ?_)
  have hW : World g (cs, (q'.2, mn, mw)) H := hW
  refine lv_icmp_eq (tgt := 1691) hx hb dL_law_460 (by decide) (fun _ => ?_) (fun h => absurd he h)
  exact K H locs hW hS
set_option maxRecDepth 20000 in
theorem ggL_law_X7_platterInDrive : GoodIn wsL_law wsX7_platterInDrive := goodIn_r _ [617, 19, 618, 619, 564, 620, 621, 622, 18, 623, 70, 604, 605, 2, 606, 553, 1587, 1588, 1589, 1590, 1591, 1592, 1593, 1594, 1595, 1632, 1633, 1634, 1635, 1636, 1637, 1638, 1639, 1640, 1641, 1642, 1643, 1644, 1645, 1646, 1647, 1648, 1649, 1653, 1654, 1655] (by decide +kernel) (by decide +kernel)
set_option maxRecDepth 20000 in
theorem gL_law_X7_platterInDrive : GoodIn wsL_law (wsV RL 44 RX7 yX7_platterInDrive wsX7_platterInDrive) := goodIn_app (goodIn_of _ (by decide +kernel)) ggL_law_X7_platterInDrive
set_option maxRecDepth 20000 in
theorem ggL_law_X8_platterInDrive : GoodIn wsL_law wsX8_platterInDrive := goodIn_r _ [627, 124, 94, 570, 628, 629, 630, 5, 631, 427, 428, 429, 611, 612, 613, 104, 1596, 1597, 1598, 1599, 1600, 1601, 1602, 1603, 1604, 1605, 1606, 1607, 1608, 1609, 1610, 1611, 1612, 1613, 1614, 1615, 1616, 1617, 1618, 1619, 1620, 1621, 1622] (by decide +kernel) (by decide +kernel)
set_option maxRecDepth 20000 in
theorem gL_law_X8_platterInDrive : GoodIn wsL_law (wsV RL 47 RX8 yX8_platterInDrive wsX8_platterInDrive) := goodIn_app (goodIn_of _ (by decide +kernel)) ggL_law_X8_platterInDrive
theorem dL_law_465 : decode cL_law 465 = .ok (.aload_n 1, 1) := by decide +kernel
theorem dL_law_466 : decode cL_law 466 = .ok (.aload_n 0, 1) := by decide +kernel
theorem dL_law_467 : decode cL_law 467 = .ok (.iload_n 3, 1) := by decide +kernel
theorem dL_law_468 : decode cL_law 468 = .ok (.iconst 1, 1) := by decide +kernel
theorem dL_law_469 : decode cL_law 469 = .ok (.iadd, 1) := by decide +kernel
theorem dL_law_470 : decode cL_law 470 = .ok (.iaload, 1) := by decide +kernel
theorem dL_law_471 : decode cL_law 471 = .ok (.invokevirtual 44, 3) := by decide +kernel
theorem dL_law_474 : decode cL_law 474 = .ok (.aload_n 2, 1) := by decide +kernel
theorem dL_law_475 : decode cL_law 475 = .ok (.aload_n 0, 1) := by decide +kernel
theorem dL_law_476 : decode cL_law 476 = .ok (.iload_n 3, 1) := by decide +kernel
theorem dL_law_477 : decode cL_law 477 = .ok (.iconst 1, 1) := by decide +kernel
theorem dL_law_478 : decode cL_law 478 = .ok (.iadd, 1) := by decide +kernel
theorem dL_law_479 : decode cL_law 479 = .ok (.iaload, 1) := by decide +kernel
theorem dL_law_480 : decode cL_law 480 = .ok (.invokevirtual 47, 3) := by decide +kernel
theorem dL_law_483 : decode cL_law 483 = .ok (.if_icmp .eq 1208, 3) := by decide +kernel
theorem dL_law_486 : decode cL_law 486 = .ok (.iconst 0, 1) := by decide +kernel
theorem dL_law_487 : decode cL_law 487 = .ok (.ireturn, 1) := by decide +kernel
set_option maxRecDepth 100000 in
set_option maxHeartbeats 2000000 in
theorem lc_7 {p : Program} {l : Launch} {e : Env} {s : State} {m : MethodId} {below : List Frame} {meth : Method} {c : Code} {Q : State → Prop} {g : GT} {b L i : Nat} {xs : Nat → Int32} {H : Heap} {locs : List Loc} {ls : Array Slot} {cells slots : Nat} {cs : CT} {md : SD} {mn : Nat → Int64} {mw : Int64} (X : lwX p s m meth c g b L xs) (hi : i + 6 ≤ L) (hL : L ≤ 3072) (hS : va_S (gA g) s.heap H locs) (hl : lv_has ls 4 [(0, .ref b), (1, .ref (adr g.1 7 0)), (2, .ref (adr (g.1 + 189) 8 0)), (3, .int (nI i))]) (hfl : gf g = 2) (hW : World g (cs, (md, mn, mw)) H) {q : Int32} {q' : (Int32 × SD)} (h7 : f_X7_platterInDrive (k_xs cs (k_st cs)) (xs (nI i + 1).toNatClampNeg) = some q) (h8 : f_X8_platterInDrive md (xs (nI i + 1).toNatClampNeg) = some q') (he : q = q'.1) (hc : cells + 0 ≤ 600000) (hs : slots + 0 ≤ 7302250) (K : ∀ (H1 : Heap) (locs1 : List Loc), World g (cs, (q'.2, mn, mw)) H1 → va_S (gA g) s.heap H1 locs1 → W p l e room_1 s m #[Value.ref b] below meth c H1 locs1 (cells + 0) (slots + 0) Q (F0 m 1691 ls [])) : W p l e room_1 s m #[Value.ref b] below meth c H locs cells slots Q (F0 m 465 ls []) := by
  obtain ⟨hx, hb, hml, hown, hts, hX, hbl, hbA, hK⟩ := X
  have hv1 : vp_in (nI i + 1) L := lw_in1 hi hL
  refine lv_aload_n hx hb dL_law_465 rfl (lv_at hl 1 rfl) ?_
  refine lv_aload_n hx hb dL_law_466 rfl (lv_at hl 0 rfl) ?_
  refine lv_iload_n hx hb dL_law_467 rfl (lv_at hl 3 rfl) ?_
  refine lv_iconst (v := 1) hx hb dL_law_468 (by decide) ?_
  refine lv_iadd hx hb dL_law_469 ?_
  refine va_sld hx hb hX hbl hbA hS hv1 dL_law_470 ?_
  refine x_ci (x_rV ⟨hx, hb, hml, hown, hts⟩ (ct_X7_platterInDrive l g (Nat.le_of_lt_succ (by rw [hfl]; decide)) cs (md, mn, mw) (xs (nI i + 1).toNatClampNeg) h7) (cwV 1 hts gL_law_X7_platterInDrive rfl rfl rfl (by decide +kernel) ⟨Nat.le_of_ble_eq_true rfl, Nat.le_of_ble_eq_true rfl⟩) hK hW hS (x_recv (i := g.1) (k := 7) (j := 0) hK hW ⟨⟨Nat.le_of_lt_succ (by rw [hfl]; decide), rfl⟩, by decide⟩ rfl (by decide)) rfl hl.1 (rest := []) rfl (Nat.le_of_ble_eq_true rfl) dL_law_471 ⟨hc, hs⟩) hS (fun H locs hW hS => ?_)
  have hW : World g (cs, (md, mn, mw)) H := hW
  refine lv_aload_n hx hb dL_law_474 rfl (lv_at hl 2 rfl) ?_
  refine lv_aload_n hx hb dL_law_475 rfl (lv_at hl 0 rfl) ?_
  refine lv_iload_n hx hb dL_law_476 rfl (lv_at hl 3 rfl) ?_
  refine lv_iconst (v := 1) hx hb dL_law_477 (by decide) ?_
  refine lv_iadd hx hb dL_law_478 ?_
  refine va_sld hx hb hX hbl hbA hS hv1 dL_law_479 ?_
  refine x_ci0 (x_rV ⟨hx, hb, hml, hown, hts⟩ (ct_X8_platterInDrive l g (Nat.le_of_eq hfl.symm) (cs, (md, mn, mw)) md mn mw (xs (nI i + 1).toNatClampNeg) h8) (cwV 1 hts gL_law_X8_platterInDrive rfl rfl rfl (by decide +kernel) ⟨Nat.le_of_ble_eq_true rfl, Nat.le_of_ble_eq_true rfl⟩) hK hW hS (x_recv (i := g.1 + 189) (k := 8) (j := 0) hK hW ⟨⟨Nat.le_of_eq hfl.symm, rfl⟩, by decide⟩ rfl (by decide)) rfl hl.1 (rest := [.int q]) rfl (Nat.le_of_ble_eq_true rfl) dL_law_480 ⟨hc, hs⟩) hS (fun H locs hW hS => ?_)
  have hW : World g (cs, (q'.2, mn, mw)) H := hW
  refine lv_icmp_eq (tgt := 1691) hx hb dL_law_483 (by decide) (fun _ => ?_) (fun h => absurd he h)
  exact K H locs hW hS
set_option maxRecDepth 20000 in
theorem ggL_law_X7_pickerPosition : GoodIn wsL_law wsX7_pickerPosition := goodIn_r _ [635, 19, 636, 1587, 1588, 1589, 1590, 1591, 1592, 1593, 1594, 1595, 1632, 1633, 1634, 1635, 1636, 1637, 1638, 1639, 1640, 1641, 1642, 1643, 1644, 1645, 1646, 1647, 1648, 1649] (by decide +kernel) (by decide +kernel)
set_option maxRecDepth 20000 in
theorem gL_law_X7_pickerPosition : GoodIn wsL_law (wsV RL 48 RX7 yX7_pickerPosition wsX7_pickerPosition) := goodIn_app (goodIn_of _ (by decide +kernel)) ggL_law_X7_pickerPosition
set_option maxRecDepth 20000 in
theorem ggL_law_X8_pickerPosition : GoodIn wsL_law wsX8_pickerPosition := goodIn_r _ [640, 124, 94, 1596, 1597, 1598, 1599, 1600, 1601, 1602, 1603, 1604, 1605, 1606, 1607, 1608, 1609, 1610, 1611, 1612, 1613, 1614, 1615, 1616, 1617, 1618, 1619, 1620, 1621, 1622] (by decide +kernel) (by decide +kernel)
set_option maxRecDepth 20000 in
theorem gL_law_X8_pickerPosition : GoodIn wsL_law (wsV RL 51 RX8 yX8_pickerPosition wsX8_pickerPosition) := goodIn_app (goodIn_of _ (by decide +kernel)) ggL_law_X8_pickerPosition
theorem dL_law_488 : decode cL_law 488 = .ok (.aload_n 1, 1) := by decide +kernel
theorem dL_law_489 : decode cL_law 489 = .ok (.invokevirtual 48, 3) := by decide +kernel
theorem dL_law_492 : decode cL_law 492 = .ok (.aload_n 2, 1) := by decide +kernel
theorem dL_law_493 : decode cL_law 493 = .ok (.invokevirtual 51, 3) := by decide +kernel
theorem dL_law_496 : decode cL_law 496 = .ok (.if_icmp .eq 1195, 3) := by decide +kernel
theorem dL_law_499 : decode cL_law 499 = .ok (.iconst 0, 1) := by decide +kernel
theorem dL_law_500 : decode cL_law 500 = .ok (.ireturn, 1) := by decide +kernel
set_option maxRecDepth 100000 in
set_option maxHeartbeats 2000000 in
theorem lc_8 {p : Program} {l : Launch} {e : Env} {s : State} {m : MethodId} {below : List Frame} {meth : Method} {c : Code} {Q : State → Prop} {g : GT} {b L i : Nat} {xs : Nat → Int32} {H : Heap} {locs : List Loc} {ls : Array Slot} {cells slots : Nat} {cs : CT} {md : SD} {mn : Nat → Int64} {mw : Int64} (X : lwX p s m meth c g b L xs) (hi : i + 6 ≤ L) (hL : L ≤ 3072) (hS : va_S (gA g) s.heap H locs) (hl : lv_has ls 4 [(0, .ref b), (1, .ref (adr g.1 7 0)), (2, .ref (adr (g.1 + 189) 8 0)), (3, .int (nI i))]) (hfl : gf g = 2) (hW : World g (cs, (md, mn, mw)) H) {q : Int32} {q' : (Int32 × SD)} (h7 : f_X7_pickerPosition (k_xs cs (k_st cs))  = some q) (h8 : f_X8_pickerPosition md  = some q') (he : q = q'.1) (hc : cells + 0 ≤ 600000) (hs : slots + 0 ≤ 7302250) (K : ∀ (H1 : Heap) (locs1 : List Loc), World g (cs, (q'.2, mn, mw)) H1 → va_S (gA g) s.heap H1 locs1 → W p l e room_1 s m #[Value.ref b] below meth c H1 locs1 (cells + 0) (slots + 0) Q (F0 m 1691 ls [])) : W p l e room_1 s m #[Value.ref b] below meth c H locs cells slots Q (F0 m 488 ls []) := by
  obtain ⟨hx, hb, hml, hown, hts, hX, hbl, hbA, hK⟩ := X
  refine lv_aload_n hx hb dL_law_488 rfl (lv_at hl 1 rfl) ?_
  refine x_ci (x_rV ⟨hx, hb, hml, hown, hts⟩ (ct_X7_pickerPosition l g (Nat.le_of_lt_succ (by rw [hfl]; decide)) cs (md, mn, mw)  h7) (cwV 0 hts gL_law_X7_pickerPosition rfl rfl rfl (by decide +kernel) ⟨Nat.le_of_ble_eq_true rfl, Nat.le_of_ble_eq_true rfl⟩) hK hW hS (x_recv (i := g.1) (k := 7) (j := 0) hK hW ⟨⟨Nat.le_of_lt_succ (by rw [hfl]; decide), rfl⟩, by decide⟩ rfl (by decide)) rfl hl.1 (rest := []) rfl (Nat.le_of_ble_eq_true rfl) dL_law_489 ⟨hc, hs⟩) hS (fun H locs hW hS => ?_)
  have hW : World g (cs, (md, mn, mw)) H := hW
  refine lv_aload_n hx hb dL_law_492 rfl (lv_at hl 2 rfl) ?_
  refine x_ci0 (x_rV ⟨hx, hb, hml, hown, hts⟩ (ct_X8_pickerPosition l g (Nat.le_of_eq hfl.symm) (cs, (md, mn, mw)) md mn mw  h8) (cwV 0 hts gL_law_X8_pickerPosition rfl rfl rfl (by decide +kernel) ⟨Nat.le_of_ble_eq_true rfl, Nat.le_of_ble_eq_true rfl⟩) hK hW hS (x_recv (i := g.1 + 189) (k := 8) (j := 0) hK hW ⟨⟨Nat.le_of_eq hfl.symm, rfl⟩, by decide⟩ rfl (by decide)) rfl hl.1 (rest := [.int q]) rfl (Nat.le_of_ble_eq_true rfl) dL_law_493 ⟨hc, hs⟩) hS (fun H locs hW hS => ?_)
  have hW : World g (cs, (q'.2, mn, mw)) H := hW
  refine lv_icmp_eq (tgt := 1691) hx hb dL_law_496 (by decide) (fun _ => ?_) (fun h => absurd he h)
  exact K H locs hW hS
set_option maxRecDepth 20000 in
theorem ggL_law_X7_clock : GoodIn wsL_law wsX7_clock := goodIn_r _ [644, 19, 645, 1587, 1588, 1589, 1590, 1591, 1592, 1593, 1594, 1595, 1632, 1633, 1634, 1635, 1636, 1637, 1638, 1639, 1640, 1641, 1642, 1643, 1644, 1645, 1646, 1647, 1648, 1649] (by decide +kernel) (by decide +kernel)
set_option maxRecDepth 20000 in
theorem gL_law_X7_clock : GoodIn wsL_law (wsV RL 52 RX7 yX7_clock wsX7_clock) := goodIn_app (goodIn_of _ (by decide +kernel)) ggL_law_X7_clock
set_option maxRecDepth 20000 in
theorem ggL_law_X8_clock : GoodIn wsL_law wsX8_clock := goodIn_r _ [649, 124, 94, 1596, 1597, 1598, 1599, 1600, 1601, 1602, 1603, 1604, 1605, 1606, 1607, 1608, 1609, 1610, 1611, 1612, 1613, 1614, 1615, 1616, 1617, 1618, 1619, 1620, 1621, 1622] (by decide +kernel) (by decide +kernel)
set_option maxRecDepth 20000 in
theorem gL_law_X8_clock : GoodIn wsL_law (wsV RL 55 RX8 yX8_clock wsX8_clock) := goodIn_app (goodIn_of _ (by decide +kernel)) ggL_law_X8_clock
theorem dL_law_501 : decode cL_law 501 = .ok (.aload_n 1, 1) := by decide +kernel
theorem dL_law_502 : decode cL_law 502 = .ok (.invokevirtual 52, 3) := by decide +kernel
theorem dL_law_505 : decode cL_law 505 = .ok (.aload_n 2, 1) := by decide +kernel
theorem dL_law_506 : decode cL_law 506 = .ok (.invokevirtual 55, 3) := by decide +kernel
theorem dL_law_509 : decode cL_law 509 = .ok (.if_icmp .eq 1182, 3) := by decide +kernel
theorem dL_law_512 : decode cL_law 512 = .ok (.iconst 0, 1) := by decide +kernel
theorem dL_law_513 : decode cL_law 513 = .ok (.ireturn, 1) := by decide +kernel
set_option maxRecDepth 100000 in
set_option maxHeartbeats 2000000 in
theorem lc_9 {p : Program} {l : Launch} {e : Env} {s : State} {m : MethodId} {below : List Frame} {meth : Method} {c : Code} {Q : State → Prop} {g : GT} {b L i : Nat} {xs : Nat → Int32} {H : Heap} {locs : List Loc} {ls : Array Slot} {cells slots : Nat} {cs : CT} {md : SD} {mn : Nat → Int64} {mw : Int64} (X : lwX p s m meth c g b L xs) (hi : i + 6 ≤ L) (hL : L ≤ 3072) (hS : va_S (gA g) s.heap H locs) (hl : lv_has ls 4 [(0, .ref b), (1, .ref (adr g.1 7 0)), (2, .ref (adr (g.1 + 189) 8 0)), (3, .int (nI i))]) (hfl : gf g = 2) (hW : World g (cs, (md, mn, mw)) H) {q : Int32} {q' : (Int32 × SD)} (h7 : f_X7_clock (k_xs cs (k_st cs))  = some q) (h8 : f_X8_clock md  = some q') (he : q = q'.1) (hc : cells + 0 ≤ 600000) (hs : slots + 0 ≤ 7302250) (K : ∀ (H1 : Heap) (locs1 : List Loc), World g (cs, (q'.2, mn, mw)) H1 → va_S (gA g) s.heap H1 locs1 → W p l e room_1 s m #[Value.ref b] below meth c H1 locs1 (cells + 0) (slots + 0) Q (F0 m 1691 ls [])) : W p l e room_1 s m #[Value.ref b] below meth c H locs cells slots Q (F0 m 501 ls []) := by
  obtain ⟨hx, hb, hml, hown, hts, hX, hbl, hbA, hK⟩ := X
  refine lv_aload_n hx hb dL_law_501 rfl (lv_at hl 1 rfl) ?_
  refine x_ci (x_rV ⟨hx, hb, hml, hown, hts⟩ (ct_X7_clock l g (Nat.le_of_lt_succ (by rw [hfl]; decide)) cs (md, mn, mw)  h7) (cwV 0 hts gL_law_X7_clock rfl rfl rfl (by decide +kernel) ⟨Nat.le_of_ble_eq_true rfl, Nat.le_of_ble_eq_true rfl⟩) hK hW hS (x_recv (i := g.1) (k := 7) (j := 0) hK hW ⟨⟨Nat.le_of_lt_succ (by rw [hfl]; decide), rfl⟩, by decide⟩ rfl (by decide)) rfl hl.1 (rest := []) rfl (Nat.le_of_ble_eq_true rfl) dL_law_502 ⟨hc, hs⟩) hS (fun H locs hW hS => ?_)
  have hW : World g (cs, (md, mn, mw)) H := hW
  refine lv_aload_n hx hb dL_law_505 rfl (lv_at hl 2 rfl) ?_
  refine x_ci0 (x_rV ⟨hx, hb, hml, hown, hts⟩ (ct_X8_clock l g (Nat.le_of_eq hfl.symm) (cs, (md, mn, mw)) md mn mw  h8) (cwV 0 hts gL_law_X8_clock rfl rfl rfl (by decide +kernel) ⟨Nat.le_of_ble_eq_true rfl, Nat.le_of_ble_eq_true rfl⟩) hK hW hS (x_recv (i := g.1 + 189) (k := 8) (j := 0) hK hW ⟨⟨Nat.le_of_eq hfl.symm, rfl⟩, by decide⟩ rfl (by decide)) rfl hl.1 (rest := [.int q]) rfl (Nat.le_of_ble_eq_true rfl) dL_law_506 ⟨hc, hs⟩) hS (fun H locs hW hS => ?_)
  have hW : World g (cs, (q'.2, mn, mw)) H := hW
  refine lv_icmp_eq (tgt := 1691) hx hb dL_law_509 (by decide) (fun _ => ?_) (fun h => absurd he h)
  exact K H locs hW hS
set_option maxRecDepth 20000 in
theorem ggL_law_X7_exchanges : GoodIn wsL_law wsX7_exchanges := goodIn_r _ [653, 19, 654, 1587, 1588, 1589, 1590, 1591, 1592, 1593, 1594, 1595, 1632, 1633, 1634, 1635, 1636, 1637, 1638, 1639, 1640, 1641, 1642, 1643, 1644, 1645, 1646, 1647, 1648, 1649] (by decide +kernel) (by decide +kernel)
set_option maxRecDepth 20000 in
theorem gL_law_X7_exchanges : GoodIn wsL_law (wsV RL 56 RX7 yX7_exchanges wsX7_exchanges) := goodIn_app (goodIn_of _ (by decide +kernel)) ggL_law_X7_exchanges
set_option maxRecDepth 20000 in
theorem ggL_law_X8_exchanges : GoodIn wsL_law wsX8_exchanges := goodIn_r _ [658, 124, 94, 1596, 1597, 1598, 1599, 1600, 1601, 1602, 1603, 1604, 1605, 1606, 1607, 1608, 1609, 1610, 1611, 1612, 1613, 1614, 1615, 1616, 1617, 1618, 1619, 1620, 1621, 1622] (by decide +kernel) (by decide +kernel)
set_option maxRecDepth 20000 in
theorem gL_law_X8_exchanges : GoodIn wsL_law (wsV RL 59 RX8 yX8_exchanges wsX8_exchanges) := goodIn_app (goodIn_of _ (by decide +kernel)) ggL_law_X8_exchanges
theorem dL_law_514 : decode cL_law 514 = .ok (.aload_n 1, 1) := by decide +kernel
theorem dL_law_515 : decode cL_law 515 = .ok (.invokevirtual 56, 3) := by decide +kernel
theorem dL_law_518 : decode cL_law 518 = .ok (.aload_n 2, 1) := by decide +kernel
theorem dL_law_519 : decode cL_law 519 = .ok (.invokevirtual 59, 3) := by decide +kernel
theorem dL_law_522 : decode cL_law 522 = .ok (.if_icmp .eq 1169, 3) := by decide +kernel
theorem dL_law_525 : decode cL_law 525 = .ok (.iconst 0, 1) := by decide +kernel
theorem dL_law_526 : decode cL_law 526 = .ok (.ireturn, 1) := by decide +kernel
set_option maxRecDepth 100000 in
set_option maxHeartbeats 2000000 in
theorem lc_10 {p : Program} {l : Launch} {e : Env} {s : State} {m : MethodId} {below : List Frame} {meth : Method} {c : Code} {Q : State → Prop} {g : GT} {b L i : Nat} {xs : Nat → Int32} {H : Heap} {locs : List Loc} {ls : Array Slot} {cells slots : Nat} {cs : CT} {md : SD} {mn : Nat → Int64} {mw : Int64} (X : lwX p s m meth c g b L xs) (hi : i + 6 ≤ L) (hL : L ≤ 3072) (hS : va_S (gA g) s.heap H locs) (hl : lv_has ls 4 [(0, .ref b), (1, .ref (adr g.1 7 0)), (2, .ref (adr (g.1 + 189) 8 0)), (3, .int (nI i))]) (hfl : gf g = 2) (hW : World g (cs, (md, mn, mw)) H) {q : Int32} {q' : (Int32 × SD)} (h7 : f_X7_exchanges (k_xs cs (k_st cs))  = some q) (h8 : f_X8_exchanges md  = some q') (he : q = q'.1) (hc : cells + 0 ≤ 600000) (hs : slots + 0 ≤ 7302250) (K : ∀ (H1 : Heap) (locs1 : List Loc), World g (cs, (q'.2, mn, mw)) H1 → va_S (gA g) s.heap H1 locs1 → W p l e room_1 s m #[Value.ref b] below meth c H1 locs1 (cells + 0) (slots + 0) Q (F0 m 1691 ls [])) : W p l e room_1 s m #[Value.ref b] below meth c H locs cells slots Q (F0 m 514 ls []) := by
  obtain ⟨hx, hb, hml, hown, hts, hX, hbl, hbA, hK⟩ := X
  refine lv_aload_n hx hb dL_law_514 rfl (lv_at hl 1 rfl) ?_
  refine x_ci (x_rV ⟨hx, hb, hml, hown, hts⟩ (ct_X7_exchanges l g (Nat.le_of_lt_succ (by rw [hfl]; decide)) cs (md, mn, mw)  h7) (cwV 0 hts gL_law_X7_exchanges rfl rfl rfl (by decide +kernel) ⟨Nat.le_of_ble_eq_true rfl, Nat.le_of_ble_eq_true rfl⟩) hK hW hS (x_recv (i := g.1) (k := 7) (j := 0) hK hW ⟨⟨Nat.le_of_lt_succ (by rw [hfl]; decide), rfl⟩, by decide⟩ rfl (by decide)) rfl hl.1 (rest := []) rfl (Nat.le_of_ble_eq_true rfl) dL_law_515 ⟨hc, hs⟩) hS (fun H locs hW hS => ?_)
  have hW : World g (cs, (md, mn, mw)) H := hW
  refine lv_aload_n hx hb dL_law_518 rfl (lv_at hl 2 rfl) ?_
  refine x_ci0 (x_rV ⟨hx, hb, hml, hown, hts⟩ (ct_X8_exchanges l g (Nat.le_of_eq hfl.symm) (cs, (md, mn, mw)) md mn mw  h8) (cwV 0 hts gL_law_X8_exchanges rfl rfl rfl (by decide +kernel) ⟨Nat.le_of_ble_eq_true rfl, Nat.le_of_ble_eq_true rfl⟩) hK hW hS (x_recv (i := g.1 + 189) (k := 8) (j := 0) hK hW ⟨⟨Nat.le_of_eq hfl.symm, rfl⟩, by decide⟩ rfl (by decide)) rfl hl.1 (rest := [.int q]) rfl (Nat.le_of_ble_eq_true rfl) dL_law_519 ⟨hc, hs⟩) hS (fun H locs hW hS => ?_)
  have hW : World g (cs, (q'.2, mn, mw)) H := hW
  refine lv_icmp_eq (tgt := 1691) hx hb dL_law_522 (by decide) (fun _ => ?_) (fun h => absurd he h)
  exact K H locs hW hS
set_option maxRecDepth 20000 in
theorem ggL_law_X7_travel : GoodIn wsL_law wsX7_travel := goodIn_r _ [662, 19, 663, 1587, 1588, 1589, 1590, 1591, 1592, 1593, 1594, 1595, 1632, 1633, 1634, 1635, 1636, 1637, 1638, 1639, 1640, 1641, 1642, 1643, 1644, 1645, 1646, 1647, 1648, 1649] (by decide +kernel) (by decide +kernel)
set_option maxRecDepth 20000 in
theorem gL_law_X7_travel : GoodIn wsL_law (wsV RL 60 RX7 yX7_travel wsX7_travel) := goodIn_app (goodIn_of _ (by decide +kernel)) ggL_law_X7_travel
set_option maxRecDepth 20000 in
theorem ggL_law_X8_travel : GoodIn wsL_law wsX8_travel := goodIn_r _ [667, 124, 94, 1596, 1597, 1598, 1599, 1600, 1601, 1602, 1603, 1604, 1605, 1606, 1607, 1608, 1609, 1610, 1611, 1612, 1613, 1614, 1615, 1616, 1617, 1618, 1619, 1620, 1621, 1622] (by decide +kernel) (by decide +kernel)
set_option maxRecDepth 20000 in
theorem gL_law_X8_travel : GoodIn wsL_law (wsV RL 63 RX8 yX8_travel wsX8_travel) := goodIn_app (goodIn_of _ (by decide +kernel)) ggL_law_X8_travel
theorem dL_law_527 : decode cL_law 527 = .ok (.aload_n 1, 1) := by decide +kernel
theorem dL_law_528 : decode cL_law 528 = .ok (.invokevirtual 60, 3) := by decide +kernel
theorem dL_law_531 : decode cL_law 531 = .ok (.aload_n 2, 1) := by decide +kernel
theorem dL_law_532 : decode cL_law 532 = .ok (.invokevirtual 63, 3) := by decide +kernel
theorem dL_law_535 : decode cL_law 535 = .ok (.if_icmp .eq 1156, 3) := by decide +kernel
theorem dL_law_538 : decode cL_law 538 = .ok (.iconst 0, 1) := by decide +kernel
theorem dL_law_539 : decode cL_law 539 = .ok (.ireturn, 1) := by decide +kernel
set_option maxRecDepth 100000 in
set_option maxHeartbeats 2000000 in
theorem lc_11 {p : Program} {l : Launch} {e : Env} {s : State} {m : MethodId} {below : List Frame} {meth : Method} {c : Code} {Q : State → Prop} {g : GT} {b L i : Nat} {xs : Nat → Int32} {H : Heap} {locs : List Loc} {ls : Array Slot} {cells slots : Nat} {cs : CT} {md : SD} {mn : Nat → Int64} {mw : Int64} (X : lwX p s m meth c g b L xs) (hi : i + 6 ≤ L) (hL : L ≤ 3072) (hS : va_S (gA g) s.heap H locs) (hl : lv_has ls 4 [(0, .ref b), (1, .ref (adr g.1 7 0)), (2, .ref (adr (g.1 + 189) 8 0)), (3, .int (nI i))]) (hfl : gf g = 2) (hW : World g (cs, (md, mn, mw)) H) {q : Int32} {q' : (Int32 × SD)} (h7 : f_X7_travel (k_xs cs (k_st cs))  = some q) (h8 : f_X8_travel md  = some q') (he : q = q'.1) (hc : cells + 0 ≤ 600000) (hs : slots + 0 ≤ 7302250) (K : ∀ (H1 : Heap) (locs1 : List Loc), World g (cs, (q'.2, mn, mw)) H1 → va_S (gA g) s.heap H1 locs1 → W p l e room_1 s m #[Value.ref b] below meth c H1 locs1 (cells + 0) (slots + 0) Q (F0 m 1691 ls [])) : W p l e room_1 s m #[Value.ref b] below meth c H locs cells slots Q (F0 m 527 ls []) := by
  obtain ⟨hx, hb, hml, hown, hts, hX, hbl, hbA, hK⟩ := X
  refine lv_aload_n hx hb dL_law_527 rfl (lv_at hl 1 rfl) ?_
  refine x_ci (x_rV ⟨hx, hb, hml, hown, hts⟩ (ct_X7_travel l g (Nat.le_of_lt_succ (by rw [hfl]; decide)) cs (md, mn, mw)  h7) (cwV 0 hts gL_law_X7_travel rfl rfl rfl (by decide +kernel) ⟨Nat.le_of_ble_eq_true rfl, Nat.le_of_ble_eq_true rfl⟩) hK hW hS (x_recv (i := g.1) (k := 7) (j := 0) hK hW ⟨⟨Nat.le_of_lt_succ (by rw [hfl]; decide), rfl⟩, by decide⟩ rfl (by decide)) rfl hl.1 (rest := []) rfl (Nat.le_of_ble_eq_true rfl) dL_law_528 ⟨hc, hs⟩) hS (fun H locs hW hS => ?_)
  have hW : World g (cs, (md, mn, mw)) H := hW
  refine lv_aload_n hx hb dL_law_531 rfl (lv_at hl 2 rfl) ?_
  refine x_ci0 (x_rV ⟨hx, hb, hml, hown, hts⟩ (ct_X8_travel l g (Nat.le_of_eq hfl.symm) (cs, (md, mn, mw)) md mn mw  h8) (cwV 0 hts gL_law_X8_travel rfl rfl rfl (by decide +kernel) ⟨Nat.le_of_ble_eq_true rfl, Nat.le_of_ble_eq_true rfl⟩) hK hW hS (x_recv (i := g.1 + 189) (k := 8) (j := 0) hK hW ⟨⟨Nat.le_of_eq hfl.symm, rfl⟩, by decide⟩ rfl (by decide)) rfl hl.1 (rest := [.int q]) rfl (Nat.le_of_ble_eq_true rfl) dL_law_532 ⟨hc, hs⟩) hS (fun H locs hW hS => ?_)
  have hW : World g (cs, (q'.2, mn, mw)) H := hW
  refine lv_icmp_eq (tgt := 1691) hx hb dL_law_535 (by decide) (fun _ => ?_) (fun h => absurd he h)
  exact K H locs hW hS
set_option maxRecDepth 20000 in
theorem ggL_law_X7_chosenDrive : GoodIn wsL_law wsX7_chosenDrive := goodIn_r _ [671, 19, 672, 673, 674, 2, 675, 564, 676, 677, 565, 371, 372, 18, 373, 72, 678, 679, 680, 681, 682, 585, 586, 587, 70, 40, 257, 683, 684, 685, 686, 71, 258, 1587, 1588, 1589, 1590, 1591, 1592, 1593, 1594, 1595, 1632, 1633, 1634, 1635, 1636, 1637, 1638, 1639, 1640, 1641, 1642, 1643, 1644, 1645, 1646, 1647, 1648, 1649, 1653, 1654, 1655] (by decide +kernel) (by decide +kernel)
set_option maxRecDepth 20000 in
theorem gL_law_X7_chosenDrive : GoodIn wsL_law (wsV RL 64 RX7 yX7_chosenDrive wsX7_chosenDrive) := goodIn_app (goodIn_of _ (by decide +kernel)) ggL_law_X7_chosenDrive
set_option maxRecDepth 20000 in
theorem ggL_law_X8_chosenDrive : GoodIn wsL_law wsX8_chosenDrive := goodIn_r _ [690, 124, 570, 94, 691, 571, 572, 573, 5, 574, 427, 428, 429, 692, 693, 694, 695, 596, 597, 598, 599, 696, 697, 698, 699, 1596, 1597, 1598, 1599, 1600, 1601, 1602, 1603, 1604, 1605, 1606, 1607, 1608, 1609, 1610, 1611, 1612, 1613, 1614, 1615, 1616, 1617, 1618, 1619, 1620, 1621, 1622] (by decide +kernel) (by decide +kernel)
set_option maxRecDepth 20000 in
theorem gL_law_X8_chosenDrive : GoodIn wsL_law (wsV RL 67 RX8 yX8_chosenDrive wsX8_chosenDrive) := goodIn_app (goodIn_of _ (by decide +kernel)) ggL_law_X8_chosenDrive
theorem dL_law_540 : decode cL_law 540 = .ok (.aload_n 1, 1) := by decide +kernel
theorem dL_law_541 : decode cL_law 541 = .ok (.aload_n 0, 1) := by decide +kernel
theorem dL_law_542 : decode cL_law 542 = .ok (.iload_n 3, 1) := by decide +kernel
theorem dL_law_543 : decode cL_law 543 = .ok (.iconst 1, 1) := by decide +kernel
theorem dL_law_544 : decode cL_law 544 = .ok (.iadd, 1) := by decide +kernel
theorem dL_law_545 : decode cL_law 545 = .ok (.iaload, 1) := by decide +kernel
theorem dL_law_546 : decode cL_law 546 = .ok (.invokevirtual 64, 3) := by decide +kernel
theorem dL_law_549 : decode cL_law 549 = .ok (.aload_n 2, 1) := by decide +kernel
theorem dL_law_550 : decode cL_law 550 = .ok (.aload_n 0, 1) := by decide +kernel
theorem dL_law_551 : decode cL_law 551 = .ok (.iload_n 3, 1) := by decide +kernel
theorem dL_law_552 : decode cL_law 552 = .ok (.iconst 1, 1) := by decide +kernel
theorem dL_law_553 : decode cL_law 553 = .ok (.iadd, 1) := by decide +kernel
theorem dL_law_554 : decode cL_law 554 = .ok (.iaload, 1) := by decide +kernel
theorem dL_law_555 : decode cL_law 555 = .ok (.invokevirtual 67, 3) := by decide +kernel
theorem dL_law_558 : decode cL_law 558 = .ok (.if_icmp .eq 1133, 3) := by decide +kernel
theorem dL_law_561 : decode cL_law 561 = .ok (.iconst 0, 1) := by decide +kernel
theorem dL_law_562 : decode cL_law 562 = .ok (.ireturn, 1) := by decide +kernel
set_option maxRecDepth 100000 in
set_option maxHeartbeats 2000000 in
theorem lc_12 {p : Program} {l : Launch} {e : Env} {s : State} {m : MethodId} {below : List Frame} {meth : Method} {c : Code} {Q : State → Prop} {g : GT} {b L i : Nat} {xs : Nat → Int32} {H : Heap} {locs : List Loc} {ls : Array Slot} {cells slots : Nat} {cs : CT} {md : SD} {mn : Nat → Int64} {mw : Int64} (X : lwX p s m meth c g b L xs) (hi : i + 6 ≤ L) (hL : L ≤ 3072) (hS : va_S (gA g) s.heap H locs) (hl : lv_has ls 4 [(0, .ref b), (1, .ref (adr g.1 7 0)), (2, .ref (adr (g.1 + 189) 8 0)), (3, .int (nI i))]) (hfl : gf g = 2) (hW : World g (cs, (md, mn, mw)) H) {q : Int32} {q' : (Int32 × SD)} (h7 : f_X7_chosenDrive (k_xs cs (k_st cs)) (xs (nI i + 1).toNatClampNeg) = some q) (h8 : f_X8_chosenDrive md (xs (nI i + 1).toNatClampNeg) = some q') (he : q = q'.1) (hc : cells + 0 ≤ 600000) (hs : slots + 0 ≤ 7302250) (K : ∀ (H1 : Heap) (locs1 : List Loc), World g (cs, (q'.2, mn, mw)) H1 → va_S (gA g) s.heap H1 locs1 → W p l e room_1 s m #[Value.ref b] below meth c H1 locs1 (cells + 0) (slots + 0) Q (F0 m 1691 ls [])) : W p l e room_1 s m #[Value.ref b] below meth c H locs cells slots Q (F0 m 540 ls []) := by
  obtain ⟨hx, hb, hml, hown, hts, hX, hbl, hbA, hK⟩ := X
  have hv1 : vp_in (nI i + 1) L := lw_in1 hi hL
  refine lv_aload_n hx hb dL_law_540 rfl (lv_at hl 1 rfl) ?_
  refine lv_aload_n hx hb dL_law_541 rfl (lv_at hl 0 rfl) ?_
  refine lv_iload_n hx hb dL_law_542 rfl (lv_at hl 3 rfl) ?_
  refine lv_iconst (v := 1) hx hb dL_law_543 (by decide) ?_
  refine lv_iadd hx hb dL_law_544 ?_
  refine va_sld hx hb hX hbl hbA hS hv1 dL_law_545 ?_
  refine x_ci (x_rV ⟨hx, hb, hml, hown, hts⟩ (ct_X7_chosenDrive l g (Nat.le_of_lt_succ (by rw [hfl]; decide)) cs (md, mn, mw) (xs (nI i + 1).toNatClampNeg) h7) (cwV 1 hts gL_law_X7_chosenDrive rfl rfl rfl (by decide +kernel) ⟨Nat.le_of_ble_eq_true rfl, Nat.le_of_ble_eq_true rfl⟩) hK hW hS (x_recv (i := g.1) (k := 7) (j := 0) hK hW ⟨⟨Nat.le_of_lt_succ (by rw [hfl]; decide), rfl⟩, by decide⟩ rfl (by decide)) rfl hl.1 (rest := []) rfl (Nat.le_of_ble_eq_true rfl) dL_law_546 ⟨hc, hs⟩) hS (fun H locs hW hS => ?_)
  have hW : World g (cs, (md, mn, mw)) H := hW
  refine lv_aload_n hx hb dL_law_549 rfl (lv_at hl 2 rfl) ?_
  refine lv_aload_n hx hb dL_law_550 rfl (lv_at hl 0 rfl) ?_
  refine lv_iload_n hx hb dL_law_551 rfl (lv_at hl 3 rfl) ?_
  refine lv_iconst (v := 1) hx hb dL_law_552 (by decide) ?_
  refine lv_iadd hx hb dL_law_553 ?_
  refine va_sld hx hb hX hbl hbA hS hv1 dL_law_554 ?_
  refine x_ci0 (x_rV ⟨hx, hb, hml, hown, hts⟩ (ct_X8_chosenDrive l g (Nat.le_of_eq hfl.symm) (cs, (md, mn, mw)) md mn mw (xs (nI i + 1).toNatClampNeg) h8) (cwV 1 hts gL_law_X8_chosenDrive rfl rfl rfl (by decide +kernel) ⟨Nat.le_of_ble_eq_true rfl, Nat.le_of_ble_eq_true rfl⟩) hK hW hS (x_recv (i := g.1 + 189) (k := 8) (j := 0) hK hW ⟨⟨Nat.le_of_eq hfl.symm, rfl⟩, by decide⟩ rfl (by decide)) rfl hl.1 (rest := [.int q]) rfl (Nat.le_of_ble_eq_true rfl) dL_law_555 ⟨hc, hs⟩) hS (fun H locs hW hS => ?_)
  have hW : World g (cs, (q'.2, mn, mw)) H := hW
  refine lv_icmp_eq (tgt := 1691) hx hb dL_law_558 (by decide) (fun _ => ?_) (fun h => absurd he h)
  exact K H locs hW hS
set_option maxRecDepth 20000 in
theorem ggL_law_X7_mountTime : GoodIn wsL_law wsX7_mountTime := goodIn_r _ [703, 19, 672, 673, 674, 2, 675, 564, 676, 677, 565, 371, 372, 18, 373, 72, 704, 705, 706, 707, 708, 679, 680, 681, 682, 585, 586, 587, 70, 40, 257, 683, 684, 685, 686, 71, 258, 709, 710, 711, 712, 38, 713, 714, 715, 716, 256, 77, 42, 273, 717, 718, 148, 719, 1587, 1588, 1589, 1590, 1591, 1592, 1593, 1594, 1595, 1632, 1633, 1634, 1635, 1636, 1637, 1638, 1639, 1640, 1641, 1642, 1643, 1644, 1645, 1646, 1647, 1648, 1649, 1653, 1654, 1655, 1656, 1657, 1658, 1659, 1660, 1661, 1662, 1663, 1664] (by decide +kernel) (by decide +kernel)
set_option maxRecDepth 20000 in
theorem gL_law_X7_mountTime : GoodIn wsL_law (wsV RL 68 RX7 yX7_mountTime wsX7_mountTime) := goodIn_app (goodIn_of _ (by decide +kernel)) ggL_law_X7_mountTime
set_option maxRecDepth 20000 in
theorem ggL_law_X8_mountTime : GoodIn wsL_law wsX8_mountTime := goodIn_r _ [723, 124, 570, 94, 691, 571, 572, 573, 5, 574, 427, 428, 429, 724, 725, 726, 727, 596, 597, 598, 599, 696, 697, 698, 699, 728, 729, 730, 731, 732, 733, 734, 735, 96, 736, 538, 539, 540, 737, 738, 739, 740, 741, 742, 743, 744, 745, 746, 747, 748, 749, 750, 751, 752, 753, 754, 755, 756, 757, 758, 759, 760, 761, 762, 763, 1596, 1597, 1598, 1599, 1600, 1601, 1602, 1603, 1604, 1605, 1606, 1607, 1608, 1609, 1610, 1611, 1612, 1613, 1614, 1615, 1616, 1617, 1618, 1619, 1620, 1621, 1622] (by decide +kernel) (by decide +kernel)
set_option maxRecDepth 20000 in
theorem gL_law_X8_mountTime : GoodIn wsL_law (wsV RL 71 RX8 yX8_mountTime wsX8_mountTime) := goodIn_app (goodIn_of _ (by decide +kernel)) ggL_law_X8_mountTime
theorem dL_law_563 : decode cL_law 563 = .ok (.aload_n 1, 1) := by decide +kernel
theorem dL_law_564 : decode cL_law 564 = .ok (.aload_n 0, 1) := by decide +kernel
theorem dL_law_565 : decode cL_law 565 = .ok (.iload_n 3, 1) := by decide +kernel
theorem dL_law_566 : decode cL_law 566 = .ok (.iconst 1, 1) := by decide +kernel
theorem dL_law_567 : decode cL_law 567 = .ok (.iadd, 1) := by decide +kernel
theorem dL_law_568 : decode cL_law 568 = .ok (.iaload, 1) := by decide +kernel
theorem dL_law_569 : decode cL_law 569 = .ok (.invokevirtual 68, 3) := by decide +kernel
theorem dL_law_572 : decode cL_law 572 = .ok (.aload_n 2, 1) := by decide +kernel
theorem dL_law_573 : decode cL_law 573 = .ok (.aload_n 0, 1) := by decide +kernel
theorem dL_law_574 : decode cL_law 574 = .ok (.iload_n 3, 1) := by decide +kernel
theorem dL_law_575 : decode cL_law 575 = .ok (.iconst 1, 1) := by decide +kernel
theorem dL_law_576 : decode cL_law 576 = .ok (.iadd, 1) := by decide +kernel
theorem dL_law_577 : decode cL_law 577 = .ok (.iaload, 1) := by decide +kernel
theorem dL_law_578 : decode cL_law 578 = .ok (.invokevirtual 71, 3) := by decide +kernel
theorem dL_law_581 : decode cL_law 581 = .ok (.if_icmp .eq 1110, 3) := by decide +kernel
theorem dL_law_584 : decode cL_law 584 = .ok (.iconst 0, 1) := by decide +kernel
theorem dL_law_585 : decode cL_law 585 = .ok (.ireturn, 1) := by decide +kernel
set_option maxRecDepth 100000 in
set_option maxHeartbeats 2000000 in
theorem lc_13 {p : Program} {l : Launch} {e : Env} {s : State} {m : MethodId} {below : List Frame} {meth : Method} {c : Code} {Q : State → Prop} {g : GT} {b L i : Nat} {xs : Nat → Int32} {H : Heap} {locs : List Loc} {ls : Array Slot} {cells slots : Nat} {cs : CT} {md : SD} {mn : Nat → Int64} {mw : Int64} (X : lwX p s m meth c g b L xs) (hi : i + 6 ≤ L) (hL : L ≤ 3072) (hS : va_S (gA g) s.heap H locs) (hl : lv_has ls 4 [(0, .ref b), (1, .ref (adr g.1 7 0)), (2, .ref (adr (g.1 + 189) 8 0)), (3, .int (nI i))]) (hfl : gf g = 2) (hW : World g (cs, (md, mn, mw)) H) {q : Int32} {q' : (Int32 × SD)} (h7 : f_X7_mountTime (k_xs cs (k_st cs)) (xs (nI i + 1).toNatClampNeg) = some q) (h8 : f_X8_mountTime md (xs (nI i + 1).toNatClampNeg) = some q') (he : q = q'.1) (hc : cells + 0 ≤ 600000) (hs : slots + 0 ≤ 7302250) (K : ∀ (H1 : Heap) (locs1 : List Loc), World g (cs, (q'.2, mn, mw)) H1 → va_S (gA g) s.heap H1 locs1 → W p l e room_1 s m #[Value.ref b] below meth c H1 locs1 (cells + 0) (slots + 0) Q (F0 m 1691 ls [])) : W p l e room_1 s m #[Value.ref b] below meth c H locs cells slots Q (F0 m 563 ls []) := by
  obtain ⟨hx, hb, hml, hown, hts, hX, hbl, hbA, hK⟩ := X
  have hv1 : vp_in (nI i + 1) L := lw_in1 hi hL
  refine lv_aload_n hx hb dL_law_563 rfl (lv_at hl 1 rfl) ?_
  refine lv_aload_n hx hb dL_law_564 rfl (lv_at hl 0 rfl) ?_
  refine lv_iload_n hx hb dL_law_565 rfl (lv_at hl 3 rfl) ?_
  refine lv_iconst (v := 1) hx hb dL_law_566 (by decide) ?_
  refine lv_iadd hx hb dL_law_567 ?_
  refine va_sld hx hb hX hbl hbA hS hv1 dL_law_568 ?_
  refine x_ci (x_rV ⟨hx, hb, hml, hown, hts⟩ (ct_X7_mountTime l g (Nat.le_of_lt_succ (by rw [hfl]; decide)) cs (md, mn, mw) (xs (nI i + 1).toNatClampNeg) h7) (cwV 1 hts gL_law_X7_mountTime rfl rfl rfl (by decide +kernel) ⟨Nat.le_of_ble_eq_true rfl, Nat.le_of_ble_eq_true rfl⟩) hK hW hS (x_recv (i := g.1) (k := 7) (j := 0) hK hW ⟨⟨Nat.le_of_lt_succ (by rw [hfl]; decide), rfl⟩, by decide⟩ rfl (by decide)) rfl hl.1 (rest := []) rfl (Nat.le_of_ble_eq_true rfl) dL_law_569 ⟨hc, hs⟩) hS (fun H locs hW hS => ?_)
  have hW : World g (cs, (md, mn, mw)) H := hW
  refine lv_aload_n hx hb dL_law_572 rfl (lv_at hl 2 rfl) ?_
  refine lv_aload_n hx hb dL_law_573 rfl (lv_at hl 0 rfl) ?_
  refine lv_iload_n hx hb dL_law_574 rfl (lv_at hl 3 rfl) ?_
  refine lv_iconst (v := 1) hx hb dL_law_575 (by decide) ?_
  refine lv_iadd hx hb dL_law_576 ?_
  refine va_sld hx hb hX hbl hbA hS hv1 dL_law_577 ?_
  refine x_ci0 (x_rV ⟨hx, hb, hml, hown, hts⟩ (ct_X8_mountTime l g (Nat.le_of_eq hfl.symm) (cs, (md, mn, mw)) md mn mw (xs (nI i + 1).toNatClampNeg) h8) (cwV 1 hts gL_law_X8_mountTime rfl rfl rfl (by decide +kernel) ⟨Nat.le_of_ble_eq_true rfl, Nat.le_of_ble_eq_true rfl⟩) hK hW hS (x_recv (i := g.1 + 189) (k := 8) (j := 0) hK hW ⟨⟨Nat.le_of_eq hfl.symm, rfl⟩, by decide⟩ rfl (by decide)) rfl hl.1 (rest := [.int q]) rfl (Nat.le_of_ble_eq_true rfl) dL_law_578 ⟨hc, hs⟩) hS (fun H locs hW hS => ?_)
  have hW : World g (cs, (q'.2, mn, mw)) H := hW
  refine lv_icmp_eq (tgt := 1691) hx hb dL_law_581 (by decide) (fun _ => ?_) (fun h => absurd he h)
  exact K H locs hW hS
set_option maxRecDepth 20000 in
theorem ggL_law_X7_mountTimeIn : GoodIn wsL_law wsX7_mountTimeIn := goodIn_r _ [767, 19, 564, 553, 565, 371, 372, 18, 373, 72, 620, 621, 622, 623, 70, 584, 585, 586, 587, 40, 257, 768, 710, 711, 712, 38, 713, 714, 715, 716, 256, 77, 42, 273, 717, 718, 148, 719, 1587, 1588, 1589, 1590, 1591, 1592, 1593, 1594, 1595, 1632, 1633, 1634, 1635, 1636, 1637, 1638, 1639, 1640, 1641, 1642, 1643, 1644, 1645, 1646, 1647, 1648, 1649, 1653, 1654, 1655, 1656, 1657, 1658, 1659, 1660, 1661, 1662, 1663, 1664] (by decide +kernel) (by decide +kernel)
set_option maxRecDepth 20000 in
theorem gL_law_X7_mountTimeIn : GoodIn wsL_law (wsV RL 72 RX7 yX7_mountTimeIn wsX7_mountTimeIn) := goodIn_app (goodIn_of _ (by decide +kernel)) ggL_law_X7_mountTimeIn
set_option maxRecDepth 20000 in
theorem ggL_law_X8_mountTimeIn : GoodIn wsL_law wsX8_mountTimeIn := goodIn_r _ [772, 124, 570, 104, 571, 572, 573, 5, 574, 94, 427, 428, 429, 628, 629, 630, 631, 596, 597, 598, 599, 728, 729, 730, 731, 732, 733, 734, 735, 96, 736, 538, 539, 540, 737, 738, 739, 740, 741, 742, 743, 744, 745, 746, 747, 748, 749, 750, 751, 752, 753, 754, 755, 756, 757, 758, 759, 760, 761, 762, 763, 1596, 1597, 1598, 1599, 1600, 1601, 1602, 1603, 1604, 1605, 1606, 1607, 1608, 1609, 1610, 1611, 1612, 1613, 1614, 1615, 1616, 1617, 1618, 1619, 1620, 1621, 1622] (by decide +kernel) (by decide +kernel)
set_option maxRecDepth 20000 in
theorem gL_law_X8_mountTimeIn : GoodIn wsL_law (wsV RL 76 RX8 yX8_mountTimeIn wsX8_mountTimeIn) := goodIn_app (goodIn_of _ (by decide +kernel)) ggL_law_X8_mountTimeIn
theorem dL_law_586 : decode cL_law 586 = .ok (.aload_n 1, 1) := by decide +kernel
theorem dL_law_587 : decode cL_law 587 = .ok (.aload_n 0, 1) := by decide +kernel
theorem dL_law_588 : decode cL_law 588 = .ok (.iload_n 3, 1) := by decide +kernel
theorem dL_law_589 : decode cL_law 589 = .ok (.iconst 1, 1) := by decide +kernel
theorem dL_law_590 : decode cL_law 590 = .ok (.iadd, 1) := by decide +kernel
theorem dL_law_591 : decode cL_law 591 = .ok (.iaload, 1) := by decide +kernel
theorem dL_law_592 : decode cL_law 592 = .ok (.aload_n 0, 1) := by decide +kernel
theorem dL_law_593 : decode cL_law 593 = .ok (.iload_n 3, 1) := by decide +kernel
theorem dL_law_594 : decode cL_law 594 = .ok (.iconst 2, 1) := by decide +kernel
theorem dL_law_595 : decode cL_law 595 = .ok (.iadd, 1) := by decide +kernel
theorem dL_law_596 : decode cL_law 596 = .ok (.iaload, 1) := by decide +kernel
theorem dL_law_597 : decode cL_law 597 = .ok (.invokevirtual 72, 3) := by decide +kernel
theorem dL_law_600 : decode cL_law 600 = .ok (.aload_n 2, 1) := by decide +kernel
theorem dL_law_601 : decode cL_law 601 = .ok (.aload_n 0, 1) := by decide +kernel
theorem dL_law_602 : decode cL_law 602 = .ok (.iload_n 3, 1) := by decide +kernel
theorem dL_law_603 : decode cL_law 603 = .ok (.iconst 1, 1) := by decide +kernel
theorem dL_law_604 : decode cL_law 604 = .ok (.iadd, 1) := by decide +kernel
theorem dL_law_605 : decode cL_law 605 = .ok (.iaload, 1) := by decide +kernel
theorem dL_law_606 : decode cL_law 606 = .ok (.aload_n 0, 1) := by decide +kernel
theorem dL_law_607 : decode cL_law 607 = .ok (.iload_n 3, 1) := by decide +kernel
theorem dL_law_608 : decode cL_law 608 = .ok (.iconst 2, 1) := by decide +kernel
theorem dL_law_609 : decode cL_law 609 = .ok (.iadd, 1) := by decide +kernel
theorem dL_law_610 : decode cL_law 610 = .ok (.iaload, 1) := by decide +kernel
theorem dL_law_611 : decode cL_law 611 = .ok (.invokevirtual 76, 3) := by decide +kernel
theorem dL_law_614 : decode cL_law 614 = .ok (.if_icmp .eq 1077, 3) := by decide +kernel
theorem dL_law_617 : decode cL_law 617 = .ok (.iconst 0, 1) := by decide +kernel
theorem dL_law_618 : decode cL_law 618 = .ok (.ireturn, 1) := by decide +kernel
set_option maxRecDepth 100000 in
set_option maxHeartbeats 2000000 in
theorem lc_14 {p : Program} {l : Launch} {e : Env} {s : State} {m : MethodId} {below : List Frame} {meth : Method} {c : Code} {Q : State → Prop} {g : GT} {b L i : Nat} {xs : Nat → Int32} {H : Heap} {locs : List Loc} {ls : Array Slot} {cells slots : Nat} {cs : CT} {md : SD} {mn : Nat → Int64} {mw : Int64} (X : lwX p s m meth c g b L xs) (hi : i + 6 ≤ L) (hL : L ≤ 3072) (hS : va_S (gA g) s.heap H locs) (hl : lv_has ls 4 [(0, .ref b), (1, .ref (adr g.1 7 0)), (2, .ref (adr (g.1 + 189) 8 0)), (3, .int (nI i))]) (hfl : gf g = 2) (hW : World g (cs, (md, mn, mw)) H) {q : Int32} {q' : (Int32 × SD)} (h7 : f_X7_mountTimeIn (k_xs cs (k_st cs)) (xs (nI i + 1).toNatClampNeg) (xs (nI i + 2).toNatClampNeg) = some q) (h8 : f_X8_mountTimeIn md (xs (nI i + 1).toNatClampNeg) (xs (nI i + 2).toNatClampNeg) = some q') (he : q = q'.1) (hc : cells + 0 ≤ 600000) (hs : slots + 0 ≤ 7302250) (K : ∀ (H1 : Heap) (locs1 : List Loc), World g (cs, (q'.2, mn, mw)) H1 → va_S (gA g) s.heap H1 locs1 → W p l e room_1 s m #[Value.ref b] below meth c H1 locs1 (cells + 0) (slots + 0) Q (F0 m 1691 ls [])) : W p l e room_1 s m #[Value.ref b] below meth c H locs cells slots Q (F0 m 586 ls []) := by
  obtain ⟨hx, hb, hml, hown, hts, hX, hbl, hbA, hK⟩ := X
  have hv1 : vp_in (nI i + 1) L := lw_in1 hi hL
  have hv2 : vp_in (nI i + 2) L := lw_in2 hi hL
  refine lv_aload_n hx hb dL_law_586 rfl (lv_at hl 1 rfl) ?_
  refine lv_aload_n hx hb dL_law_587 rfl (lv_at hl 0 rfl) ?_
  refine lv_iload_n hx hb dL_law_588 rfl (lv_at hl 3 rfl) ?_
  refine lv_iconst (v := 1) hx hb dL_law_589 (by decide) ?_
  refine lv_iadd hx hb dL_law_590 ?_
  refine va_sld hx hb hX hbl hbA hS hv1 dL_law_591 ?_
  refine lv_aload_n hx hb dL_law_592 rfl (lv_at hl 0 rfl) ?_
  refine lv_iload_n hx hb dL_law_593 rfl (lv_at hl 3 rfl) ?_
  refine lv_iconst (v := 2) hx hb dL_law_594 (by decide) ?_
  refine lv_iadd hx hb dL_law_595 ?_
  refine va_sld hx hb hX hbl hbA hS hv2 dL_law_596 ?_
  refine x_ci (x_rV ⟨hx, hb, hml, hown, hts⟩ (ct_X7_mountTimeIn l g (Nat.le_of_lt_succ (by rw [hfl]; decide)) cs (md, mn, mw) (xs (nI i + 1).toNatClampNeg) (xs (nI i + 2).toNatClampNeg) h7) (cwV 2 hts gL_law_X7_mountTimeIn rfl rfl rfl (by decide +kernel) ⟨Nat.le_of_ble_eq_true rfl, Nat.le_of_ble_eq_true rfl⟩) hK hW hS (x_recv (i := g.1) (k := 7) (j := 0) hK hW ⟨⟨Nat.le_of_lt_succ (by rw [hfl]; decide), rfl⟩, by decide⟩ rfl (by decide)) rfl hl.1 (rest := []) rfl (Nat.le_of_ble_eq_true rfl) dL_law_597 ⟨hc, hs⟩) hS (fun H locs hW hS => ?_)
  have hW : World g (cs, (md, mn, mw)) H := hW
  refine lv_aload_n hx hb dL_law_600 rfl (lv_at hl 2 rfl) ?_
  refine lv_aload_n hx hb dL_law_601 rfl (lv_at hl 0 rfl) ?_
  refine lv_iload_n hx hb dL_law_602 rfl (lv_at hl 3 rfl) ?_
  refine lv_iconst (v := 1) hx hb dL_law_603 (by decide) ?_
  refine lv_iadd hx hb dL_law_604 ?_
  refine va_sld hx hb hX hbl hbA hS hv1 dL_law_605 ?_
  refine lv_aload_n hx hb dL_law_606 rfl (lv_at hl 0 rfl) ?_
  refine lv_iload_n hx hb dL_law_607 rfl (lv_at hl 3 rfl) ?_
  refine lv_iconst (v := 2) hx hb dL_law_608 (by decide) ?_
  refine lv_iadd hx hb dL_law_609 ?_
  refine va_sld hx hb hX hbl hbA hS hv2 dL_law_610 ?_
  refine x_ci0 (x_rV ⟨hx, hb, hml, hown, hts⟩ (ct_X8_mountTimeIn l g (Nat.le_of_eq hfl.symm) (cs, (md, mn, mw)) md mn mw (xs (nI i + 1).toNatClampNeg) (xs (nI i + 2).toNatClampNeg) h8) (cwV 2 hts gL_law_X8_mountTimeIn rfl rfl rfl (by decide +kernel) ⟨Nat.le_of_ble_eq_true rfl, Nat.le_of_ble_eq_true rfl⟩) hK hW hS (x_recv (i := g.1 + 189) (k := 8) (j := 0) hK hW ⟨⟨Nat.le_of_eq hfl.symm, rfl⟩, by decide⟩ rfl (by decide)) rfl hl.1 (rest := [.int q]) rfl (Nat.le_of_ble_eq_true rfl) dL_law_611 ⟨hc, hs⟩) hS (fun H locs hW hS => ?_)
  have hW : World g (cs, (q'.2, mn, mw)) H := hW
  refine lv_icmp_eq (tgt := 1691) hx hb dL_law_614 (by decide) (fun _ => ?_) (fun h => absurd he h)
  exact K H locs hW hS
set_option maxRecDepth 20000 in
theorem ggL_law_X7_freeSectors : GoodIn wsL_law wsX7_freeSectors := goodIn_r _ [776, 19, 562, 564, 565, 371, 372, 18, 373, 72, 777, 346, 347, 50, 348, 283, 285, 1587, 1588, 1589, 1590, 1591, 1592, 1593, 1594, 1595, 1632, 1633, 1634, 1635, 1636, 1637, 1638, 1639, 1640, 1641, 1642, 1643, 1644, 1645, 1646, 1647, 1648, 1649, 1656, 1657, 1658, 1659, 1660, 1661, 1662, 1663, 1664] (by decide +kernel) (by decide +kernel)
set_option maxRecDepth 20000 in
theorem gL_law_X7_freeSectors : GoodIn wsL_law (wsV RL 77 RX7 yX7_freeSectors wsX7_freeSectors) := goodIn_app (goodIn_of _ (by decide +kernel)) ggL_law_X7_freeSectors
set_option maxRecDepth 20000 in
theorem ggL_law_X8_freeSectors : GoodIn wsL_law wsX8_freeSectors := goodIn_r _ [781, 124, 570, 571, 572, 573, 5, 574, 94, 427, 428, 429, 782, 783, 784, 785, 1596, 1597, 1598, 1599, 1600, 1601, 1602, 1603, 1604, 1605, 1606, 1607, 1608, 1609, 1610, 1611, 1612, 1613, 1614, 1615, 1616, 1617, 1618, 1619, 1620, 1621, 1622] (by decide +kernel) (by decide +kernel)
set_option maxRecDepth 20000 in
theorem gL_law_X8_freeSectors : GoodIn wsL_law (wsV RL 80 RX8 yX8_freeSectors wsX8_freeSectors) := goodIn_app (goodIn_of _ (by decide +kernel)) ggL_law_X8_freeSectors
theorem dL_law_619 : decode cL_law 619 = .ok (.aload_n 1, 1) := by decide +kernel
theorem dL_law_620 : decode cL_law 620 = .ok (.aload_n 0, 1) := by decide +kernel
theorem dL_law_621 : decode cL_law 621 = .ok (.iload_n 3, 1) := by decide +kernel
theorem dL_law_622 : decode cL_law 622 = .ok (.iconst 1, 1) := by decide +kernel
theorem dL_law_623 : decode cL_law 623 = .ok (.iadd, 1) := by decide +kernel
theorem dL_law_624 : decode cL_law 624 = .ok (.iaload, 1) := by decide +kernel
theorem dL_law_625 : decode cL_law 625 = .ok (.invokevirtual 77, 3) := by decide +kernel
theorem dL_law_628 : decode cL_law 628 = .ok (.aload_n 2, 1) := by decide +kernel
theorem dL_law_629 : decode cL_law 629 = .ok (.aload_n 0, 1) := by decide +kernel
theorem dL_law_630 : decode cL_law 630 = .ok (.iload_n 3, 1) := by decide +kernel
theorem dL_law_631 : decode cL_law 631 = .ok (.iconst 1, 1) := by decide +kernel
theorem dL_law_632 : decode cL_law 632 = .ok (.iadd, 1) := by decide +kernel
theorem dL_law_633 : decode cL_law 633 = .ok (.iaload, 1) := by decide +kernel
theorem dL_law_634 : decode cL_law 634 = .ok (.invokevirtual 80, 3) := by decide +kernel
theorem dL_law_637 : decode cL_law 637 = .ok (.if_icmp .eq 1054, 3) := by decide +kernel
theorem dL_law_640 : decode cL_law 640 = .ok (.iconst 0, 1) := by decide +kernel
theorem dL_law_641 : decode cL_law 641 = .ok (.ireturn, 1) := by decide +kernel
set_option maxRecDepth 100000 in
set_option maxHeartbeats 2000000 in
theorem lc_15 {p : Program} {l : Launch} {e : Env} {s : State} {m : MethodId} {below : List Frame} {meth : Method} {c : Code} {Q : State → Prop} {g : GT} {b L i : Nat} {xs : Nat → Int32} {H : Heap} {locs : List Loc} {ls : Array Slot} {cells slots : Nat} {cs : CT} {md : SD} {mn : Nat → Int64} {mw : Int64} (X : lwX p s m meth c g b L xs) (hi : i + 6 ≤ L) (hL : L ≤ 3072) (hS : va_S (gA g) s.heap H locs) (hl : lv_has ls 4 [(0, .ref b), (1, .ref (adr g.1 7 0)), (2, .ref (adr (g.1 + 189) 8 0)), (3, .int (nI i))]) (hfl : gf g = 2) (hW : World g (cs, (md, mn, mw)) H) {q : Int32} {q' : (Int32 × SD)} (h7 : f_X7_freeSectors (k_xs cs (k_st cs)) (xs (nI i + 1).toNatClampNeg) = some q) (h8 : f_X8_freeSectors md (xs (nI i + 1).toNatClampNeg) = some q') (he : q = q'.1) (hc : cells + 0 ≤ 600000) (hs : slots + 0 ≤ 7302250) (K : ∀ (H1 : Heap) (locs1 : List Loc), World g (cs, (q'.2, mn, mw)) H1 → va_S (gA g) s.heap H1 locs1 → W p l e room_1 s m #[Value.ref b] below meth c H1 locs1 (cells + 0) (slots + 0) Q (F0 m 1691 ls [])) : W p l e room_1 s m #[Value.ref b] below meth c H locs cells slots Q (F0 m 619 ls []) := by
  obtain ⟨hx, hb, hml, hown, hts, hX, hbl, hbA, hK⟩ := X
  have hv1 : vp_in (nI i + 1) L := lw_in1 hi hL
  refine lv_aload_n hx hb dL_law_619 rfl (lv_at hl 1 rfl) ?_
  refine lv_aload_n hx hb dL_law_620 rfl (lv_at hl 0 rfl) ?_
  refine lv_iload_n hx hb dL_law_621 rfl (lv_at hl 3 rfl) ?_
  refine lv_iconst (v := 1) hx hb dL_law_622 (by decide) ?_
  refine lv_iadd hx hb dL_law_623 ?_
  refine va_sld hx hb hX hbl hbA hS hv1 dL_law_624 ?_
  refine x_ci (x_rV ⟨hx, hb, hml, hown, hts⟩ (ct_X7_freeSectors l g (Nat.le_of_lt_succ (by rw [hfl]; decide)) cs (md, mn, mw) (xs (nI i + 1).toNatClampNeg) h7) (cwV 1 hts gL_law_X7_freeSectors rfl rfl rfl (by decide +kernel) ⟨Nat.le_of_ble_eq_true rfl, Nat.le_of_ble_eq_true rfl⟩) hK hW hS (x_recv (i := g.1) (k := 7) (j := 0) hK hW ⟨⟨Nat.le_of_lt_succ (by rw [hfl]; decide), rfl⟩, by decide⟩ rfl (by decide)) rfl hl.1 (rest := []) rfl (Nat.le_of_ble_eq_true rfl) dL_law_625 ⟨hc, hs⟩) hS (fun H locs hW hS => ?_)
  have hW : World g (cs, (md, mn, mw)) H := hW
  refine lv_aload_n hx hb dL_law_628 rfl (lv_at hl 2 rfl) ?_
  refine lv_aload_n hx hb dL_law_629 rfl (lv_at hl 0 rfl) ?_
  refine lv_iload_n hx hb dL_law_630 rfl (lv_at hl 3 rfl) ?_
  refine lv_iconst (v := 1) hx hb dL_law_631 (by decide) ?_
  refine lv_iadd hx hb dL_law_632 ?_
  refine va_sld hx hb hX hbl hbA hS hv1 dL_law_633 ?_
  refine x_ci0 (x_rV ⟨hx, hb, hml, hown, hts⟩ (ct_X8_freeSectors l g (Nat.le_of_eq hfl.symm) (cs, (md, mn, mw)) md mn mw (xs (nI i + 1).toNatClampNeg) h8) (cwV 1 hts gL_law_X8_freeSectors rfl rfl rfl (by decide +kernel) ⟨Nat.le_of_ble_eq_true rfl, Nat.le_of_ble_eq_true rfl⟩) hK hW hS (x_recv (i := g.1 + 189) (k := 8) (j := 0) hK hW ⟨⟨Nat.le_of_eq hfl.symm, rfl⟩, by decide⟩ rfl (by decide)) rfl hl.1 (rest := [.int q]) rfl (Nat.le_of_ble_eq_true rfl) dL_law_634 ⟨hc, hs⟩) hS (fun H locs hW hS => ?_)
  have hW : World g (cs, (q'.2, mn, mw)) H := hW
  refine lv_icmp_eq (tgt := 1691) hx hb dL_law_637 (by decide) (fun _ => ?_) (fun h => absurd he h)
  exact K H locs hW hS
set_option maxRecDepth 20000 in
theorem ggL_law_X7_sessionCount : GoodIn wsL_law wsX7_sessionCount := goodIn_r _ [789, 19, 562, 790, 564, 565, 371, 372, 18, 373, 72, 1587, 1588, 1589, 1590, 1591, 1592, 1593, 1594, 1595, 1632, 1633, 1634, 1635, 1636, 1637, 1638, 1639, 1640, 1641, 1642, 1643, 1644, 1645, 1646, 1647, 1648, 1649, 1656, 1657, 1658, 1659, 1660, 1661, 1662, 1663, 1664] (by decide +kernel) (by decide +kernel)
set_option maxRecDepth 20000 in
theorem gL_law_X7_sessionCount : GoodIn wsL_law (wsV RL 81 RX7 yX7_sessionCount wsX7_sessionCount) := goodIn_app (goodIn_of _ (by decide +kernel)) ggL_law_X7_sessionCount
set_option maxRecDepth 20000 in
theorem ggL_law_X8_sessionCount : GoodIn wsL_law wsX8_sessionCount := goodIn_r _ [794, 124, 94, 570, 571, 572, 573, 5, 574, 427, 428, 429, 1596, 1597, 1598, 1599, 1600, 1601, 1602, 1603, 1604, 1605, 1606, 1607, 1608, 1609, 1610, 1611, 1612, 1613, 1614, 1615, 1616, 1617, 1618, 1619, 1620, 1621, 1622] (by decide +kernel) (by decide +kernel)
set_option maxRecDepth 20000 in
theorem gL_law_X8_sessionCount : GoodIn wsL_law (wsV RL 84 RX8 yX8_sessionCount wsX8_sessionCount) := goodIn_app (goodIn_of _ (by decide +kernel)) ggL_law_X8_sessionCount
theorem dL_law_642 : decode cL_law 642 = .ok (.aload_n 1, 1) := by decide +kernel
theorem dL_law_643 : decode cL_law 643 = .ok (.aload_n 0, 1) := by decide +kernel
theorem dL_law_644 : decode cL_law 644 = .ok (.iload_n 3, 1) := by decide +kernel
theorem dL_law_645 : decode cL_law 645 = .ok (.iconst 1, 1) := by decide +kernel
theorem dL_law_646 : decode cL_law 646 = .ok (.iadd, 1) := by decide +kernel
theorem dL_law_647 : decode cL_law 647 = .ok (.iaload, 1) := by decide +kernel
theorem dL_law_648 : decode cL_law 648 = .ok (.invokevirtual 81, 3) := by decide +kernel
theorem dL_law_651 : decode cL_law 651 = .ok (.aload_n 2, 1) := by decide +kernel
theorem dL_law_652 : decode cL_law 652 = .ok (.aload_n 0, 1) := by decide +kernel
theorem dL_law_653 : decode cL_law 653 = .ok (.iload_n 3, 1) := by decide +kernel
theorem dL_law_654 : decode cL_law 654 = .ok (.iconst 1, 1) := by decide +kernel
theorem dL_law_655 : decode cL_law 655 = .ok (.iadd, 1) := by decide +kernel
theorem dL_law_656 : decode cL_law 656 = .ok (.iaload, 1) := by decide +kernel
theorem dL_law_657 : decode cL_law 657 = .ok (.invokevirtual 84, 3) := by decide +kernel
theorem dL_law_660 : decode cL_law 660 = .ok (.if_icmp .eq 1031, 3) := by decide +kernel
theorem dL_law_663 : decode cL_law 663 = .ok (.iconst 0, 1) := by decide +kernel
theorem dL_law_664 : decode cL_law 664 = .ok (.ireturn, 1) := by decide +kernel
set_option maxRecDepth 100000 in
set_option maxHeartbeats 2000000 in
theorem lc_16 {p : Program} {l : Launch} {e : Env} {s : State} {m : MethodId} {below : List Frame} {meth : Method} {c : Code} {Q : State → Prop} {g : GT} {b L i : Nat} {xs : Nat → Int32} {H : Heap} {locs : List Loc} {ls : Array Slot} {cells slots : Nat} {cs : CT} {md : SD} {mn : Nat → Int64} {mw : Int64} (X : lwX p s m meth c g b L xs) (hi : i + 6 ≤ L) (hL : L ≤ 3072) (hS : va_S (gA g) s.heap H locs) (hl : lv_has ls 4 [(0, .ref b), (1, .ref (adr g.1 7 0)), (2, .ref (adr (g.1 + 189) 8 0)), (3, .int (nI i))]) (hfl : gf g = 2) (hW : World g (cs, (md, mn, mw)) H) {q : Int32} {q' : (Int32 × SD)} (h7 : f_X7_sessionCount (k_xs cs (k_st cs)) (xs (nI i + 1).toNatClampNeg) = some q) (h8 : f_X8_sessionCount md (xs (nI i + 1).toNatClampNeg) = some q') (he : q = q'.1) (hc : cells + 0 ≤ 600000) (hs : slots + 0 ≤ 7302250) (K : ∀ (H1 : Heap) (locs1 : List Loc), World g (cs, (q'.2, mn, mw)) H1 → va_S (gA g) s.heap H1 locs1 → W p l e room_1 s m #[Value.ref b] below meth c H1 locs1 (cells + 0) (slots + 0) Q (F0 m 1691 ls [])) : W p l e room_1 s m #[Value.ref b] below meth c H locs cells slots Q (F0 m 642 ls []) := by
  obtain ⟨hx, hb, hml, hown, hts, hX, hbl, hbA, hK⟩ := X
  have hv1 : vp_in (nI i + 1) L := lw_in1 hi hL
  refine lv_aload_n hx hb dL_law_642 rfl (lv_at hl 1 rfl) ?_
  refine lv_aload_n hx hb dL_law_643 rfl (lv_at hl 0 rfl) ?_
  refine lv_iload_n hx hb dL_law_644 rfl (lv_at hl 3 rfl) ?_
  refine lv_iconst (v := 1) hx hb dL_law_645 (by decide) ?_
  refine lv_iadd hx hb dL_law_646 ?_
  refine va_sld hx hb hX hbl hbA hS hv1 dL_law_647 ?_
  refine x_ci (x_rV ⟨hx, hb, hml, hown, hts⟩ (ct_X7_sessionCount l g (Nat.le_of_lt_succ (by rw [hfl]; decide)) cs (md, mn, mw) (xs (nI i + 1).toNatClampNeg) h7) (cwV 1 hts gL_law_X7_sessionCount rfl rfl rfl (by decide +kernel) ⟨Nat.le_of_ble_eq_true rfl, Nat.le_of_ble_eq_true rfl⟩) hK hW hS (x_recv (i := g.1) (k := 7) (j := 0) hK hW ⟨⟨Nat.le_of_lt_succ (by rw [hfl]; decide), rfl⟩, by decide⟩ rfl (by decide)) rfl hl.1 (rest := []) rfl (Nat.le_of_ble_eq_true rfl) dL_law_648 ⟨hc, hs⟩) hS (fun H locs hW hS => ?_)
  have hW : World g (cs, (md, mn, mw)) H := hW
  refine lv_aload_n hx hb dL_law_651 rfl (lv_at hl 2 rfl) ?_
  refine lv_aload_n hx hb dL_law_652 rfl (lv_at hl 0 rfl) ?_
  refine lv_iload_n hx hb dL_law_653 rfl (lv_at hl 3 rfl) ?_
  refine lv_iconst (v := 1) hx hb dL_law_654 (by decide) ?_
  refine lv_iadd hx hb dL_law_655 ?_
  refine va_sld hx hb hX hbl hbA hS hv1 dL_law_656 ?_
  refine x_ci0 (x_rV ⟨hx, hb, hml, hown, hts⟩ (ct_X8_sessionCount l g (Nat.le_of_eq hfl.symm) (cs, (md, mn, mw)) md mn mw (xs (nI i + 1).toNatClampNeg) h8) (cwV 1 hts gL_law_X8_sessionCount rfl rfl rfl (by decide +kernel) ⟨Nat.le_of_ble_eq_true rfl, Nat.le_of_ble_eq_true rfl⟩) hK hW hS (x_recv (i := g.1 + 189) (k := 8) (j := 0) hK hW ⟨⟨Nat.le_of_eq hfl.symm, rfl⟩, by decide⟩ rfl (by decide)) rfl hl.1 (rest := [.int q]) rfl (Nat.le_of_ble_eq_true rfl) dL_law_657 ⟨hc, hs⟩) hS (fun H locs hW hS => ?_)
  have hW : World g (cs, (q'.2, mn, mw)) H := hW
  refine lv_icmp_eq (tgt := 1691) hx hb dL_law_660 (by decide) (fun _ => ?_) (fun h => absurd he h)
  exact K H locs hW hS
set_option maxRecDepth 20000 in
theorem ggL_law_X7_hasOpenSession : GoodIn wsL_law wsX7_hasOpenSession := goodIn_r _ [798, 19, 564, 562, 799, 565, 371, 372, 18, 373, 72, 1587, 1588, 1589, 1590, 1591, 1592, 1593, 1594, 1595, 1632, 1633, 1634, 1635, 1636, 1637, 1638, 1639, 1640, 1641, 1642, 1643, 1644, 1645, 1646, 1647, 1648, 1649, 1656, 1657, 1658, 1659, 1660, 1661, 1662, 1663, 1664] (by decide +kernel) (by decide +kernel)
set_option maxRecDepth 20000 in
theorem gL_law_X7_hasOpenSession : GoodIn wsL_law (wsV RL 85 RX7 yX7_hasOpenSession wsX7_hasOpenSession) := goodIn_app (goodIn_of _ (by decide +kernel)) ggL_law_X7_hasOpenSession
set_option maxRecDepth 20000 in
theorem ggL_law_X8_hasOpenSession : GoodIn wsL_law wsX8_hasOpenSession := goodIn_r _ [803, 124, 94, 570, 571, 572, 573, 5, 574, 427, 428, 429, 1596, 1597, 1598, 1599, 1600, 1601, 1602, 1603, 1604, 1605, 1606, 1607, 1608, 1609, 1610, 1611, 1612, 1613, 1614, 1615, 1616, 1617, 1618, 1619, 1620, 1621, 1622] (by decide +kernel) (by decide +kernel)
set_option maxRecDepth 20000 in
theorem gL_law_X8_hasOpenSession : GoodIn wsL_law (wsV RL 88 RX8 yX8_hasOpenSession wsX8_hasOpenSession) := goodIn_app (goodIn_of _ (by decide +kernel)) ggL_law_X8_hasOpenSession
theorem dL_law_665 : decode cL_law 665 = .ok (.aload_n 1, 1) := by decide +kernel
theorem dL_law_666 : decode cL_law 666 = .ok (.aload_n 0, 1) := by decide +kernel
theorem dL_law_667 : decode cL_law 667 = .ok (.iload_n 3, 1) := by decide +kernel
theorem dL_law_668 : decode cL_law 668 = .ok (.iconst 1, 1) := by decide +kernel
theorem dL_law_669 : decode cL_law 669 = .ok (.iadd, 1) := by decide +kernel
theorem dL_law_670 : decode cL_law 670 = .ok (.iaload, 1) := by decide +kernel
theorem dL_law_671 : decode cL_law 671 = .ok (.invokevirtual 85, 3) := by decide +kernel
theorem dL_law_674 : decode cL_law 674 = .ok (.aload_n 2, 1) := by decide +kernel
theorem dL_law_675 : decode cL_law 675 = .ok (.aload_n 0, 1) := by decide +kernel
theorem dL_law_676 : decode cL_law 676 = .ok (.iload_n 3, 1) := by decide +kernel
theorem dL_law_677 : decode cL_law 677 = .ok (.iconst 1, 1) := by decide +kernel
theorem dL_law_678 : decode cL_law 678 = .ok (.iadd, 1) := by decide +kernel
theorem dL_law_679 : decode cL_law 679 = .ok (.iaload, 1) := by decide +kernel
theorem dL_law_680 : decode cL_law 680 = .ok (.invokevirtual 88, 3) := by decide +kernel
theorem dL_law_683 : decode cL_law 683 = .ok (.if_icmp .eq 1008, 3) := by decide +kernel
theorem dL_law_686 : decode cL_law 686 = .ok (.iconst 0, 1) := by decide +kernel
theorem dL_law_687 : decode cL_law 687 = .ok (.ireturn, 1) := by decide +kernel
set_option maxRecDepth 100000 in
set_option maxHeartbeats 2000000 in
theorem lc_17 {p : Program} {l : Launch} {e : Env} {s : State} {m : MethodId} {below : List Frame} {meth : Method} {c : Code} {Q : State → Prop} {g : GT} {b L i : Nat} {xs : Nat → Int32} {H : Heap} {locs : List Loc} {ls : Array Slot} {cells slots : Nat} {cs : CT} {md : SD} {mn : Nat → Int64} {mw : Int64} (X : lwX p s m meth c g b L xs) (hi : i + 6 ≤ L) (hL : L ≤ 3072) (hS : va_S (gA g) s.heap H locs) (hl : lv_has ls 4 [(0, .ref b), (1, .ref (adr g.1 7 0)), (2, .ref (adr (g.1 + 189) 8 0)), (3, .int (nI i))]) (hfl : gf g = 2) (hW : World g (cs, (md, mn, mw)) H) {q : Int32} {q' : (Int32 × SD)} (h7 : f_X7_hasOpenSession (k_xs cs (k_st cs)) (xs (nI i + 1).toNatClampNeg) = some q) (h8 : f_X8_hasOpenSession md (xs (nI i + 1).toNatClampNeg) = some q') (he : q = q'.1) (hc : cells + 0 ≤ 600000) (hs : slots + 0 ≤ 7302250) (K : ∀ (H1 : Heap) (locs1 : List Loc), World g (cs, (q'.2, mn, mw)) H1 → va_S (gA g) s.heap H1 locs1 → W p l e room_1 s m #[Value.ref b] below meth c H1 locs1 (cells + 0) (slots + 0) Q (F0 m 1691 ls [])) : W p l e room_1 s m #[Value.ref b] below meth c H locs cells slots Q (F0 m 665 ls []) := by
  obtain ⟨hx, hb, hml, hown, hts, hX, hbl, hbA, hK⟩ := X
  have hv1 : vp_in (nI i + 1) L := lw_in1 hi hL
  refine lv_aload_n hx hb dL_law_665 rfl (lv_at hl 1 rfl) ?_
  refine lv_aload_n hx hb dL_law_666 rfl (lv_at hl 0 rfl) ?_
  refine lv_iload_n hx hb dL_law_667 rfl (lv_at hl 3 rfl) ?_
  refine lv_iconst (v := 1) hx hb dL_law_668 (by decide) ?_
  refine lv_iadd hx hb dL_law_669 ?_
  refine va_sld hx hb hX hbl hbA hS hv1 dL_law_670 ?_
  refine x_ci (x_rV ⟨hx, hb, hml, hown, hts⟩ (ct_X7_hasOpenSession l g (Nat.le_of_lt_succ (by rw [hfl]; decide)) cs (md, mn, mw) (xs (nI i + 1).toNatClampNeg) h7) (cwV 1 hts gL_law_X7_hasOpenSession rfl rfl rfl (by decide +kernel) ⟨Nat.le_of_ble_eq_true rfl, Nat.le_of_ble_eq_true rfl⟩) hK hW hS (x_recv (i := g.1) (k := 7) (j := 0) hK hW ⟨⟨Nat.le_of_lt_succ (by rw [hfl]; decide), rfl⟩, by decide⟩ rfl (by decide)) rfl hl.1 (rest := []) rfl (Nat.le_of_ble_eq_true rfl) dL_law_671 ⟨hc, hs⟩) hS (fun H locs hW hS => ?_)
  have hW : World g (cs, (md, mn, mw)) H := hW
  refine lv_aload_n hx hb dL_law_674 rfl (lv_at hl 2 rfl) ?_
  refine lv_aload_n hx hb dL_law_675 rfl (lv_at hl 0 rfl) ?_
  refine lv_iload_n hx hb dL_law_676 rfl (lv_at hl 3 rfl) ?_
  refine lv_iconst (v := 1) hx hb dL_law_677 (by decide) ?_
  refine lv_iadd hx hb dL_law_678 ?_
  refine va_sld hx hb hX hbl hbA hS hv1 dL_law_679 ?_
  refine x_ci0 (x_rV ⟨hx, hb, hml, hown, hts⟩ (ct_X8_hasOpenSession l g (Nat.le_of_eq hfl.symm) (cs, (md, mn, mw)) md mn mw (xs (nI i + 1).toNatClampNeg) h8) (cwV 1 hts gL_law_X8_hasOpenSession rfl rfl rfl (by decide +kernel) ⟨Nat.le_of_ble_eq_true rfl, Nat.le_of_ble_eq_true rfl⟩) hK hW hS (x_recv (i := g.1 + 189) (k := 8) (j := 0) hK hW ⟨⟨Nat.le_of_eq hfl.symm, rfl⟩, by decide⟩ rfl (by decide)) rfl hl.1 (rest := [.int q]) rfl (Nat.le_of_ble_eq_true rfl) dL_law_680 ⟨hc, hs⟩) hS (fun H locs hW hS => ?_)
  have hW : World g (cs, (q'.2, mn, mw)) H := hW
  refine lv_icmp_eq (tgt := 1691) hx hb dL_law_683 (by decide) (fun _ => ?_) (fun h => absurd he h)
  exact K H locs hW hS
set_option maxRecDepth 20000 in
theorem ggL_law_X7_sessionStart : GoodIn wsL_law wsX7_sessionStart := goodIn_r _ [807, 19, 564, 562, 808, 809, 810, 811, 18, 812, 42, 364, 370, 371, 372, 373, 72, 1587, 1588, 1589, 1590, 1591, 1592, 1593, 1594, 1595, 1632, 1633, 1634, 1635, 1636, 1637, 1638, 1639, 1640, 1641, 1642, 1643, 1644, 1645, 1646, 1647, 1648, 1649, 1656, 1657, 1658, 1659, 1660, 1661, 1662, 1663, 1664] (by decide +kernel) (by decide +kernel)
set_option maxRecDepth 20000 in
theorem gL_law_X7_sessionStart : GoodIn wsL_law (wsV RL 89 RX7 yX7_sessionStart wsX7_sessionStart) := goodIn_app (goodIn_of _ (by decide +kernel)) ggL_law_X7_sessionStart
set_option maxRecDepth 20000 in
theorem ggL_law_X8_sessionStart : GoodIn wsL_law wsX8_sessionStart := goodIn_r _ [816, 124, 94, 570, 817, 818, 819, 5, 820, 571, 572, 573, 574, 427, 428, 429, 1596, 1597, 1598, 1599, 1600, 1601, 1602, 1603, 1604, 1605, 1606, 1607, 1608, 1609, 1610, 1611, 1612, 1613, 1614, 1615, 1616, 1617, 1618, 1619, 1620, 1621, 1622] (by decide +kernel) (by decide +kernel)
set_option maxRecDepth 20000 in
theorem gL_law_X8_sessionStart : GoodIn wsL_law (wsV RL 92 RX8 yX8_sessionStart wsX8_sessionStart) := goodIn_app (goodIn_of _ (by decide +kernel)) ggL_law_X8_sessionStart
theorem dL_law_688 : decode cL_law 688 = .ok (.aload_n 1, 1) := by decide +kernel
theorem dL_law_689 : decode cL_law 689 = .ok (.aload_n 0, 1) := by decide +kernel
theorem dL_law_690 : decode cL_law 690 = .ok (.iload_n 3, 1) := by decide +kernel
theorem dL_law_691 : decode cL_law 691 = .ok (.iconst 1, 1) := by decide +kernel
theorem dL_law_692 : decode cL_law 692 = .ok (.iadd, 1) := by decide +kernel
theorem dL_law_693 : decode cL_law 693 = .ok (.iaload, 1) := by decide +kernel
theorem dL_law_694 : decode cL_law 694 = .ok (.aload_n 0, 1) := by decide +kernel
theorem dL_law_695 : decode cL_law 695 = .ok (.iload_n 3, 1) := by decide +kernel
theorem dL_law_696 : decode cL_law 696 = .ok (.iconst 2, 1) := by decide +kernel
theorem dL_law_697 : decode cL_law 697 = .ok (.iadd, 1) := by decide +kernel
theorem dL_law_698 : decode cL_law 698 = .ok (.iaload, 1) := by decide +kernel
theorem dL_law_699 : decode cL_law 699 = .ok (.invokevirtual 89, 3) := by decide +kernel
theorem dL_law_702 : decode cL_law 702 = .ok (.aload_n 2, 1) := by decide +kernel
theorem dL_law_703 : decode cL_law 703 = .ok (.aload_n 0, 1) := by decide +kernel
theorem dL_law_704 : decode cL_law 704 = .ok (.iload_n 3, 1) := by decide +kernel
theorem dL_law_705 : decode cL_law 705 = .ok (.iconst 1, 1) := by decide +kernel
theorem dL_law_706 : decode cL_law 706 = .ok (.iadd, 1) := by decide +kernel
theorem dL_law_707 : decode cL_law 707 = .ok (.iaload, 1) := by decide +kernel
theorem dL_law_708 : decode cL_law 708 = .ok (.aload_n 0, 1) := by decide +kernel
theorem dL_law_709 : decode cL_law 709 = .ok (.iload_n 3, 1) := by decide +kernel
theorem dL_law_710 : decode cL_law 710 = .ok (.iconst 2, 1) := by decide +kernel
theorem dL_law_711 : decode cL_law 711 = .ok (.iadd, 1) := by decide +kernel
theorem dL_law_712 : decode cL_law 712 = .ok (.iaload, 1) := by decide +kernel
theorem dL_law_713 : decode cL_law 713 = .ok (.invokevirtual 92, 3) := by decide +kernel
theorem dL_law_716 : decode cL_law 716 = .ok (.if_icmp .eq 975, 3) := by decide +kernel
theorem dL_law_719 : decode cL_law 719 = .ok (.iconst 0, 1) := by decide +kernel
theorem dL_law_720 : decode cL_law 720 = .ok (.ireturn, 1) := by decide +kernel
set_option maxRecDepth 100000 in
set_option maxHeartbeats 2000000 in
theorem lc_18 {p : Program} {l : Launch} {e : Env} {s : State} {m : MethodId} {below : List Frame} {meth : Method} {c : Code} {Q : State → Prop} {g : GT} {b L i : Nat} {xs : Nat → Int32} {H : Heap} {locs : List Loc} {ls : Array Slot} {cells slots : Nat} {cs : CT} {md : SD} {mn : Nat → Int64} {mw : Int64} (X : lwX p s m meth c g b L xs) (hi : i + 6 ≤ L) (hL : L ≤ 3072) (hS : va_S (gA g) s.heap H locs) (hl : lv_has ls 4 [(0, .ref b), (1, .ref (adr g.1 7 0)), (2, .ref (adr (g.1 + 189) 8 0)), (3, .int (nI i))]) (hfl : gf g = 2) (hW : World g (cs, (md, mn, mw)) H) {q : Int32} {q' : (Int32 × SD)} (h7 : f_X7_sessionStart (k_xs cs (k_st cs)) (xs (nI i + 1).toNatClampNeg) (xs (nI i + 2).toNatClampNeg) = some q) (h8 : f_X8_sessionStart md (xs (nI i + 1).toNatClampNeg) (xs (nI i + 2).toNatClampNeg) = some q') (he : q = q'.1) (hc : cells + 0 ≤ 600000) (hs : slots + 0 ≤ 7302250) (K : ∀ (H1 : Heap) (locs1 : List Loc), World g (cs, (q'.2, mn, mw)) H1 → va_S (gA g) s.heap H1 locs1 → W p l e room_1 s m #[Value.ref b] below meth c H1 locs1 (cells + 0) (slots + 0) Q (F0 m 1691 ls [])) : W p l e room_1 s m #[Value.ref b] below meth c H locs cells slots Q (F0 m 688 ls []) := by
  obtain ⟨hx, hb, hml, hown, hts, hX, hbl, hbA, hK⟩ := X
  have hv1 : vp_in (nI i + 1) L := lw_in1 hi hL
  have hv2 : vp_in (nI i + 2) L := lw_in2 hi hL
  refine lv_aload_n hx hb dL_law_688 rfl (lv_at hl 1 rfl) ?_
  refine lv_aload_n hx hb dL_law_689 rfl (lv_at hl 0 rfl) ?_
  refine lv_iload_n hx hb dL_law_690 rfl (lv_at hl 3 rfl) ?_
  refine lv_iconst (v := 1) hx hb dL_law_691 (by decide) ?_
  refine lv_iadd hx hb dL_law_692 ?_
  refine va_sld hx hb hX hbl hbA hS hv1 dL_law_693 ?_
  refine lv_aload_n hx hb dL_law_694 rfl (lv_at hl 0 rfl) ?_
  refine lv_iload_n hx hb dL_law_695 rfl (lv_at hl 3 rfl) ?_
  refine lv_iconst (v := 2) hx hb dL_law_696 (by decide) ?_
  refine lv_iadd hx hb dL_law_697 ?_
  refine va_sld hx hb hX hbl hbA hS hv2 dL_law_698 ?_
  refine x_ci (x_rV ⟨hx, hb, hml, hown, hts⟩ (ct_X7_sessionStart l g (Nat.le_of_lt_succ (by rw [hfl]; decide)) cs (md, mn, mw) (xs (nI i + 1).toNatClampNeg) (xs (nI i + 2).toNatClampNeg) h7) (cwV 2 hts gL_law_X7_sessionStart rfl rfl rfl (by decide +kernel) ⟨Nat.le_of_ble_eq_true rfl, Nat.le_of_ble_eq_true rfl⟩) hK hW hS (x_recv (i := g.1) (k := 7) (j := 0) hK hW ⟨⟨Nat.le_of_lt_succ (by rw [hfl]; decide), rfl⟩, by decide⟩ rfl (by decide)) rfl hl.1 (rest := []) rfl (Nat.le_of_ble_eq_true rfl) dL_law_699 ⟨hc, hs⟩) hS (fun H locs hW hS => ?_)
  have hW : World g (cs, (md, mn, mw)) H := hW
  refine lv_aload_n hx hb dL_law_702 rfl (lv_at hl 2 rfl) ?_
  refine lv_aload_n hx hb dL_law_703 rfl (lv_at hl 0 rfl) ?_
  refine lv_iload_n hx hb dL_law_704 rfl (lv_at hl 3 rfl) ?_
  refine lv_iconst (v := 1) hx hb dL_law_705 (by decide) ?_
  refine lv_iadd hx hb dL_law_706 ?_
  refine va_sld hx hb hX hbl hbA hS hv1 dL_law_707 ?_
  refine lv_aload_n hx hb dL_law_708 rfl (lv_at hl 0 rfl) ?_
  refine lv_iload_n hx hb dL_law_709 rfl (lv_at hl 3 rfl) ?_
  refine lv_iconst (v := 2) hx hb dL_law_710 (by decide) ?_
  refine lv_iadd hx hb dL_law_711 ?_
  refine va_sld hx hb hX hbl hbA hS hv2 dL_law_712 ?_
  refine x_ci0 (x_rV ⟨hx, hb, hml, hown, hts⟩ (ct_X8_sessionStart l g (Nat.le_of_eq hfl.symm) (cs, (md, mn, mw)) md mn mw (xs (nI i + 1).toNatClampNeg) (xs (nI i + 2).toNatClampNeg) h8) (cwV 2 hts gL_law_X8_sessionStart rfl rfl rfl (by decide +kernel) ⟨Nat.le_of_ble_eq_true rfl, Nat.le_of_ble_eq_true rfl⟩) hK hW hS (x_recv (i := g.1 + 189) (k := 8) (j := 0) hK hW ⟨⟨Nat.le_of_eq hfl.symm, rfl⟩, by decide⟩ rfl (by decide)) rfl hl.1 (rest := [.int q]) rfl (Nat.le_of_ble_eq_true rfl) dL_law_713 ⟨hc, hs⟩) hS (fun H locs hW hS => ?_)
  have hW : World g (cs, (q'.2, mn, mw)) H := hW
  refine lv_icmp_eq (tgt := 1691) hx hb dL_law_716 (by decide) (fun _ => ?_) (fun h => absurd he h)
  exact K H locs hW hS
set_option maxRecDepth 20000 in
theorem ggL_law_X7_sessionSize : GoodIn wsL_law wsX7_sessionSize := goodIn_r _ [824, 19, 564, 562, 825, 809, 810, 811, 18, 812, 42, 364, 370, 371, 372, 373, 72, 1587, 1588, 1589, 1590, 1591, 1592, 1593, 1594, 1595, 1632, 1633, 1634, 1635, 1636, 1637, 1638, 1639, 1640, 1641, 1642, 1643, 1644, 1645, 1646, 1647, 1648, 1649, 1656, 1657, 1658, 1659, 1660, 1661, 1662, 1663, 1664] (by decide +kernel) (by decide +kernel)
set_option maxRecDepth 20000 in
theorem gL_law_X7_sessionSize : GoodIn wsL_law (wsV RL 93 RX7 yX7_sessionSize wsX7_sessionSize) := goodIn_app (goodIn_of _ (by decide +kernel)) ggL_law_X7_sessionSize
set_option maxRecDepth 20000 in
theorem ggL_law_X8_sessionSize : GoodIn wsL_law wsX8_sessionSize := goodIn_r _ [829, 124, 94, 570, 817, 818, 819, 5, 820, 571, 572, 573, 574, 427, 428, 429, 1596, 1597, 1598, 1599, 1600, 1601, 1602, 1603, 1604, 1605, 1606, 1607, 1608, 1609, 1610, 1611, 1612, 1613, 1614, 1615, 1616, 1617, 1618, 1619, 1620, 1621, 1622] (by decide +kernel) (by decide +kernel)
set_option maxRecDepth 20000 in
theorem gL_law_X8_sessionSize : GoodIn wsL_law (wsV RL 96 RX8 yX8_sessionSize wsX8_sessionSize) := goodIn_app (goodIn_of _ (by decide +kernel)) ggL_law_X8_sessionSize
theorem dL_law_721 : decode cL_law 721 = .ok (.aload_n 1, 1) := by decide +kernel
theorem dL_law_722 : decode cL_law 722 = .ok (.aload_n 0, 1) := by decide +kernel
theorem dL_law_723 : decode cL_law 723 = .ok (.iload_n 3, 1) := by decide +kernel
theorem dL_law_724 : decode cL_law 724 = .ok (.iconst 1, 1) := by decide +kernel
theorem dL_law_725 : decode cL_law 725 = .ok (.iadd, 1) := by decide +kernel
theorem dL_law_726 : decode cL_law 726 = .ok (.iaload, 1) := by decide +kernel
theorem dL_law_727 : decode cL_law 727 = .ok (.aload_n 0, 1) := by decide +kernel
theorem dL_law_728 : decode cL_law 728 = .ok (.iload_n 3, 1) := by decide +kernel
theorem dL_law_729 : decode cL_law 729 = .ok (.iconst 2, 1) := by decide +kernel
theorem dL_law_730 : decode cL_law 730 = .ok (.iadd, 1) := by decide +kernel
theorem dL_law_731 : decode cL_law 731 = .ok (.iaload, 1) := by decide +kernel
theorem dL_law_732 : decode cL_law 732 = .ok (.invokevirtual 93, 3) := by decide +kernel
theorem dL_law_735 : decode cL_law 735 = .ok (.aload_n 2, 1) := by decide +kernel
theorem dL_law_736 : decode cL_law 736 = .ok (.aload_n 0, 1) := by decide +kernel
theorem dL_law_737 : decode cL_law 737 = .ok (.iload_n 3, 1) := by decide +kernel
theorem dL_law_738 : decode cL_law 738 = .ok (.iconst 1, 1) := by decide +kernel
theorem dL_law_739 : decode cL_law 739 = .ok (.iadd, 1) := by decide +kernel
theorem dL_law_740 : decode cL_law 740 = .ok (.iaload, 1) := by decide +kernel
theorem dL_law_741 : decode cL_law 741 = .ok (.aload_n 0, 1) := by decide +kernel
theorem dL_law_742 : decode cL_law 742 = .ok (.iload_n 3, 1) := by decide +kernel
theorem dL_law_743 : decode cL_law 743 = .ok (.iconst 2, 1) := by decide +kernel
theorem dL_law_744 : decode cL_law 744 = .ok (.iadd, 1) := by decide +kernel
theorem dL_law_745 : decode cL_law 745 = .ok (.iaload, 1) := by decide +kernel
theorem dL_law_746 : decode cL_law 746 = .ok (.invokevirtual 96, 3) := by decide +kernel
theorem dL_law_749 : decode cL_law 749 = .ok (.if_icmp .eq 942, 3) := by decide +kernel
theorem dL_law_752 : decode cL_law 752 = .ok (.iconst 0, 1) := by decide +kernel
theorem dL_law_753 : decode cL_law 753 = .ok (.ireturn, 1) := by decide +kernel
set_option maxRecDepth 100000 in
set_option maxHeartbeats 2000000 in
theorem lc_19 {p : Program} {l : Launch} {e : Env} {s : State} {m : MethodId} {below : List Frame} {meth : Method} {c : Code} {Q : State → Prop} {g : GT} {b L i : Nat} {xs : Nat → Int32} {H : Heap} {locs : List Loc} {ls : Array Slot} {cells slots : Nat} {cs : CT} {md : SD} {mn : Nat → Int64} {mw : Int64} (X : lwX p s m meth c g b L xs) (hi : i + 6 ≤ L) (hL : L ≤ 3072) (hS : va_S (gA g) s.heap H locs) (hl : lv_has ls 4 [(0, .ref b), (1, .ref (adr g.1 7 0)), (2, .ref (adr (g.1 + 189) 8 0)), (3, .int (nI i))]) (hfl : gf g = 2) (hW : World g (cs, (md, mn, mw)) H) {q : Int32} {q' : (Int32 × SD)} (h7 : f_X7_sessionSize (k_xs cs (k_st cs)) (xs (nI i + 1).toNatClampNeg) (xs (nI i + 2).toNatClampNeg) = some q) (h8 : f_X8_sessionSize md (xs (nI i + 1).toNatClampNeg) (xs (nI i + 2).toNatClampNeg) = some q') (he : q = q'.1) (hc : cells + 0 ≤ 600000) (hs : slots + 0 ≤ 7302250) (K : ∀ (H1 : Heap) (locs1 : List Loc), World g (cs, (q'.2, mn, mw)) H1 → va_S (gA g) s.heap H1 locs1 → W p l e room_1 s m #[Value.ref b] below meth c H1 locs1 (cells + 0) (slots + 0) Q (F0 m 1691 ls [])) : W p l e room_1 s m #[Value.ref b] below meth c H locs cells slots Q (F0 m 721 ls []) := by
  obtain ⟨hx, hb, hml, hown, hts, hX, hbl, hbA, hK⟩ := X
  have hv1 : vp_in (nI i + 1) L := lw_in1 hi hL
  have hv2 : vp_in (nI i + 2) L := lw_in2 hi hL
  refine lv_aload_n hx hb dL_law_721 rfl (lv_at hl 1 rfl) ?_
  refine lv_aload_n hx hb dL_law_722 rfl (lv_at hl 0 rfl) ?_
  refine lv_iload_n hx hb dL_law_723 rfl (lv_at hl 3 rfl) ?_
  refine lv_iconst (v := 1) hx hb dL_law_724 (by decide) ?_
  refine lv_iadd hx hb dL_law_725 ?_
  refine va_sld hx hb hX hbl hbA hS hv1 dL_law_726 ?_
  refine lv_aload_n hx hb dL_law_727 rfl (lv_at hl 0 rfl) ?_
  refine lv_iload_n hx hb dL_law_728 rfl (lv_at hl 3 rfl) ?_
  refine lv_iconst (v := 2) hx hb dL_law_729 (by decide) ?_
  refine lv_iadd hx hb dL_law_730 ?_
  refine va_sld hx hb hX hbl hbA hS hv2 dL_law_731 ?_
  refine x_ci (x_rV ⟨hx, hb, hml, hown, hts⟩ (ct_X7_sessionSize l g (Nat.le_of_lt_succ (by rw [hfl]; decide)) cs (md, mn, mw) (xs (nI i + 1).toNatClampNeg) (xs (nI i + 2).toNatClampNeg) h7) (cwV 2 hts gL_law_X7_sessionSize rfl rfl rfl (by decide +kernel) ⟨Nat.le_of_ble_eq_true rfl, Nat.le_of_ble_eq_true rfl⟩) hK hW hS (x_recv (i := g.1) (k := 7) (j := 0) hK hW ⟨⟨Nat.le_of_lt_succ (by rw [hfl]; decide), rfl⟩, by decide⟩ rfl (by decide)) rfl hl.1 (rest := []) rfl (Nat.le_of_ble_eq_true rfl) dL_law_732 ⟨hc, hs⟩) hS (fun H locs hW hS => ?_)
  have hW : World g (cs, (md, mn, mw)) H := hW
  refine lv_aload_n hx hb dL_law_735 rfl (lv_at hl 2 rfl) ?_
  refine lv_aload_n hx hb dL_law_736 rfl (lv_at hl 0 rfl) ?_
  refine lv_iload_n hx hb dL_law_737 rfl (lv_at hl 3 rfl) ?_
  refine lv_iconst (v := 1) hx hb dL_law_738 (by decide) ?_
  refine lv_iadd hx hb dL_law_739 ?_
  refine va_sld hx hb hX hbl hbA hS hv1 dL_law_740 ?_
  refine lv_aload_n hx hb dL_law_741 rfl (lv_at hl 0 rfl) ?_
  refine lv_iload_n hx hb dL_law_742 rfl (lv_at hl 3 rfl) ?_
  refine lv_iconst (v := 2) hx hb dL_law_743 (by decide) ?_
  refine lv_iadd hx hb dL_law_744 ?_
  refine va_sld hx hb hX hbl hbA hS hv2 dL_law_745 ?_
  refine x_ci0 (x_rV ⟨hx, hb, hml, hown, hts⟩ (ct_X8_sessionSize l g (Nat.le_of_eq hfl.symm) (cs, (md, mn, mw)) md mn mw (xs (nI i + 1).toNatClampNeg) (xs (nI i + 2).toNatClampNeg) h8) (cwV 2 hts gL_law_X8_sessionSize rfl rfl rfl (by decide +kernel) ⟨Nat.le_of_ble_eq_true rfl, Nat.le_of_ble_eq_true rfl⟩) hK hW hS (x_recv (i := g.1 + 189) (k := 8) (j := 0) hK hW ⟨⟨Nat.le_of_eq hfl.symm, rfl⟩, by decide⟩ rfl (by decide)) rfl hl.1 (rest := [.int q]) rfl (Nat.le_of_ble_eq_true rfl) dL_law_746 ⟨hc, hs⟩) hS (fun H locs hW hS => ?_)
  have hW : World g (cs, (q'.2, mn, mw)) H := hW
  refine lv_icmp_eq (tgt := 1691) hx hb dL_law_749 (by decide) (fun _ => ?_) (fun h => absurd he h)
  exact K H locs hW hS
set_option maxRecDepth 20000 in
theorem ggL_law_X7_sparesLeft : GoodIn wsL_law wsX7_sparesLeft := goodIn_r _ [833, 19, 562, 834, 564, 565, 371, 372, 18, 373, 72, 1587, 1588, 1589, 1590, 1591, 1592, 1593, 1594, 1595, 1632, 1633, 1634, 1635, 1636, 1637, 1638, 1639, 1640, 1641, 1642, 1643, 1644, 1645, 1646, 1647, 1648, 1649, 1656, 1657, 1658, 1659, 1660, 1661, 1662, 1663, 1664] (by decide +kernel) (by decide +kernel)
set_option maxRecDepth 20000 in
theorem gL_law_X7_sparesLeft : GoodIn wsL_law (wsV RL 97 RX7 yX7_sparesLeft wsX7_sparesLeft) := goodIn_app (goodIn_of _ (by decide +kernel)) ggL_law_X7_sparesLeft
set_option maxRecDepth 20000 in
theorem ggL_law_X8_sparesLeft : GoodIn wsL_law wsX8_sparesLeft := goodIn_r _ [838, 124, 94, 570, 571, 572, 573, 5, 574, 427, 428, 429, 1596, 1597, 1598, 1599, 1600, 1601, 1602, 1603, 1604, 1605, 1606, 1607, 1608, 1609, 1610, 1611, 1612, 1613, 1614, 1615, 1616, 1617, 1618, 1619, 1620, 1621, 1622] (by decide +kernel) (by decide +kernel)
set_option maxRecDepth 20000 in
theorem gL_law_X8_sparesLeft : GoodIn wsL_law (wsV RL 100 RX8 yX8_sparesLeft wsX8_sparesLeft) := goodIn_app (goodIn_of _ (by decide +kernel)) ggL_law_X8_sparesLeft
theorem dL_law_754 : decode cL_law 754 = .ok (.aload_n 1, 1) := by decide +kernel
theorem dL_law_755 : decode cL_law 755 = .ok (.aload_n 0, 1) := by decide +kernel
theorem dL_law_756 : decode cL_law 756 = .ok (.iload_n 3, 1) := by decide +kernel
theorem dL_law_757 : decode cL_law 757 = .ok (.iconst 1, 1) := by decide +kernel
theorem dL_law_758 : decode cL_law 758 = .ok (.iadd, 1) := by decide +kernel
theorem dL_law_759 : decode cL_law 759 = .ok (.iaload, 1) := by decide +kernel
theorem dL_law_760 : decode cL_law 760 = .ok (.invokevirtual 97, 3) := by decide +kernel
theorem dL_law_763 : decode cL_law 763 = .ok (.aload_n 2, 1) := by decide +kernel
theorem dL_law_764 : decode cL_law 764 = .ok (.aload_n 0, 1) := by decide +kernel
theorem dL_law_765 : decode cL_law 765 = .ok (.iload_n 3, 1) := by decide +kernel
theorem dL_law_766 : decode cL_law 766 = .ok (.iconst 1, 1) := by decide +kernel
theorem dL_law_767 : decode cL_law 767 = .ok (.iadd, 1) := by decide +kernel
theorem dL_law_768 : decode cL_law 768 = .ok (.iaload, 1) := by decide +kernel
theorem dL_law_769 : decode cL_law 769 = .ok (.invokevirtual 100, 3) := by decide +kernel
theorem dL_law_772 : decode cL_law 772 = .ok (.if_icmp .eq 919, 3) := by decide +kernel
theorem dL_law_775 : decode cL_law 775 = .ok (.iconst 0, 1) := by decide +kernel
theorem dL_law_776 : decode cL_law 776 = .ok (.ireturn, 1) := by decide +kernel
set_option maxRecDepth 100000 in
set_option maxHeartbeats 2000000 in
theorem lc_20 {p : Program} {l : Launch} {e : Env} {s : State} {m : MethodId} {below : List Frame} {meth : Method} {c : Code} {Q : State → Prop} {g : GT} {b L i : Nat} {xs : Nat → Int32} {H : Heap} {locs : List Loc} {ls : Array Slot} {cells slots : Nat} {cs : CT} {md : SD} {mn : Nat → Int64} {mw : Int64} (X : lwX p s m meth c g b L xs) (hi : i + 6 ≤ L) (hL : L ≤ 3072) (hS : va_S (gA g) s.heap H locs) (hl : lv_has ls 4 [(0, .ref b), (1, .ref (adr g.1 7 0)), (2, .ref (adr (g.1 + 189) 8 0)), (3, .int (nI i))]) (hfl : gf g = 2) (hW : World g (cs, (md, mn, mw)) H) {q : Int32} {q' : (Int32 × SD)} (h7 : f_X7_sparesLeft (k_xs cs (k_st cs)) (xs (nI i + 1).toNatClampNeg) = some q) (h8 : f_X8_sparesLeft md (xs (nI i + 1).toNatClampNeg) = some q') (he : q = q'.1) (hc : cells + 0 ≤ 600000) (hs : slots + 0 ≤ 7302250) (K : ∀ (H1 : Heap) (locs1 : List Loc), World g (cs, (q'.2, mn, mw)) H1 → va_S (gA g) s.heap H1 locs1 → W p l e room_1 s m #[Value.ref b] below meth c H1 locs1 (cells + 0) (slots + 0) Q (F0 m 1691 ls [])) : W p l e room_1 s m #[Value.ref b] below meth c H locs cells slots Q (F0 m 754 ls []) := by
  obtain ⟨hx, hb, hml, hown, hts, hX, hbl, hbA, hK⟩ := X
  have hv1 : vp_in (nI i + 1) L := lw_in1 hi hL
  refine lv_aload_n hx hb dL_law_754 rfl (lv_at hl 1 rfl) ?_
  refine lv_aload_n hx hb dL_law_755 rfl (lv_at hl 0 rfl) ?_
  refine lv_iload_n hx hb dL_law_756 rfl (lv_at hl 3 rfl) ?_
  refine lv_iconst (v := 1) hx hb dL_law_757 (by decide) ?_
  refine lv_iadd hx hb dL_law_758 ?_
  refine va_sld hx hb hX hbl hbA hS hv1 dL_law_759 ?_
  refine x_ci (x_rV ⟨hx, hb, hml, hown, hts⟩ (ct_X7_sparesLeft l g (Nat.le_of_lt_succ (by rw [hfl]; decide)) cs (md, mn, mw) (xs (nI i + 1).toNatClampNeg) h7) (cwV 1 hts gL_law_X7_sparesLeft rfl rfl rfl (by decide +kernel) ⟨Nat.le_of_ble_eq_true rfl, Nat.le_of_ble_eq_true rfl⟩) hK hW hS (x_recv (i := g.1) (k := 7) (j := 0) hK hW ⟨⟨Nat.le_of_lt_succ (by rw [hfl]; decide), rfl⟩, by decide⟩ rfl (by decide)) rfl hl.1 (rest := []) rfl (Nat.le_of_ble_eq_true rfl) dL_law_760 ⟨hc, hs⟩) hS (fun H locs hW hS => ?_)
  have hW : World g (cs, (md, mn, mw)) H := hW
  refine lv_aload_n hx hb dL_law_763 rfl (lv_at hl 2 rfl) ?_
  refine lv_aload_n hx hb dL_law_764 rfl (lv_at hl 0 rfl) ?_
  refine lv_iload_n hx hb dL_law_765 rfl (lv_at hl 3 rfl) ?_
  refine lv_iconst (v := 1) hx hb dL_law_766 (by decide) ?_
  refine lv_iadd hx hb dL_law_767 ?_
  refine va_sld hx hb hX hbl hbA hS hv1 dL_law_768 ?_
  refine x_ci0 (x_rV ⟨hx, hb, hml, hown, hts⟩ (ct_X8_sparesLeft l g (Nat.le_of_eq hfl.symm) (cs, (md, mn, mw)) md mn mw (xs (nI i + 1).toNatClampNeg) h8) (cwV 1 hts gL_law_X8_sparesLeft rfl rfl rfl (by decide +kernel) ⟨Nat.le_of_ble_eq_true rfl, Nat.le_of_ble_eq_true rfl⟩) hK hW hS (x_recv (i := g.1 + 189) (k := 8) (j := 0) hK hW ⟨⟨Nat.le_of_eq hfl.symm, rfl⟩, by decide⟩ rfl (by decide)) rfl hl.1 (rest := [.int q]) rfl (Nat.le_of_ble_eq_true rfl) dL_law_769 ⟨hc, hs⟩) hS (fun H locs hW hS => ?_)
  have hW : World g (cs, (q'.2, mn, mw)) H := hW
  refine lv_icmp_eq (tgt := 1691) hx hb dL_law_772 (by decide) (fun _ => ?_) (fun h => absurd he h)
  exact K H locs hW hS
set_option maxRecDepth 20000 in
theorem ggL_law_X7_staleSectors : GoodIn wsL_law wsX7_staleSectors := goodIn_r _ [842, 19, 564, 565, 371, 372, 18, 373, 72, 843, 844, 845, 846, 74, 44, 359, 362, 847, 848, 849, 850, 45, 358, 1587, 1588, 1589, 1590, 1591, 1592, 1593, 1594, 1595, 1632, 1633, 1634, 1635, 1636, 1637, 1638, 1639, 1640, 1641, 1642, 1643, 1644, 1645, 1646, 1647, 1648, 1649, 1665, 1666, 1667, 1668, 1669, 1670, 1671] (by decide +kernel) (by decide +kernel)
set_option maxRecDepth 20000 in
theorem gL_law_X7_staleSectors : GoodIn wsL_law (wsV RL 101 RX7 yX7_staleSectors wsX7_staleSectors) := goodIn_app (goodIn_of _ (by decide +kernel)) ggL_law_X7_staleSectors
set_option maxRecDepth 20000 in
theorem ggL_law_X8_staleSectors : GoodIn wsL_law wsX8_staleSectors := goodIn_r _ [854, 124, 570, 94, 571, 572, 573, 5, 574, 427, 428, 429, 855, 856, 857, 858, 1596, 1597, 1598, 1599, 1600, 1601, 1602, 1603, 1604, 1605, 1606, 1607, 1608, 1609, 1610, 1611, 1612, 1613, 1614, 1615, 1616, 1617, 1618, 1619, 1620, 1621, 1622] (by decide +kernel) (by decide +kernel)
set_option maxRecDepth 20000 in
theorem gL_law_X8_staleSectors : GoodIn wsL_law (wsV RL 104 RX8 yX8_staleSectors wsX8_staleSectors) := goodIn_app (goodIn_of _ (by decide +kernel)) ggL_law_X8_staleSectors
theorem dL_law_777 : decode cL_law 777 = .ok (.aload_n 1, 1) := by decide +kernel
theorem dL_law_778 : decode cL_law 778 = .ok (.aload_n 0, 1) := by decide +kernel
theorem dL_law_779 : decode cL_law 779 = .ok (.iload_n 3, 1) := by decide +kernel
theorem dL_law_780 : decode cL_law 780 = .ok (.iconst 1, 1) := by decide +kernel
theorem dL_law_781 : decode cL_law 781 = .ok (.iadd, 1) := by decide +kernel
theorem dL_law_782 : decode cL_law 782 = .ok (.iaload, 1) := by decide +kernel
theorem dL_law_783 : decode cL_law 783 = .ok (.invokevirtual 101, 3) := by decide +kernel
theorem dL_law_786 : decode cL_law 786 = .ok (.aload_n 2, 1) := by decide +kernel
theorem dL_law_787 : decode cL_law 787 = .ok (.aload_n 0, 1) := by decide +kernel
theorem dL_law_788 : decode cL_law 788 = .ok (.iload_n 3, 1) := by decide +kernel
theorem dL_law_789 : decode cL_law 789 = .ok (.iconst 1, 1) := by decide +kernel
theorem dL_law_790 : decode cL_law 790 = .ok (.iadd, 1) := by decide +kernel
theorem dL_law_791 : decode cL_law 791 = .ok (.iaload, 1) := by decide +kernel
theorem dL_law_792 : decode cL_law 792 = .ok (.invokevirtual 104, 3) := by decide +kernel
theorem dL_law_795 : decode cL_law 795 = .ok (.if_icmp .eq 896, 3) := by decide +kernel
theorem dL_law_798 : decode cL_law 798 = .ok (.iconst 0, 1) := by decide +kernel
theorem dL_law_799 : decode cL_law 799 = .ok (.ireturn, 1) := by decide +kernel
set_option maxRecDepth 100000 in
set_option maxHeartbeats 2000000 in
theorem lc_21 {p : Program} {l : Launch} {e : Env} {s : State} {m : MethodId} {below : List Frame} {meth : Method} {c : Code} {Q : State → Prop} {g : GT} {b L i : Nat} {xs : Nat → Int32} {H : Heap} {locs : List Loc} {ls : Array Slot} {cells slots : Nat} {cs : CT} {md : SD} {mn : Nat → Int64} {mw : Int64} (X : lwX p s m meth c g b L xs) (hi : i + 6 ≤ L) (hL : L ≤ 3072) (hS : va_S (gA g) s.heap H locs) (hl : lv_has ls 4 [(0, .ref b), (1, .ref (adr g.1 7 0)), (2, .ref (adr (g.1 + 189) 8 0)), (3, .int (nI i))]) (hfl : gf g = 2) (hW : World g (cs, (md, mn, mw)) H) {q : Int32} {q' : (Int32 × SD)} (h7 : f_X7_staleSectors (k_xs cs (k_st cs)) (xs (nI i + 1).toNatClampNeg) = some q) (h8 : f_X8_staleSectors md (xs (nI i + 1).toNatClampNeg) = some q') (he : q = q'.1) (hc : cells + 0 ≤ 600000) (hs : slots + 0 ≤ 7302250) (K : ∀ (H1 : Heap) (locs1 : List Loc), World g (cs, (q'.2, mn, mw)) H1 → va_S (gA g) s.heap H1 locs1 → W p l e room_1 s m #[Value.ref b] below meth c H1 locs1 (cells + 0) (slots + 0) Q (F0 m 1691 ls [])) : W p l e room_1 s m #[Value.ref b] below meth c H locs cells slots Q (F0 m 777 ls []) := by
  obtain ⟨hx, hb, hml, hown, hts, hX, hbl, hbA, hK⟩ := X
  have hv1 : vp_in (nI i + 1) L := lw_in1 hi hL
  refine lv_aload_n hx hb dL_law_777 rfl (lv_at hl 1 rfl) ?_
  refine lv_aload_n hx hb dL_law_778 rfl (lv_at hl 0 rfl) ?_
  refine lv_iload_n hx hb dL_law_779 rfl (lv_at hl 3 rfl) ?_
  refine lv_iconst (v := 1) hx hb dL_law_780 (by decide) ?_
  refine lv_iadd hx hb dL_law_781 ?_
  refine va_sld hx hb hX hbl hbA hS hv1 dL_law_782 ?_
  refine x_ci (x_rV ⟨hx, hb, hml, hown, hts⟩ (ct_X7_staleSectors l g (Nat.le_of_lt_succ (by rw [hfl]; decide)) cs (md, mn, mw) (xs (nI i + 1).toNatClampNeg) h7) (cwV 1 hts gL_law_X7_staleSectors rfl rfl rfl (by decide +kernel) ⟨Nat.le_of_ble_eq_true rfl, Nat.le_of_ble_eq_true rfl⟩) hK hW hS (x_recv (i := g.1) (k := 7) (j := 0) hK hW ⟨⟨Nat.le_of_lt_succ (by rw [hfl]; decide), rfl⟩, by decide⟩ rfl (by decide)) rfl hl.1 (rest := []) rfl (Nat.le_of_ble_eq_true rfl) dL_law_783 ⟨hc, hs⟩) hS (fun H locs hW hS => ?_)
  have hW : World g (cs, (md, mn, mw)) H := hW
  refine lv_aload_n hx hb dL_law_786 rfl (lv_at hl 2 rfl) ?_
  refine lv_aload_n hx hb dL_law_787 rfl (lv_at hl 0 rfl) ?_
  refine lv_iload_n hx hb dL_law_788 rfl (lv_at hl 3 rfl) ?_
  refine lv_iconst (v := 1) hx hb dL_law_789 (by decide) ?_
  refine lv_iadd hx hb dL_law_790 ?_
  refine va_sld hx hb hX hbl hbA hS hv1 dL_law_791 ?_
  refine x_ci0 (x_rV ⟨hx, hb, hml, hown, hts⟩ (ct_X8_staleSectors l g (Nat.le_of_eq hfl.symm) (cs, (md, mn, mw)) md mn mw (xs (nI i + 1).toNatClampNeg) h8) (cwV 1 hts gL_law_X8_staleSectors rfl rfl rfl (by decide +kernel) ⟨Nat.le_of_ble_eq_true rfl, Nat.le_of_ble_eq_true rfl⟩) hK hW hS (x_recv (i := g.1 + 189) (k := 8) (j := 0) hK hW ⟨⟨Nat.le_of_eq hfl.symm, rfl⟩, by decide⟩ rfl (by decide)) rfl hl.1 (rest := [.int q]) rfl (Nat.le_of_ble_eq_true rfl) dL_law_792 ⟨hc, hs⟩) hS (fun H locs hW hS => ?_)
  have hW : World g (cs, (q'.2, mn, mw)) H := hW
  refine lv_icmp_eq (tgt := 1691) hx hb dL_law_795 (by decide) (fun _ => ?_) (fun h => absurd he h)
  exact K H locs hW hS
set_option maxRecDepth 20000 in
theorem ggL_law_X7_sectorKind : GoodIn wsL_law wsX7_sectorKind := goodIn_r _ [862, 19, 564, 863, 864, 865, 18, 866, 42, 867, 370, 371, 372, 373, 72, 868, 869, 870, 871, 360, 312, 313, 314, 315, 74, 44, 316, 317, 318, 52, 319, 320, 321, 322, 847, 848, 849, 850, 45, 358, 872, 300, 301, 50, 302, 61, 1587, 1588, 1589, 1590, 1591, 1592, 1593, 1594, 1595, 1632, 1633, 1634, 1635, 1636, 1637, 1638, 1639, 1640, 1641, 1642, 1643, 1644, 1645, 1646, 1647, 1648, 1649, 1656, 1657, 1658, 1659, 1660, 1661, 1662, 1663, 1664, 1665, 1666, 1667, 1668, 1669, 1670, 1671] (by decide +kernel) (by decide +kernel)
set_option maxRecDepth 20000 in
theorem gL_law_X7_sectorKind : GoodIn wsL_law (wsV RL 105 RX7 yX7_sectorKind wsX7_sectorKind) := goodIn_app (goodIn_of _ (by decide +kernel)) ggL_law_X7_sectorKind
set_option maxRecDepth 20000 in
theorem ggL_law_X8_sectorKind : GoodIn wsL_law wsX8_sectorKind := goodIn_r _ [876, 124, 570, 94, 877, 878, 879, 5, 880, 571, 572, 573, 574, 427, 428, 429, 507, 508, 509, 855, 856, 857, 858, 501, 502, 503, 1596, 1597, 1598, 1599, 1600, 1601, 1602, 1603, 1604, 1605, 1606, 1607, 1608, 1609, 1610, 1611, 1612, 1613, 1614, 1615, 1616, 1617, 1618, 1619, 1620, 1621, 1622] (by decide +kernel) (by decide +kernel)
set_option maxRecDepth 20000 in
theorem gL_law_X8_sectorKind : GoodIn wsL_law (wsV RL 108 RX8 yX8_sectorKind wsX8_sectorKind) := goodIn_app (goodIn_of _ (by decide +kernel)) ggL_law_X8_sectorKind
theorem dL_law_800 : decode cL_law 800 = .ok (.aload_n 1, 1) := by decide +kernel
theorem dL_law_801 : decode cL_law 801 = .ok (.aload_n 0, 1) := by decide +kernel
theorem dL_law_802 : decode cL_law 802 = .ok (.iload_n 3, 1) := by decide +kernel
theorem dL_law_803 : decode cL_law 803 = .ok (.iconst 1, 1) := by decide +kernel
theorem dL_law_804 : decode cL_law 804 = .ok (.iadd, 1) := by decide +kernel
theorem dL_law_805 : decode cL_law 805 = .ok (.iaload, 1) := by decide +kernel
theorem dL_law_806 : decode cL_law 806 = .ok (.aload_n 0, 1) := by decide +kernel
theorem dL_law_807 : decode cL_law 807 = .ok (.iload_n 3, 1) := by decide +kernel
theorem dL_law_808 : decode cL_law 808 = .ok (.iconst 2, 1) := by decide +kernel
theorem dL_law_809 : decode cL_law 809 = .ok (.iadd, 1) := by decide +kernel
theorem dL_law_810 : decode cL_law 810 = .ok (.iaload, 1) := by decide +kernel
theorem dL_law_811 : decode cL_law 811 = .ok (.invokevirtual 105, 3) := by decide +kernel
theorem dL_law_814 : decode cL_law 814 = .ok (.aload_n 2, 1) := by decide +kernel
theorem dL_law_815 : decode cL_law 815 = .ok (.aload_n 0, 1) := by decide +kernel
theorem dL_law_816 : decode cL_law 816 = .ok (.iload_n 3, 1) := by decide +kernel
theorem dL_law_817 : decode cL_law 817 = .ok (.iconst 1, 1) := by decide +kernel
theorem dL_law_818 : decode cL_law 818 = .ok (.iadd, 1) := by decide +kernel
theorem dL_law_819 : decode cL_law 819 = .ok (.iaload, 1) := by decide +kernel
theorem dL_law_820 : decode cL_law 820 = .ok (.aload_n 0, 1) := by decide +kernel
theorem dL_law_821 : decode cL_law 821 = .ok (.iload_n 3, 1) := by decide +kernel
theorem dL_law_822 : decode cL_law 822 = .ok (.iconst 2, 1) := by decide +kernel
theorem dL_law_823 : decode cL_law 823 = .ok (.iadd, 1) := by decide +kernel
theorem dL_law_824 : decode cL_law 824 = .ok (.iaload, 1) := by decide +kernel
theorem dL_law_825 : decode cL_law 825 = .ok (.invokevirtual 108, 3) := by decide +kernel
theorem dL_law_828 : decode cL_law 828 = .ok (.if_icmp .eq 863, 3) := by decide +kernel
theorem dL_law_831 : decode cL_law 831 = .ok (.iconst 0, 1) := by decide +kernel
theorem dL_law_832 : decode cL_law 832 = .ok (.ireturn, 1) := by decide +kernel
set_option maxRecDepth 100000 in
set_option maxHeartbeats 2000000 in
theorem lc_22 {p : Program} {l : Launch} {e : Env} {s : State} {m : MethodId} {below : List Frame} {meth : Method} {c : Code} {Q : State → Prop} {g : GT} {b L i : Nat} {xs : Nat → Int32} {H : Heap} {locs : List Loc} {ls : Array Slot} {cells slots : Nat} {cs : CT} {md : SD} {mn : Nat → Int64} {mw : Int64} (X : lwX p s m meth c g b L xs) (hi : i + 6 ≤ L) (hL : L ≤ 3072) (hS : va_S (gA g) s.heap H locs) (hl : lv_has ls 4 [(0, .ref b), (1, .ref (adr g.1 7 0)), (2, .ref (adr (g.1 + 189) 8 0)), (3, .int (nI i))]) (hfl : gf g = 2) (hW : World g (cs, (md, mn, mw)) H) {q : Int32} {q' : (Int32 × SD)} (h7 : f_X7_sectorKind (k_xs cs (k_st cs)) (xs (nI i + 1).toNatClampNeg) (xs (nI i + 2).toNatClampNeg) = some q) (h8 : f_X8_sectorKind md (xs (nI i + 1).toNatClampNeg) (xs (nI i + 2).toNatClampNeg) = some q') (he : q = q'.1) (hc : cells + 0 ≤ 600000) (hs : slots + 0 ≤ 7302250) (K : ∀ (H1 : Heap) (locs1 : List Loc), World g (cs, (q'.2, mn, mw)) H1 → va_S (gA g) s.heap H1 locs1 → W p l e room_1 s m #[Value.ref b] below meth c H1 locs1 (cells + 0) (slots + 0) Q (F0 m 1691 ls [])) : W p l e room_1 s m #[Value.ref b] below meth c H locs cells slots Q (F0 m 800 ls []) := by
  obtain ⟨hx, hb, hml, hown, hts, hX, hbl, hbA, hK⟩ := X
  have hv1 : vp_in (nI i + 1) L := lw_in1 hi hL
  have hv2 : vp_in (nI i + 2) L := lw_in2 hi hL
  refine lv_aload_n hx hb dL_law_800 rfl (lv_at hl 1 rfl) ?_
  refine lv_aload_n hx hb dL_law_801 rfl (lv_at hl 0 rfl) ?_
  refine lv_iload_n hx hb dL_law_802 rfl (lv_at hl 3 rfl) ?_
  refine lv_iconst (v := 1) hx hb dL_law_803 (by decide) ?_
  refine lv_iadd hx hb dL_law_804 ?_
  refine va_sld hx hb hX hbl hbA hS hv1 dL_law_805 ?_
  refine lv_aload_n hx hb dL_law_806 rfl (lv_at hl 0 rfl) ?_
  refine lv_iload_n hx hb dL_law_807 rfl (lv_at hl 3 rfl) ?_
  refine lv_iconst (v := 2) hx hb dL_law_808 (by decide) ?_
  refine lv_iadd hx hb dL_law_809 ?_
  refine va_sld hx hb hX hbl hbA hS hv2 dL_law_810 ?_
  refine x_ci (x_rV ⟨hx, hb, hml, hown, hts⟩ (ct_X7_sectorKind l g (Nat.le_of_lt_succ (by rw [hfl]; decide)) cs (md, mn, mw) (xs (nI i + 1).toNatClampNeg) (xs (nI i + 2).toNatClampNeg) h7) (cwV 2 hts gL_law_X7_sectorKind rfl rfl rfl (by decide +kernel) ⟨Nat.le_of_ble_eq_true rfl, Nat.le_of_ble_eq_true rfl⟩) hK hW hS (x_recv (i := g.1) (k := 7) (j := 0) hK hW ⟨⟨Nat.le_of_lt_succ (by rw [hfl]; decide), rfl⟩, by decide⟩ rfl (by decide)) rfl hl.1 (rest := []) rfl (Nat.le_of_ble_eq_true rfl) dL_law_811 ⟨hc, hs⟩) hS (fun H locs hW hS => ?_)
  have hW : World g (cs, (md, mn, mw)) H := hW
  refine lv_aload_n hx hb dL_law_814 rfl (lv_at hl 2 rfl) ?_
  refine lv_aload_n hx hb dL_law_815 rfl (lv_at hl 0 rfl) ?_
  refine lv_iload_n hx hb dL_law_816 rfl (lv_at hl 3 rfl) ?_
  refine lv_iconst (v := 1) hx hb dL_law_817 (by decide) ?_
  refine lv_iadd hx hb dL_law_818 ?_
  refine va_sld hx hb hX hbl hbA hS hv1 dL_law_819 ?_
  refine lv_aload_n hx hb dL_law_820 rfl (lv_at hl 0 rfl) ?_
  refine lv_iload_n hx hb dL_law_821 rfl (lv_at hl 3 rfl) ?_
  refine lv_iconst (v := 2) hx hb dL_law_822 (by decide) ?_
  refine lv_iadd hx hb dL_law_823 ?_
  refine va_sld hx hb hX hbl hbA hS hv2 dL_law_824 ?_
  refine x_ci0 (x_rV ⟨hx, hb, hml, hown, hts⟩ (ct_X8_sectorKind l g (Nat.le_of_eq hfl.symm) (cs, (md, mn, mw)) md mn mw (xs (nI i + 1).toNatClampNeg) (xs (nI i + 2).toNatClampNeg) h8) (cwV 2 hts gL_law_X8_sectorKind rfl rfl rfl (by decide +kernel) ⟨Nat.le_of_ble_eq_true rfl, Nat.le_of_ble_eq_true rfl⟩) hK hW hS (x_recv (i := g.1 + 189) (k := 8) (j := 0) hK hW ⟨⟨Nat.le_of_eq hfl.symm, rfl⟩, by decide⟩ rfl (by decide)) rfl hl.1 (rest := [.int q]) rfl (Nat.le_of_ble_eq_true rfl) dL_law_825 ⟨hc, hs⟩) hS (fun H locs hW hS => ?_)
  have hW : World g (cs, (q'.2, mn, mw)) H := hW
  refine lv_icmp_eq (tgt := 1691) hx hb dL_law_828 (by decide) (fun _ => ?_) (fun h => absurd he h)
  exact K H locs hW hS
set_option maxRecDepth 20000 in
theorem ggL_law_X7_fillBits : GoodIn wsL_law wsX7_fillBits := goodIn_r _ [884, 19, 564, 562, 885, 886, 565, 371, 372, 18, 373, 72, 887, 888, 2, 889, 890, 891, 1587, 1588, 1589, 1590, 1591, 1592, 1593, 1594, 1595, 1632, 1633, 1634, 1635, 1636, 1637, 1638, 1639, 1640, 1641, 1642, 1643, 1644, 1645, 1646, 1647, 1648, 1649, 1656, 1657, 1658, 1659, 1660, 1661, 1662, 1663, 1664] (by decide +kernel) (by decide +kernel)
set_option maxRecDepth 20000 in
theorem gL_law_X7_fillBits : GoodIn wsL_law (wsV RL 109 RX7 yX7_fillBits wsX7_fillBits) := goodIn_app (goodIn_of _ (by decide +kernel)) ggL_law_X7_fillBits
set_option maxRecDepth 20000 in
theorem ggL_law_X8_fillBits : GoodIn wsL_law wsX8_fillBits := goodIn_r _ [895, 124, 94, 570, 571, 572, 573, 5, 574, 427, 428, 429, 896, 897, 898, 899, 900, 901, 902, 903, 904, 905, 906, 907, 1596, 1597, 1598, 1599, 1600, 1601, 1602, 1603, 1604, 1605, 1606, 1607, 1608, 1609, 1610, 1611, 1612, 1613, 1614, 1615, 1616, 1617, 1618, 1619, 1620, 1621, 1622] (by decide +kernel) (by decide +kernel)
set_option maxRecDepth 20000 in
theorem gL_law_X8_fillBits : GoodIn wsL_law (wsV RL 112 RX8 yX8_fillBits wsX8_fillBits) := goodIn_app (goodIn_of _ (by decide +kernel)) ggL_law_X8_fillBits
theorem dL_law_833 : decode cL_law 833 = .ok (.aload_n 1, 1) := by decide +kernel
theorem dL_law_834 : decode cL_law 834 = .ok (.aload_n 0, 1) := by decide +kernel
theorem dL_law_835 : decode cL_law 835 = .ok (.iload_n 3, 1) := by decide +kernel
theorem dL_law_836 : decode cL_law 836 = .ok (.iconst 1, 1) := by decide +kernel
theorem dL_law_837 : decode cL_law 837 = .ok (.iadd, 1) := by decide +kernel
theorem dL_law_838 : decode cL_law 838 = .ok (.iaload, 1) := by decide +kernel
theorem dL_law_839 : decode cL_law 839 = .ok (.invokevirtual 109, 3) := by decide +kernel
theorem dL_law_842 : decode cL_law 842 = .ok (.aload_n 2, 1) := by decide +kernel
theorem dL_law_843 : decode cL_law 843 = .ok (.aload_n 0, 1) := by decide +kernel
theorem dL_law_844 : decode cL_law 844 = .ok (.iload_n 3, 1) := by decide +kernel
theorem dL_law_845 : decode cL_law 845 = .ok (.iconst 1, 1) := by decide +kernel
theorem dL_law_846 : decode cL_law 846 = .ok (.iadd, 1) := by decide +kernel
theorem dL_law_847 : decode cL_law 847 = .ok (.iaload, 1) := by decide +kernel
theorem dL_law_848 : decode cL_law 848 = .ok (.invokevirtual 112, 3) := by decide +kernel
theorem dL_law_851 : decode cL_law 851 = .ok (.if_icmp .eq 840, 3) := by decide +kernel
theorem dL_law_854 : decode cL_law 854 = .ok (.iconst 0, 1) := by decide +kernel
theorem dL_law_855 : decode cL_law 855 = .ok (.ireturn, 1) := by decide +kernel
set_option maxRecDepth 100000 in
set_option maxHeartbeats 2000000 in
theorem lc_23 {p : Program} {l : Launch} {e : Env} {s : State} {m : MethodId} {below : List Frame} {meth : Method} {c : Code} {Q : State → Prop} {g : GT} {b L i : Nat} {xs : Nat → Int32} {H : Heap} {locs : List Loc} {ls : Array Slot} {cells slots : Nat} {cs : CT} {md : SD} {mn : Nat → Int64} {mw : Int64} (X : lwX p s m meth c g b L xs) (hi : i + 6 ≤ L) (hL : L ≤ 3072) (hS : va_S (gA g) s.heap H locs) (hl : lv_has ls 4 [(0, .ref b), (1, .ref (adr g.1 7 0)), (2, .ref (adr (g.1 + 189) 8 0)), (3, .int (nI i))]) (hfl : gf g = 2) (hW : World g (cs, (md, mn, mw)) H) {q : Int32} {q' : (Int32 × SD)} (h7 : f_X7_fillBits (k_xs cs (k_st cs)) (xs (nI i + 1).toNatClampNeg) = some q) (h8 : f_X8_fillBits md (xs (nI i + 1).toNatClampNeg) = some q') (he : q = q'.1) (hc : cells + 0 ≤ 600000) (hs : slots + 0 ≤ 7302250) (K : ∀ (H1 : Heap) (locs1 : List Loc), World g (cs, (q'.2, mn, mw)) H1 → va_S (gA g) s.heap H1 locs1 → W p l e room_1 s m #[Value.ref b] below meth c H1 locs1 (cells + 0) (slots + 0) Q (F0 m 1691 ls [])) : W p l e room_1 s m #[Value.ref b] below meth c H locs cells slots Q (F0 m 833 ls []) := by
  obtain ⟨hx, hb, hml, hown, hts, hX, hbl, hbA, hK⟩ := X
  have hv1 : vp_in (nI i + 1) L := lw_in1 hi hL
  refine lv_aload_n hx hb dL_law_833 rfl (lv_at hl 1 rfl) ?_
  refine lv_aload_n hx hb dL_law_834 rfl (lv_at hl 0 rfl) ?_
  refine lv_iload_n hx hb dL_law_835 rfl (lv_at hl 3 rfl) ?_
  refine lv_iconst (v := 1) hx hb dL_law_836 (by decide) ?_
  refine lv_iadd hx hb dL_law_837 ?_
  refine va_sld hx hb hX hbl hbA hS hv1 dL_law_838 ?_
  refine x_ci (x_rV ⟨hx, hb, hml, hown, hts⟩ (ct_X7_fillBits l g (Nat.le_of_lt_succ (by rw [hfl]; decide)) cs (md, mn, mw) (xs (nI i + 1).toNatClampNeg) h7) (cwV 1 hts gL_law_X7_fillBits rfl rfl rfl (by decide +kernel) ⟨Nat.le_of_ble_eq_true rfl, Nat.le_of_ble_eq_true rfl⟩) hK hW hS (x_recv (i := g.1) (k := 7) (j := 0) hK hW ⟨⟨Nat.le_of_lt_succ (by rw [hfl]; decide), rfl⟩, by decide⟩ rfl (by decide)) rfl hl.1 (rest := []) rfl (Nat.le_of_ble_eq_true rfl) dL_law_839 ⟨hc, hs⟩) hS (fun H locs hW hS => ?_)
  have hW : World g (cs, (md, mn, mw)) H := hW
  refine lv_aload_n hx hb dL_law_842 rfl (lv_at hl 2 rfl) ?_
  refine lv_aload_n hx hb dL_law_843 rfl (lv_at hl 0 rfl) ?_
  refine lv_iload_n hx hb dL_law_844 rfl (lv_at hl 3 rfl) ?_
  refine lv_iconst (v := 1) hx hb dL_law_845 (by decide) ?_
  refine lv_iadd hx hb dL_law_846 ?_
  refine va_sld hx hb hX hbl hbA hS hv1 dL_law_847 ?_
  refine x_ci0 (x_rV ⟨hx, hb, hml, hown, hts⟩ (ct_X8_fillBits l g (Nat.le_of_eq hfl.symm) (cs, (md, mn, mw)) md mn mw (xs (nI i + 1).toNatClampNeg) h8) (cwV 1 hts gL_law_X8_fillBits rfl rfl rfl (by decide +kernel) ⟨Nat.le_of_ble_eq_true rfl, Nat.le_of_ble_eq_true rfl⟩) hK hW hS (x_recv (i := g.1 + 189) (k := 8) (j := 0) hK hW ⟨⟨Nat.le_of_eq hfl.symm, rfl⟩, by decide⟩ rfl (by decide)) rfl hl.1 (rest := [.int q]) rfl (Nat.le_of_ble_eq_true rfl) dL_law_848 ⟨hc, hs⟩) hS (fun H locs hW hS => ?_)
  have hW : World g (cs, (q'.2, mn, mw)) H := hW
  refine lv_icmp_eq (tgt := 1691) hx hb dL_law_851 (by decide) (fun _ => ?_) (fun h => absurd he h)
  exact K H locs hW hS
set_option maxRecDepth 20000 in
theorem ggL_law_X7_cleanRun : GoodIn wsL_law wsX7_cleanRun := goodIn_r _ [911, 19, 562, 564, 565, 371, 372, 18, 373, 72, 912, 913, 914, 50, 915, 285, 283, 916, 917, 148, 918, 353, 300, 301, 302, 61, 1587, 1588, 1589, 1590, 1591, 1592, 1593, 1594, 1595, 1632, 1633, 1634, 1635, 1636, 1637, 1638, 1639, 1640, 1641, 1642, 1643, 1644, 1645, 1646, 1647, 1648, 1649, 1656, 1657, 1658, 1659, 1660, 1661, 1662, 1663, 1664] (by decide +kernel) (by decide +kernel)
set_option maxRecDepth 20000 in
theorem gL_law_X7_cleanRun : GoodIn wsL_law (wsV RL 113 RX7 yX7_cleanRun wsX7_cleanRun) := goodIn_app (goodIn_of _ (by decide +kernel)) ggL_law_X7_cleanRun
set_option maxRecDepth 20000 in
theorem ggL_law_X8_cleanRun : GoodIn wsL_law wsX8_cleanRun := goodIn_r _ [922, 124, 570, 94, 571, 572, 573, 5, 574, 427, 428, 429, 501, 502, 503, 1596, 1597, 1598, 1599, 1600, 1601, 1602, 1603, 1604, 1605, 1606, 1607, 1608, 1609, 1610, 1611, 1612, 1613, 1614, 1615, 1616, 1617, 1618, 1619, 1620, 1621, 1622] (by decide +kernel) (by decide +kernel)
set_option maxRecDepth 20000 in
theorem gL_law_X8_cleanRun : GoodIn wsL_law (wsV RL 116 RX8 yX8_cleanRun wsX8_cleanRun) := goodIn_app (goodIn_of _ (by decide +kernel)) ggL_law_X8_cleanRun
theorem dL_law_856 : decode cL_law 856 = .ok (.aload_n 1, 1) := by decide +kernel
theorem dL_law_857 : decode cL_law 857 = .ok (.aload_n 0, 1) := by decide +kernel
theorem dL_law_858 : decode cL_law 858 = .ok (.iload_n 3, 1) := by decide +kernel
theorem dL_law_859 : decode cL_law 859 = .ok (.iconst 1, 1) := by decide +kernel
theorem dL_law_860 : decode cL_law 860 = .ok (.iadd, 1) := by decide +kernel
theorem dL_law_861 : decode cL_law 861 = .ok (.iaload, 1) := by decide +kernel
theorem dL_law_862 : decode cL_law 862 = .ok (.invokevirtual 113, 3) := by decide +kernel
theorem dL_law_865 : decode cL_law 865 = .ok (.aload_n 2, 1) := by decide +kernel
theorem dL_law_866 : decode cL_law 866 = .ok (.aload_n 0, 1) := by decide +kernel
theorem dL_law_867 : decode cL_law 867 = .ok (.iload_n 3, 1) := by decide +kernel
theorem dL_law_868 : decode cL_law 868 = .ok (.iconst 1, 1) := by decide +kernel
theorem dL_law_869 : decode cL_law 869 = .ok (.iadd, 1) := by decide +kernel
theorem dL_law_870 : decode cL_law 870 = .ok (.iaload, 1) := by decide +kernel
theorem dL_law_871 : decode cL_law 871 = .ok (.invokevirtual 116, 3) := by decide +kernel
theorem dL_law_874 : decode cL_law 874 = .ok (.if_icmp .eq 817, 3) := by decide +kernel
theorem dL_law_877 : decode cL_law 877 = .ok (.iconst 0, 1) := by decide +kernel
theorem dL_law_878 : decode cL_law 878 = .ok (.ireturn, 1) := by decide +kernel
set_option maxRecDepth 100000 in
set_option maxHeartbeats 2000000 in
theorem lc_24 {p : Program} {l : Launch} {e : Env} {s : State} {m : MethodId} {below : List Frame} {meth : Method} {c : Code} {Q : State → Prop} {g : GT} {b L i : Nat} {xs : Nat → Int32} {H : Heap} {locs : List Loc} {ls : Array Slot} {cells slots : Nat} {cs : CT} {md : SD} {mn : Nat → Int64} {mw : Int64} (X : lwX p s m meth c g b L xs) (hi : i + 6 ≤ L) (hL : L ≤ 3072) (hS : va_S (gA g) s.heap H locs) (hl : lv_has ls 4 [(0, .ref b), (1, .ref (adr g.1 7 0)), (2, .ref (adr (g.1 + 189) 8 0)), (3, .int (nI i))]) (hfl : gf g = 2) (hW : World g (cs, (md, mn, mw)) H) {q : Int32} {q' : (Int32 × SD)} (h7 : f_X7_cleanRun (k_xs cs (k_st cs)) (xs (nI i + 1).toNatClampNeg) = some q) (h8 : f_X8_cleanRun md (xs (nI i + 1).toNatClampNeg) = some q') (he : q = q'.1) (hc : cells + 0 ≤ 600000) (hs : slots + 0 ≤ 7302250) (K : ∀ (H1 : Heap) (locs1 : List Loc), World g (cs, (q'.2, mn, mw)) H1 → va_S (gA g) s.heap H1 locs1 → W p l e room_1 s m #[Value.ref b] below meth c H1 locs1 (cells + 0) (slots + 0) Q (F0 m 1691 ls [])) : W p l e room_1 s m #[Value.ref b] below meth c H locs cells slots Q (F0 m 856 ls []) := by
  obtain ⟨hx, hb, hml, hown, hts, hX, hbl, hbA, hK⟩ := X
  have hv1 : vp_in (nI i + 1) L := lw_in1 hi hL
  refine lv_aload_n hx hb dL_law_856 rfl (lv_at hl 1 rfl) ?_
  refine lv_aload_n hx hb dL_law_857 rfl (lv_at hl 0 rfl) ?_
  refine lv_iload_n hx hb dL_law_858 rfl (lv_at hl 3 rfl) ?_
  refine lv_iconst (v := 1) hx hb dL_law_859 (by decide) ?_
  refine lv_iadd hx hb dL_law_860 ?_
  refine va_sld hx hb hX hbl hbA hS hv1 dL_law_861 ?_
  refine x_ci (x_rV ⟨hx, hb, hml, hown, hts⟩ (ct_X7_cleanRun l g (Nat.le_of_lt_succ (by rw [hfl]; decide)) cs (md, mn, mw) (xs (nI i + 1).toNatClampNeg) h7) (cwV 1 hts gL_law_X7_cleanRun rfl rfl rfl (by decide +kernel) ⟨Nat.le_of_ble_eq_true rfl, Nat.le_of_ble_eq_true rfl⟩) hK hW hS (x_recv (i := g.1) (k := 7) (j := 0) hK hW ⟨⟨Nat.le_of_lt_succ (by rw [hfl]; decide), rfl⟩, by decide⟩ rfl (by decide)) rfl hl.1 (rest := []) rfl (Nat.le_of_ble_eq_true rfl) dL_law_862 ⟨hc, hs⟩) hS (fun H locs hW hS => ?_)
  have hW : World g (cs, (md, mn, mw)) H := hW
  refine lv_aload_n hx hb dL_law_865 rfl (lv_at hl 2 rfl) ?_
  refine lv_aload_n hx hb dL_law_866 rfl (lv_at hl 0 rfl) ?_
  refine lv_iload_n hx hb dL_law_867 rfl (lv_at hl 3 rfl) ?_
  refine lv_iconst (v := 1) hx hb dL_law_868 (by decide) ?_
  refine lv_iadd hx hb dL_law_869 ?_
  refine va_sld hx hb hX hbl hbA hS hv1 dL_law_870 ?_
  refine x_ci0 (x_rV ⟨hx, hb, hml, hown, hts⟩ (ct_X8_cleanRun l g (Nat.le_of_eq hfl.symm) (cs, (md, mn, mw)) md mn mw (xs (nI i + 1).toNatClampNeg) h8) (cwV 1 hts gL_law_X8_cleanRun rfl rfl rfl (by decide +kernel) ⟨Nat.le_of_ble_eq_true rfl, Nat.le_of_ble_eq_true rfl⟩) hK hW hS (x_recv (i := g.1 + 189) (k := 8) (j := 0) hK hW ⟨⟨Nat.le_of_eq hfl.symm, rfl⟩, by decide⟩ rfl (by decide)) rfl hl.1 (rest := [.int q]) rfl (Nat.le_of_ble_eq_true rfl) dL_law_871 ⟨hc, hs⟩) hS (fun H locs hW hS => ?_)
  have hW : World g (cs, (q'.2, mn, mw)) H := hW
  refine lv_icmp_eq (tgt := 1691) hx hb dL_law_874 (by decide) (fun _ => ?_) (fun h => absurd he h)
  exact K H locs hW hS
set_option maxRecDepth 20000 in
theorem ggL_law_X7_bestPlatter : GoodIn wsL_law wsX7_bestPlatter := goodIn_r _ [926, 135, 19, 676, 677, 927, 562, 928, 929, 2, 930, 931, 342, 343, 50, 344, 287, 286, 284, 345, 346, 347, 348, 283, 285, 349, 350, 351, 352, 353, 300, 301, 302, 61, 704, 705, 706, 18, 707, 708, 679, 680, 681, 682, 585, 586, 587, 70, 40, 257, 683, 684, 685, 686, 71, 258, 709, 710, 711, 712, 38, 713, 714, 715, 716, 256, 77, 42, 273, 717, 718, 148, 719, 777, 604, 605, 606, 553, 1587, 1588, 1589, 1590, 1591, 1592, 1593, 1594, 1595, 1632, 1633, 1634, 1635, 1636, 1637, 1638, 1639, 1640, 1641, 1642, 1643, 1644, 1645, 1646, 1647, 1648, 1649, 1656, 1657, 1658, 1659, 1660, 1661, 1662, 1663, 1664, 1653, 1654, 1655] (by decide +kernel) (by decide +kernel)
set_option maxRecDepth 20000 in
theorem gL_law_X7_bestPlatter : GoodIn wsL_law (wsV RL 117 RX7 yX7_bestPlatter wsX7_bestPlatter) := goodIn_app (goodIn_of _ (by decide +kernel)) ggL_law_X7_bestPlatter
set_option maxRecDepth 20000 in
theorem ggL_law_X8_bestPlatter : GoodIn wsL_law wsX8_bestPlatter := goodIn_r _ [935, 124, 936, 417, 94, 691, 104, 427, 428, 5, 429, 518, 519, 520, 521, 522, 523, 724, 725, 726, 727, 596, 597, 598, 599, 696, 697, 698, 699, 728, 729, 730, 731, 732, 733, 734, 735, 96, 736, 538, 539, 540, 737, 738, 739, 740, 741, 742, 743, 744, 745, 746, 747, 748, 749, 750, 751, 752, 753, 754, 755, 756, 757, 758, 759, 760, 761, 762, 763, 782, 783, 784, 785, 1596, 1597, 1598, 1599, 1600, 1601, 1602, 1603, 1604, 1605, 1606, 1607, 1608, 1609, 1610, 1611, 1612, 1613, 1614, 1615, 1616, 1617, 1618, 1619, 1620, 1621, 1622] (by decide +kernel) (by decide +kernel)
set_option maxRecDepth 20000 in
theorem gL_law_X8_bestPlatter : GoodIn wsL_law (wsV RL 120 RX8 yX8_bestPlatter wsX8_bestPlatter) := goodIn_app (goodIn_of _ (by decide +kernel)) ggL_law_X8_bestPlatter
theorem dL_law_879 : decode cL_law 879 = .ok (.aload_n 1, 1) := by decide +kernel
theorem dL_law_880 : decode cL_law 880 = .ok (.aload_n 0, 1) := by decide +kernel
theorem dL_law_881 : decode cL_law 881 = .ok (.iload_n 3, 1) := by decide +kernel
theorem dL_law_882 : decode cL_law 882 = .ok (.iconst 1, 1) := by decide +kernel
theorem dL_law_883 : decode cL_law 883 = .ok (.iadd, 1) := by decide +kernel
theorem dL_law_884 : decode cL_law 884 = .ok (.iaload, 1) := by decide +kernel
theorem dL_law_885 : decode cL_law 885 = .ok (.invokevirtual 117, 3) := by decide +kernel
theorem dL_law_888 : decode cL_law 888 = .ok (.aload_n 2, 1) := by decide +kernel
theorem dL_law_889 : decode cL_law 889 = .ok (.aload_n 0, 1) := by decide +kernel
theorem dL_law_890 : decode cL_law 890 = .ok (.iload_n 3, 1) := by decide +kernel
theorem dL_law_891 : decode cL_law 891 = .ok (.iconst 1, 1) := by decide +kernel
theorem dL_law_892 : decode cL_law 892 = .ok (.iadd, 1) := by decide +kernel
theorem dL_law_893 : decode cL_law 893 = .ok (.iaload, 1) := by decide +kernel
theorem dL_law_894 : decode cL_law 894 = .ok (.invokevirtual 120, 3) := by decide +kernel
theorem dL_law_897 : decode cL_law 897 = .ok (.if_icmp .eq 794, 3) := by decide +kernel
theorem dL_law_900 : decode cL_law 900 = .ok (.iconst 0, 1) := by decide +kernel
theorem dL_law_901 : decode cL_law 901 = .ok (.ireturn, 1) := by decide +kernel
set_option maxRecDepth 100000 in
set_option maxHeartbeats 2000000 in
theorem lc_25 {p : Program} {l : Launch} {e : Env} {s : State} {m : MethodId} {below : List Frame} {meth : Method} {c : Code} {Q : State → Prop} {g : GT} {b L i : Nat} {xs : Nat → Int32} {H : Heap} {locs : List Loc} {ls : Array Slot} {cells slots : Nat} {cs : CT} {md : SD} {mn : Nat → Int64} {mw : Int64} (X : lwX p s m meth c g b L xs) (hi : i + 6 ≤ L) (hL : L ≤ 3072) (hS : va_S (gA g) s.heap H locs) (hl : lv_has ls 4 [(0, .ref b), (1, .ref (adr g.1 7 0)), (2, .ref (adr (g.1 + 189) 8 0)), (3, .int (nI i))]) (hfl : gf g = 2) (hW : World g (cs, (md, mn, mw)) H) {q : Int32} {q' : (Int32 × SD)} (h7 : f_X7_bestPlatter (k_xs cs (k_st cs)) (xs (nI i + 1).toNatClampNeg) = some q) (h8 : f_X8_bestPlatter md (xs (nI i + 1).toNatClampNeg) = some q') (he : q = q'.1) (hc : cells + 0 ≤ 600000) (hs : slots + 0 ≤ 7302250) (K : ∀ (H1 : Heap) (locs1 : List Loc), World g (cs, (q'.2, mn, mw)) H1 → va_S (gA g) s.heap H1 locs1 → W p l e room_1 s m #[Value.ref b] below meth c H1 locs1 (cells + 0) (slots + 0) Q (F0 m 1691 ls [])) : W p l e room_1 s m #[Value.ref b] below meth c H locs cells slots Q (F0 m 879 ls []) := by
  obtain ⟨hx, hb, hml, hown, hts, hX, hbl, hbA, hK⟩ := X
  have hv1 : vp_in (nI i + 1) L := lw_in1 hi hL
  refine lv_aload_n hx hb dL_law_879 rfl (lv_at hl 1 rfl) ?_
  refine lv_aload_n hx hb dL_law_880 rfl (lv_at hl 0 rfl) ?_
  refine lv_iload_n hx hb dL_law_881 rfl (lv_at hl 3 rfl) ?_
  refine lv_iconst (v := 1) hx hb dL_law_882 (by decide) ?_
  refine lv_iadd hx hb dL_law_883 ?_
  refine va_sld hx hb hX hbl hbA hS hv1 dL_law_884 ?_
  refine x_ci (x_rV ⟨hx, hb, hml, hown, hts⟩ (ct_X7_bestPlatter l g (Nat.le_of_lt_succ (by rw [hfl]; decide)) cs (md, mn, mw) (xs (nI i + 1).toNatClampNeg) h7) (cwV 1 hts gL_law_X7_bestPlatter rfl rfl rfl (by decide +kernel) ⟨Nat.le_of_ble_eq_true rfl, Nat.le_of_ble_eq_true rfl⟩) hK hW hS (x_recv (i := g.1) (k := 7) (j := 0) hK hW ⟨⟨Nat.le_of_lt_succ (by rw [hfl]; decide), rfl⟩, by decide⟩ rfl (by decide)) rfl hl.1 (rest := []) rfl (Nat.le_of_ble_eq_true rfl) dL_law_885 ⟨hc, hs⟩) hS (fun H locs hW hS => ?_)
  have hW : World g (cs, (md, mn, mw)) H := hW
  refine lv_aload_n hx hb dL_law_888 rfl (lv_at hl 2 rfl) ?_
  refine lv_aload_n hx hb dL_law_889 rfl (lv_at hl 0 rfl) ?_
  refine lv_iload_n hx hb dL_law_890 rfl (lv_at hl 3 rfl) ?_
  refine lv_iconst (v := 1) hx hb dL_law_891 (by decide) ?_
  refine lv_iadd hx hb dL_law_892 ?_
  refine va_sld hx hb hX hbl hbA hS hv1 dL_law_893 ?_
  refine x_ci0 (x_rV ⟨hx, hb, hml, hown, hts⟩ (ct_X8_bestPlatter l g (Nat.le_of_eq hfl.symm) (cs, (md, mn, mw)) md mn mw (xs (nI i + 1).toNatClampNeg) h8) (cwV 1 hts gL_law_X8_bestPlatter rfl rfl rfl (by decide +kernel) ⟨Nat.le_of_ble_eq_true rfl, Nat.le_of_ble_eq_true rfl⟩) hK hW hS (x_recv (i := g.1 + 189) (k := 8) (j := 0) hK hW ⟨⟨Nat.le_of_eq hfl.symm, rfl⟩, by decide⟩ rfl (by decide)) rfl hl.1 (rest := [.int q]) rfl (Nat.le_of_ble_eq_true rfl) dL_law_894 ⟨hc, hs⟩) hS (fun H locs hW hS => ?_)
  have hW : World g (cs, (q'.2, mn, mw)) H := hW
  refine lv_icmp_eq (tgt := 1691) hx hb dL_law_897 (by decide) (fun _ => ?_) (fun h => absurd he h)
  exact K H locs hW hS
set_option maxRecDepth 20000 in
theorem ggL_law_X7_versionCount : GoodIn wsL_law wsX7_versionCount := goodIn_r _ [940, 19, 564, 941, 367, 368, 18, 369, 75, 942, 943, 944, 945, 74, 44, 358, 1587, 1588, 1589, 1590, 1591, 1592, 1593, 1594, 1595, 1632, 1633, 1634, 1635, 1636, 1637, 1638, 1639, 1640, 1641, 1642, 1643, 1644, 1645, 1646, 1647, 1648, 1649, 1665, 1666, 1667, 1668, 1669, 1670, 1671] (by decide +kernel) (by decide +kernel)
set_option maxRecDepth 20000 in
theorem gL_law_X7_versionCount : GoodIn wsL_law (wsV RL 121 RX7 yX7_versionCount wsX7_versionCount) := goodIn_app (goodIn_of _ (by decide +kernel)) ggL_law_X7_versionCount
set_option maxRecDepth 20000 in
theorem ggL_law_X8_versionCount : GoodIn wsL_law wsX8_versionCount := goodIn_r _ [949, 124, 570, 94, 950, 951, 952, 5, 953, 427, 428, 429, 1596, 1597, 1598, 1599, 1600, 1601, 1602, 1603, 1604, 1605, 1606, 1607, 1608, 1609, 1610, 1611, 1612, 1613, 1614, 1615, 1616, 1617, 1618, 1619, 1620, 1621, 1622] (by decide +kernel) (by decide +kernel)
set_option maxRecDepth 20000 in
theorem gL_law_X8_versionCount : GoodIn wsL_law (wsV RL 124 RX8 yX8_versionCount wsX8_versionCount) := goodIn_app (goodIn_of _ (by decide +kernel)) ggL_law_X8_versionCount
theorem dL_law_902 : decode cL_law 902 = .ok (.aload_n 1, 1) := by decide +kernel
theorem dL_law_903 : decode cL_law 903 = .ok (.aload_n 0, 1) := by decide +kernel
theorem dL_law_904 : decode cL_law 904 = .ok (.iload_n 3, 1) := by decide +kernel
theorem dL_law_905 : decode cL_law 905 = .ok (.iconst 1, 1) := by decide +kernel
theorem dL_law_906 : decode cL_law 906 = .ok (.iadd, 1) := by decide +kernel
theorem dL_law_907 : decode cL_law 907 = .ok (.iaload, 1) := by decide +kernel
theorem dL_law_908 : decode cL_law 908 = .ok (.invokevirtual 121, 3) := by decide +kernel
theorem dL_law_911 : decode cL_law 911 = .ok (.aload_n 2, 1) := by decide +kernel
theorem dL_law_912 : decode cL_law 912 = .ok (.aload_n 0, 1) := by decide +kernel
theorem dL_law_913 : decode cL_law 913 = .ok (.iload_n 3, 1) := by decide +kernel
theorem dL_law_914 : decode cL_law 914 = .ok (.iconst 1, 1) := by decide +kernel
theorem dL_law_915 : decode cL_law 915 = .ok (.iadd, 1) := by decide +kernel
theorem dL_law_916 : decode cL_law 916 = .ok (.iaload, 1) := by decide +kernel
theorem dL_law_917 : decode cL_law 917 = .ok (.invokevirtual 124, 3) := by decide +kernel
theorem dL_law_920 : decode cL_law 920 = .ok (.if_icmp .eq 771, 3) := by decide +kernel
theorem dL_law_923 : decode cL_law 923 = .ok (.iconst 0, 1) := by decide +kernel
theorem dL_law_924 : decode cL_law 924 = .ok (.ireturn, 1) := by decide +kernel
set_option maxRecDepth 100000 in
set_option maxHeartbeats 2000000 in
theorem lc_26 {p : Program} {l : Launch} {e : Env} {s : State} {m : MethodId} {below : List Frame} {meth : Method} {c : Code} {Q : State → Prop} {g : GT} {b L i : Nat} {xs : Nat → Int32} {H : Heap} {locs : List Loc} {ls : Array Slot} {cells slots : Nat} {cs : CT} {md : SD} {mn : Nat → Int64} {mw : Int64} (X : lwX p s m meth c g b L xs) (hi : i + 6 ≤ L) (hL : L ≤ 3072) (hS : va_S (gA g) s.heap H locs) (hl : lv_has ls 4 [(0, .ref b), (1, .ref (adr g.1 7 0)), (2, .ref (adr (g.1 + 189) 8 0)), (3, .int (nI i))]) (hfl : gf g = 2) (hW : World g (cs, (md, mn, mw)) H) {q : Int32} {q' : (Int32 × SD)} (h7 : f_X7_versionCount (k_xs cs (k_st cs)) (xs (nI i + 1).toNatClampNeg) = some q) (h8 : f_X8_versionCount md (xs (nI i + 1).toNatClampNeg) = some q') (he : q = q'.1) (hc : cells + 0 ≤ 600000) (hs : slots + 0 ≤ 7302250) (K : ∀ (H1 : Heap) (locs1 : List Loc), World g (cs, (q'.2, mn, mw)) H1 → va_S (gA g) s.heap H1 locs1 → W p l e room_1 s m #[Value.ref b] below meth c H1 locs1 (cells + 0) (slots + 0) Q (F0 m 1691 ls [])) : W p l e room_1 s m #[Value.ref b] below meth c H locs cells slots Q (F0 m 902 ls []) := by
  obtain ⟨hx, hb, hml, hown, hts, hX, hbl, hbA, hK⟩ := X
  have hv1 : vp_in (nI i + 1) L := lw_in1 hi hL
  refine lv_aload_n hx hb dL_law_902 rfl (lv_at hl 1 rfl) ?_
  refine lv_aload_n hx hb dL_law_903 rfl (lv_at hl 0 rfl) ?_
  refine lv_iload_n hx hb dL_law_904 rfl (lv_at hl 3 rfl) ?_
  refine lv_iconst (v := 1) hx hb dL_law_905 (by decide) ?_
  refine lv_iadd hx hb dL_law_906 ?_
  refine va_sld hx hb hX hbl hbA hS hv1 dL_law_907 ?_
  refine x_ci (x_rV ⟨hx, hb, hml, hown, hts⟩ (ct_X7_versionCount l g (Nat.le_of_lt_succ (by rw [hfl]; decide)) cs (md, mn, mw) (xs (nI i + 1).toNatClampNeg) h7) (cwV 1 hts gL_law_X7_versionCount rfl rfl rfl (by decide +kernel) ⟨Nat.le_of_ble_eq_true rfl, Nat.le_of_ble_eq_true rfl⟩) hK hW hS (x_recv (i := g.1) (k := 7) (j := 0) hK hW ⟨⟨Nat.le_of_lt_succ (by rw [hfl]; decide), rfl⟩, by decide⟩ rfl (by decide)) rfl hl.1 (rest := []) rfl (Nat.le_of_ble_eq_true rfl) dL_law_908 ⟨hc, hs⟩) hS (fun H locs hW hS => ?_)
  have hW : World g (cs, (md, mn, mw)) H := hW
  refine lv_aload_n hx hb dL_law_911 rfl (lv_at hl 2 rfl) ?_
  refine lv_aload_n hx hb dL_law_912 rfl (lv_at hl 0 rfl) ?_
  refine lv_iload_n hx hb dL_law_913 rfl (lv_at hl 3 rfl) ?_
  refine lv_iconst (v := 1) hx hb dL_law_914 (by decide) ?_
  refine lv_iadd hx hb dL_law_915 ?_
  refine va_sld hx hb hX hbl hbA hS hv1 dL_law_916 ?_
  refine x_ci0 (x_rV ⟨hx, hb, hml, hown, hts⟩ (ct_X8_versionCount l g (Nat.le_of_eq hfl.symm) (cs, (md, mn, mw)) md mn mw (xs (nI i + 1).toNatClampNeg) h8) (cwV 1 hts gL_law_X8_versionCount rfl rfl rfl (by decide +kernel) ⟨Nat.le_of_ble_eq_true rfl, Nat.le_of_ble_eq_true rfl⟩) hK hW hS (x_recv (i := g.1 + 189) (k := 8) (j := 0) hK hW ⟨⟨Nat.le_of_eq hfl.symm, rfl⟩, by decide⟩ rfl (by decide)) rfl hl.1 (rest := [.int q]) rfl (Nat.le_of_ble_eq_true rfl) dL_law_917 ⟨hc, hs⟩) hS (fun H locs hW hS => ?_)
  have hW : World g (cs, (q'.2, mn, mw)) H := hW
  refine lv_icmp_eq (tgt := 1691) hx hb dL_law_920 (by decide) (fun _ => ?_) (fun h => absurd he h)
  exact K H locs hW hS
set_option maxRecDepth 20000 in
theorem ggL_law_X7_filePlatter : GoodIn wsL_law wsX7_filePlatter := goodIn_r _ [957, 19, 958, 564, 941, 367, 368, 18, 369, 75, 959, 960, 961, 962, 44, 45, 1587, 1588, 1589, 1590, 1591, 1592, 1593, 1594, 1595, 1665, 1666, 1667, 1668, 1669, 1670, 1671, 1632, 1633, 1634, 1635, 1636, 1637, 1638, 1639, 1640, 1641, 1642, 1643, 1644, 1645, 1646, 1647, 1648, 1649] (by decide +kernel) (by decide +kernel)
set_option maxRecDepth 20000 in
theorem gL_law_X7_filePlatter : GoodIn wsL_law (wsV RL 125 RX7 yX7_filePlatter wsX7_filePlatter) := goodIn_app (goodIn_of _ (by decide +kernel)) ggL_law_X7_filePlatter
set_option maxRecDepth 20000 in
theorem ggL_law_X8_filePlatter : GoodIn wsL_law wsX8_filePlatter := goodIn_r _ [966, 967, 968, 969, 5, 970, 124, 94, 570, 950, 951, 952, 953, 427, 428, 429, 971, 972, 973, 974, 1596, 1597, 1598, 1599, 1600, 1601, 1602, 1603, 1604, 1605, 1606, 1607, 1608, 1609, 1610, 1611, 1612, 1613, 1614, 1615, 1616, 1617, 1618, 1619, 1620, 1621, 1622] (by decide +kernel) (by decide +kernel)
set_option maxRecDepth 20000 in
theorem gL_law_X8_filePlatter : GoodIn wsL_law (wsV RL 128 RX8 yX8_filePlatter wsX8_filePlatter) := goodIn_app (goodIn_of _ (by decide +kernel)) ggL_law_X8_filePlatter
theorem dL_law_925 : decode cL_law 925 = .ok (.aload_n 1, 1) := by decide +kernel
theorem dL_law_926 : decode cL_law 926 = .ok (.aload_n 0, 1) := by decide +kernel
theorem dL_law_927 : decode cL_law 927 = .ok (.iload_n 3, 1) := by decide +kernel
theorem dL_law_928 : decode cL_law 928 = .ok (.iconst 1, 1) := by decide +kernel
theorem dL_law_929 : decode cL_law 929 = .ok (.iadd, 1) := by decide +kernel
theorem dL_law_930 : decode cL_law 930 = .ok (.iaload, 1) := by decide +kernel
theorem dL_law_931 : decode cL_law 931 = .ok (.invokevirtual 125, 3) := by decide +kernel
theorem dL_law_934 : decode cL_law 934 = .ok (.aload_n 2, 1) := by decide +kernel
theorem dL_law_935 : decode cL_law 935 = .ok (.aload_n 0, 1) := by decide +kernel
theorem dL_law_936 : decode cL_law 936 = .ok (.iload_n 3, 1) := by decide +kernel
theorem dL_law_937 : decode cL_law 937 = .ok (.iconst 1, 1) := by decide +kernel
theorem dL_law_938 : decode cL_law 938 = .ok (.iadd, 1) := by decide +kernel
theorem dL_law_939 : decode cL_law 939 = .ok (.iaload, 1) := by decide +kernel
theorem dL_law_940 : decode cL_law 940 = .ok (.invokevirtual 128, 3) := by decide +kernel
theorem dL_law_943 : decode cL_law 943 = .ok (.if_icmp .eq 748, 3) := by decide +kernel
theorem dL_law_946 : decode cL_law 946 = .ok (.iconst 0, 1) := by decide +kernel
theorem dL_law_947 : decode cL_law 947 = .ok (.ireturn, 1) := by decide +kernel
set_option maxRecDepth 100000 in
set_option maxHeartbeats 2000000 in
theorem lc_27 {p : Program} {l : Launch} {e : Env} {s : State} {m : MethodId} {below : List Frame} {meth : Method} {c : Code} {Q : State → Prop} {g : GT} {b L i : Nat} {xs : Nat → Int32} {H : Heap} {locs : List Loc} {ls : Array Slot} {cells slots : Nat} {cs : CT} {md : SD} {mn : Nat → Int64} {mw : Int64} (X : lwX p s m meth c g b L xs) (hi : i + 6 ≤ L) (hL : L ≤ 3072) (hS : va_S (gA g) s.heap H locs) (hl : lv_has ls 4 [(0, .ref b), (1, .ref (adr g.1 7 0)), (2, .ref (adr (g.1 + 189) 8 0)), (3, .int (nI i))]) (hfl : gf g = 2) (hW : World g (cs, (md, mn, mw)) H) {q : Int32} {q' : (Int32 × SD)} (h7 : f_X7_filePlatter (k_xs cs (k_st cs)) (xs (nI i + 1).toNatClampNeg) = some q) (h8 : f_X8_filePlatter md (xs (nI i + 1).toNatClampNeg) = some q') (he : q = q'.1) (hc : cells + 0 ≤ 600000) (hs : slots + 0 ≤ 7302250) (K : ∀ (H1 : Heap) (locs1 : List Loc), World g (cs, (q'.2, mn, mw)) H1 → va_S (gA g) s.heap H1 locs1 → W p l e room_1 s m #[Value.ref b] below meth c H1 locs1 (cells + 0) (slots + 0) Q (F0 m 1691 ls [])) : W p l e room_1 s m #[Value.ref b] below meth c H locs cells slots Q (F0 m 925 ls []) := by
  obtain ⟨hx, hb, hml, hown, hts, hX, hbl, hbA, hK⟩ := X
  have hv1 : vp_in (nI i + 1) L := lw_in1 hi hL
  refine lv_aload_n hx hb dL_law_925 rfl (lv_at hl 1 rfl) ?_
  refine lv_aload_n hx hb dL_law_926 rfl (lv_at hl 0 rfl) ?_
  refine lv_iload_n hx hb dL_law_927 rfl (lv_at hl 3 rfl) ?_
  refine lv_iconst (v := 1) hx hb dL_law_928 (by decide) ?_
  refine lv_iadd hx hb dL_law_929 ?_
  refine va_sld hx hb hX hbl hbA hS hv1 dL_law_930 ?_
  refine x_ci (x_rV ⟨hx, hb, hml, hown, hts⟩ (ct_X7_filePlatter l g (Nat.le_of_lt_succ (by rw [hfl]; decide)) cs (md, mn, mw) (xs (nI i + 1).toNatClampNeg) h7) (cwV 1 hts gL_law_X7_filePlatter rfl rfl rfl (by decide +kernel) ⟨Nat.le_of_ble_eq_true rfl, Nat.le_of_ble_eq_true rfl⟩) hK hW hS (x_recv (i := g.1) (k := 7) (j := 0) hK hW ⟨⟨Nat.le_of_lt_succ (by rw [hfl]; decide), rfl⟩, by decide⟩ rfl (by decide)) rfl hl.1 (rest := []) rfl (Nat.le_of_ble_eq_true rfl) dL_law_931 ⟨hc, hs⟩) hS (fun H locs hW hS => ?_)
  have hW : World g (cs, (md, mn, mw)) H := hW
  refine lv_aload_n hx hb dL_law_934 rfl (lv_at hl 2 rfl) ?_
  refine lv_aload_n hx hb dL_law_935 rfl (lv_at hl 0 rfl) ?_
  refine lv_iload_n hx hb dL_law_936 rfl (lv_at hl 3 rfl) ?_
  refine lv_iconst (v := 1) hx hb dL_law_937 (by decide) ?_
  refine lv_iadd hx hb dL_law_938 ?_
  refine va_sld hx hb hX hbl hbA hS hv1 dL_law_939 ?_
  refine x_ci0 (x_rV ⟨hx, hb, hml, hown, hts⟩ (ct_X8_filePlatter l g (Nat.le_of_eq hfl.symm) (cs, (md, mn, mw)) md mn mw (xs (nI i + 1).toNatClampNeg) h8) (cwV 1 hts gL_law_X8_filePlatter rfl rfl rfl (by decide +kernel) ⟨Nat.le_of_ble_eq_true rfl, Nat.le_of_ble_eq_true rfl⟩) hK hW hS (x_recv (i := g.1 + 189) (k := 8) (j := 0) hK hW ⟨⟨Nat.le_of_eq hfl.symm, rfl⟩, by decide⟩ rfl (by decide)) rfl hl.1 (rest := [.int q]) rfl (Nat.le_of_ble_eq_true rfl) dL_law_940 ⟨hc, hs⟩) hS (fun H locs hW hS => ?_)
  have hW : World g (cs, (q'.2, mn, mw)) H := hW
  refine lv_icmp_eq (tgt := 1691) hx hb dL_law_943 (by decide) (fun _ => ?_) (fun h => absurd he h)
  exact K H locs hW hS
set_option maxRecDepth 20000 in
theorem ggL_law_X7_fileStart : GoodIn wsL_law wsX7_fileStart := goodIn_r _ [978, 19, 979, 564, 941, 367, 368, 18, 369, 75, 959, 960, 961, 962, 44, 45, 1587, 1588, 1589, 1590, 1591, 1592, 1593, 1594, 1595, 1665, 1666, 1667, 1668, 1669, 1670, 1671, 1632, 1633, 1634, 1635, 1636, 1637, 1638, 1639, 1640, 1641, 1642, 1643, 1644, 1645, 1646, 1647, 1648, 1649] (by decide +kernel) (by decide +kernel)
set_option maxRecDepth 20000 in
theorem gL_law_X7_fileStart : GoodIn wsL_law (wsV RL 129 RX7 yX7_fileStart wsX7_fileStart) := goodIn_app (goodIn_of _ (by decide +kernel)) ggL_law_X7_fileStart
set_option maxRecDepth 20000 in
theorem ggL_law_X8_fileStart : GoodIn wsL_law wsX8_fileStart := goodIn_r _ [983, 967, 968, 969, 5, 970, 124, 94, 570, 950, 951, 952, 953, 427, 428, 429, 971, 972, 973, 974, 1596, 1597, 1598, 1599, 1600, 1601, 1602, 1603, 1604, 1605, 1606, 1607, 1608, 1609, 1610, 1611, 1612, 1613, 1614, 1615, 1616, 1617, 1618, 1619, 1620, 1621, 1622] (by decide +kernel) (by decide +kernel)
set_option maxRecDepth 20000 in
theorem gL_law_X8_fileStart : GoodIn wsL_law (wsV RL 132 RX8 yX8_fileStart wsX8_fileStart) := goodIn_app (goodIn_of _ (by decide +kernel)) ggL_law_X8_fileStart
theorem dL_law_948 : decode cL_law 948 = .ok (.aload_n 1, 1) := by decide +kernel
theorem dL_law_949 : decode cL_law 949 = .ok (.aload_n 0, 1) := by decide +kernel
theorem dL_law_950 : decode cL_law 950 = .ok (.iload_n 3, 1) := by decide +kernel
theorem dL_law_951 : decode cL_law 951 = .ok (.iconst 1, 1) := by decide +kernel
theorem dL_law_952 : decode cL_law 952 = .ok (.iadd, 1) := by decide +kernel
theorem dL_law_953 : decode cL_law 953 = .ok (.iaload, 1) := by decide +kernel
theorem dL_law_954 : decode cL_law 954 = .ok (.invokevirtual 129, 3) := by decide +kernel
theorem dL_law_957 : decode cL_law 957 = .ok (.aload_n 2, 1) := by decide +kernel
theorem dL_law_958 : decode cL_law 958 = .ok (.aload_n 0, 1) := by decide +kernel
theorem dL_law_959 : decode cL_law 959 = .ok (.iload_n 3, 1) := by decide +kernel
theorem dL_law_960 : decode cL_law 960 = .ok (.iconst 1, 1) := by decide +kernel
theorem dL_law_961 : decode cL_law 961 = .ok (.iadd, 1) := by decide +kernel
theorem dL_law_962 : decode cL_law 962 = .ok (.iaload, 1) := by decide +kernel
theorem dL_law_963 : decode cL_law 963 = .ok (.invokevirtual 132, 3) := by decide +kernel
theorem dL_law_966 : decode cL_law 966 = .ok (.if_icmp .eq 725, 3) := by decide +kernel
theorem dL_law_969 : decode cL_law 969 = .ok (.iconst 0, 1) := by decide +kernel
theorem dL_law_970 : decode cL_law 970 = .ok (.ireturn, 1) := by decide +kernel
set_option maxRecDepth 100000 in
set_option maxHeartbeats 2000000 in
theorem lc_28 {p : Program} {l : Launch} {e : Env} {s : State} {m : MethodId} {below : List Frame} {meth : Method} {c : Code} {Q : State → Prop} {g : GT} {b L i : Nat} {xs : Nat → Int32} {H : Heap} {locs : List Loc} {ls : Array Slot} {cells slots : Nat} {cs : CT} {md : SD} {mn : Nat → Int64} {mw : Int64} (X : lwX p s m meth c g b L xs) (hi : i + 6 ≤ L) (hL : L ≤ 3072) (hS : va_S (gA g) s.heap H locs) (hl : lv_has ls 4 [(0, .ref b), (1, .ref (adr g.1 7 0)), (2, .ref (adr (g.1 + 189) 8 0)), (3, .int (nI i))]) (hfl : gf g = 2) (hW : World g (cs, (md, mn, mw)) H) {q : Int32} {q' : (Int32 × SD)} (h7 : f_X7_fileStart (k_xs cs (k_st cs)) (xs (nI i + 1).toNatClampNeg) = some q) (h8 : f_X8_fileStart md (xs (nI i + 1).toNatClampNeg) = some q') (he : q = q'.1) (hc : cells + 0 ≤ 600000) (hs : slots + 0 ≤ 7302250) (K : ∀ (H1 : Heap) (locs1 : List Loc), World g (cs, (q'.2, mn, mw)) H1 → va_S (gA g) s.heap H1 locs1 → W p l e room_1 s m #[Value.ref b] below meth c H1 locs1 (cells + 0) (slots + 0) Q (F0 m 1691 ls [])) : W p l e room_1 s m #[Value.ref b] below meth c H locs cells slots Q (F0 m 948 ls []) := by
  obtain ⟨hx, hb, hml, hown, hts, hX, hbl, hbA, hK⟩ := X
  have hv1 : vp_in (nI i + 1) L := lw_in1 hi hL
  refine lv_aload_n hx hb dL_law_948 rfl (lv_at hl 1 rfl) ?_
  refine lv_aload_n hx hb dL_law_949 rfl (lv_at hl 0 rfl) ?_
  refine lv_iload_n hx hb dL_law_950 rfl (lv_at hl 3 rfl) ?_
  refine lv_iconst (v := 1) hx hb dL_law_951 (by decide) ?_
  refine lv_iadd hx hb dL_law_952 ?_
  refine va_sld hx hb hX hbl hbA hS hv1 dL_law_953 ?_
  refine x_ci (x_rV ⟨hx, hb, hml, hown, hts⟩ (ct_X7_fileStart l g (Nat.le_of_lt_succ (by rw [hfl]; decide)) cs (md, mn, mw) (xs (nI i + 1).toNatClampNeg) h7) (cwV 1 hts gL_law_X7_fileStart rfl rfl rfl (by decide +kernel) ⟨Nat.le_of_ble_eq_true rfl, Nat.le_of_ble_eq_true rfl⟩) hK hW hS (x_recv (i := g.1) (k := 7) (j := 0) hK hW ⟨⟨Nat.le_of_lt_succ (by rw [hfl]; decide), rfl⟩, by decide⟩ rfl (by decide)) rfl hl.1 (rest := []) rfl (Nat.le_of_ble_eq_true rfl) dL_law_954 ⟨hc, hs⟩) hS (fun H locs hW hS => ?_)
  have hW : World g (cs, (md, mn, mw)) H := hW
  refine lv_aload_n hx hb dL_law_957 rfl (lv_at hl 2 rfl) ?_
  refine lv_aload_n hx hb dL_law_958 rfl (lv_at hl 0 rfl) ?_
  refine lv_iload_n hx hb dL_law_959 rfl (lv_at hl 3 rfl) ?_
  refine lv_iconst (v := 1) hx hb dL_law_960 (by decide) ?_
  refine lv_iadd hx hb dL_law_961 ?_
  refine va_sld hx hb hX hbl hbA hS hv1 dL_law_962 ?_
  refine x_ci0 (x_rV ⟨hx, hb, hml, hown, hts⟩ (ct_X8_fileStart l g (Nat.le_of_eq hfl.symm) (cs, (md, mn, mw)) md mn mw (xs (nI i + 1).toNatClampNeg) h8) (cwV 1 hts gL_law_X8_fileStart rfl rfl rfl (by decide +kernel) ⟨Nat.le_of_ble_eq_true rfl, Nat.le_of_ble_eq_true rfl⟩) hK hW hS (x_recv (i := g.1 + 189) (k := 8) (j := 0) hK hW ⟨⟨Nat.le_of_eq hfl.symm, rfl⟩, by decide⟩ rfl (by decide)) rfl hl.1 (rest := [.int q]) rfl (Nat.le_of_ble_eq_true rfl) dL_law_963 ⟨hc, hs⟩) hS (fun H locs hW hS => ?_)
  have hW : World g (cs, (q'.2, mn, mw)) H := hW
  refine lv_icmp_eq (tgt := 1691) hx hb dL_law_966 (by decide) (fun _ => ?_) (fun h => absurd he h)
  exact K H locs hW hS
set_option maxRecDepth 20000 in
theorem ggL_law_X7_fileSize : GoodIn wsL_law wsX7_fileSize := goodIn_r _ [987, 19, 988, 564, 941, 367, 368, 18, 369, 75, 959, 960, 961, 962, 44, 45, 1587, 1588, 1589, 1590, 1591, 1592, 1593, 1594, 1595, 1665, 1666, 1667, 1668, 1669, 1670, 1671, 1632, 1633, 1634, 1635, 1636, 1637, 1638, 1639, 1640, 1641, 1642, 1643, 1644, 1645, 1646, 1647, 1648, 1649] (by decide +kernel) (by decide +kernel)
set_option maxRecDepth 20000 in
theorem gL_law_X7_fileSize : GoodIn wsL_law (wsV RL 133 RX7 yX7_fileSize wsX7_fileSize) := goodIn_app (goodIn_of _ (by decide +kernel)) ggL_law_X7_fileSize
set_option maxRecDepth 20000 in
theorem ggL_law_X8_fileSize : GoodIn wsL_law wsX8_fileSize := goodIn_r _ [992, 967, 968, 969, 5, 970, 124, 94, 570, 950, 951, 952, 953, 427, 428, 429, 971, 972, 973, 974, 1596, 1597, 1598, 1599, 1600, 1601, 1602, 1603, 1604, 1605, 1606, 1607, 1608, 1609, 1610, 1611, 1612, 1613, 1614, 1615, 1616, 1617, 1618, 1619, 1620, 1621, 1622] (by decide +kernel) (by decide +kernel)
set_option maxRecDepth 20000 in
theorem gL_law_X8_fileSize : GoodIn wsL_law (wsV RL 136 RX8 yX8_fileSize wsX8_fileSize) := goodIn_app (goodIn_of _ (by decide +kernel)) ggL_law_X8_fileSize
theorem dL_law_971 : decode cL_law 971 = .ok (.aload_n 1, 1) := by decide +kernel
theorem dL_law_972 : decode cL_law 972 = .ok (.aload_n 0, 1) := by decide +kernel
theorem dL_law_973 : decode cL_law 973 = .ok (.iload_n 3, 1) := by decide +kernel
theorem dL_law_974 : decode cL_law 974 = .ok (.iconst 1, 1) := by decide +kernel
theorem dL_law_975 : decode cL_law 975 = .ok (.iadd, 1) := by decide +kernel
theorem dL_law_976 : decode cL_law 976 = .ok (.iaload, 1) := by decide +kernel
theorem dL_law_977 : decode cL_law 977 = .ok (.invokevirtual 133, 3) := by decide +kernel
theorem dL_law_980 : decode cL_law 980 = .ok (.aload_n 2, 1) := by decide +kernel
theorem dL_law_981 : decode cL_law 981 = .ok (.aload_n 0, 1) := by decide +kernel
theorem dL_law_982 : decode cL_law 982 = .ok (.iload_n 3, 1) := by decide +kernel
theorem dL_law_983 : decode cL_law 983 = .ok (.iconst 1, 1) := by decide +kernel
theorem dL_law_984 : decode cL_law 984 = .ok (.iadd, 1) := by decide +kernel
theorem dL_law_985 : decode cL_law 985 = .ok (.iaload, 1) := by decide +kernel
theorem dL_law_986 : decode cL_law 986 = .ok (.invokevirtual 136, 3) := by decide +kernel
theorem dL_law_989 : decode cL_law 989 = .ok (.if_icmp .eq 702, 3) := by decide +kernel
theorem dL_law_992 : decode cL_law 992 = .ok (.iconst 0, 1) := by decide +kernel
theorem dL_law_993 : decode cL_law 993 = .ok (.ireturn, 1) := by decide +kernel
set_option maxRecDepth 100000 in
set_option maxHeartbeats 2000000 in
theorem lc_29 {p : Program} {l : Launch} {e : Env} {s : State} {m : MethodId} {below : List Frame} {meth : Method} {c : Code} {Q : State → Prop} {g : GT} {b L i : Nat} {xs : Nat → Int32} {H : Heap} {locs : List Loc} {ls : Array Slot} {cells slots : Nat} {cs : CT} {md : SD} {mn : Nat → Int64} {mw : Int64} (X : lwX p s m meth c g b L xs) (hi : i + 6 ≤ L) (hL : L ≤ 3072) (hS : va_S (gA g) s.heap H locs) (hl : lv_has ls 4 [(0, .ref b), (1, .ref (adr g.1 7 0)), (2, .ref (adr (g.1 + 189) 8 0)), (3, .int (nI i))]) (hfl : gf g = 2) (hW : World g (cs, (md, mn, mw)) H) {q : Int32} {q' : (Int32 × SD)} (h7 : f_X7_fileSize (k_xs cs (k_st cs)) (xs (nI i + 1).toNatClampNeg) = some q) (h8 : f_X8_fileSize md (xs (nI i + 1).toNatClampNeg) = some q') (he : q = q'.1) (hc : cells + 0 ≤ 600000) (hs : slots + 0 ≤ 7302250) (K : ∀ (H1 : Heap) (locs1 : List Loc), World g (cs, (q'.2, mn, mw)) H1 → va_S (gA g) s.heap H1 locs1 → W p l e room_1 s m #[Value.ref b] below meth c H1 locs1 (cells + 0) (slots + 0) Q (F0 m 1691 ls [])) : W p l e room_1 s m #[Value.ref b] below meth c H locs cells slots Q (F0 m 971 ls []) := by
  obtain ⟨hx, hb, hml, hown, hts, hX, hbl, hbA, hK⟩ := X
  have hv1 : vp_in (nI i + 1) L := lw_in1 hi hL
  refine lv_aload_n hx hb dL_law_971 rfl (lv_at hl 1 rfl) ?_
  refine lv_aload_n hx hb dL_law_972 rfl (lv_at hl 0 rfl) ?_
  refine lv_iload_n hx hb dL_law_973 rfl (lv_at hl 3 rfl) ?_
  refine lv_iconst (v := 1) hx hb dL_law_974 (by decide) ?_
  refine lv_iadd hx hb dL_law_975 ?_
  refine va_sld hx hb hX hbl hbA hS hv1 dL_law_976 ?_
  refine x_ci (x_rV ⟨hx, hb, hml, hown, hts⟩ (ct_X7_fileSize l g (Nat.le_of_lt_succ (by rw [hfl]; decide)) cs (md, mn, mw) (xs (nI i + 1).toNatClampNeg) h7) (cwV 1 hts gL_law_X7_fileSize rfl rfl rfl (by decide +kernel) ⟨Nat.le_of_ble_eq_true rfl, Nat.le_of_ble_eq_true rfl⟩) hK hW hS (x_recv (i := g.1) (k := 7) (j := 0) hK hW ⟨⟨Nat.le_of_lt_succ (by rw [hfl]; decide), rfl⟩, by decide⟩ rfl (by decide)) rfl hl.1 (rest := []) rfl (Nat.le_of_ble_eq_true rfl) dL_law_977 ⟨hc, hs⟩) hS (fun H locs hW hS => ?_)
  have hW : World g (cs, (md, mn, mw)) H := hW
  refine lv_aload_n hx hb dL_law_980 rfl (lv_at hl 2 rfl) ?_
  refine lv_aload_n hx hb dL_law_981 rfl (lv_at hl 0 rfl) ?_
  refine lv_iload_n hx hb dL_law_982 rfl (lv_at hl 3 rfl) ?_
  refine lv_iconst (v := 1) hx hb dL_law_983 (by decide) ?_
  refine lv_iadd hx hb dL_law_984 ?_
  refine va_sld hx hb hX hbl hbA hS hv1 dL_law_985 ?_
  refine x_ci0 (x_rV ⟨hx, hb, hml, hown, hts⟩ (ct_X8_fileSize l g (Nat.le_of_eq hfl.symm) (cs, (md, mn, mw)) md mn mw (xs (nI i + 1).toNatClampNeg) h8) (cwV 1 hts gL_law_X8_fileSize rfl rfl rfl (by decide +kernel) ⟨Nat.le_of_ble_eq_true rfl, Nat.le_of_ble_eq_true rfl⟩) hK hW hS (x_recv (i := g.1 + 189) (k := 8) (j := 0) hK hW ⟨⟨Nat.le_of_eq hfl.symm, rfl⟩, by decide⟩ rfl (by decide)) rfl hl.1 (rest := [.int q]) rfl (Nat.le_of_ble_eq_true rfl) dL_law_986 ⟨hc, hs⟩) hS (fun H locs hW hS => ?_)
  have hW : World g (cs, (q'.2, mn, mw)) H := hW
  refine lv_icmp_eq (tgt := 1691) hx hb dL_law_989 (by decide) (fun _ => ?_) (fun h => absurd he h)
  exact K H locs hW hS
