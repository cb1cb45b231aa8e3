/-! the law: what stands all along -/
def lwX (p : Program) (s : State) (m : MethodId) (meth : Method) (c : Code) (g : GT) (b L : Nat) (xs : Nat → Int32) : Prop := p.tables.exec = Jvm.exec ∧ c.code = code ∧ c.maxLocals = 4 ∧ s.vm.findClass RL = some m.cls ∧ (∀ w ∈ wsL_law, w.before #[Value.ref b] s = true) ∧ va_X b L xs s s.heap ∧ b < s.heap.size ∧ ¬ gA g b ∧ wK g s
theorem lw_in0 {i L : Nat} (hi : i + 6 ≤ L) (hL : L ≤ 3072) : vp_in (nI i + 0) L := by
  show vp_in (nI i + nI 0) L
  rw [nI_add]
  exact vp_in_nI (by omega) (by omega)
theorem lw_in1 {i L : Nat} (hi : i + 6 ≤ L) (hL : L ≤ 3072) : vp_in (nI i + 1) L := by
  show vp_in (nI i + nI 1) L
  rw [nI_add]
  exact vp_in_nI (by omega) (by omega)
theorem lw_in2 {i L : Nat} (hi : i + 6 ≤ L) (hL : L ≤ 3072) : vp_in (nI i + 2) L := by
  show vp_in (nI i + nI 2) L
  rw [nI_add]
  exact vp_in_nI (by omega) (by omega)
theorem lw_in3 {i L : Nat} (hi : i + 6 ≤ L) (hL : L ≤ 3072) : vp_in (nI i + 3) L := by
  show vp_in (nI i + nI 3) L
  rw [nI_add]
  exact vp_in_nI (by omega) (by omega)
theorem lw_in4 {i L : Nat} (hi : i + 6 ≤ L) (hL : L ≤ 3072) : vp_in (nI i + 4) L := by
  show vp_in (nI i + nI 4) L
  rw [nI_add]
  exact vp_in_nI (by omega) (by omega)
theorem lw_in5 {i L : Nat} (hi : i + 6 ≤ L) (hL : L ≤ 3072) : vp_in (nI i + 5) L := by
  show vp_in (nI i + nI 5) L
  rw [nI_add]
  exact vp_in_nI (by omega) (by omega)
set_option maxRecDepth 20000 in
theorem ggL_law_X7_feed : GoodIn wsL_law wsX7_feed := goodIn_r _ [112, 15, 113, 114, 115, 116, 117, 14, 118, 119, 30, 1587, 1588, 1589, 1590, 1591, 1592, 1593, 1594, 1595, 1623, 1624, 1625, 1626, 1627, 1628, 1629, 1630, 1631] (by decide +kernel) (by decide +kernel)
set_option maxRecDepth 20000 in
theorem gL_law_X7_feed : GoodIn wsL_law (wsV RL 13 RX7 yX7_feed wsX7_feed) := goodIn_app (goodIn_of _ (by decide +kernel)) ggL_law_X7_feed
set_option maxRecDepth 20000 in
theorem ggL_law_X8_feed : GoodIn wsL_law wsX8_feed := goodIn_r _ [123, 124, 125, 126, 127, 128, 129, 5, 130, 102, 1596, 1597, 1598, 1599, 1600, 1601, 1602, 1603, 1604, 1605, 1606, 1607, 1608, 1609, 1610, 1611, 1612, 1613, 1614, 1615, 1616, 1617, 1618, 1619, 1620, 1621, 1622] (by decide +kernel) (by decide +kernel)
set_option maxRecDepth 20000 in
theorem gL_law_X8_feed : GoodIn wsL_law (wsV RL 17 RX8 yX8_feed wsX8_feed) := goodIn_app (goodIn_of _ (by decide +kernel)) ggL_law_X8_feed
theorem dL_law_284 : decode cL_law 284 = .ok (.aload_n 1, 1) := by decide +kernel
theorem dL_law_285 : decode cL_law 285 = .ok (.aload_n 0, 1) := by decide +kernel
theorem dL_law_286 : decode cL_law 286 = .ok (.iload_n 3, 1) := by decide +kernel
theorem dL_law_287 : decode cL_law 287 = .ok (.iconst 1, 1) := by decide +kernel
theorem dL_law_288 : decode cL_law 288 = .ok (.iadd, 1) := by decide +kernel
theorem dL_law_289 : decode cL_law 289 = .ok (.iaload, 1) := by decide +kernel
theorem dL_law_290 : decode cL_law 290 = .ok (.aload_n 0, 1) := by decide +kernel
theorem dL_law_291 : decode cL_law 291 = .ok (.iload_n 3, 1) := by decide +kernel
theorem dL_law_292 : decode cL_law 292 = .ok (.iconst 2, 1) := by decide +kernel
theorem dL_law_293 : decode cL_law 293 = .ok (.iadd, 1) := by decide +kernel
theorem dL_law_294 : decode cL_law 294 = .ok (.iaload, 1) := by decide +kernel
theorem dL_law_295 : decode cL_law 295 = .ok (.aload_n 0, 1) := by decide +kernel
theorem dL_law_296 : decode cL_law 296 = .ok (.iload_n 3, 1) := by decide +kernel
theorem dL_law_297 : decode cL_law 297 = .ok (.iconst 3, 1) := by decide +kernel
theorem dL_law_298 : decode cL_law 298 = .ok (.iadd, 1) := by decide +kernel
theorem dL_law_299 : decode cL_law 299 = .ok (.iaload, 1) := by decide +kernel
theorem dL_law_300 : decode cL_law 300 = .ok (.aload_n 0, 1) := by decide +kernel
theorem dL_law_301 : decode cL_law 301 = .ok (.iload_n 3, 1) := by decide +kernel
theorem dL_law_302 : decode cL_law 302 = .ok (.iconst 4, 1) := by decide +kernel
theorem dL_law_303 : decode cL_law 303 = .ok (.iadd, 1) := by decide +kernel
theorem dL_law_304 : decode cL_law 304 = .ok (.iaload, 1) := by decide +kernel
theorem dL_law_305 : decode cL_law 305 = .ok (.aload_n 0, 1) := by decide +kernel
theorem dL_law_306 : decode cL_law 306 = .ok (.iload_n 3, 1) := by decide +kernel
theorem dL_law_307 : decode cL_law 307 = .ok (.iconst 5, 1) := by decide +kernel
theorem dL_law_308 : decode cL_law 308 = .ok (.iadd, 1) := by decide +kernel
theorem dL_law_309 : decode cL_law 309 = .ok (.iaload, 1) := by decide +kernel
theorem dL_law_310 : decode cL_law 310 = .ok (.invokevirtual 13, 3) := by decide +kernel
theorem dL_law_313 : decode cL_law 313 = .ok (.aload_n 2, 1) := by decide +kernel
theorem dL_law_314 : decode cL_law 314 = .ok (.aload_n 0, 1) := by decide +kernel
theorem dL_law_315 : decode cL_law 315 = .ok (.iload_n 3, 1) := by decide +kernel
theorem dL_law_316 : decode cL_law 316 = .ok (.iconst 1, 1) := by decide +kernel
theorem dL_law_317 : decode cL_law 317 = .ok (.iadd, 1) := by decide +kernel
theorem dL_law_318 : decode cL_law 318 = .ok (.iaload, 1) := by decide +kernel
theorem dL_law_319 : decode cL_law 319 = .ok (.aload_n 0, 1) := by decide +kernel
theorem dL_law_320 : decode cL_law 320 = .ok (.iload_n 3, 1) := by decide +kernel
theorem dL_law_321 : decode cL_law 321 = .ok (.iconst 2, 1) := by decide +kernel
theorem dL_law_322 : decode cL_law 322 = .ok (.iadd, 1) := by decide +kernel
theorem dL_law_323 : decode cL_law 323 = .ok (.iaload, 1) := by decide +kernel
theorem dL_law_324 : decode cL_law 324 = .ok (.aload_n 0, 1) := by decide +kernel
theorem dL_law_325 : decode cL_law 325 = .ok (.iload_n 3, 1) := by decide +kernel
theorem dL_law_326 : decode cL_law 326 = .ok (.iconst 3, 1) := by decide +kernel
theorem dL_law_327 : decode cL_law 327 = .ok (.iadd, 1) := by decide +kernel
theorem dL_law_328 : decode cL_law 328 = .ok (.iaload, 1) := by decide +kernel
theorem dL_law_329 : decode cL_law 329 = .ok (.aload_n 0, 1) := by decide +kernel
theorem dL_law_330 : decode cL_law 330 = .ok (.iload_n 3, 1) := by decide +kernel
theorem dL_law_331 : decode cL_law 331 = .ok (.iconst 4, 1) := by decide +kernel
theorem dL_law_332 : decode cL_law 332 = .ok (.iadd, 1) := by decide +kernel
theorem dL_law_333 : decode cL_law 333 = .ok (.iaload, 1) := by decide +kernel
theorem dL_law_334 : decode cL_law 334 = .ok (.aload_n 0, 1) := by decide +kernel
theorem dL_law_335 : decode cL_law 335 = .ok (.iload_n 3, 1) := by decide +kernel
theorem dL_law_336 : decode cL_law 336 = .ok (.iconst 5, 1) := by decide +kernel
theorem dL_law_337 : decode cL_law 337 = .ok (.iadd, 1) := by decide +kernel
theorem dL_law_338 : decode cL_law 338 = .ok (.iaload, 1) := by decide +kernel
theorem dL_law_339 : decode cL_law 339 = .ok (.invokevirtual 17, 3) := by decide +kernel
theorem dL_law_342 : decode cL_law 342 = .ok (.if_icmp .eq 1349, 3) := by decide +kernel
theorem dL_law_345 : decode cL_law 345 = .ok (.iconst 0, 1) := by decide +kernel
theorem dL_law_346 : decode cL_law 346 = .ok (.ireturn, 1) := by decide +kernel
set_option maxRecDepth 100000 in
set_option maxHeartbeats 2000000 in
theorem lc_0 {p : Program} {l : Launch} {e : Env} {s : State} {m : MethodId} {below : List Frame} {meth : Method} {c : Code} {Q : State → Prop} {g : GT} {b L i : Nat} {xs : Nat → Int32} {H : Heap} {locs : List Loc} {ls : Array Slot} {cells slots : Nat} {cs : CT} {md : SD} {mn : Nat → Int64} {mw : Int64} (X : lwX p s m meth c g b L xs) (hi : i + 6 ≤ L) (hL : L ≤ 3072) (hS : va_S (gA g) s.heap H locs) (hl : lv_has ls 4 [(0, .ref b), (1, .ref (adr g.1 7 0)), (2, .ref (adr (g.1 + 189) 8 0)), (3, .int (nI i))]) (hfl : gf g = 2) (hW : World g (cs, (md, mn, mw)) H) {q : (Int32 × SD)} {q' : (Int32 × SD)} (h7 : f_X7_feed (k_rd cs) (xs (nI i + 1).toNatClampNeg) (xs (nI i + 2).toNatClampNeg) (xs (nI i + 3).toNatClampNeg) (xs (nI i + 4).toNatClampNeg) (xs (nI i + 5).toNatClampNeg) = some q) (h8 : f_X8_feed md (xs (nI i + 1).toNatClampNeg) (xs (nI i + 2).toNatClampNeg) (xs (nI i + 3).toNatClampNeg) (xs (nI i + 4).toNatClampNeg) (xs (nI i + 5).toNatClampNeg) = some q') (he : q.1 = q'.1) (hc : cells + 0 ≤ 600000) (hs : slots + 0 ≤ 7302250) (K : ∀ (H1 : Heap) (locs1 : List Loc), World g ((kR cs q.2 (k_rn cs)), (q'.2, mn, mw)) H1 → va_S (gA g) s.heap H1 locs1 → W p l e room_1 s m #[Value.ref b] below meth c H1 locs1 (cells + 0) (slots + 0) Q (F0 m 1691 ls [])) : W p l e room_1 s m #[Value.ref b] below meth c H locs cells slots Q (F0 m 284 ls []) := by
  obtain ⟨hx, hb, hml, hown, hts, hX, hbl, hbA, hK⟩ := X
  have hv1 : vp_in (nI i + 1) L := lw_in1 hi hL
  have hv2 : vp_in (nI i + 2) L := lw_in2 hi hL
  have hv3 : vp_in (nI i + 3) L := lw_in3 hi hL
  have hv4 : vp_in (nI i + 4) L := lw_in4 hi hL
  have hv5 : vp_in (nI i + 5) L := lw_in5 hi hL
  refine lv_aload_n hx hb dL_law_284 rfl (lv_at hl 1 rfl) ?_
  refine lv_aload_n hx hb dL_law_285 rfl (lv_at hl 0 rfl) ?_
  refine lv_iload_n hx hb dL_law_286 rfl (lv_at hl 3 rfl) ?_
  refine lv_iconst (v := 1) hx hb dL_law_287 (by decide) ?_
  refine lv_iadd hx hb dL_law_288 ?_
  refine va_sld hx hb hX hbl hbA hS hv1 dL_law_289 ?_
  refine lv_aload_n hx hb dL_law_290 rfl (lv_at hl 0 rfl) ?_
  refine lv_iload_n hx hb dL_law_291 rfl (lv_at hl 3 rfl) ?_
  refine lv_iconst (v := 2) hx hb dL_law_292 (by decide) ?_
  refine lv_iadd hx hb dL_law_293 ?_
  refine va_sld hx hb hX hbl hbA hS hv2 dL_law_294 ?_
  refine lv_aload_n hx hb dL_law_295 rfl (lv_at hl 0 rfl) ?_
  refine lv_iload_n hx hb dL_law_296 rfl (lv_at hl 3 rfl) ?_
  refine lv_iconst (v := 3) hx hb dL_law_297 (by decide) ?_
  refine lv_iadd hx hb dL_law_298 ?_
  refine va_sld hx hb hX hbl hbA hS hv3 dL_law_299 ?_
  refine lv_aload_n hx hb dL_law_300 rfl (lv_at hl 0 rfl) ?_
  refine lv_iload_n hx hb dL_law_301 rfl (lv_at hl 3 rfl) ?_
  refine lv_iconst (v := 4) hx hb dL_law_302 (by decide) ?_
  refine lv_iadd hx hb dL_law_303 ?_
  refine va_sld hx hb hX hbl hbA hS hv4 dL_law_304 ?_
  refine lv_aload_n hx hb dL_law_305 rfl (lv_at hl 0 rfl) ?_
  refine lv_iload_n hx hb dL_law_306 rfl (lv_at hl 3 rfl) ?_
  refine lv_iconst (v := 5) hx hb dL_law_307 (by decide) ?_
  refine lv_iadd hx hb dL_law_308 ?_
  refine va_sld hx hb hX hbl hbA hS hv5 dL_law_309 ?_
  refine x_ci (x_rV ⟨hx, hb, hml, hown, hts⟩ (ct_X7_feed l g (Nat.le_of_lt_succ (by rw [hfl]; decide)) cs (md, mn, mw) (xs (nI i + 1).toNatClampNeg) (xs (nI i + 2).toNatClampNeg) (xs (nI i + 3).toNatClampNeg) (xs (nI i + 4).toNatClampNeg) (xs (nI i + 5).toNatClampNeg) h7) (cwV 5 hts gL_law_X7_feed rfl rfl rfl (by decide +kernel) ⟨Nat.le_of_ble_eq_true rfl, Nat.le_of_ble_eq_true rfl⟩) hK hW hS (x_recv (i := g.1) (k := 7) (j := 0) hK hW ⟨⟨Nat.le_of_lt_succ (by rw [hfl]; decide), rfl⟩, by decide⟩ rfl (by decide)) rfl hl.1 (rest := []) rfl (Nat.le_of_ble_eq_true rfl) dL_law_310 ⟨hc, hs⟩) hS (fun H locs hW hS => ?_)
  have hW : World g ((kR cs q.2 (k_rn cs)), (md, mn, mw)) H := hW
  refine lv_aload_n hx hb dL_law_313 rfl (lv_at hl 2 rfl) ?_
  refine lv_aload_n hx hb dL_law_314 rfl (lv_at hl 0 rfl) ?_
  refine lv_iload_n hx hb dL_law_315 rfl (lv_at hl 3 rfl) ?_
  refine lv_iconst (v := 1) hx hb dL_law_316 (by decide) ?_
  refine lv_iadd hx hb dL_law_317 ?_
  refine va_sld hx hb hX hbl hbA hS hv1 dL_law_318 ?_
  refine lv_aload_n hx hb dL_law_319 rfl (lv_at hl 0 rfl) ?_
  refine lv_iload_n hx hb dL_law_320 rfl (lv_at hl 3 rfl) ?_
  refine lv_iconst (v := 2) hx hb dL_law_321 (by decide) ?_
  refine lv_iadd hx hb dL_law_322 ?_
  refine va_sld hx hb hX hbl hbA hS hv2 dL_law_323 ?_
  refine lv_aload_n hx hb dL_law_324 rfl (lv_at hl 0 rfl) ?_
  refine lv_iload_n hx hb dL_law_325 rfl (lv_at hl 3 rfl) ?_
  refine lv_iconst (v := 3) hx hb dL_law_326 (by decide) ?_
  refine lv_iadd hx hb dL_law_327 ?_
  refine va_sld hx hb hX hbl hbA hS hv3 dL_law_328 ?_
  refine lv_aload_n hx hb dL_law_329 rfl (lv_at hl 0 rfl) ?_
  refine lv_iload_n hx hb dL_law_330 rfl (lv_at hl 3 rfl) ?_
  refine lv_iconst (v := 4) hx hb dL_law_331 (by decide) ?_
  refine lv_iadd hx hb dL_law_332 ?_
  refine va_sld hx hb hX hbl hbA hS hv4 dL_law_333 ?_
  refine lv_aload_n hx hb dL_law_334 rfl (lv_at hl 0 rfl) ?_
  refine lv_iload_n hx hb dL_law_335 rfl (lv_at hl 3 rfl) ?_
  refine lv_iconst (v := 5) hx hb dL_law_336 (by decide) ?_
  refine lv_iadd hx hb dL_law_337 ?_
  refine va_sld hx hb hX hbl hbA hS hv5 dL_law_338 ?_
  refine x_ci0 (x_rV ⟨hx, hb, hml, hown, hts⟩ (ct_X8_feed l g (Nat.le_of_eq hfl.symm) ((kR cs q.2 (k_rn cs)), (md, mn, mw)) md mn mw (xs (nI i + 1).toNatClampNeg) (xs (nI i + 2).toNatClampNeg) (xs (nI i + 3).toNatClampNeg) (xs (nI i + 4).toNatClampNeg) (xs (nI i + 5).toNatClampNeg) h8) (cwV 5 hts gL_law_X8_feed rfl rfl rfl (by decide +kernel) ⟨Nat.le_of_ble_eq_true rfl, Nat.le_of_ble_eq_true rfl⟩) hK hW hS (x_recv (i := g.1 + 189) (k := 8) (j := 0) hK hW ⟨⟨Nat.le_of_eq hfl.symm, rfl⟩, by decide⟩ rfl (by decide)) rfl hl.1 (rest := [.int q.1]) rfl (Nat.le_of_ble_eq_true rfl) dL_law_339 ⟨hc, hs⟩) hS (fun H locs hW hS => ?_)
  have hW : World g ((kR cs q.2 (k_rn cs)), (q'.2, mn, mw)) H := hW
  refine lv_icmp_eq (tgt := 1691) hx hb dL_law_342 (by decide) (fun _ => ?_) (fun h => absurd he h)
  exact K H locs hW hS
set_option maxRecDepth 20000 in
theorem ggL_law_X7_load : GoodIn wsL_law wsX7_load := goodIn_r _ [134, 15, 113, 135, 20, 136, 137, 138, 139, 140, 19, 24, 141, 142, 143, 144, 14, 145, 119, 146, 147, 148, 149, 150, 151, 152, 153, 154, 155, 66, 67, 18, 68, 69, 70, 71, 72, 73, 74, 75, 76, 77, 78, 79, 80, 81, 82, 83, 84, 38, 156, 157, 158, 159, 160, 30, 161, 162, 163, 164, 165, 166, 167, 168, 169, 170, 171, 172, 173, 174, 175, 176, 177, 178, 179, 180, 181, 182, 183, 184, 185, 186, 187, 188, 189, 190, 191, 192, 193, 194, 195, 196, 197, 198, 199, 200, 201, 202, 203, 204, 205, 206, 207, 208, 209, 210, 211, 212, 213, 214, 215, 216, 217, 218, 219, 220, 221, 222, 223, 224, 225, 226, 227, 228, 229, 230, 231, 232, 233, 234, 235, 236, 237, 238, 239, 240, 241, 242, 243, 244, 245, 246, 247, 248, 249, 250, 251, 252, 253, 254, 255, 40, 256, 257, 258, 259, 260, 261, 262, 263, 264, 265, 266, 267, 268, 269, 270, 271, 272, 42, 273, 274, 275, 276, 277, 278, 279, 280, 50, 281, 282, 283, 284, 285, 286, 287, 61, 288, 289, 290, 291, 292, 293, 294, 295, 296, 297, 298, 299, 300, 301, 302, 303, 304, 305, 306, 44, 307, 308, 309, 310, 311, 312, 313, 314, 315, 316, 317, 318, 52, 319, 320, 321, 322, 323, 324, 325, 326, 327, 328, 329, 330, 331, 332, 333, 334, 335, 32, 336, 337, 338, 339, 340, 341, 342, 343, 344, 345, 346, 347, 348, 349, 350, 351, 352, 353, 354, 355, 356, 357, 358, 359, 360, 361, 362, 363, 364, 365, 45, 366, 367, 368, 369, 370, 371, 372, 373, 374, 375, 376, 377, 378, 59, 60, 379, 380, 381, 382, 383, 384, 385, 386, 387, 388, 389, 390, 391, 392, 393, 394, 395, 396, 397, 398, 399, 23, 400, 401, 402, 403, 404, 2, 405, 406, 407, 408, 409, 410, 411, 412, 1587, 1588, 1589, 1590, 1591, 1592, 1593, 1594, 1595, 1623, 1624, 1625, 1626, 1627, 1628, 1629, 1630, 1631, 1632, 1633, 1634, 1635, 1636, 1637, 1638, 1639, 1640, 1641, 1642, 1643, 1644, 1645, 1646, 1647, 1648, 1649, 1653, 1654, 1655, 1656, 1657, 1658, 1659, 1660, 1661, 1662, 1663, 1664, 1665, 1666, 1667, 1668, 1669, 1670, 1671, 1650, 1651, 1652, 1672, 1673, 1674, 1675, 1676, 1677, 1678] (by decide +kernel) (by decide +kernel)
set_option maxRecDepth 20000 in
theorem gL_law_X7_load : GoodIn wsL_law (wsV RL 18 RX7 yX7_load wsX7_load) := goodIn_app (goodIn_of _ (by decide +kernel)) ggL_law_X7_load
set_option maxRecDepth 20000 in
theorem ggL_law_X8_load : GoodIn wsL_law wsX8_load := goodIn_r _ [416, 124, 125, 417, 418, 419, 420, 421, 95, 422, 423, 424, 104, 105, 425, 94, 426, 427, 428, 5, 429, 106, 107, 108, 430, 431, 432, 433, 434, 102, 435, 436, 437, 438, 439, 440, 441, 442, 443, 444, 445, 446, 447, 448, 449, 450, 451, 452, 453, 454, 455, 456, 457, 458, 459, 460, 461, 462, 463, 464, 465, 466, 467, 468, 469, 470, 471, 472, 473, 474, 475, 476, 477, 478, 479, 480, 481, 482, 483, 484, 485, 486, 487, 488, 489, 490, 491, 492, 493, 494, 495, 496, 497, 498, 499, 500, 501, 502, 503, 504, 505, 506, 507, 508, 509, 510, 511, 512, 513, 103, 514, 515, 516, 517, 518, 519, 520, 521, 522, 523, 524, 525, 526, 527, 528, 529, 530, 531, 532, 533, 534, 535, 536, 537, 147, 148, 149, 538, 539, 540, 1596, 1597, 1598, 1599, 1600, 1601, 1602, 1603, 1604, 1605, 1606, 1607, 1608, 1609, 1610, 1611, 1612, 1613, 1614, 1615, 1616, 1617, 1618, 1619, 1620, 1621, 1622] (by decide +kernel) (by decide +kernel)
set_option maxRecDepth 20000 in
theorem gL_law_X8_load : GoodIn wsL_law (wsV RL 22 RX8 yX8_load wsX8_load) := goodIn_app (goodIn_of _ (by decide +kernel)) ggL_law_X8_load
theorem dL_law_347 : decode cL_law 347 = .ok (.aload_n 1, 1) := by decide +kernel
theorem dL_law_348 : decode cL_law 348 = .ok (.aload_n 0, 1) := by decide +kernel
theorem dL_law_349 : decode cL_law 349 = .ok (.iload_n 3, 1) := by decide +kernel
theorem dL_law_350 : decode cL_law 350 = .ok (.iconst 1, 1) := by decide +kernel
theorem dL_law_351 : decode cL_law 351 = .ok (.iadd, 1) := by decide +kernel
theorem dL_law_352 : decode cL_law 352 = .ok (.iaload, 1) := by decide +kernel
theorem dL_law_353 : decode cL_law 353 = .ok (.invokevirtual 18, 3) := by decide +kernel
theorem dL_law_356 : decode cL_law 356 = .ok (.aload_n 2, 1) := by decide +kernel
theorem dL_law_357 : decode cL_law 357 = .ok (.aload_n 0, 1) := by decide +kernel
theorem dL_law_358 : decode cL_law 358 = .ok (.iload_n 3, 1) := by decide +kernel
theorem dL_law_359 : decode cL_law 359 = .ok (.iconst 1, 1) := by decide +kernel
theorem dL_law_360 : decode cL_law 360 = .ok (.iadd, 1) := by decide +kernel
theorem dL_law_361 : decode cL_law 361 = .ok (.iaload, 1) := by decide +kernel
theorem dL_law_362 : decode cL_law 362 = .ok (.invokevirtual 22, 3) := by decide +kernel
theorem dL_law_365 : decode cL_law 365 = .ok (.if_icmp .eq 1326, 3) := by decide +kernel
theorem dL_law_368 : decode cL_law 368 = .ok (.iconst 0, 1) := by decide +kernel
theorem dL_law_369 : decode cL_law 369 = .ok (.ireturn, 1) := by decide +kernel
set_option maxRecDepth 100000 in
set_option maxHeartbeats 2000000 in
theorem lc_1 {p : Program} {l : Launch} {e : Env} {s : State} {m : MethodId} {below : List Frame} {meth : Method} {c : Code} {Q : State → Prop} {g : GT} {b L i : Nat} {xs : Nat → Int32} {H : Heap} {locs : List Loc} {ls : Array Slot} {cells slots : Nat} {cs : CT} {md : SD} {mn : Nat → Int64} {mw : Int64} (X : lwX p s m meth c g b L xs) (hi : i + 6 ≤ L) (hL : L ≤ 3072) (hS : va_S (gA g) s.heap H locs) (hl : lv_has ls 4 [(0, .ref b), (1, .ref (adr g.1 7 0)), (2, .ref (adr (g.1 + 189) 8 0)), (3, .int (nI i))]) (hfl : gf g = 2) (hW : World g (cs, (md, mn, mw)) H) {q : Int32 × CT} {q' : (Int32 × SD × (Nat → Int64) × Int64)} (h7 : f_X7_load cs (xs (nI i + 1).toNatClampNeg) = some q) (h8 : f_X8_load md mn mw (xs (nI i + 1).toNatClampNeg) = some q') (he : q.1 = q'.1) (hc : cells + 0 ≤ 600000) (hs : slots + 0 ≤ 7302250) (K : ∀ (H1 : Heap) (locs1 : List Loc), World g (q.2, (q'.2.1, q'.2.2.1, q'.2.2.2)) H1 → va_S (gA g) s.heap H1 locs1 → W p l e room_1 s m #[Value.ref b] below meth c H1 locs1 (cells + 0) (slots + 0) Q (F0 m 1691 ls [])) : W p l e room_1 s m #[Value.ref b] below meth c H locs cells slots Q (F0 m 347 ls []) := by
  obtain ⟨hx, hb, hml, hown, hts, hX, hbl, hbA, hK⟩ := X
  have hv1 : vp_in (nI i + 1) L := lw_in1 hi hL
  refine lv_aload_n hx hb dL_law_347 rfl (lv_at hl 1 rfl) ?_
  refine lv_aload_n hx hb dL_law_348 rfl (lv_at hl 0 rfl) ?_
  refine lv_iload_n hx hb dL_law_349 rfl (lv_at hl 3 rfl) ?_
  refine lv_iconst (v := 1) hx hb dL_law_350 (by decide) ?_
  refine lv_iadd hx hb dL_law_351 ?_
  refine va_sld hx hb hX hbl hbA hS hv1 dL_law_352 ?_
  refine x_ci (x_rV ⟨hx, hb, hml, hown, hts⟩ (ct_X7_load l g (Nat.le_of_lt_succ (by rw [hfl]; decide)) cs (md, mn, mw) (xs (nI i + 1).toNatClampNeg) h7) (cwV 1 hts gL_law_X7_load rfl rfl rfl (by decide +kernel) ⟨Nat.le_of_ble_eq_true rfl, Nat.le_of_ble_eq_true rfl⟩) hK hW hS (x_recv (i := g.1) (k := 7) (j := 0) hK hW ⟨⟨Nat.le_of_lt_succ (by rw [hfl]; decide), rfl⟩, by decide⟩ rfl (by decide)) rfl hl.1 (rest := []) rfl (Nat.le_of_ble_eq_true rfl) dL_law_353 ⟨hc, hs⟩) hS (fun H locs hW hS => ?_)
  have hW : World g (q.2, (md, mn, mw)) H := hW
  refine lv_aload_n hx hb dL_law_356 rfl (lv_at hl 2 rfl) ?_
  refine lv_aload_n hx hb dL_law_357 rfl (lv_at hl 0 rfl) ?_
  refine lv_iload_n hx hb dL_law_358 rfl (lv_at hl 3 rfl) ?_
  refine lv_iconst (v := 1) hx hb dL_law_359 (by decide) ?_
  refine lv_iadd hx hb dL_law_360 ?_
  refine va_sld hx hb hX hbl hbA hS hv1 dL_law_361 ?_
  refine x_ci0 (x_rV ⟨hx, hb, hml, hown, hts⟩ (ct_X8_load l g (Nat.le_of_eq hfl.symm) (q.2, (md, mn, mw)) md mn mw (xs (nI i + 1).toNatClampNeg) h8) (cwV 1 hts gL_law_X8_load rfl rfl rfl (by decide +kernel) ⟨Nat.le_of_ble_eq_true rfl, Nat.le_of_ble_eq_true rfl⟩) hK hW hS (x_recv (i := g.1 + 189) (k := 8) (j := 0) hK hW ⟨⟨Nat.le_of_eq hfl.symm, rfl⟩, by decide⟩ rfl (by decide)) rfl hl.1 (rest := [.int q.1]) rfl (Nat.le_of_ble_eq_true rfl) dL_law_362 ⟨hc, hs⟩) hS (fun H locs hW hS => ?_)
  have hW : World g (q.2, (q'.2.1, q'.2.2.1, q'.2.2.2)) H := hW
  refine lv_icmp_eq (tgt := 1691) hx hb dL_law_365 (by decide) (fun _ => ?_) (fun h => absurd he h)
  exact K H locs hW hS
set_option maxRecDepth 20000 in
theorem ggL_law_X7_errorKind : GoodIn wsL_law wsX7_errorKind := goodIn_r _ [544, 137, 1587, 1588, 1589, 1590, 1591, 1592, 1593, 1594, 1595] (by decide +kernel) (by decide +kernel)
set_option maxRecDepth 20000 in
theorem gL_law_X7_errorKind : GoodIn wsL_law (wsV RL 23 RX7 yX7_errorKind wsX7_errorKind) := goodIn_app (goodIn_of _ (by decide +kernel)) ggL_law_X7_errorKind
set_option maxRecDepth 20000 in
theorem ggL_law_X8_errorKind : GoodIn wsL_law wsX8_errorKind := goodIn_r _ [548, 124, 423, 1596, 1597, 1598, 1599, 1600, 1601, 1602, 1603, 1604, 1605, 1606, 1607, 1608, 1609, 1610, 1611, 1612, 1613, 1614, 1615, 1616, 1617, 1618, 1619, 1620, 1621, 1622] (by decide +kernel) (by decide +kernel)
set_option maxRecDepth 20000 in
theorem gL_law_X8_errorKind : GoodIn wsL_law (wsV RL 27 RX8 yX8_errorKind wsX8_errorKind) := goodIn_app (goodIn_of _ (by decide +kernel)) ggL_law_X8_errorKind
theorem dL_law_370 : decode cL_law 370 = .ok (.aload_n 1, 1) := by decide +kernel
theorem dL_law_371 : decode cL_law 371 = .ok (.invokevirtual 23, 3) := by decide +kernel
theorem dL_law_374 : decode cL_law 374 = .ok (.aload_n 2, 1) := by decide +kernel
theorem dL_law_375 : decode cL_law 375 = .ok (.invokevirtual 27, 3) := by decide +kernel
theorem dL_law_378 : decode cL_law 378 = .ok (.if_icmp .eq 1313, 3) := by decide +kernel
theorem dL_law_381 : decode cL_law 381 = .ok (.iconst 0, 1) := by decide +kernel
theorem dL_law_382 : decode cL_law 382 = .ok (.ireturn, 1) := by decide +kernel
set_option maxRecDepth 100000 in
set_option maxHeartbeats 2000000 in
theorem lc_2 {p : Program} {l : Launch} {e : Env} {s : State} {m : MethodId} {below : List Frame} {meth : Method} {c : Code} {Q : State → Prop} {g : GT} {b L i : Nat} {xs : Nat → Int32} {H : Heap} {locs : List Loc} {ls : Array Slot} {cells slots : Nat} {cs : CT} {md : SD} {mn : Nat → Int64} {mw : Int64} (X : lwX p s m meth c g b L xs) (hi : i + 6 ≤ L) (hL : L ≤ 3072) (hS : va_S (gA g) s.heap H locs) (hl : lv_has ls 4 [(0, .ref b), (1, .ref (adr g.1 7 0)), (2, .ref (adr (g.1 + 189) 8 0)), (3, .int (nI i))]) (hfl : gf g = 2) (hW : World g (cs, (md, mn, mw)) H) {q : Int32} {q' : (Int32 × SD)} (h7 : f_X7_errorKind (k_jd cs)  = some q) (h8 : f_X8_errorKind md  = some q') (he : q = q'.1) (hc : cells + 0 ≤ 600000) (hs : slots + 0 ≤ 7302250) (K : ∀ (H1 : Heap) (locs1 : List Loc), World g (cs, (q'.2, mn, mw)) H1 → va_S (gA g) s.heap H1 locs1 → W p l e room_1 s m #[Value.ref b] below meth c H1 locs1 (cells + 0) (slots + 0) Q (F0 m 1691 ls [])) : W p l e room_1 s m #[Value.ref b] below meth c H locs cells slots Q (F0 m 370 ls []) := by
  obtain ⟨hx, hb, hml, hown, hts, hX, hbl, hbA, hK⟩ := X
  refine lv_aload_n hx hb dL_law_370 rfl (lv_at hl 1 rfl) ?_
  refine x_ci (x_rV ⟨hx, hb, hml, hown, hts⟩ (ct_X7_errorKind l g (Nat.le_of_lt_succ (by rw [hfl]; decide)) cs (md, mn, mw)  h7) (cwV 0 hts gL_law_X7_errorKind rfl rfl rfl (by decide +kernel) ⟨Nat.le_of_ble_eq_true rfl, Nat.le_of_ble_eq_true rfl⟩) hK hW hS (x_recv (i := g.1) (k := 7) (j := 0) hK hW ⟨⟨Nat.le_of_lt_succ (by rw [hfl]; decide), rfl⟩, by decide⟩ rfl (by decide)) rfl hl.1 (rest := []) rfl (Nat.le_of_ble_eq_true rfl) dL_law_371 ⟨hc, hs⟩) hS (fun H locs hW hS => ?_)
  have hW : World g (cs, (md, mn, mw)) H := hW
  refine lv_aload_n hx hb dL_law_374 rfl (lv_at hl 2 rfl) ?_
  refine x_ci0 (x_rV ⟨hx, hb, hml, hown, hts⟩ (ct_X8_errorKind l g (Nat.le_of_eq hfl.symm) (cs, (md, mn, mw)) md mn mw  h8) (cwV 0 hts gL_law_X8_errorKind rfl rfl rfl (by decide +kernel) ⟨Nat.le_of_ble_eq_true rfl, Nat.le_of_ble_eq_true rfl⟩) hK hW hS (x_recv (i := g.1 + 189) (k := 8) (j := 0) hK hW ⟨⟨Nat.le_of_eq hfl.symm, rfl⟩, by decide⟩ rfl (by decide)) rfl hl.1 (rest := [.int q]) rfl (Nat.le_of_ble_eq_true rfl) dL_law_375 ⟨hc, hs⟩) hS (fun H locs hW hS => ?_)
  have hW : World g (cs, (q'.2, mn, mw)) H := hW
  refine lv_icmp_eq (tgt := 1691) hx hb dL_law_378 (by decide) (fun _ => ?_) (fun h => absurd he h)
  exact K H locs hW hS
set_option maxRecDepth 20000 in
theorem ggL_law_X7_errorPosition : GoodIn wsL_law wsX7_errorPosition := goodIn_r _ [552, 137, 553, 139, 1587, 1588, 1589, 1590, 1591, 1592, 1593, 1594, 1595] (by decide +kernel) (by decide +kernel)
set_option maxRecDepth 20000 in
theorem gL_law_X7_errorPosition : GoodIn wsL_law (wsV RL 28 RX7 yX7_errorPosition wsX7_errorPosition) := goodIn_app (goodIn_of _ (by decide +kernel)) ggL_law_X7_errorPosition
set_option maxRecDepth 20000 in
theorem ggL_law_X8_errorPosition : GoodIn wsL_law wsX8_errorPosition := goodIn_r _ [557, 124, 105, 1596, 1597, 1598, 1599, 1600, 1601, 1602, 1603, 1604, 1605, 1606, 1607, 1608, 1609, 1610, 1611, 1612, 1613, 1614, 1615, 1616, 1617, 1618, 1619, 1620, 1621, 1622] (by decide +kernel) (by decide +kernel)
set_option maxRecDepth 20000 in
theorem gL_law_X8_errorPosition : GoodIn wsL_law (wsV RL 31 RX8 yX8_errorPosition wsX8_errorPosition) := goodIn_app (goodIn_of _ (by decide +kernel)) ggL_law_X8_errorPosition
theorem dL_law_383 : decode cL_law 383 = .ok (.aload_n 1, 1) := by decide +kernel
theorem dL_law_384 : decode cL_law 384 = .ok (.invokevirtual 28, 3) := by decide +kernel
theorem dL_law_387 : decode cL_law 387 = .ok (.aload_n 2, 1) := by decide +kernel
theorem dL_law_388 : decode cL_law 388 = .ok (.invokevirtual 31, 3) := by decide +kernel
theorem dL_law_391 : decode cL_law 391 = .ok (.if_icmp .eq 1300, 3) := by decide +kernel
theorem dL_law_394 : decode cL_law 394 = .ok (.iconst 0, 1) := by decide +kernel
theorem dL_law_395 : decode cL_law 395 = .ok (.ireturn, 1) := by decide +kernel
set_option maxRecDepth 100000 in
set_option maxHeartbeats 2000000 in
theorem lc_3 {p : Program} {l : Launch} {e : Env} {s : State} {m : MethodId} {below : List Frame} {meth : Method} {c : Code} {Q : State → Prop} {g : GT} {b L i : Nat} {xs : Nat → Int32} {H : Heap} {locs : List Loc} {ls : Array Slot} {cells slots : Nat} {cs : CT} {md : SD} {mn : Nat → Int64} {mw : Int64} (X : lwX p s m meth c g b L xs) (hi : i + 6 ≤ L) (hL : L ≤ 3072) (hS : va_S (gA g) s.heap H locs) (hl : lv_has ls 4 [(0, .ref b), (1, .ref (adr g.1 7 0)), (2, .ref (adr (g.1 + 189) 8 0)), (3, .int (nI i))]) (hfl : gf g = 2) (hW : World g (cs, (md, mn, mw)) H) {q : Int32} {q' : (Int32 × SD)} (h7 : f_X7_errorPosition (k_jd cs)  = some q) (h8 : f_X8_errorPosition md  = some q') (he : q = q'.1) (hc : cells + 0 ≤ 600000) (hs : slots + 0 ≤ 7302250) (K : ∀ (H1 : Heap) (locs1 : List Loc), World g (cs, (q'.2, mn, mw)) H1 → va_S (gA g) s.heap H1 locs1 → W p l e room_1 s m #[Value.ref b] below meth c H1 locs1 (cells + 0) (slots + 0) Q (F0 m 1691 ls [])) : W p l e room_1 s m #[Value.ref b] below meth c H locs cells slots Q (F0 m 383 ls []) := by
  obtain ⟨hx, hb, hml, hown, hts, hX, hbl, hbA, hK⟩ := X
  refine lv_aload_n hx hb dL_law_383 rfl (lv_at hl 1 rfl) ?_
  refine x_ci (x_rV ⟨hx, hb, hml, hown, hts⟩ (ct_X7_errorPosition l g (Nat.le_of_lt_succ (by rw [hfl]; decide)) cs (md, mn, mw)  h7) (cwV 0 hts gL_law_X7_errorPosition rfl rfl rfl (by decide +kernel) ⟨Nat.le_of_ble_eq_true rfl, Nat.le_of_ble_eq_true rfl⟩) hK hW hS (x_recv (i := g.1) (k := 7) (j := 0) hK hW ⟨⟨Nat.le_of_lt_succ (by rw [hfl]; decide), rfl⟩, by decide⟩ rfl (by decide)) rfl hl.1 (rest := []) rfl (Nat.le_of_ble_eq_true rfl) dL_law_384 ⟨hc, hs⟩) hS (fun H locs hW hS => ?_)
  have hW : World g (cs, (md, mn, mw)) H := hW
  refine lv_aload_n hx hb dL_law_387 rfl (lv_at hl 2 rfl) ?_
  refine x_ci0 (x_rV ⟨hx, hb, hml, hown, hts⟩ (ct_X8_errorPosition l g (Nat.le_of_eq hfl.symm) (cs, (md, mn, mw)) md mn mw  h8) (cwV 0 hts gL_law_X8_errorPosition rfl rfl rfl (by decide +kernel) ⟨Nat.le_of_ble_eq_true rfl, Nat.le_of_ble_eq_true rfl⟩) hK hW hS (x_recv (i := g.1 + 189) (k := 8) (j := 0) hK hW ⟨⟨Nat.le_of_eq hfl.symm, rfl⟩, by decide⟩ rfl (by decide)) rfl hl.1 (rest := [.int q]) rfl (Nat.le_of_ble_eq_true rfl) dL_law_388 ⟨hc, hs⟩) hS (fun H locs hW hS => ?_)
  have hW : World g (cs, (q'.2, mn, mw)) H := hW
  refine lv_icmp_eq (tgt := 1691) hx hb dL_law_391 (by decide) (fun _ => ?_) (fun h => absurd he h)
  exact K H locs hW hS
set_option maxRecDepth 20000 in
theorem ggL_law_X7_homeSlot : GoodIn wsL_law wsX7_homeSlot := goodIn_r _ [561, 19, 562, 563, 564, 565, 371, 372, 18, 373, 72, 1587, 1588, 1589, 1590, 1591, 1592, 1593, 1594, 1595, 1632, 1633, 1634, 1635, 1636, 1637, 1638, 1639, 1640, 1641, 1642, 1643, 1644, 1645, 1646, 1647, 1648, 1649, 1656, 1657, 1658, 1659, 1660, 1661, 1662, 1663, 1664] (by decide +kernel) (by decide +kernel)
set_option maxRecDepth 20000 in
theorem gL_law_X7_homeSlot : GoodIn wsL_law (wsV RL 32 RX7 yX7_homeSlot wsX7_homeSlot) := goodIn_app (goodIn_of _ (by decide +kernel)) ggL_law_X7_homeSlot
set_option maxRecDepth 20000 in
theorem ggL_law_X8_homeSlot : GoodIn wsL_law wsX8_homeSlot := goodIn_r _ [569, 124, 94, 570, 571, 572, 573, 5, 574, 427, 428, 429, 1596, 1597, 1598, 1599, 1600, 1601, 1602, 1603, 1604, 1605, 1606, 1607, 1608, 1609, 1610, 1611, 1612, 1613, 1614, 1615, 1616, 1617, 1618, 1619, 1620, 1621, 1622] (by decide +kernel) (by decide +kernel)
set_option maxRecDepth 20000 in
theorem gL_law_X8_homeSlot : GoodIn wsL_law (wsV RL 35 RX8 yX8_homeSlot wsX8_homeSlot) := goodIn_app (goodIn_of _ (by decide +kernel)) ggL_law_X8_homeSlot
theorem dL_law_396 : decode cL_law 396 = .ok (.aload_n 1, 1) := by decide +kernel
theorem dL_law_397 : decode cL_law 397 = .ok (.aload_n 0, 1) := by decide +kernel
theorem dL_law_398 : decode cL_law 398 = .ok (.iload_n 3, 1) := by decide +kernel
theorem dL_law_399 : decode cL_law 399 = .ok (.iconst 1, 1) := by decide +kernel
theorem dL_law_400 : decode cL_law 400 = .ok (.iadd, 1) := by decide +kernel
theorem dL_law_401 : decode cL_law 401 = .ok (.iaload, 1) := by decide +kernel
theorem dL_law_402 : decode cL_law 402 = .ok (.invokevirtual 32, 3) := by decide +kernel
theorem dL_law_405 : decode cL_law 405 = .ok (.aload_n 2, 1) := by decide +kernel
theorem dL_law_406 : decode cL_law 406 = .ok (.aload_n 0, 1) := by decide +kernel
theorem dL_law_407 : decode cL_law 407 = .ok (.iload_n 3, 1) := by decide +kernel
theorem dL_law_408 : decode cL_law 408 = .ok (.iconst 1, 1) := by decide +kernel
theorem dL_law_409 : decode cL_law 409 = .ok (.iadd, 1) := by decide +kernel
theorem dL_law_410 : decode cL_law 410 = .ok (.iaload, 1) := by decide +kernel
theorem dL_law_411 : decode cL_law 411 = .ok (.invokevirtual 35, 3) := by decide +kernel
theorem dL_law_414 : decode cL_law 414 = .ok (.if_icmp .eq 1277, 3) := by decide +kernel
theorem dL_law_417 : decode cL_law 417 = .ok (.iconst 0, 1) := by decide +kernel
theorem dL_law_418 : decode cL_law 418 = .ok (.ireturn, 1) := by decide +kernel
set_option maxRecDepth 100000 in
set_option maxHeartbeats 2000000 in
theorem lc_4 {p : Program} {l : Launch} {e : Env} {s : State} {m : MethodId} {below : List Frame} {meth : Method} {c : Code} {Q : State → Prop} {g : GT} {b L i : Nat} {xs : Nat → Int32} {H : Heap} {locs : List Loc} {ls : Array Slot} {cells slots : Nat} {cs : CT} {md : SD} {mn : Nat → Int64} {mw : Int64} (X : lwX p s m meth c g b L xs) (hi : i + 6 ≤ L) (hL : L ≤ 3072) (hS : va_S (gA g) s.heap H locs) (hl : lv_has ls 4 [(0, .ref b), (1, .ref (adr g.1 7 0)), (2, .ref (adr (g.1 + 189) 8 0)), (3, .int (nI i))]) (hfl : gf g = 2) (hW : World g (cs, (md, mn, mw)) H) {q : Int32} {q' : (Int32 × SD)} (h7 : f_X7_homeSlot (k_xs cs (k_st cs)) (xs (nI i + 1).toNatClampNeg) = some q) (h8 : f_X8_homeSlot md (xs (nI i + 1).toNatClampNeg) = some q') (he : q = q'.1) (hc : cells + 0 ≤ 600000) (hs : slots + 0 ≤ 7302250) (K : ∀ (H1 : Heap) (locs1 : List Loc), World g (cs, (q'.2, mn, mw)) H1 → va_S (gA g) s.heap H1 locs1 → W p l e room_1 s m #[Value.ref b] below meth c H1 locs1 (cells + 0) (slots + 0) Q (F0 m 1691 ls [])) : W p l e room_1 s m #[Value.ref b] below meth c H locs cells slots Q (F0 m 396 ls []) := by
  obtain ⟨hx, hb, hml, hown, hts, hX, hbl, hbA, hK⟩ := X
  have hv1 : vp_in (nI i + 1) L := lw_in1 hi hL
  refine lv_aload_n hx hb dL_law_396 rfl (lv_at hl 1 rfl) ?_
  refine lv_aload_n hx hb dL_law_397 rfl (lv_at hl 0 rfl) ?_
  refine lv_iload_n hx hb dL_law_398 rfl (lv_at hl 3 rfl) ?_
  refine lv_iconst (v := 1) hx hb dL_law_399 (by decide) ?_
  refine lv_iadd hx hb dL_law_400 ?_
  refine va_sld hx hb hX hbl hbA hS hv1 dL_law_401 ?_
  refine x_ci (x_rV ⟨hx, hb, hml, hown, hts⟩ (ct_X7_homeSlot l g (Nat.le_of_lt_succ (by rw [hfl]; decide)) cs (md, mn, mw) (xs (nI i + 1).toNatClampNeg) h7) (cwV 1 hts gL_law_X7_homeSlot rfl rfl rfl (by decide +kernel) ⟨Nat.le_of_ble_eq_true rfl, Nat.le_of_ble_eq_true rfl⟩) hK hW hS (x_recv (i := g.1) (k := 7) (j := 0) hK hW ⟨⟨Nat.le_of_lt_succ (by rw [hfl]; decide), rfl⟩, by decide⟩ rfl (by decide)) rfl hl.1 (rest := []) rfl (Nat.le_of_ble_eq_true rfl) dL_law_402 ⟨hc, hs⟩) hS (fun H locs hW hS => ?_)
  have hW : World g (cs, (md, mn, mw)) H := hW
  refine lv_aload_n hx hb dL_law_405 rfl (lv_at hl 2 rfl) ?_
  refine lv_aload_n hx hb dL_law_406 rfl (lv_at hl 0 rfl) ?_
  refine lv_iload_n hx hb dL_law_407 rfl (lv_at hl 3 rfl) ?_
  refine lv_iconst (v := 1) hx hb dL_law_408 (by decide) ?_
  refine lv_iadd hx hb dL_law_409 ?_
  refine va_sld hx hb hX hbl hbA hS hv1 dL_law_410 ?_
  refine x_ci0 (x_rV ⟨hx, hb, hml, hown, hts⟩ (ct_X8_homeSlot l g (Nat.le_of_eq hfl.symm) (cs, (md, mn, mw)) md mn mw (xs (nI i + 1).toNatClampNeg) h8) (cwV 1 hts gL_law_X8_homeSlot rfl rfl rfl (by decide +kernel) ⟨Nat.le_of_ble_eq_true rfl, Nat.le_of_ble_eq_true rfl⟩) hK hW hS (x_recv (i := g.1 + 189) (k := 8) (j := 0) hK hW ⟨⟨Nat.le_of_eq hfl.symm, rfl⟩, by decide⟩ rfl (by decide)) rfl hl.1 (rest := [.int q]) rfl (Nat.le_of_ble_eq_true rfl) dL_law_411 ⟨hc, hs⟩) hS (fun H locs hW hS => ?_)
  have hW : World g (cs, (q'.2, mn, mw)) H := hW
  refine lv_icmp_eq (tgt := 1691) hx hb dL_law_414 (by decide) (fun _ => ?_) (fun h => absurd he h)
  exact K H locs hW hS
set_option maxRecDepth 20000 in
theorem ggL_law_X7_platterInSlot : GoodIn wsL_law wsX7_platterInSlot := goodIn_r _ [578, 19, 564, 553, 579, 580, 581, 18, 582, 69, 583, 270, 271, 272, 72, 42, 273, 584, 585, 586, 587, 70, 40, 257, 1587, 1588, 1589, 1590, 1591, 1592, 1593, 1594, 1595, 1632, 1633, 1634, 1635, 1636, 1637, 1638, 1639, 1640, 1641, 1642, 1643, 1644, 1645, 1646, 1647, 1648, 1649, 1656, 1657, 1658, 1659, 1660, 1661, 1662, 1663, 1664, 1653, 1654, 1655] (by decide +kernel) (by decide +kernel)
set_option maxRecDepth 20000 in
theorem gL_law_X7_platterInSlot : GoodIn wsL_law (wsV RL 36 RX7 yX7_platterInSlot wsX7_platterInSlot) := goodIn_app (goodIn_of _ (by decide +kernel)) ggL_law_X7_platterInSlot
set_option maxRecDepth 20000 in
theorem ggL_law_X8_platterInSlot : GoodIn wsL_law wsX8_platterInSlot := goodIn_r _ [591, 124, 570, 94, 104, 592, 593, 594, 5, 595, 427, 428, 429, 596, 597, 598, 599, 1596, 1597, 1598, 1599, 1600, 1601, 1602, 1603, 1604, 1605, 1606, 1607, 1608, 1609, 1610, 1611, 1612, 1613, 1614, 1615, 1616, 1617, 1618, 1619, 1620, 1621, 1622] (by decide +kernel) (by decide +kernel)
set_option maxRecDepth 20000 in
theorem gL_law_X8_platterInSlot : GoodIn wsL_law (wsV RL 39 RX8 yX8_platterInSlot wsX8_platterInSlot) := goodIn_app (goodIn_of _ (by decide +kernel)) ggL_law_X8_platterInSlot
theorem dL_law_419 : decode cL_law 419 = .ok (.aload_n 1, 1) := by decide +kernel
theorem dL_law_420 : decode cL_law 420 = .ok (.aload_n 0, 1) := by decide +kernel
theorem dL_law_421 : decode cL_law 421 = .ok (.iload_n 3, 1) := by decide +kernel
theorem dL_law_422 : decode cL_law 422 = .ok (.iconst 1, 1) := by decide +kernel
theorem dL_law_423 : decode cL_law 423 = .ok (.iadd, 1) := by decide +kernel
theorem dL_law_424 : decode cL_law 424 = .ok (.iaload, 1) := by decide +kernel
theorem dL_law_425 : decode cL_law 425 = .ok (.invokevirtual 36, 3) := by decide +kernel
theorem dL_law_428 : decode cL_law 428 = .ok (.aload_n 2, 1) := by decide +kernel
theorem dL_law_429 : decode cL_law 429 = .ok (.aload_n 0, 1) := by decide +kernel
theorem dL_law_430 : decode cL_law 430 = .ok (.iload_n 3, 1) := by decide +kernel
theorem dL_law_431 : decode cL_law 431 = .ok (.iconst 1, 1) := by decide +kernel
theorem dL_law_432 : decode cL_law 432 = .ok (.iadd, 1) := by decide +kernel
theorem dL_law_433 : decode cL_law 433 = .ok (.iaload, 1) := by decide +kernel
theorem dL_law_434 : decode cL_law 434 = .ok (.invokevirtual 39, 3) := by decide +kernel
theorem dL_law_437 : decode cL_law 437 = .ok (.if_icmp .eq 1254, 3) := by decide +kernel
theorem dL_law_440 : decode cL_law 440 = .ok (.iconst 0, 1) := by decide +kernel
theorem dL_law_441 : decode cL_law 441 = .ok (.ireturn, 1) := by decide +kernel
set_option maxRecDepth 100000 in
set_option maxHeartbeats 2000000 in
theorem lc_5 {p : Program} {l : Launch} {e : Env} {s : State} {m : MethodId} {below : List Frame} {meth : Method} {c : Code} {Q : State → Prop} {g : GT} {b L i : Nat} {xs : Nat → Int32} {H : Heap} {locs : List Loc} {ls : Array Slot} {cells slots : Nat} {cs : CT} {md : SD} {mn : Nat → Int64} {mw : Int64} (X : lwX p s m meth c g b L xs) (hi : i + 6 ≤ L) (hL : L ≤ 3072) (hS : va_S (gA g) s.heap H locs) (hl : lv_has ls 4 [(0, .ref b), (1, .ref (adr g.1 7 0)), (2, .ref (adr (g.1 + 189) 8 0)), (3, .int (nI i))]) (hfl : gf g = 2) (hW : World g (cs, (md, mn, mw)) H) {q : Int32} {q' : (Int32 × SD)} (h7 : f_X7_platterInSlot (k_xs cs (k_st cs)) (xs (nI i + 1).toNatClampNeg) = some q) (h8 : f_X8_platterInSlot md (xs (nI i + 1).toNatClampNeg) = some q') (he : q = q'.1) (hc : cells + 0 ≤ 600000) (hs : slots + 0 ≤ 7302250) (K : ∀ (H1 : Heap) (locs1 : List Loc), World g (cs, (q'.2, mn, mw)) H1 → va_S (gA g) s.heap H1 locs1 → W p l e room_1 s m #[Value.ref b] below meth c H1 locs1 (cells + 0) (slots + 0) Q (F0 m 1691 ls [])) : W p l e room_1 s m #[Value.ref b] below meth c H locs cells slots Q (F0 m 419 ls []) := by
  obtain ⟨hx, hb, hml, hown, hts, hX, hbl, hbA, hK⟩ := X
  have hv1 : vp_in (nI i + 1) L := lw_in1 hi hL
  refine lv_aload_n hx hb dL_law_419 rfl (lv_at hl 1 rfl) ?_
  refine lv_aload_n hx hb dL_law_420 rfl (lv_at hl 0 rfl) ?_
  refine lv_iload_n hx hb dL_law_421 rfl (lv_at hl 3 rfl) ?_
  refine lv_iconst (v := 1) hx hb dL_law_422 (by decide) ?_
  refine lv_iadd hx hb dL_law_423 ?_
  refine va_sld hx hb hX hbl hbA hS hv1 dL_law_424 ?_
  refine x_ci (x_rV ⟨hx, hb, hml, hown, hts⟩ (ct_X7_platterInSlot l g (Nat.le_of_lt_succ (by rw [hfl]; decide)) cs (md, mn, mw) (xs (nI i + 1).toNatClampNeg) h7) (cwV 1 hts gL_law_X7_platterInSlot rfl rfl rfl (by decide +kernel) ⟨Nat.le_of_ble_eq_true rfl, Nat.le_of_ble_eq_true rfl⟩) hK hW hS (x_recv (i := g.1) (k := 7) (j := 0) hK hW ⟨⟨Nat.le_of_lt_succ (by rw [hfl]; decide), rfl⟩, by decide⟩ rfl (by decide)) rfl hl.1 (rest := []) rfl (Nat.le_of_ble_eq_true rfl) dL_law_425 ⟨hc, hs⟩) hS (fun H locs hW hS => ?_)
  have hW : World g (cs, (md, mn, mw)) H := hW
  refine lv_aload_n hx hb dL_law_428 rfl (lv_at hl 2 rfl) ?_
  refine lv_aload_n hx hb dL_law_429 rfl (lv_at hl 0 rfl) ?_
  refine lv_iload_n hx hb dL_law_430 rfl (lv_at hl 3 rfl) ?_
  refine lv_iconst (v := 1) hx hb dL_law_431 (by decide) ?_
  refine lv_iadd hx hb dL_law_432 ?_
  refine va_sld hx hb hX hbl hbA hS hv1 dL_law_433 ?_
  refine x_ci0 (x_rV ⟨hx, hb, hml, hown, hts⟩ (ct_X8_platterInSlot l g (Nat.le_of_eq hfl.symm) (cs, (md, mn, mw)) md mn mw (xs (nI i + 1).toNatClampNeg) h8) (cwV 1 hts gL_law_X8_platterInSlot rfl rfl rfl (by decide +kernel) ⟨Nat.le_of_ble_eq_true rfl, Nat.le_of_ble_eq_true rfl⟩) hK hW hS (x_recv (i := g.1 + 189) (k := 8) (j := 0) hK hW ⟨⟨Nat.le_of_eq hfl.symm, rfl⟩, by decide⟩ rfl (by decide)) rfl hl.1 (rest := [.int q]) rfl (Nat.le_of_ble_eq_true rfl) dL_law_434 ⟨hc, hs⟩) hS (fun H locs hW hS => ?_)
  have hW : World g (cs, (q'.2, mn, mw)) H := hW
  refine lv_icmp_eq (tgt := 1691) hx hb dL_law_437 (by decide) (fun _ => ?_) (fun h => absurd he h)
  exact K H locs hW hS
set_option maxRecDepth 20000 in
theorem ggL_law_X7_driveOf : GoodIn wsL_law wsX7_driveOf := goodIn_r _ [603, 19, 564, 565, 371, 372, 18, 373, 72, 584, 585, 586, 587, 70, 40, 257, 604, 605, 2, 606, 553, 1587, 1588, 1589, 1590, 1591, 1592, 1593, 1594, 1595, 1632, 1633, 1634, 1635, 1636, 1637, 1638, 1639, 1640, 1641, 1642, 1643, 1644, 1645, 1646, 1647, 1648, 1649, 1653, 1654, 1655] (by decide +kernel) (by decide +kernel)
set_option maxRecDepth 20000 in
theorem gL_law_X7_driveOf : GoodIn wsL_law (wsV RL 40 RX7 yX7_driveOf wsX7_driveOf) := goodIn_app (goodIn_of _ (by decide +kernel)) ggL_law_X7_driveOf
set_option maxRecDepth 20000 in
theorem ggL_law_X8_driveOf : GoodIn wsL_law wsX8_driveOf := goodIn_r _ [610, 124, 570, 571, 572, 573, 5, 574, 94, 427, 428, 429, 596, 597, 598, 599, 611, 612, 613, 104, 1596, 1597, 1598, 1599, 1600, 1601, 1602, 1603, 1604, 1605, 1606, 1607, 1608, 1609, 1610, 1611, 1612, 1613, 1614, 1615, 1616, 1617, 1618, 1619, 1620, 1621, 1622] (by decide +kernel) (by decide +kernel)
set_option maxRecDepth 20000 in
theorem gL_law_X8_driveOf : GoodIn wsL_law (wsV RL 43 RX8 yX8_driveOf wsX8_driveOf) := goodIn_app (goodIn_of _ (by decide +kernel)) ggL_law_X8_driveOf
theorem dL_law_442 : decode cL_law 442 = .ok (.aload_n 1, 1) := by decide +kernel
theorem dL_law_443 : decode cL_law 443 = .ok (.aload_n 0, 1) := by decide +kernel
theorem dL_law_444 : decode cL_law 444 = .ok (.iload_n 3, 1) := by decide +kernel
theorem dL_law_445 : decode cL_law 445 = .ok (.iconst 1, 1) := by decide +kernel
theorem dL_law_446 : decode cL_law 446 = .ok (.iadd, 1) := by decide +kernel
theorem dL_law_447 : decode cL_law 447 = .ok (.iaload, 1) := by decide +kernel
theorem dL_law_448 : decode cL_law 448 = .ok (.invokevirtual 40, 3) := by decide +kernel
theorem dL_law_451 : decode cL_law 451 = .ok (.aload_n 2, 1) := by decide +kernel
theorem dL_law_452 : decode cL_law 452 = .ok (.aload_n 0, 1) := by decide +kernel
theorem dL_law_453 : decode cL_law 453 = .ok (.iload_n 3, 1) := by decide +kernel
theorem dL_law_454 : decode cL_law 454 = .ok (.iconst 1, 1) := by decide +kernel
theorem dL_law_455 : decode cL_law 455 = .ok (.iadd, 1) := by decide +kernel
theorem dL_law_456 : decode cL_law 456 = .ok (.iaload, 1) := by decide +kernel
theorem dL_law_457 : decode cL_law 457 = .ok (.invokevirtual 43, 3) := by decide +kernel
theorem dL_law_460 : decode cL_law 460 = .ok (.if_icmp .eq 1231, 3) := by decide +kernel
theorem dL_law_463 : decode cL_law 463 = .ok (.iconst 0, 1) := by decide +kernel
theorem dL_law_464 : decode cL_law 464 = .ok (.ireturn, 1) := by decide +kernel
set_option maxRecDepth 100000 in
set_option maxHeartbeats 2000000 in
theorem lc_6 {p : Program} {l : Launch} {e : Env} {s : State} {m : MethodId} {below : List Frame} {meth : Method} {c : Code} {Q : State → Prop} {g : GT} {b L i : Nat} {xs : Nat → Int32} {H : Heap} {locs : List Loc} {ls : Array Slot} {cells slots : Nat} {cs : CT} {md : SD} {mn : Nat → Int64} {mw : Int64} (X : lwX p s m meth c g b L xs) (hi : i + 6 ≤ L) (hL : L ≤ 3072) (hS : va_S (gA g) s.heap H locs) (hl : lv_has ls 4 [(0, .ref b), (1, .ref (adr g.1 7 0)), (2, .ref (adr (g.1 + 189) 8 0)), (3, .int (nI i))]) (hfl : gf g = 2) (hW : World g (cs, (md, mn, mw)) H) {q : Int32} {q' : (Int32 × SD)} (h7 : f_X7_driveOf (k_xs cs (k_st cs)) (xs (nI i + 1).toNatClampNeg) = some q) (h8 : f_X8_driveOf md (xs (nI i + 1).toNatClampNeg) = some q') (he : q = q'.1) (hc : cells + 0 ≤ 600000) (hs : slots + 0 ≤ 7302250) (K : ∀ (H1 : Heap) (locs1 : List Loc), World g (cs, (q'.2, mn, mw)) H1 → va_S (gA g) s.heap H1 locs1 → W p l e room_1 s m #[Value.ref b] below meth c H1 locs1 (cells + 0) (slots + 0) Q (F0 m 1691 ls [])) : W p l e room_1 s m #[Value.ref b] below meth c H locs cells slots Q (F0 m 442 ls []) := by
  obtain ⟨hx, hb, hml, hown, hts, hX, hbl, hbA, hK⟩ := X
  have hv1 : vp_in (nI i + 1) L := lw_in1 hi hL
  refine lv_aload_n hx hb dL_law_442 rfl (lv_at hl 1 rfl) ?_
  refine lv_aload_n hx hb dL_law_443 rfl (lv_at hl 0 rfl) ?_
  refine lv_iload_n hx hb dL_law_444 rfl (lv_at hl 3 rfl) ?_
  refine lv_iconst (v := 1) hx hb dL_law_445 (by decide) ?_
  refine lv_iadd hx hb dL_law_446 ?_
  refine va_sld hx hb hX hbl hbA hS hv1 dL_law_447 ?_
  refine x_ci (x_rV ⟨hx, hb, hml, hown, hts⟩ (ct_X7_driveOf l g (Nat.le_of_lt_succ (by rw [hfl]; decide)) cs (md, mn, mw) (xs (nI i + 1).toNatClampNeg) h7) (cwV 1 hts gL_law_X7_driveOf rfl rfl rfl (by decide +kernel) ⟨Nat.le_of_ble_eq_true rfl, Nat.le_of_ble_eq_true rfl⟩) hK hW hS (x_recv (i := g.1) (k := 7) (j := 0) hK hW ⟨⟨Nat.le_of_lt_succ (by rw [hfl]; decide), rfl⟩, by decide⟩ rfl (by decide)) rfl hl.1 (rest := []) rfl (Nat.le_of_ble_eq_true rfl) dL_law_448 ⟨hc, hs⟩) hS (fun H locs hW hS => ?_)
  have hW : World g (cs, (md, mn, mw)) H := hW
  refine lv_aload_n hx hb dL_law_451 rfl (lv_at hl 2 rfl) ?_
  refine lv_aload_n hx hb dL_law_452 rfl (lv_at hl 0 rfl) ?_
  refine lv_iload_n hx hb dL_law_453 rfl (lv_at hl 3 rfl) ?_
  refine lv_iconst (v := 1) hx hb dL_law_454 (by decide) ?_
  refine lv_iadd hx hb dL_law_455 ?_
  refine va_sld hx hb hX hbl hbA hS hv1 dL_law_456 ?_
  refine x_ci0 (x_rV ⟨hx, hb, hml, hown, hts⟩ (ct_X8_driveOf l g (Nat.le_of_eq hfl.symm) (cs, (md, mn, mw)) md mn mw (xs (nI i + 1).toNatClampNeg) h8) (cwV 1 hts gL_law_X8_driveOf rfl rfl rfl (by decide +kernel) ⟨Nat.le_of_ble_eq_true rfl, Nat.le_of_ble_eq_true rfl⟩) hK hW hS (x_recv (i := g.1 + 189) (k := 8) (j := 0) hK hW ⟨⟨Nat.le_of_eq hfl.symm, rfl⟩, by decide⟩ rfl (by decide)) rfl hl.1 (rest := [.int q]) rfl (Nat.le_of_ble_eq_true rfl) dL_law_457 ⟨hc, hs⟩) hS (fun H locs hW hS => ?_)
  have hW : World g (cs, (q'.2, mn, mw)) H := hW
  refine lv_icmp_eq (tgt := 1691) hx hb dL_law_460 (by decide) (fun _ => ?_) (fun h => absurd he h)
  exact K H locs hW hS
set_option maxRecDepth 20000 in
theorem ggL_law_X7_platterInDrive : GoodIn wsL_law wsX7_platterInDrive := goodIn_r _ [617, 19, 618, 619, 564, 620, 621, 622, 18, 623, 70, 604, 605, 2, 606, 553, 1587, 1588, 1589, 1590, 1591, 1592, 1593, 1594, 1595, 1632, 1633, 1634, 1635, 1636, 1637, 1638, 1639, 1640, 1641, 1642, 1643, 1644, 1645, 1646, 1647, 1648, 1649, 1653, 1654, 1655] (by decide +kernel) (by decide +kernel)
set_option maxRecDepth 20000 in
theorem gL_law_X7_platterInDrive : GoodIn wsL_law (wsV RL 44 RX7 yX7_platterInDrive wsX7_platterInDrive) := goodIn_app (goodIn_of _ (by decide +kernel)) ggL_law_X7_platterInDrive
set_option maxRecDepth 20000 in
theorem ggL_law_X8_platterInDrive : GoodIn wsL_law wsX8_platterInDrive := goodIn_r _ [627, 124, 94, 570, 628, 629, 630, 5, 631, 427, 428, 429, 611, 612, 613, 104, 1596, 1597, 1598, 1599, 1600, 1601, 1602, 1603, 1604, 1605, 1606, 1607, 1608, 1609, 1610, 1611, 1612, 1613, 1614, 1615, 1616, 1617, 1618, 1619, 1620, 1621, 1622] (by decide +kernel) (by decide +kernel)
set_option maxRecDepth 20000 in
theorem gL_law_X8_platterInDrive : GoodIn wsL_law (wsV RL 47 RX8 yX8_platterInDrive wsX8_platterInDrive) := goodIn_app (goodIn_of _ (by decide +kernel)) ggL_law_X8_platterInDrive
theorem dL_law_465 : decode cL_law 465 = .ok (.aload_n 1, 1) := by decide +kernel
theorem dL_law_466 : decode cL_law 466 = .ok (.aload_n 0, 1) := by decide +kernel
theorem dL_law_467 : decode cL_law 467 = .ok (.iload_n 3, 1) := by decide +kernel
theorem dL_law_468 : decode cL_law 468 = .ok (.iconst 1, 1) := by decide +kernel
theorem dL_law_469 : decode cL_law 469 = .ok (.iadd, 1) := by decide +kernel
theorem dL_law_470 : decode cL_law 470 = .ok (.iaload, 1) := by decide +kernel
theorem dL_law_471 : decode cL_law 471 = .ok (.invokevirtual 44, 3) := by decide +kernel
theorem dL_law_474 : decode cL_law 474 = .ok (.aload_n 2, 1) := by decide +kernel
theorem dL_law_475 : decode cL_law 475 = .ok (.aload_n 0, 1) := by decide +kernel
theorem dL_law_476 : decode cL_law 476 = .ok (.iload_n 3, 1) := by decide +kernel
theorem dL_law_477 : decode cL_law 477 = .ok (.iconst 1, 1) := by decide +kernel
theorem dL_law_478 : decode cL_law 478 = .ok (.iadd, 1) := by decide +kernel
theorem dL_law_479 : decode cL_law 479 = .ok (.iaload, 1) := by decide +kernel
theorem dL_law_480 : decode cL_law 480 = .ok (.invokevirtual 47, 3) := by decide +kernel
theorem dL_law_483 : decode cL_law 483 = .ok (.if_icmp .eq 1208, 3) := by decide +kernel
theorem dL_law_486 : decode cL_law 486 = .ok (.iconst 0, 1) := by decide +kernel
theorem dL_law_487 : decode cL_law 487 = .ok (.ireturn, 1) := by decide +kernel
set_option maxRecDepth 100000 in
set_option maxHeartbeats 2000000 in
theorem lc_7 {p : Program} {l : Launch} {e : Env} {s : State} {m : MethodId} {below : List Frame} {meth : Method} {c : Code} {Q : State → Prop} {g : GT} {b L i : Nat} {xs : Nat → Int32} {H : Heap} {locs : List Loc} {ls : Array Slot} {cells slots : Nat} {cs : CT} {md : SD} {mn : Nat → Int64} {mw : Int64} (X : lwX p s m meth c g b L xs) (hi : i + 6 ≤ L) (hL : L ≤ 3072) (hS : va_S (gA g) s.heap H locs) (hl : lv_has ls 4 [(0, .ref b), (1, .ref (adr g.1 7 0)), (2, .ref (adr (g.1 + 189) 8 0)), (3, .int (nI i))]) (hfl : gf g = 2) (hW : World g (cs, (md, mn, mw)) H) {q : Int32} {q' : (Int32 × SD)} (h7 : f_X7_platterInDrive (k_xs cs (k_st cs)) (xs (nI i + 1).toNatClampNeg) = some q) (h8 : f_X8_platterInDrive md (xs (nI i + 1).toNatClampNeg) = some q') (he : q = q'.1) (hc : cells + 0 ≤ 600000) (hs : slots + 0 ≤ 7302250) (K : ∀ (H1 : Heap) (locs1 : List Loc), World g (cs, (q'.2, mn, mw)) H1 → va_S (gA g) s.heap H1 locs1 → W p l e room_1 s m #[Value.ref b] below meth c H1 locs1 (cells + 0) (slots + 0) Q (F0 m 1691 ls [])) : W p l e room_1 s m #[Value.ref b] below meth c H locs cells slots Q (F0 m 465 ls []) := by
  obtain ⟨hx, hb, hml, hown, hts, hX, hbl, hbA, hK⟩ := X
  have hv1 : vp_in (nI i + 1) L := lw_in1 hi hL
  refine lv_aload_n hx hb dL_law_465 rfl (lv_at hl 1 rfl) ?_
  refine lv_aload_n hx hb dL_law_466 rfl (lv_at hl 0 rfl) ?_
  refine lv_iload_n hx hb dL_law_467 rfl (lv_at hl 3 rfl) ?_
  refine lv_iconst (v := 1) hx hb dL_law_468 (by decide) ?_
  refine lv_iadd hx hb dL_law_469 ?_
  refine va_sld hx hb hX hbl hbA hS hv1 dL_law_470 ?_
  refine x_ci (x_rV ⟨hx, hb, hml, hown, hts⟩ (ct_X7_platterInDrive l g (Nat.le_of_lt_succ (by rw [hfl]; decide)) cs (md, mn, mw) (xs (nI i + 1).toNatClampNeg) h7) (cwV 1 hts gL_law_X7_platterInDrive rfl rfl rfl (by decide +kernel) ⟨Nat.le_of_ble_eq_true rfl, Nat.le_of_ble_eq_true rfl⟩) hK hW hS (x_recv (i := g.1) (k := 7) (j := 0) hK hW ⟨⟨Nat.le_of_lt_succ (by rw [hfl]; decide), rfl⟩, by decide⟩ rfl (by decide)) rfl hl.1 (rest := []) rfl (Nat.le_of_ble_eq_true rfl) dL_law_471 ⟨hc, hs⟩) hS (fun H locs hW hS => ?_)
  have hW : World g (cs, (md, mn, mw)) H := hW
  refine lv_aload_n hx hb dL_law_474 rfl (lv_at hl 2 rfl) ?_
  refine lv_aload_n hx hb dL_law_475 rfl (lv_at hl 0 rfl) ?_
  refine lv_iload_n hx hb dL_law_476 rfl (lv_at hl 3 rfl) ?_
  refine lv_iconst (v := 1) hx hb dL_law_477 (by decide) ?_
  refine lv_iadd hx hb dL_law_478 ?_
  refine va_sld hx hb hX hbl hbA hS hv1 dL_law_479 ?_
  refine x_ci0 (x_rV ⟨hx, hb, hml, hown, hts⟩ (ct_X8_platterInDrive l g (Nat.le_of_eq hfl.symm) (cs, (md, mn, mw)) md mn mw (xs (nI i + 1).toNatClampNeg) h8) (cwV 1 hts gL_law_X8_platterInDrive rfl rfl rfl (by decide +kernel) ⟨Nat.le_of_ble_eq_true rfl, Nat.le_of_ble_eq_true rfl⟩) hK hW hS (x_recv (i := g.1 + 189) (k := 8) (j := 0) hK hW ⟨⟨Nat.le_of_eq hfl.symm, rfl⟩, by decide⟩ rfl (by decide)) rfl hl.1 (rest := [.int q]) rfl (Nat.le_of_ble_eq_true rfl) dL_law_480 ⟨hc, hs⟩) hS (fun H locs hW hS => ?_)
  have hW : World g (cs, (q'.2, mn, mw)) H := hW
  refine lv_icmp_eq (tgt := 1691) hx hb dL_law_483 (by decide) (fun _ => ?_) (fun h => absurd he h)
  exact K H locs hW hS
