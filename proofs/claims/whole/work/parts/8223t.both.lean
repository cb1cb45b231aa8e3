/-! Layer 2: serves of both -/
section SVB
variable {b d : Nat} {sd md s m : SD} {r r' : RW}
theorem stp_same (h1 : ∀ q, btm r' q d = btm r q d) (h2 : swN r' d = swN r d) : stp r' d = stp r d := by
  funext o q
  cases o with
  | none => exact h1 q
  | some p => show swN r' d p q = swN r d p q; rw [h2]
theorem nxS_same (h1 : stp r' d = stp r d) (h2 : swN r' d = swN r d) (o : Option Nat) (S x : Nat) : ∀ n q, nxS r' d o S x n q = nxS r d o S x n q
  | 0, _ => rfl
  | n + 1, q => by
    unfold nxS
    rw [h1, h2, nxS_same h1 h2 o S x n (q + 1)]
theorem ordL_same (h1 : stp r' d = stp r d) (h2 : swN r' d = swN r d) : ∀ (n : Nat) (o : Option Nat) (S x : Nat), ordL r' d n o S x = ordL r d n o S x
  | 0, _, _, _ => rfl
  | n + 1, o, S, x => by
    unfold ordL
    rw [nxS_same h1 h2, h2]
    by_cases z : S = 0
    · rw [if_pos z, if_pos z]
    · rw [if_neg z, if_neg z]
      cases nxS r d o S x 10 0 with
      | none => rfl
      | some q =>
        simp only
        rw [ordL_same h1 h2]
theorem lst_same (h1 : ∀ q, btm r' q d = btm r q d) (h2 : swN r' d = swN r d) (S : Nat) : lst r' d S = lst r d S := by
  unfold lst
  rw [h2]
  congr 1
  funext q
  rw [h1]
theorem swN_st (h : Stc r r') (hd : d < 4) : swN r' d = swN r d := by
  funext p q
  unfold swN bwN
  rw [h.n (nmec (i := 17 + d) (by omega)), h.n (nmec (i := 29 + p) (by omega)), h.n (nmec (i := 29 + q) (by omega)), h.n (nmec (i := 1) (by omega)), h.n (nmec (i := 2) (by omega)), h.n (nmec (i := 3) (by omega))]
theorem freQ_row (u : Nat → Nat) (h6 : nv r' 6 = nv r 6) (h : ∀ d, d < nv r 6 → r' (21 + d) = r (21 + d)) : freQ r' u = freQ r u := by
  have e : empQ r' = empQ r := by
    show fst _ (nv r' 6) 0 = fst _ (nv r 6) 0
    rw [h6]
    exact fst_congr0 (fun e he => by rw [h e he])
  unfold freQ
  rw [e, h6]
theorem clear_step (hI : Inv r) (hR : Rel b s r) : Inv (rup r 16 0) ∧ Rel b (upS s 4 0 13 0) (rup r 16 0) := by
  obtain ⟨h1, h2⟩ := req_step (r' := rup r 16 0) (sd' := upS s 4 0 13 0) (Q := 0) hI hR (by omega) (fun i h _ => rup_ne h) (rup_hit _ _ _) (fun k hk => absurd hk (Nat.not_lt_zero _)) (fun k j t _ n2 => by unfold upS; rw [if_neg n2]) (upS_hit _ _ _ _ _) (fun k hk => absurd hk (Nat.not_lt_zero _))
  have n9 : nv (rup r 16 0) 9 = nv r 9 := nv_eq (rup_ne (by omega))
  exact ⟨inv_of h1 n9, rel_of h2 n9⟩
theorem sQ_all (hI : Inv r) : sQ r (fun _ => true) (nv r 16) 0 = sQ r (hb r (nv r 6)) (nv r 16) 0 + sQ r (fun p => (awS r (-1)).testBit p) (nv r 16) 0 := by
  have l7 := hI.l7
  refine sQ_add _ _ (fun i _ h2 => ?_)
  have hp := pq_lt hI (q := i) (by omega)
  have ha : anQ r (pq r i) (nv r 16) 0 = true := (anQ_iff r _ _ _).mpr ⟨i, by omega, h2, rfl⟩
  have hw := aw_not (p := pq r i) hI
  rcases holdQ_cases r (nI (pq r i)) with ⟨h, hn⟩ | ⟨e, e1, e2, e3⟩
  · have hf : hb r (nv r 6) (pq r i) = false := Bool.eq_false_iff.mpr (fun z => by
      obtain ⟨e, e1, e2⟩ := (hb_iff r _ _).mp z
      exact hn e e1 e2)
    rw [hf, hw.mpr ⟨ha, h⟩]
    exact ⟨rfl, fun h => by cases h.1⟩
  · have ht : hb r (nv r 6) (pq r i) = true := (hb_iff r _ _).mpr ⟨e, e1, e3⟩
    have hf : (awS r (-1)).testBit (pq r i) = false := Bool.eq_false_iff.mpr (fun z => by
      have := (hw.mp z).2
      rw [e2, nm1 (by have := hI.l6; omega)] at this
      exact this)
    rw [ht, hf]
    exact ⟨rfl, fun h => by cases h.2⟩
/-- the order of the batch -/
def olQ (r : RW) (d : Nat) : List Nat := ordL r d 10 none (awS r (-1)) (lst r d (awS r (-1)))
theorem aw0 (hI : Inv r) (h : (wlQ r).length = 0) : awS r (-1) = 0 := Nat.eq_of_testBit_eq (fun p => by
  rw [Nat.zero_testBit]
  refine Bool.eq_false_iff.mpr (fun z => ?_)
  obtain ⟨i, i1, -⟩ := (wlQ_WO hI).2.2.2 p z
  omega)
theorem serve_both (hr : m 30 0 = r) (hI : Inv r) (hR : Rel b s r) (hb' : b < 2 ^ 27) (h0 : 0 < nv r 6) (hd : d < nv r 6) (hfr : freQ r (useC s (mkF r (-1) (nv r 16) 0 0)) = nI d) {pd : SD} (p3 : pd 2 0 3 = nI (olQ r d).length) (p4 : pd 2 0 4 = nI d) (p25 : ∀ t, t < (olQ r d).length → pd 25 0 t = nI ((olQ r d).getD t 0)) : ∃ s1 s2 m', f_X4_readInDrives s = some s1 ∧ f_X7_serveBatch_L pd fuel s1 0 = some s2 ∧ f_X8_serves m = some m' ∧ MX m m' ∧ Inv (m' 30 0) ∧ Rel (b + 256) (upS s2 4 0 13 0) (m' 30 0) ∧ m' 30 0 12 = r 12 + (rtF r (-1) (nv r 16) 0 0 + (if awS r (-1) = 0 then 0 else nI (lst r d (awS r (-1))))) ∧ m' 8 0 10 = nI (olQ r d).length ∧ (∀ u, u < (olQ r d).length → ∃ i, i < 10 ∧ m' 35 0 u = nI i ∧ m' 34 0 i = nI ((olQ r d).getD u 0)) ∧ (olQ r d).length = (wlQ r).length := by
  have l6 := hI.l6
  have l7 := hI.l7
  have l16 := hI.l16
  obtain ⟨m1, a1, a2, a3, a4⟩ := m_findsWanted hr hI
  have r1 : m1 30 0 = r := by rw [← hr]; funext t; exact a2 _ _ _ (by omega) (by omega)
  have hX1 : MX m m1 := fun k j t _ z2 => a2 k j t (by omega) (by omega)
  obtain ⟨s1, m2, b1, b2, b3, b4, b5, b6, b7, b8⟩ := in_loop hI (s0 := s) (nv r 6) 0 fuel fuel b s m1 (by omega) (by unfold fuel; omega) (by unfold fuel; omega) (by omega) (fun i _ _ _ => by rw [r1]) (by rw [r1]; exact hI) (by rw [r1]; exact hR) ⟨Nat.le_refl _, fun e he => absurd he (Nat.not_lt_zero _), fun _ _ => rfl, fun e e' _ he => absurd he (Nat.not_lt_zero _)⟩ (by
    rw [r1, sQ_congr (Q := fun _ => false) _ _ (fun i _ _ => rfl), sQ_0]
    grind)
  rw [nI_0] at b1 b2
  have hsv : f_X8_serves m = svT m2 := by
    unfold f_X8_serves
    rw [a1, xb]
    exact b2
  have hin : f_X4_readInDrives s = some s1 := b1
  have hW := wlQ_WO hI
  have lw := hW.1
  have h10 : m2 8 0 10 = nI (wlQ r).length := by rw [b3 _ _ _ (by omega)]; exact a3
  have h34 : ∀ i, i < (wlQ r).length → m2 34 0 i = nI ((wlQ r).getD i 0) := fun i hi => by rw [b3 _ _ _ (by omega)]; exact a4 i hi
  have hsum := sQ_all hI
  have hrt := rtF_sQ (r := r) (nv r 16) 0 0 (by omega)
  by_cases hz : (wlQ r).length = 0
  · have hS := aw0 hI hz
    have hol : olQ r d = [] := by
      unfold olQ
      rw [hS, ordL, if_pos rfl]
    obtain ⟨j1, j2⟩ := clear_step b5 b6
    refine ⟨s1, s1, upS m2 30 0 16 0, hin, ?_, ?_, hX1.tr (b3.mx.up (by omega)), by rw [row_up]; exact j1, by rw [row_up]; exact j2.more (by omega), ?_, ?_, ?_, ?_⟩
    · rw [show fuel = 19999 + 1 from rfl, f_X7_serveBatch_L, p3, hol, if_pos (show nI ([] : List Nat).length ≤ 0 from nI_le (a := 0) (b := 0) (Nat.le_refl _) (by omega))]
    · rw [hsv]
      unfold svT
      rw [h10, hz, if_pos (show nI 0 ≤ 0 from nI_le (a := 0) (b := 0) (Nat.le_refl _) (by omega))]
    · rw [row_up, rup_ne (by omega), b8, hS, if_pos rfl, hrt, hsum, hS, sQ_congr (P := fun p => (0 : Nat).testBit p) (Q := fun _ => false) _ _ (fun i _ _ => Nat.zero_testBit _), sQ_0]
      grind
    · rw [upS_k (by omega), h10, hz, hol]; rfl
    · intro u hu
      rw [hol] at hu
      exact absurd hu (Nat.not_lt_zero _)
    · rw [hol, hz]; rfl
  · have hU := b6.useN (by omega)
    have n6 := b4.stc.n (i := 6) (nmec (by omega))
    have n7 := b4.stc.n (i := 7) (nmec (by omega))
    have hfree : f_X8_freeDrive m2 = some (nI d) := by
      rw [m_freeDrive rfl b5 hU (by omega), freQ_row _ n6 (fun e he => b4 _ (by omega) (by omega) (by omega)), ← hfr, ← UQ.free hI hR rfl b7 h0]
      congr 1
      refine freQ_congr (fun e e' he he' => ?_) h0
      exact (b6.us.2.2.2 e e' (by omega) (by omega)).symm
    have hCu : Cur r (m2 30 0) d none := ⟨b4 _ (by omega) (by omega) (by omega), b4 _ (by omega) (by omega) (by omega)⟩
    have eb : ∀ q, btm (m2 30 0) q d = btm r q d := fun q => btm_cur b4.stc (by omega) hCu q
    have es := swN_st b4.stc (d := d) (by omega)
    obtain ⟨m3, c1, c2, c3, c4⟩ := m_findsOrder (md := m2) rfl b5 (by rw [n7]; exact hW) h34 h10 (d := d) (by omega)
    rw [ordL_same (stp_same eb es) es, lst_same eb es] at c3
    have hlen : (olQ r d).length = (wlQ r).length := c3
    have r3 : m3 30 0 = m2 30 0 := by funext t; exact c2 _ _ _ (by omega) (by omega)
    have c4' : ∀ u, u < (olQ r d).length → ∃ i, i < 10 ∧ m3 35 0 u = nI i ∧ m3 34 0 i = nI ((olQ r d).getD u 0) := fun u hu => by
      obtain ⟨i, i1, i2, i3⟩ := c4 u (by omega)
      rw [ordL_same (stp_same eb es) es, lst_same eb es] at i3
      have i3' : (olQ r d).getD u 0 = (wlQ r).getD i 0 := i3
      exact ⟨i, by omega, i2, by rw [c2 _ _ _ (by omega) (by omega), i3']; exact h34 i i1⟩
    have hlt := awS_lt hI (-1)
    obtain ⟨s2, m4, e1, e2, e3, e4, e5, e6, e7⟩ := br_loop hI hd (c := (olQ r d).length) (ol := fun u => (olQ r d).getD u 0) (by omega) p3 p4 p25 10 0 fuel fuel (b + 16 * nv r 6) (awS r (-1)) none s1 m3 (by omega) (crd_le hlt) (by unfold fuel; omega) (by unfold fuel; omega) hlt (awS_lt7 hI (-1)) (by omega) (by rw [Nat.sub_zero]; rfl) (fun u hu => by rw [Nat.zero_add]; rfl) (by rw [c2 _ _ _ (by omega) (by omega), hlen]; exact h10) c4' (by rw [r3]; exact b4.stc) (by rw [r3]; exact hCu) (fun p hp => by cases hp) (fun p hp e he => by
      rw [r3, b4 _ (by omega) (by omega) (by omega)]
      exact hold_ne hI ((aw_not hI).mp hp).2 e he) (by rw [r3]; exact b5) (by rw [r3]; exact b6) (by omega)
    rw [nI_0] at e1 e2
    obtain ⟨j1, j2⟩ := clear_step e5 e6
    have hS0 : awS r (-1) ≠ 0 := fun z => by
      have := (hW.2.1 0 (by omega)).1
      rw [z, Nat.zero_testBit] at this
      cases this
    refine ⟨s1, s2, upS m4 30 0 16 0, hin, e1, ?_, hX1.tr (b3.mx.tr (MX.tr (fun k j t _ z2 => c2 k j t (by omega) (by omega)) (e3.mx.up (by omega)))), by rw [row_up]; exact j1, by rw [row_up]; exact j2.more (by omega), ?_, ?_, ?_, hlen⟩
    · rw [hsv]
      unfold svT
      rw [h10, if_neg (fun h => by rw [← nI_0, nI_leI (by omega) (by omega)] at h; omega), hfree, xb, c1, xb, e2, xb]
    · rw [row_up, rup_ne (by omega), e7, r3, b8, hrt, hsum, if_neg hS0, if_neg hS0]
      show _ + _ + (nI (lst r d (awS r (-1))) + _) = _
      grind
    · rw [upS_k (by omega), e3 _ _ _ (by omega), c2 _ _ _ (by omega) (by omega), hlen]; exact h10
    · intro u hu
      obtain ⟨i, i1, i2, i3⟩ := c4' u hu
      exact ⟨i, i1, by rw [upS_k (by omega), e3 _ _ _ (by omega)]; exact i2, by rw [upS_k (by omega), e3 _ _ _ (by omega)]; exact i3⟩
end SVB
