/-! Layer 2: leastTimeWithoutOne -/
theorem itr_off {σ : Type} {h : Nat → σ → σ} {q : Nat} : ∀ (n k : Nat) (s : σ), q < k → itr (fun k s => if k = q then s else h k s) n k s = itr h n k s
  | 0, _, _, _ => rfl
  | n + 1, k, s, hk => by
    unfold itr
    rw [if_neg (show ¬ k = q by omega)]
    exact itr_off n (k + 1) _ (by omega)
theorem itr_shift {σ : Type} {h : Nat → σ → σ} {q : Nat} : ∀ (n k : Nat) (s : σ), q ≤ k → itr (fun k s => h (if k < q then k else k + 1) s) n k s = itr h n (k + 1) s
  | 0, _, _, _ => rfl
  | n + 1, k, s, hk => by
    unfold itr
    rw [if_neg (show ¬ k < q by omega)]
    exact itr_shift n (k + 1) _ (by omega)
theorem itr_skip {σ : Type} {h : Nat → σ → σ} {q : Nat} : ∀ (n k : Nat) (s : σ), k ≤ q → q < k + n → itr (fun k s => if k = q then s else h k s) n k s = itr (fun k s => h (if k < q then k else k + 1) s) (n - 1) k s
  | 0, _, _, h1, h2 => by omega
  | n + 1, k, s, h1, h2 => by
    rw [Nat.add_sub_cancel]
    by_cases e : k = q
    · subst e
      rw [itr_shift n k s (Nat.le_refl _)]
      show itr _ n (k + 1) (if k = k then s else h k s) = itr h n (k + 1) s
      rw [if_pos rfl]
      exact itr_off (q := k) n (k + 1) s (by omega)
    · obtain ⟨n, rfl⟩ : ∃ x, n = x + 1 := ⟨n - 1, by omega⟩
      have ih := itr_skip (h := h) (q := q) (n + 1) (k + 1) (h k s) (by omega) (by omega)
      rw [Nat.add_sub_cancel] at ih
      show itr _ (n + 1) (k + 1) (if k = q then s else h k s) = itr _ n (k + 1) (h (if k < q then k else k + 1) s)
      rw [if_neg e, if_pos (show k < q by omega)]
      exact ih
section LT1
variable {b d : Nat} {cs : CT} {m s : SD} {r r' : RW}
/-- the steps of the three sums over the requests -/
def hAw (r : RW) (k s : Nat) : Nat := if holdQ r (nI (pq r k)) = -1 then s ||| 2 ^ pq r k else s
def hMk (r : RW) (k s : Nat) : Nat := if holdQ r (nI (pq r k)) = -1 then s else s ||| 2 ^ (holdQ r (nI (pq r k))).toNatClampNeg
def hRt (r : RW) (k : Nat) (s : Int32) : Int32 := s + rdT r (nv r (289 + nv r (589 + k)))
theorem awF_itr (r : RW) {a : Int32} : ∀ (n k s : Nat), awF r a n k s = itr (fun k s => if nI k = a then s else hAw r k s) n k s
  | 0, _, _ => rfl
  | n + 1, k, s => by
    unfold awF itr
    exact awF_itr r n (k + 1) _
theorem mkF_itr (r : RW) {a : Int32} : ∀ (n k s : Nat), mkF r a n k s = itr (fun k s => if nI k = a then s else hMk r k s) n k s
  | 0, _, _ => rfl
  | n + 1, k, s => by
    unfold mkF itr
    exact mkF_itr r n (k + 1) _
theorem rtF_itr (r : RW) {a : Int32} : ∀ (n k : Nat) (s : Int32), rtF r a n k s = itr (fun k s => if nI k = a then s else hRt r k s) n k s
  | 0, _, _ => rfl
  | n + 1, k, s => by
    unfold rtF itr
    exact rtF_itr r n (k + 1) _
theorem DV.n {q : Nat} (h : DV r r' q) {i : Nat} (h1 : i ≠ 16) (h2 : i < 589) : nv r' i = nv r i := nv_eq (h.1 i h1 (by omega))
theorem DV.q {q : Nat} (h : DV r r' q) {k : Nat} (hk : k < nv r 16 - 1) : nv r' (589 + k) = nv r (589 + (if k < q then k else k + 1)) := by
  refine nv_eq ?_
  rw [h.2.2 k hk]
  by_cases z : k < q
  · rw [if_pos z, if_pos z]
  · rw [if_neg z, if_neg z]
    rfl
theorem DV.hold {q : Nat} (h : DV r r' q) (hI : Inv r) (a : Int32) : holdQ r' a = holdQ r a := by
  have l6 := hI.l6
  show fst _ (nv r' 6) 0 = fst _ (nv r 6) 0
  rw [h.n (by omega) (by omega)]
  exact fst_congr0 (fun e he => by rw [h.1 _ (by omega) (by omega)])
theorem DV.pq {q : Nat} (h : DV r r' q) (hI : Inv r) {k : Nat} (hk : k < nv r 16 - 1) : nv r' (289 + nv r' (589 + k)) = nv r (289 + nv r (589 + (if k < q then k else k + 1))) ∧ pq r' k = pq r (if k < q then k else k + 1) := by
  have l9 := hI.l9
  have l10 := hI.l10
  obtain ⟨-, y2⟩ := hI.req (if k < q then k else k + 1) (by split <;> omega)
  obtain ⟨-, x2⟩ := hI.cur _ y2
  have e1 : nv r' (289 + nv r' (589 + k)) = nv r (289 + nv r (589 + (if k < q then k else k + 1))) := by
    rw [h.q hk, h.n (by omega) (by omega)]
  refine ⟨e1, ?_⟩
  show nv r' (349 + nv r' (289 + nv r' (589 + k))) = nv r (349 + nv r (289 + nv r (589 + (if k < q then k else k + 1))))
  rw [e1, h.n (by omega) (by omega)]
theorem DV.rd {q : Nat} (h : DV r r' q) {v : Nat} (hv : v < 40) : rdT r' v = rdT r v := by
  unfold rdT
  rw [h.1 4 (by omega) (by omega), h.1 (429 + v) (by omega) (by omega), h.1 (509 + v) (by omega) (by omega)]
/-- leaving a request out, or dropping it: the same sums -/
theorem DV.sums {q : Nat} (h : DV r r' q) (hI : Inv r) (hq : q < nv r 16) : awS r' (-1) = awS r (nI q) ∧ mkF r' (-1) (nv r' 16) 0 0 = mkF r (nI q) (nv r 16) 0 0 ∧ rtF r' (-1) (nv r' 16) 0 0 = rtF r (nI q) (nv r 16) 0 0 := by
  have l16 := hI.l16
  have l10 := hI.l10
  have n16 : nv r' 16 = nv r 16 - 1 := nv_of h.2.1 (by omega)
  have cond : ∀ (σ : Type) (f : Nat → σ → σ) (s : σ), itr (fun k s => if nI k = nI q then s else f k s) (nv r 16) 0 s = itr (fun k s => f (if k < q then k else k + 1) s) (nv r 16 - 1) 0 s := fun σ f s => by
    rw [← itr_skip (h := f) (q := q) (nv r 16) 0 s (by omega) (by omega)]
    refine itr_congr (fun e s _ he => ?_)
    by_cases z : e = q
    · rw [if_pos z, if_pos (by rw [z])]
    · rw [if_neg z, if_neg (by rw [nI_eq (by omega) (by omega)]; exact z)]
  have neg : ∀ (σ : Type) (f g : Nat → σ → σ) (s : σ), (∀ k s, k < nv r 16 - 1 → f k s = g (if k < q then k else k + 1) s) → itr (fun k s => if nI k = -1 then s else f k s) (nv r 16 - 1) 0 s = itr (fun k s => g (if k < q then k else k + 1) s) (nv r 16 - 1) 0 s := fun σ f g s hh => by
    refine itr_congr (fun e s _ he => ?_)
    rw [if_neg (by rw [nm1 (by omega)]; exact id)]
    exact hh e s (by omega)
  refine ⟨?_, ?_, ?_⟩
  · unfold awS
    rw [awF_itr, awF_itr, n16, cond, neg _ _ (hAw r)]
    intro k s hk
    unfold hAw
    rw [h.hold hI, (h.pq hI hk).2]
  · rw [mkF_itr, mkF_itr, n16, cond, neg _ _ (hMk r)]
    intro k s hk
    unfold hMk
    rw [h.hold hI, (h.pq hI hk).2]
  · rw [rtF_itr, rtF_itr, n16, cond, neg _ _ (hRt r)]
    intro k s hk
    unfold hRt
    have e1 := (h.pq hI hk).1
    obtain ⟨-, y2⟩ := hI.req (if k < q then k else k + 1) (by split <;> omega)
    obtain ⟨-, x2⟩ := hI.cur _ y2
    rw [e1, h.rd (by omega)]
theorem opt_congr {w w' : Nat → Nat → Nat} : ∀ (k s p : Nat), (∀ a c, (a = p ∨ s.testBit a = true) → s.testBit c = true → w a c = w' a c) → opt w k s p = opt w' k s p
  | 0, _, _, _ => by rw [opt, opt]
  | k + 1, s, p, h => by
    rw [opt, opt]
    by_cases z : s = 0
    · rw [if_pos z, if_pos z]
    · rw [if_neg z, if_neg z]
      refine mnS_congr _ _ _ (fun i _ _ hi => ?_)
      have e1 := h p i (Or.inl rfl) hi
      have e2 := opt_congr (w := w) (w' := w') k (s ^^^ 2 ^ i) i (fun a c ha hc => h a c (by
        rcases ha with rfl | ha
        · exact Or.inr hi
        · exact Or.inr (xo_sub (fun _ h => h) hi a ha)) (xo_sub (fun _ h => h) hi c hc))
      show w p i + _ = w' p i + _
      rw [e1, e2]
theorem DV_sw {q : Nat} (h : DV r r' q) (hd : d < 4) {a c : Nat} (ha : a < 10) (hc : c < 10) : swN r' d a c = swN r d a c := by
  have e6 : ∀ i, i < 589 → i ≠ 16 → nv r' i = nv r i := fun i h1 h2 => h.n h2 h1
  have b : bwN r' d a c = bwN r d a c := by
    unfold bwN
    rw [e6 (17 + d) (by omega) (by omega), e6 (29 + a) (by omega) (by omega), e6 (29 + c) (by omega) (by omega)]
  unfold swN
  rw [b, e6 1 (by omega) (by omega), e6 2 (by omega) (by omega), e6 3 (by omega) (by omega)]
theorem DV_bt {q : Nat} (h : DV r r' q) (hI : Inv r) (hd : d < nv r 6) {p : Nat} (hp : p < 10) : btm r' p d = btm r p d := by
  have l6 := hI.l6
  have l7 := hI.l7
  have e6 : ∀ i, i < 589 → i ≠ 16 → nv r' i = nv r i := fun i h1 h2 => h.n h2 h1
  have e21 : r' (21 + d) = r (21 + d) := h.1 (21 + d) (by omega) (by omega)
  have b : mvs r' p d = mvs r p d := by
    unfold mvs
    rw [e21, e6 (17 + d) (by omega) (by omega), e6 (29 + p) (by omega) (by omega), e6 11 (by omega) (by omega), e6 (21 + d) (by omega) (by omega)]
    rcases (hI.drv d hd).2 with z | ⟨z1, z2⟩
    · simp only [if_pos z]
    · rw [e6 (29 + nv r (21 + d)) (by omega) (by omega)]
  unfold btm
  rw [b, e21, e6 1 (by omega) (by omega), e6 2 (by omega) (by omega), e6 3 (by omega) (by omega)]
theorem DV_lst {q : Nat} (h : DV r r' q) (hI : Inv r) (hd : d < nv r 6) (S : Nat) (hS : ∀ p, S.testBit p = true → p < nv r 7) : lst r' d S = lst r d S := by
  have l6 := hI.l6
  have l7 := hI.l7
  have h10 : ∀ p, S.testBit p = true → p < 10 := fun p hp => by have := hS p hp; omega
  unfold lst
  refine mnS_congr _ _ _ (fun i _ _ hi => ?_)
  have e1 := DV_bt h hI hd (h10 i hi)
  have e2 : opt (swN r' d) (S ^^^ 2 ^ i) (S ^^^ 2 ^ i) i = opt (swN r d) (S ^^^ 2 ^ i) (S ^^^ 2 ^ i) i := opt_congr _ _ _ (fun a c ha hc => DV_sw h (by omega) (by
    rcases ha with rfl | ha
    · exact h10 _ hi
    · exact h10 _ (xo_sub (fun _ h => h) hi a ha)) (h10 _ (xo_sub (fun _ h => h) hi c hc)))
  show btm r' i d + _ = btm r i d + _
  rw [e1, e2]
theorem rt_nat (hI : Inv r) (a : Int32) : ∀ (n q s : Nat), q + n ≤ nv r 16 → ∃ w, rtF r a n q (nI s) = nI w ∧ w ≤ s + 30591 * n
  | 0, _, s, _ => ⟨s, rfl, by omega⟩
  | n + 1, q, s, h => by
    unfold rtF
    by_cases z : nI q = a
    · rw [if_pos z]
      obtain ⟨w, w1, w2⟩ := rt_nat hI a n (q + 1) s (by omega)
      exact ⟨w, w1, by omega⟩
    · obtain ⟨-, y2⟩ := hI.req q (by omega)
      obtain ⟨-, x2⟩ := hI.cur _ y2
      obtain ⟨-, -, -, v4, -, -, v7, -⟩ := hI.ver _ x2
      have t4 := hI.tim.2.2.2.1
      rw [if_neg z]
      unfold rdT
      rw [t4.e, v4.e, v7.e, nI_add, pk_mul, nI_add]
      obtain ⟨w, w1, w2⟩ := rt_nat hI a n (q + 1) (s + nv r 4 * (nv r (429 + nv r (289 + nv r (589 + q))) + nv r (509 + nv r (289 + nv r (589 + q))))) (by omega)
      have : nv r 4 * (nv r (429 + nv r (289 + nv r (589 + q))) + nv r (509 + nv r (289 + nv r (589 + q)))) ≤ 99 * 309 := Nat.mul_le_mul t4.l (by have := v4.l; have := v7.l; omega)
      exact ⟨w, w1, by omega⟩
theorem lst_le (hI : Inv r) (hd : d < nv r 6) {S : Nat} (h0 : S ≠ 0) (hS : S < 1024) (hb : ∀ p, S.testBit p = true → p < nv r 7) : lst r d S ≤ 8000000 := by
  obtain ⟨q, q1, q2⟩ := ex_bit h0 hS
  have b1 := opt_b hI hd hS hb q2
  have b2 := btm_le hI (hb q q2) hd
  have := mnS_le2 (s := S) (f := fun q => btm r q d + opt (swN r d) (S ^^^ 2 ^ q) (S ^^^ 2 ^ q) q) 10 0 2147483647 q (by omega) (by omega) q2
  unfold lst
  omega
theorem lt_loop (hI : Inv r) (hR : Rel b s r) (hb : b < 2 ^ 27) (h0 : 0 < nv r 6) : ∀ (k q f f' : Nat) (x y : Int32) (pd m : SD), q + k = nv r 16 → k < f → k < f' → m 30 0 = r → (pd 2 0 5 = -1 ∨ PTok pd r) → ((x = 2147483647 ∧ y = 1000000000 ∧ 0 < k) ∨ ∃ w, w < 1000000000 ∧ x = nI w ∧ y = nI w) → ∃ v pd' m', f_X7_leastTimeWithoutOne_L s f pd x (nI q) = some (v, pd') ∧ f_X8_leastTimeWithoutOne_L22 f' y (nI q) m = some (v, m') ∧ MSame m m' ∧ (pd' 2 0 5 = -1 ∨ PTok pd' r) := by
  have l16 := hI.l16
  have l6 := hI.l6
  intro k
  induction k with
  | zero =>
    intro q f f' x y pd m hq hf hf' hr hP hxy
    obtain ⟨f, rfl⟩ : ∃ q, f = q + 1 := ⟨f - 1, by omega⟩
    obtain ⟨f', rfl⟩ : ∃ q, f' = q + 1 := ⟨f' - 1, by omega⟩
    have : q = nv r 16 := by omega
    subst this
    rcases hxy with ⟨-, -, h⟩ | ⟨w, -, rfl, rfl⟩
    · omega
    · rw [f_X7_leastTimeWithoutOne_L, hR.s13, hI.c16, if_pos (nI_le (Nat.le_refl _) (by omega)), f_X8_leastTimeWithoutOne_L22, hr, hI.c16, if_pos (nI_le (Nat.le_refl _) (by omega))]
      exact ⟨_, pd, m, rfl, rfl, MSame.rf m, hP⟩
  | succ k ih =>
    intro q f f' x y pd m hq hf hf' hr hP hxy
    obtain ⟨f, rfl⟩ : ∃ q, f = q + 1 := ⟨f - 1, by omega⟩
    obtain ⟨f', rfl⟩ : ∃ q, f' = q + 1 := ⟨f' - 1, by omega⟩
    have hq2 : q < nv r 16 := by omega
    obtain ⟨d, pd', d1, d2, d3, d4, -⟩ := c_timeWithout hI hR (by omega) h0 hP (nI q)
    have hrow := (trM_row m).trans hr
    obtain ⟨m2, a1, a2, a3⟩ := m_drops hrow hI hq2
    obtain ⟨s2, k1, k2, k3, k4⟩ := c_removeRequest hI hR hq2
    obtain ⟨e0, e16, eq⟩ := a3
    have a3 : DV r (m2 30 0) q := ⟨e0, e16, eq⟩
    have sh : ∀ k, k < nv r 16 - 1 → isN (m2 30 0) (589 + k) 19 ∧ nv (m2 30 0) (589 + k) < nv r 9 := fun k hk => by
      have e := eq k hk
      by_cases z : k < q
      · rw [if_pos z] at e
        have g := hI.req k (by omega)
        exact ⟨isN_eq e g.1, by rw [nv_eq e]; exact g.2⟩
      · rw [if_neg z] at e
        have g := hI.req (k + 1) (by omega)
        have e2 : 589 + k + 1 = 589 + (k + 1) := by omega
        rw [e2] at e
        have e3 := nv_eq e
        exact ⟨⟨by rw [e3, e]; exact g.1.1, by rw [e3]; exact g.1.2⟩, by rw [e3]; exact g.2⟩
    obtain ⟨hI3, hR3⟩ := req_step (r' := m2 30 0) (sd' := s2) (Q := nv r 16 - 1) hI hR (by omega) e0 e16 sh k2 k3 (fun k hk => by rw [k4 k hk, eq k hk])
    have n9 : nv (m2 30 0) 9 = nv r 9 := nv_eq (e0 9 (by omega) (by omega))
    have n6 : nv (m2 30 0) 6 = nv r 6 := nv_eq (e0 6 (by omega) (by omega))
    have hI2 := inv_of hI3 n9
    have hR2 := rel_of hR3 n9
    obtain ⟨u1, u2, u3⟩ := a3.sums hI hq2
    have hus : useC s2 = useC s := by
      funext M e
      unfold useC ns
      rw [k2 0 e 2 (by omega) (by omega), k2 4 0 4 (by omega) (by omega)]
    have hfr : freQ (m2 30 0) (useC s2 (mkF (m2 30 0) (-1) (nv (m2 30 0) 16) 0 0)) = nI d := by
      rw [u2, hus, freQ_row _ n6 (fun e he => e0 _ (by omega) (by omega))]
      exact d2
    obtain ⟨s3, s4, m4, -, -, b3, b4, -, -, b7, -⟩ := serve_both (m := m2) rfl hI2 hR2 hb (by omega) (d := d) (by omega) hfr (pd := pdL d (olQ (m2 30 0) d)) rfl rfl (fun t _ => rfl)
    obtain ⟨m5, c1, c2⟩ := m_back (a2.tr b4)
    have hS7 := awS_lt7 hI (nI q)
    have hSl := awS_lt hI (nI q)
    have e12 : (m2 30 0) 12 = r 12 := e0 12 (by omega) (by omega)
    rw [u1, u3, DV_lst a3 hI d1 _ hS7, e12] at b7
    have hT : m4 30 0 12 - m 30 0 12 = rtF r (nI q) (nv r 16) 0 0 + (if awS r (nI q) = 0 then 0 else nI (lst r d (awS r (nI q)))) := by
      rw [b7, hr, i32_back]
    rw [hT] at c1
    obtain ⟨w, w1, w2⟩ : ∃ w, rtF r (nI q) (nv r 16) 0 0 + (if awS r (nI q) = 0 then 0 else nI (lst r d (awS r (nI q)))) = nI w ∧ w < 1000000000 := by
      obtain ⟨w, w1, w2⟩ := rt_nat hI (nI q) (nv r 16) 0 0 (by omega)
      rw [nI_0] at w1
      rw [w1]
      by_cases z : awS r (nI q) = 0
      · rw [if_pos z]
        exact ⟨w, by grind, by omega⟩
      · have := lst_le hI d1 z hSl hS7
        rw [if_neg z, nI_add]
        exact ⟨_, rfl, by omega⟩
    rw [w1] at c1 d3
    have hrow5 : m5 30 0 = r := c2.row.trans hr
    rw [f_X7_leastTimeWithoutOne_L, hR.s13, hI.c16, if_neg (by rw [nI_leI (by omega) (by omega)]; omega), f_X8_leastTimeWithoutOne_L22, hr, hI.c16, if_neg (by rw [nI_leI (by omega) (by omega)]; omega), d3, xb, m_tries, xb, a1, xb, b3, xb, c1, xb]
    simp (disch := omega) only [xl, ra]
    rcases hxy with ⟨rfl, rfl, -⟩ | ⟨v, v1, rfl, rfl⟩
    · have i2 : nI w < 2147483647 := (nI_ltI (b := 2147483647) (by omega) (by omega)).mpr (by omega)
      have i3 : ¬ (1000000000 : Int32) ≤ nI w := by
        show ¬ nI 1000000000 ≤ nI w
        rw [nI_leI (by omega) (by omega)]
        omega
      rw [if_pos i2, if_neg i3]
      obtain ⟨v, pd2, m6, g1, g2, g3, g4⟩ := ih (q + 1) f f' (nI w) (nI w) pd' m5 (by omega) (by omega) (by omega) hrow5 d4 (Or.inr ⟨w, w2, rfl, rfl⟩)
      exact ⟨v, pd2, m6, g1, g2, c2.tr g3, g4⟩
    · by_cases y : w < v
      · rw [if_pos ((nI_ltI (by omega) (by omega)).mpr y), if_neg (by rw [nI_leI (by omega) (by omega)]; omega)]
        obtain ⟨v, pd2, m6, g1, g2, g3, g4⟩ := ih (q + 1) f f' (nI w) (nI w) pd' m5 (by omega) (by omega) (by omega) hrow5 d4 (Or.inr ⟨w, w2, rfl, rfl⟩)
        exact ⟨v, pd2, m6, g1, g2, c2.tr g3, g4⟩
      · rw [if_neg (by rw [nI_ltI (by omega) (by omega)]; exact y), if_pos (nI_le (by omega) (by omega))]
        obtain ⟨v, pd2, m6, g1, g2, g3, g4⟩ := ih (q + 1) f f' (nI v) (nI v) pd' m5 (by omega) (by omega) (by omega) hrow5 d4 (Or.inr ⟨v, v1, rfl, rfl⟩)
        exact ⟨v, pd2, m6, g1, g2, c2.tr g3, g4⟩
theorem st_leastTimeWithoutOne (hJ : JJ b cs m) (hb : b < 2 ^ 27) : ST b (f_X7_leastTimeWithoutOne cs) (f_X8_leastTimeWithoutOne m) := by
  obtain ⟨m1, e1, r1, s1⟩ := thr m
  have hJ1 := hJ.same s1
  obtain ⟨hI, hR, -, -, -⟩ := hJ.same s1
  have l16 := hI.l16
  unfold f_X7_leastTimeWithoutOne f_X8_leastTimeWithoutOne
  rw [c_batchProblem hI hR, xb, xl, e1, m_whyNotServed rfl hI, xb]
  by_cases z : bpV (m1 30 0) 2 = 0
  · obtain ⟨h2, h06⟩ := bpV_0 hI z
    rw [hI.c16] at h2
    have h2 : 2 ≤ nv (m1 30 0) 16 := (nI_leI (a := 2) (by omega) (by omega)).mp h2
    obtain ⟨pi, c1, q1, q2, q3, q4, q5⟩ := ready_JJ hJ1
    obtain ⟨v, pd', m', g1, g2, g3, g4⟩ := lt_loop hI hR hb h06 (nv (m1 30 0) 16) 0 fuel fuel 2147483647 1000000000 (k_pd c1) m1 (by omega) (by unfold fuel; omega) (by unfold fuel; omega) rfl q5 (Or.inl ⟨rfl, rfl, by omega⟩)
    rw [nI_0] at g1 g2
    rw [if_pos z, if_pos z, q1, xb]
    simp only
    rw [q4, g1, xb, g2]
    exact ⟨_, _, m', rfl, rfl, (q2.plan g4).same g3⟩
  · rw [if_neg z, if_neg z]
    exact ⟨_, _, _, rfl, rfl, hJ1⟩
end LT1
