/-! Layer 2: a batch is served -/
section SRV
variable {b d : Nat} {sd md : SD} {r r' : RW}
/-- how the picker and the drive stand before the next exchange -/
def Cur (r r' : RW) (d : Nat) : Option Nat → Prop
  | none => r' 11 = r 11 ∧ r' (21 + d) = r (21 + d)
  | some p => r' 11 = r (17 + d) ∧ r' (21 + d) = nI p ∧ p < 10
theorem dst_self (a : Nat) : dst a a = 0 := by unfold dst; omega
theorem btm_cur (hS : Stc r r') (hd : d < 4) {o : Option Nat} (hc : Cur r r' d o) (q : Nat) : btm r' q d = stp r d o q := by
  have e17 := hS.n (nmec (i := 17 + d) (by omega))
  have eq := hS.n (nmec (i := 29 + q) (by omega))
  have e1 := hS.n (nmec (i := 1) (by omega))
  have e2 := hS.n (nmec (i := 2) (by omega))
  have e3 := hS.n (nmec (i := 3) (by omega))
  cases o with
  | none =>
    obtain ⟨c1, c2⟩ := hc
    have eh := hS.n (nmec (i := 29 + nv r (21 + d)) (by omega))
    show btm r' q d = btm r q d
    unfold btm mvs
    rw [nv_eq c2, nv_eq c1, c2, e17, eq, e1, e2, e3, eh]
  | some p =>
    obtain ⟨c1, c2, c3⟩ := hc
    have ep := hS.n (nmec (i := 29 + p) (by omega))
    have ne : ¬ r' (21 + d) = -1 := by rw [c2, nm1 (by omega)]; exact id
    have n11 : nv r' 11 = nv r (17 + d) := nv_eq c1
    show btm r' q d = swN r d p q
    unfold btm mvs swN bwN
    rw [if_neg ne, if_neg ne, nv_of c2 (by omega), n11, e17, eq, e1, e2, e3, ep, dst_self, Nat.zero_add]
    omega
theorem nxS_val {o : Option Nat} {S x : Nat} : ∀ (n q i : Nat), nxS r d o S x n q = some i → S.testBit i = true ∧ stp r d o i + opt (swN r d) (S ^^^ 2 ^ i) (S ^^^ 2 ^ i) i = x
  | 0, _, _, h => by cases h
  | n + 1, q, i, h => by
    unfold nxS at h
    by_cases z : S.testBit q = true
    · rw [if_pos z] at h
      by_cases y : stp r d o q + opt (swN r d) (S ^^^ 2 ^ q) (S ^^^ 2 ^ q) q = x
      · rw [if_pos y] at h
        cases h
        exact ⟨z, y⟩
      · rw [if_neg y] at h
        exact nxS_val n (q + 1) i h
    · rw [if_neg z] at h
      exact nxS_val n (q + 1) i h
theorem nxS_some {o : Option Nat} {S x i : Nat} (hb : S.testBit i = true) (hv : stp r d o i + opt (swN r d) (S ^^^ 2 ^ i) (S ^^^ 2 ^ i) i = x) : ∀ (n q : Nat), q ≤ i → i < q + n → ∃ j, nxS r d o S x n q = some j
  | 0, _, h1, h2 => by omega
  | n + 1, q, h1, h2 => by
    unfold nxS
    by_cases e : i = q
    · subst e
      rw [if_pos hb, if_pos hv]
      exact ⟨i, rfl⟩
    · have ih := nxS_some hb hv n (q + 1) (by omega) (by omega)
      by_cases z : S.testBit q = true
      · rw [if_pos z]
        by_cases y : stp r d o q + opt (swN r d) (S ^^^ 2 ^ q) (S ^^^ 2 ^ q) q = x
        · rw [if_pos y]
          exact ⟨q, rfl⟩
        · rw [if_neg y]
          exact ih
      · rw [if_neg z]
        exact ih
theorem ord_cons {o : Option Nat} {S x q N : Nat} (h0 : S ≠ 0) (h : nxS r d o S x 10 0 = some q) : ordL r d (N + 1) o S x = q :: ordL r d N (some q) (S ^^^ 2 ^ q) (lfT r d (S ^^^ 2 ^ q) (some q)) := by
  rw [ordL, if_neg h0, h]
  simp only
  by_cases z : S ^^^ 2 ^ q = 0
  · rw [z]
    cases N with
    | zero => rfl
    | succ N => rw [ordL, ordL, if_pos rfl, if_pos rfl]
  · rw [opt_un z]
    rfl
theorem stp_le (hI : Inv r) (hd : d < nv r 6) {o : Option Nat} (ho : ∀ p, o = some p → p < nv r 7) {q : Nat} (hq : q < nv r 7) : stp r d o q ≤ 9603 := by
  cases o with
  | none => exact btm_le hI hq hd
  | some p =>
    have := (swN_le hI hd (ho p rfl) hq).2
    show swN r d p q ≤ _
    omega
theorem br_loop (hI0 : Inv r) (hd : d < nv r 6) {c : Nat} {ol : Nat → Nat} {pd : SD} (hc : c ≤ 10) (p3 : pd 2 0 3 = nI c) (p4 : pd 2 0 4 = nI d) (p25 : ∀ u, u < c → pd 25 0 u = nI (ol u)) : ∀ (N t f f' b S : Nat) (o : Option Nat) (s m : SD), N + t = 10 → crd S ≤ N → c - t < f → c - t < f' → S < 1024 → (∀ p, S.testBit p = true → p < nv r 7) → t ≤ c → (ordL r d N o S (lfT r d S o)).length = c - t → (∀ u, u < c - t → ol (t + u) = (ordL r d N o S (lfT r d S o)).getD u 0) → m 8 0 10 = nI c → (∀ u, u < c → ∃ i, i < 10 ∧ m 35 0 u = nI i ∧ m 34 0 i = nI (ol u)) → Stc r (m 30 0) → Cur r (m 30 0) d o → (∀ p, o = some p → p < nv r 7) → (∀ p, S.testBit p = true → ∀ e, e < nv r 6 → m 30 0 (21 + e) ≠ nI p) → Inv (m 30 0) → Rel b s (m 30 0) → b + 17 * N < 2 ^ 28 → ∃ s' m', f_X7_serveBatch_L pd f s (nI t) = some s' ∧ f_X8_serves_L68 (nI d) f' (nI t) m = some (nI c, m') ∧ MR m m' ∧ Stc r (m' 30 0) ∧ Inv (m' 30 0) ∧ Rel (b + 17 * N) s' (m' 30 0) ∧ m' 30 0 12 = m 30 0 12 + ((if S = 0 then 0 else nI (lfT r d S o)) + sQ r (fun p => S.testBit p) (nv r 16) 0) := by
  have l6 := hI0.l6
  have l7 := hI0.l7
  have l16 := hI0.l16
  have fin : ∀ (N t f f' b : Nat) (o : Option Nat) (s m : SD), c - t < f → c - t < f' → t = c → m 8 0 10 = nI c → Stc r (m 30 0) → Inv (m 30 0) → Rel b s (m 30 0) → ∃ s' m', f_X7_serveBatch_L pd f s (nI t) = some s' ∧ f_X8_serves_L68 (nI d) f' (nI t) m = some (nI c, m') ∧ MR m m' ∧ Stc r (m' 30 0) ∧ Inv (m' 30 0) ∧ Rel (b + 17 * N) s' (m' 30 0) ∧ m' 30 0 12 = m 30 0 12 + ((if (0 : Nat) = 0 then 0 else nI (lfT r d 0 o)) + sQ r (fun p => (0 : Nat).testBit p) (nv r 16) 0) := by
    intro N t f f' b o s m hf hf' ht h10 hS hI hR
    subst ht
    obtain ⟨f, rfl⟩ : ∃ q, f = q + 1 := ⟨f - 1, by omega⟩
    obtain ⟨f', rfl⟩ : ∃ q, f' = q + 1 := ⟨f' - 1, by omega⟩
    rw [f_X7_serveBatch_L, p3, if_pos (nI_le (Nat.le_refl _) (by omega)), f_X8_serves_L68, h10, if_pos (nI_le (Nat.le_refl _) (by omega))]
    refine ⟨s, m, rfl, rfl, MR.rf m, hS, hI, hR.more (by omega), ?_⟩
    rw [if_pos rfl, sQ_congr (Q := fun _ => false) _ _ (fun i _ _ => Nat.zero_testBit _), sQ_0]
    grind
  intro N
  induction N with
  | zero =>
    intro t f f' b S o s m hN hcr hf hf' hS hb7 htc hlen hol h10 hli hSt hCu hop haw hI hR hb
    have : S = 0 := crd_0 hS (by omega)
    subst this
    have hl : (ordL r d 0 o 0 (lfT r d 0 o)).length = 0 := rfl
    exact fin 0 t f f' b o s m hf hf' (by omega) h10 hSt hI hR
  | succ N ih =>
    intro t f f' b S o s m hN hcr hf hf' hS hb7 htc hlen hol h10 hli hSt hCu hop haw hI hR hb
    by_cases hS0 : S = 0
    · subst hS0
      have hl : (ordL r d (N + 1) o 0 (lfT r d 0 o)).length = 0 := by rw [ordL, if_pos rfl]; rfl
      exact fin (N + 1) t f f' b o s m hf hf' (by omega) h10 hSt hI hR
    · obtain ⟨i0, i1, i2⟩ := ex_bit hS0 hS
      have bo := opt_b hI0 hd hS hb7 i2
      have bs := stp_le hI0 hd hop (hb7 i0 i2)
      obtain ⟨x1, y, y1, y2, y3⟩ := mnS_min (s := S) (f := fun q => stp r d o q + opt (swN r d) (S ^^^ 2 ^ q) (S ^^^ 2 ^ q) q) (acc := 2147483647) (i := i0) i1 i2 (by show stp r d o i0 + _ ≤ _; omega)
      obtain ⟨q, hq⟩ := nxS_some (r := r) (d := d) (o := o) (S := S) (x := lfT r d S o) y2 y3.symm 10 0 (by omega) (by omega)
      obtain ⟨v1, v2⟩ := nxS_val 10 0 q hq
      have hq7 := hb7 q v1
      have hcons := ord_cons (N := N) hS0 hq
      rw [hcons, List.length_cons] at hlen
      have htlt : t < c := by omega
      obtain ⟨f, rfl⟩ : ∃ q, f = q + 1 := ⟨f - 1, by omega⟩
      obtain ⟨f', rfl⟩ : ∃ q, f' = q + 1 := ⟨f' - 1, by omega⟩
      have hot : ol t = q := by
        have := hol 0 (by omega)
        rw [hcons] at this
        exact this
      have n6 := hSt.n (i := 6) (nmec (by omega))
      have n7 := hSt.n (i := 7) (nmec (by omega))
      have n9 := hSt.n (i := 9) (nmec (by omega))
      have n16 := hSt.n (i := 16) (nmec (by omega))
      have hne : ∀ e, e < nv (m 30 0) 6 → m 30 0 (21 + e) ≠ nI q := fun e he => haw q v1 e (by omega)
      obtain ⟨m1, a1, a2, a3⟩ := n_brings rfl hI (p := q) (d := d) (by omega) (by omega)
      have cb := c_bringInto hI hR (p := q) (d := d) (by omega) (by omega) (hne d (by omega))
      obtain ⟨j1, j2⟩ := br_step hI hR (p := q) (d := d) (by omega) (by omega) hne
      have d6 : nv (br0 (m 30 0) q d) 6 = nv (m 30 0) 6 := nv_eq (by unfold br0; simp (disch := omega) only [rup_ne])
      obtain ⟨k1, k2⟩ := use_step j1 j2 (by omega) (d := d) (by omega)
      obtain ⟨w1, w2, w3⟩ := use_rows d (by omega) (br0 (m 30 0) q d)
      have rw1 : ∀ i, i ≠ 11 → i ≠ 12 → i ≠ 13 → i ≠ 14 → i ≠ 15 → i ≠ 21 + d → i ≠ 25 + d → m1 30 0 i = m 30 0 i := fun i z1 z2 z3 z4 z5 z6 z7 => by
        rw [a3, w1 i z5 z7]
        unfold br0
        simp (disch := assumption) only [rup_ne]
      have r11 : m1 30 0 11 = m 30 0 (17 + d) := by
        rw [a3, w1 11 (by omega) (by omega)]
        unfold br0
        simp (disch := omega) only [rup_ne, rup_hit]
      have r12 : m1 30 0 12 = m 30 0 12 + nI (btm (m 30 0) q d) := by
        rw [a3, w1 12 (by omega) (by omega)]
        unfold br0
        simp (disch := omega) only [rup_ne, rup_hit]
      have r21 : m1 30 0 (21 + d) = nI q := by
        rw [a3, w1 (21 + d) (by omega) (by omega)]
        unfold br0
        simp (disch := omega) only [rup_ne, rup_hit]
      have n9' : nv (m1 30 0) 9 = nv (m 30 0) 9 := nv_eq (rw1 9 (by omega) (by omega) (by omega) (by omega) (by omega) (by omega) (by omega))
      have hSt1 : Stc r (m1 30 0) := fun i hi => by
        unfold mec at hi
        rw [rw1 i (by omega) (by omega) (by omega) (by omega) (by omega) (by omega) (by omega)]
        exact hSt i hi
      have hI1 : Inv (m1 30 0) := by rw [a3] at n9' ⊢; exact inv_of k1 n9'
      have hR1 : Rel (b + 1) (usC (brC s q d (nI (btm (m 30 0) q d)) (nI (mvs (m 30 0) q d))) d) (m1 30 0) := by rw [a3] at n9' ⊢; exact rel_of k2 n9'
      obtain ⟨s2, m2, c1, c2, c3, c4, c5, c6, c7, -⟩ := rd_loop (r0 := r) hd (p := q) (by omega) (nv r 16) 0 fuel fuel (b + 1) _ m1 (by omega) (by unfold fuel; omega) (by unfold fuel; omega) (by omega) hSt1 r21 hI1 hR1
      rw [nI_0] at c1 c2
      have hbc := btm_cur hSt (by omega) hCu q
      have hx := xo_lt v1
      obtain ⟨cr1, -, -⟩ := crd_all S hS q (by omega) v1
      have hSt2 : Stc r (m2 30 0) := fun i hi => by
        unfold mec at hi
        rw [c6 i (by omega) (by omega) (by omega)]
        exact hSt1 i hi
      have hli1 : ∀ u, u < c → ∃ i, i < 10 ∧ m2 35 0 u = nI i ∧ m2 34 0 i = nI (ol u) := fun u hu => by
        obtain ⟨i, i1, i2, i3⟩ := hli u hu
        exact ⟨i, i1, by rw [c3 _ _ _ (by omega), a2 _ _ _ (by omega)]; exact i2, by rw [c3 _ _ _ (by omega), a2 _ _ _ (by omega)]; exact i3⟩
      obtain ⟨s3, m3, e1, e2, e3, e4, e5, e6, e7⟩ := ih (t + 1) f f' (b + 1 + nv r 16) (S ^^^ 2 ^ q) (some q) s2 m2 (by omega) (by omega) (by omega) (by omega) (by omega) (fun p hp => hb7 p (xo_sub (fun i h => h) v1 p hp)) (by omega) (by omega) (fun u hu => by
          have := hol (u + 1) (by omega)
          rw [hcons, List.getD_cons_succ] at this
          rw [← this]
          congr 1
          omega) (by rw [c3 _ _ _ (by omega), a2 _ _ _ (by omega)]; exact h10) hli1 hSt2 ⟨by
            rw [c6 11 (by omega) (by omega) (by omega), r11]
            exact hSt _ (nmec (by omega)), by
            rw [c6 (21 + d) (by omega) (by omega) (by omega)]
            exact r21, by omega⟩ (fun p hp => by cases hp; exact hq7) (fun p hp e he => by
          rw [c6 (21 + e) (by omega) (by omega) (by omega)]
          have hpS := xo_sub (fun i h => h) v1 p hp
          by_cases ed : e = d
          · subst ed
            rw [r21]
            intro z
            have hp7 := hb7 p hpS
            rw [nI_eq (by omega) (by omega)] at z
            subst z
            have := xo_off v1
            rw [this] at hp
            cases hp
          · rw [rw1 (21 + e) (by omega) (by omega) (by omega) (by omega) (by omega) (by omega) (by omega)]
            exact haw p hpS e he) c4 c5 (by omega)
      refine ⟨s3, m3, ?_, ?_, a2.tr (c3.tr e3), e4, e5, e6.more (by omega), ?_⟩
      · rw [f_X7_serveBatch_L, p3, if_neg (by rw [nI_leI (by omega) (by omega)]; omega), p4]
        simp (disch := omega) only [xl, xg, vinT, nI_clamp, ra]
        rw [p25 t htlt, hot, cb, xb]
        unfold f_X4_readRequestsIn
        rw [c1, xb]
        exact e1
      · obtain ⟨i, i1, i2, i3⟩ := hli t htlt
        have i4 : m1 35 0 t = nI i := by rw [a2 _ _ _ (by omega)]; exact i2
        have i5 : m1 34 0 i = nI (ol t) := by rw [a2 _ _ _ (by omega)]; exact i3
        rw [f_X8_serves_L68, h10, if_neg (by rw [nI_leI (by omega) (by omega)]; omega)]
        simp (disch := omega) only [xl, xg, vinT, nI_clamp, ra]
        rw [i2]
        simp (disch := omega) only [xg, vinT, nI_clamp]
        rw [i3, hot, a1, xb, i4]
        simp (disch := omega) only [xg, vinT, nI_clamp]
        rw [i5, hot]
        unfold f_X8_readsFrom
        rw [c2, xb]
        exact e2
      · rw [e7, c7, r12, hbc, if_neg hS0, ← v2, ← nI_add, sQ_add (P := fun y => decide (y = q)) (Q := fun p => (S ^^^ 2 ^ q).testBit p) (R := fun p => S.testBit p) (nv r 16) 0 (fun i h1 h2 => ?_)]
        · by_cases z : S ^^^ 2 ^ q = 0
          · rw [if_pos z, z]
            show _ = _ + (nI (stp r d o q) + 0 + _)
            grind
          · rw [if_neg z, opt_un z]
            show _ = _ + (nI (stp r d o q) + nI (lfT r d (S ^^^ 2 ^ q) (some q)) + _)
            grind
        · rw [tb_x]
          by_cases z : pq r i = q
          · rw [z, v1, decide_eq_true (rfl : q = q)]
            exact ⟨rfl, fun h => by cases h.2⟩
          · rw [decide_eq_false z, decide_eq_false (fun y => z y.symm), Bool.xor_false, Bool.false_or]
            exact ⟨rfl, fun h => by cases h.1⟩
end SRV
