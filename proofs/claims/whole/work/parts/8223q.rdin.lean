/-! Layer 2: the reading of a batch -/
section RDI
variable {b : Nat} {sd md : SD} {r r' : RW}
/-- the reading time of the requests whose platter is of a kind -/
def sQ (r : RW) (P : Nat → Bool) : Nat → Nat → Int32
  | 0, _ => 0
  | n + 1, q => (if P (pq r q) = true then rdT r (nv r (289 + nv r (589 + q))) else 0) + sQ r P n (q + 1)
theorem sQ_add {P Q R : Nat → Bool} : ∀ (n q : Nat), (∀ i, q ≤ i → i < q + n → R (pq r i) = (P (pq r i) || Q (pq r i)) ∧ ¬ (P (pq r i) = true ∧ Q (pq r i) = true)) → sQ r R n q = sQ r P n q + sQ r Q n q
  | 0, _, _ => rfl
  | n + 1, q, h => by
    unfold sQ
    rw [sQ_add n (q + 1) (fun i h1 h2 => h i (by omega) (by omega))]
    obtain ⟨h1, h2⟩ := h q (Nat.le_refl _) (by omega)
    rw [h1]
    generalize rdT r (nv r (289 + nv r (589 + q))) = v
    generalize sQ r P n (q + 1) = x
    generalize sQ r Q n (q + 1) = y
    cases hp : P (pq r q) <;> cases hq : Q (pq r q)
    · simp
    · simp; grind
    · simp; grind
    · exact absurd ⟨hp, hq⟩ h2
theorem sQ_congr {P Q : Nat → Bool} : ∀ (n q : Nat), (∀ i, q ≤ i → i < q + n → P (pq r i) = Q (pq r i)) → sQ r P n q = sQ r Q n q
  | 0, _, _ => rfl
  | n + 1, q, h => by
    unfold sQ
    rw [sQ_congr n (q + 1) (fun i h1 h2 => h i (by omega) (by omega)), h q (Nat.le_refl _) (by omega)]
theorem sQ_0 : ∀ (n q : Nat), sQ r (fun _ => false) n q = 0
  | 0, _ => rfl
  | n + 1, q => by
    unfold sQ
    rw [sQ_0 n (q + 1), if_neg (by decide)]
    rfl
theorem rtF_sQ : ∀ (n q : Nat) (s : Int32), q + n < 2 ^ 31 → rtF r (-1) n q s = s + sQ r (fun _ => true) n q
  | 0, _, s, _ => by
    show s = s + 0
    grind
  | n + 1, q, s, h => by
    unfold rtF sQ
    rw [if_neg (by rw [nm1 (by omega)]; exact id), rtF_sQ n (q + 1) _ (by omega), if_pos rfl]
    grind
/-! rows that differ in what moves -/
def Stc (r r' : RW) : Prop := ∀ i, ¬ mec i → r' i = r i
theorem Stc.tr {r'' : RW} (h : Stc r r') (g : Stc r' r'') : Stc r r'' := fun i hi => (g i hi).trans (h i hi)
theorem Stc.n (h : Stc r r') {i : Nat} (hi : ¬ mec i) : nv r' i = nv r i := nv_eq (h i hi)
theorem nmec {i : Nat} (h : i < 11 ∨ (16 ≤ i ∧ i < 21) ∨ 29 ≤ i) : ¬ mec i := by unfold mec; omega
theorem Stc.pq (h : Stc r r') (q : Nat) : pq r' q = pq r q := by
  show nv _ _ = nv _ _
  rw [h.n (nmec (i := 589 + q) (by omega)), h.n (nmec (i := 289 + nv r (589 + q)) (by omega)), h.n (nmec (by omega))]
theorem Stc.rd (h : Stc r r') (v : Nat) : rdT r' v = rdT r v := by
  unfold rdT
  rw [h 4 (nmec (by omega)), h _ (nmec (i := 429 + v) (by omega)), h _ (nmec (i := 509 + v) (by omega))]
theorem Stc.rv (h : Stc r r') (q : Nat) : nv r' (289 + nv r' (589 + q)) = nv r (289 + nv r (589 + q)) := by
  rw [h.n (nmec (i := 589 + q) (by omega)), h.n (nmec (by omega))]
theorem hold_at (hI : Inv r) {d p : Nat} (hd : d < nv r 6) (hp : p < 10) (h : r (21 + d) = nI p) : holdQ r (nI p) = nI d := by
  rcases holdQ_cases r (nI p) with ⟨-, h2⟩ | ⟨e, e1, e2, e3⟩
  · exact absurd h (h2 d hd)
  · rcases hI.drd d e hd e1 (h.trans e3.symm) with z | z
    · rw [e2, z]
    · rw [h, nm1 (by omega)] at z
      exact z.elim
theorem read_in (hr : md 30 0 = r) (hI : Inv r) (hR : Rel b sd r) (hb : b < 2 ^ 28) {d q : Nat} (hd : d < nv r 6) (hq : q < nv r 16) (hp : r (21 + d) = nI (pq r q)) : ∃ m', f_X8_reads md (nI (nv r (589 + q))) = some m' ∧ MR md m' ∧ Inv (m' 30 0) ∧ Rel (b + 1) (usC (upS sd 4 0 15 (sd 4 0 15 + rdT r (nv r (289 + nv r (589 + q))))) d) (m' 30 0) ∧ (∀ i, i ≠ 12 → i ≠ 15 → i ≠ 25 + d → m' 30 0 i = r i) ∧ m' 30 0 12 = r 12 + rdT r (nv r (289 + nv r (589 + q))) := by
  have l6 := hI.l6
  have l7 := hI.l7
  have l10 := hI.l10
  obtain ⟨y1, y2⟩ := hI.req q hq
  obtain ⟨x1, x2⟩ := hI.cur _ y2
  have hpl := pq_lt hI hq
  have hh := hold_at hI hd (by omega) hp
  have ne : ¬ (nI d = -1) := by rw [nm1 (by omega)]; exact id
  have hch : chQ r (pq r q) = nI d := by
    unfold chQ
    rw [hh, if_neg ne]
  have e2 : f_X8_chosen md (nI (pq r q)) = some (nI d) := by rw [m_chosen hr hI (hR.useN (by omega)) (by omega), hch]
  obtain ⟨m2, f2, g2, q2⟩ := n_uses hr (d := d) (by omega)
  have hmo : f_X8_mounts md (nI (pq r q)) = some (nI d, m2) := by
    unfold f_X8_mounts
    rw [e2, xb, m_inDrive hr hI, xb, hh]
    simp only [xl]
    rw [if_neg ne, f2, xb]
  obtain ⟨i2, s2⟩ := use_step hI hR (by omega) hd
  obtain ⟨a1, a2, a3⟩ := use_rows d (by omega) r
  have hv : f_X8_version m2 (nI (nv r (589 + q))) = some (nI (nv r (289 + nv r (589 + q)))) := by
    rw [m_version q2 i2 y2, nv_eq (a1 (289 + nv r (589 + q)) (by omega) (by omega))]
  generalize hV : nv r (289 + nv r (589 + q)) = v at *
  obtain ⟨ic, rc⟩ := clock_step hI hR (r 12 + rdT r v)
  obtain ⟨i3, s3⟩ := use_step ic rc (by omega) (d := d) (by rw [nv_eq (rup_ne (by omega))]; exact hd)
  have hrow : (upS m2 30 0 12 (m2 30 0 12 + (m2 30 0 4 * (m2 30 0 (429 + v) + m2 30 0 (509 + v))))) 30 0 = useR (rup r 12 (r 12 + rdT r v)) d := by
    rw [row_up, q2]
    funext i
    obtain ⟨c1, c2, c3⟩ := use_rows d (by omega) (rup r 12 (r 12 + rdT r v))
    by_cases e1 : i = 12
    · subst e1
      rw [rup_hit, c1 12 (by omega) (by omega), rup_hit, a1 12 (by omega) (by omega), a1 4 (by omega) (by omega), a1 (429 + v) (by omega) (by omega), a1 (509 + v) (by omega) (by omega)]
      rfl
    · rw [rup_ne e1]
      by_cases e2 : i = 15
      · subst e2
        rw [a2, c2, rup_ne (by omega)]
      by_cases e3 : i = 25 + d
      · subst e3
        rw [a3, c3, rup_ne (by omega)]
      rw [a1 i e2 e3, c1 i e2 e3, rup_ne e1]
  have n9 : nv (useR (rup r 12 (r 12 + rdT r v)) d) 9 = nv r 9 := by
    rw [nv_eq ((use_rows d (by omega) (rup r 12 (r 12 + rdT r v))).1 9 (by omega) (by omega)), nv_eq (rup_ne (by omega))]
  refine ⟨_, ?_, g2.up (t := 12) (by omega), by rw [hrow]; exact inv_of i3 n9, by rw [hrow, hR.s15]; exact rel_of s3 n9, fun i h1 h2 h3 => ?_, ?_⟩
  · unfold f_X8_reads
    rw [m_platterOf hr hI y2]
    show x_bind (some (nI (nv r (349 + nv r (289 + nv r (589 + q)))))) _ = _
    rw [show nI (nv r (349 + nv r (289 + nv r (589 + q)))) = nI (pq r q) from rfl, xb, hmo, xb, hv, xb]
    simp (disch := omega) only [xl, xg, vinT, nI_clamp, la]
  · rw [hrow, (use_rows d (by omega) _).1 i h2 h3, rup_ne h1]
  · rw [hrow, (use_rows d (by omega) _).1 12 (by omega) (by omega), rup_hit]
/-- how the class's numbers of uses change while requests are read in a drive -/
def US (s s' : SD) (d : Nat) (a : Bool) : Prop := (∀ e, e ≠ d → s' 0 e 2 = s 0 e 2) ∧ (a = false → s' 4 0 4 = s 4 0 4 ∧ s' 0 d 2 = s 0 d 2) ∧ (a = true → ns s 4 0 4 < ns s' 4 0 4 ∧ s' 0 d 2 = s' 4 0 4)
theorem rd_loop {r0 : RW} {d p : Nat} (hd : d < nv r0 6) (hp : p < 10) : ∀ (k q f f' b : Nat) (s m : SD), q + k = nv r0 16 → k < f → k < f' → b + k < 2 ^ 28 → Stc r0 (m 30 0) → m 30 0 (21 + d) = nI p → Inv (m 30 0) → Rel b s (m 30 0) → ∃ s' m', f_X4_readRequestsIn_L2 (nI d) f (nI q) s = some s' ∧ f_X8_readsFrom_L2 (nI p) f' (nI q) m = some m' ∧ MR m m' ∧ Inv (m' 30 0) ∧ Rel (b + k) s' (m' 30 0) ∧ (∀ i, i ≠ 12 → i ≠ 15 → i ≠ 25 + d → m' 30 0 i = m 30 0 i) ∧ m' 30 0 12 = m 30 0 12 + sQ r0 (fun y => decide (y = p)) k q ∧ US s s' d (anQ r0 p k q) := by
  intro k
  induction k with
  | zero =>
    intro q f f' b s m hq hf hf' hb hS h21 hI hR
    obtain ⟨f, rfl⟩ : ∃ q, f = q + 1 := ⟨f - 1, by omega⟩
    obtain ⟨f', rfl⟩ : ∃ q, f' = q + 1 := ⟨f' - 1, by omega⟩
    have n16 := hS.n (i := 16) (nmec (by omega))
    have l16 := hI.l16
    have : q = nv (m 30 0) 16 := by omega
    subst this
    rw [f_X4_readRequestsIn_L2, hR.s13, hI.c16, if_pos (nI_le (Nat.le_refl _) (by omega)), f_X8_readsFrom_L2, hI.c16, if_pos (nI_le (Nat.le_refl _) (by omega))]
    refine ⟨s, m, rfl, rfl, MR.rf m, hI, hR, fun _ _ _ _ => rfl, ?_, fun _ _ => rfl, fun _ => ⟨rfl, rfl⟩, fun h => by cases h⟩
    show _ = _ + (0 : Int32)
    grind
  | succ k ih =>
    intro q f f' b s m hq hf hf' hb hS h21 hI hR
    obtain ⟨f, rfl⟩ : ∃ q, f = q + 1 := ⟨f - 1, by omega⟩
    obtain ⟨f', rfl⟩ : ∃ q, f' = q + 1 := ⟨f' - 1, by omega⟩
    have n16 := hS.n (i := 16) (nmec (by omega))
    have n6 := hS.n (i := 6) (nmec (by omega))
    have l16 := hI.l16
    have l6 := hI.l6
    have l7 := hI.l7
    have l10 := hI.l10
    have hq2 : q < nv (m 30 0) 16 := by omega
    obtain ⟨y1, y2⟩ := hI.req q hq2
    obtain ⟨x1, x2⟩ := hI.cur _ y2
    obtain ⟨v1, ⟨v2, v3⟩, -⟩ := hI.ver _ x2
    have hpl := pq_lt hI hq2
    have epq := hS.pq q
    rw [f_X4_readRequestsIn_L2, hR.s13, hI.c16, if_neg (by rw [nI_leI (by omega) (by omega)]; omega), f_X8_readsFrom_L2, hI.c16, if_neg (by rw [nI_leI (by omega) (by omega)]; omega)]
    simp (disch := omega) only [xl, xg, vinT, nI_clamp, la, ra, hR.rq q hq2, y1.e]
    rw [c_currentVersion hI hR y2, m_platterOf rfl hI y2]
    simp (disch := omega) only [xb, xg, vinT]
    rw [(hR.ve _ x2).2.1, (hR.dr d (by omega)).2, h21, v2.e]
    rw [sQ, anQ, ← epq, ← hS.rv q, ← hS.rd]
    by_cases z : pq (m 30 0) q = p
    · have z1 : nI (nv (m 30 0) (349 + nv (m 30 0) (289 + nv (m 30 0) (589 + q)))) = nI p := by rw [← z]; rfl
      obtain ⟨m1, a1, a2, a3, a4, a5, a6⟩ := read_in rfl hI hR (by omega) (d := d) (q := q) (by omega) hq2 (by rw [h21, z])
      rw [if_pos z1, if_pos z1, c_sectors hI hR x2, xb, c_useDrive _ (by omega), xb, a1, xb]
      obtain ⟨s', m', b1, b2, b3, b4, b5, b6, b7, b8⟩ := ih (q + 1) f f' (b + 1) _ m1 (by omega) (by omega) (by omega) (by omega) (hS.tr (fun i hi => a5 i (by unfold mec at hi; omega) (by unfold mec at hi; omega) (by unfold mec at hi; omega))) (by rw [a5 _ (by omega) (by omega) (by omega)]; exact h21) a3 a4
      refine ⟨s', m', b1, b2, a2.tr b3, b4, ?_, fun i h1 h2 h3 => by rw [b6 i h1 h2 h3, a5 i h1 h2 h3], ?_, ?_⟩
      · rw [show b + (k + 1) = b + 1 + k by omega]; exact b5
      · rw [b7, a6, decide_eq_true z, if_pos rfl]
        generalize rdT (m 30 0) (nv (m 30 0) (289 + nv (m 30 0) (589 + q))) = v
        grind
      · obtain ⟨u1, u2, u3⟩ := b8
        obtain ⟨w1, w2, w3⟩ := usC_cells (upS s 4 0 15 (s 4 0 15 + rdT (m 30 0) (nv (m 30 0) (289 + nv (m 30 0) (589 + q))))) d
        have t4 : (upS s 4 0 15 (s 4 0 15 + rdT (m 30 0) (nv (m 30 0) (289 + nv (m 30 0) (589 + q))))) 4 0 4 = s 4 0 4 := upS_t (by omega)
        rw [t4] at w2 w3
        obtain ⟨⟨g1, g2⟩, -⟩ := hR.us
        have hN : ns (usC (upS s 4 0 15 (s 4 0 15 + rdT (m 30 0) (nv (m 30 0) (289 + nv (m 30 0) (589 + q))))) d) 4 0 4 = ns s 4 0 4 + 1 := by
          unfold ns
          rw [w2, g1, ra (k := 1), nI_clamp (by show _ + 1 < _; omega), nI_clamp (by omega)]
        refine ⟨fun e he => ?_, fun h => (by rw [decide_eq_true z] at h; cases h), fun _ => ?_⟩
        · rw [u1 e he, w1 0 e 2 (by omega) (by omega)]
          exact upS_k (by omega)
        · cases hA : anQ r0 p k (q + 1) with
          | false =>
            obtain ⟨o1, o2⟩ := u2 hA
            refine ⟨?_, by rw [o1, o2, w2, w3]⟩
            have : ns s' 4 0 4 = ns s 4 0 4 + 1 := by
              rw [← hN]
              unfold ns
              rw [o1]
            omega
          | true =>
            obtain ⟨o1, o2⟩ := u3 hA
            exact ⟨by omega, o2⟩
    · have z1 : ¬ nI (nv (m 30 0) (349 + nv (m 30 0) (289 + nv (m 30 0) (589 + q)))) = nI p := by
        show ¬ nI (pq (m 30 0) q) = nI p
        rw [nI_eq (by omega) (by omega)]
        exact z
      rw [if_neg z1, if_neg z1]
      obtain ⟨s', m', b1, b2, b3, b4, b5, b6, b7, b8⟩ := ih (q + 1) f f' b s m (by omega) (by omega) (by omega) (by omega) hS h21 hI hR
      refine ⟨s', m', b1, b2, b3, b4, b5.more (by omega), b6, ?_, ?_⟩
      · rw [b7, decide_eq_false z, if_neg (by decide)]
        grind
      · rw [decide_eq_false z, Bool.false_or]
        exact b8
/-- nothing is read in an empty drive -/
theorem rd_none (hI : Inv r) (hR : Rel b sd r) {d : Nat} (hd : d < nv r 6) (h : r (21 + d) = -1) : ∀ (k q f : Nat), q + k = nv r 16 → k < f → f_X4_readRequestsIn_L2 (nI d) f (nI q) sd = some sd := by
  have l16 := hI.l16
  have l6 := hI.l6
  have l7 := hI.l7
  have l10 := hI.l10
  intro k
  induction k with
  | zero =>
    intro q f hq hf
    obtain ⟨f, rfl⟩ : ∃ q, f = q + 1 := ⟨f - 1, by omega⟩
    have : q = nv r 16 := by omega
    subst this
    rw [f_X4_readRequestsIn_L2, hR.s13, hI.c16, if_pos (nI_le (Nat.le_refl _) (by omega))]
  | succ k ih =>
    intro q f hq hf
    obtain ⟨f, rfl⟩ : ∃ q, f = q + 1 := ⟨f - 1, by omega⟩
    have hq2 : q < nv r 16 := by omega
    obtain ⟨y1, y2⟩ := hI.req q hq2
    obtain ⟨x1, x2⟩ := hI.cur _ y2
    obtain ⟨v1, ⟨v2, v3⟩, -⟩ := hI.ver _ x2
    rw [f_X4_readRequestsIn_L2, hR.s13, hI.c16, if_neg (by rw [nI_leI (by omega) (by omega)]; omega)]
    simp (disch := omega) only [xl, xg, vinT, nI_clamp, la, ra, hR.rq q hq2, y1.e]
    rw [c_currentVersion hI hR y2]
    simp (disch := omega) only [xb, xg, vinT]
    rw [(hR.ve _ x2).2.1, (hR.dr d hd).2, h, v2.e, if_neg (by rw [nm1 (by omega)]; exact id)]
    exact ih (q + 1) f (by omega) (by omega)
end RDI
