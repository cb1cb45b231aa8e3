/-! Layer 2: the questions of time -/
section TIM
variable {b : Nat} {sd md : SD} {r : RW}
theorem i32_back (x y : Int32) : x + y - x = y := by grind
theorem i32_back3 (x y z : Int32) : x + y + z - x = y + z := by grind
theorem m_bringTime (hr : md 30 0 = r) (hI : Inv r) {p d : Nat} (hp : p < nv r 7) (hd : d < nv r 6) : ∃ m3, f_X8_bringTime md (nI p) (nI d) = some (nI (btm r p d), m3) ∧ MSame md m3 := by
  have l6 := hI.l6
  obtain ⟨m2, e2, x2, r2⟩ := m_brings (md := trM md) ((trM_row md).trans hr) hI hp hd
  obtain ⟨m3, e3, s3⟩ := m_back x2
  refine ⟨m3, ?_, s3⟩
  unfold f_X8_bringTime
  rw [m_tries, xb, e2, xb, e3, xb, r2, hr, (use_rows d (by omega) (br0 r p d)).1 12 (by omega) (by omega)]
  have : br0 r p d 12 = r 12 + nI (btm r p d) := by
    unfold br0
    simp (disch := omega) only [rup_ne, rup_hit]
  rw [this, i32_back]
/-- how long it takes to bring a platter into its drive -/
def tmQ (r : RW) (p : Nat) : Int32 := if holdQ r (nI p) = -1 then nI (btm r p (chQ r p).toNatClampNeg) else 0
theorem c_chosenBringTime (hI : Inv r) (hR : Rel b sd r) (hb : b < 2 ^ 29) (h0 : 0 < nv r 6) {p : Nat} (hp : p < nv r 7) : f_X4_chosenBringTime sd (nI p) = some (tmQ r p) := by
  have l6 := hI.l6
  obtain ⟨d, hd, hq, hc⟩ := chQ_cases h0 p
  unfold f_X4_chosenBringTime tmQ
  rw [c_driveToChoose hI hR hb h0, hq, xb, if_neg (by rw [nm1 (by omega)]; exact id), c_bringTime hI hR hp hd, xb, nI_clamp (by omega)]
  rcases hc with ⟨h, hn⟩ | ⟨h, -, hn⟩
  · rw [if_neg (hn d hd), if_pos h]
  · rw [if_pos hn, if_neg h]
theorem m_timeFor (hr : md 30 0 = r) (hI : Inv r) (hR : Rel b sd r) (hb : b < 2 ^ 29) (h0 : 0 < nv r 6) {p : Nat} (hp : p < nv r 7) : ∃ m3, f_X8_timeFor md (nI p) = some (tmQ r p, m3) ∧ MSame md m3 := by
  have l6 := hI.l6
  obtain ⟨d, hd, hq, hc⟩ := chQ_cases h0 p
  have hU := hR.useN (by omega)
  unfold f_X8_timeFor tmQ
  rw [m_inDrive hr hI, xb, hq, nI_clamp (by omega)]
  by_cases h : holdQ r (nI p) = -1
  · rw [if_pos h, if_pos h, m_freeDrive hr hI hU h0, xb]
    have : freQ r (fun d => nv r (25 + d)) = nI d := by
      rw [← hq]
      unfold chQ
      rw [if_pos h]
    obtain ⟨m3, e3, s3⟩ := m_bringTime hr hI hp hd
    rw [this, e3, xb]
    exact ⟨m3, rfl, s3⟩
  · rw [if_neg h, if_neg h]
    exact ⟨md, rfl, MSame.rf md⟩
theorem c_mountProblem (hI : Inv r) (hR : Rel b sd r) (a : Int32) : f_X7_mountProblem sd a = some (if hasV a (nv r 7) = 0 then -1000001 else if r 6 = 0 then -1000007 else 0) := by
  unfold f_X7_mountProblem
  rw [c_hasPlatter hI hR, xb, hR.s3]
  split
  · rfl
  · split <;> rfl
theorem q_chosenDrive (hr : md 30 0 = r) (hI : Inv r) (hR : Rel b sd r) (hb : b < 2 ^ 29) (a : Int32) : Ans md (f_X7_chosenDrive sd a) (f_X8_chosenDrive md a) := by
  obtain ⟨m1, e1, r1, s1⟩ := thr md
  have hr1 : m1 30 0 = r := r1.trans hr
  have l7 := hI.l7
  unfold f_X7_chosenDrive f_X8_chosenDrive
  rw [c_mountProblem hI hR, xb, xl, e1, m_isPlatter hr1 hI, xb, hr1]
  rcases hasV_cases a (n := nv r 7) (by omega) with h | ⟨h, p, hp, rfl⟩
  · rw [h, if_pos rfl, if_neg (by decide), if_pos rfl]; exact ⟨_, _, rfl, rfl, s1⟩
  · rw [h, if_neg i1, if_neg i1]
    by_cases z : r 6 = 0
    · rw [if_pos z, if_neg (by decide), if_pos z]; exact ⟨_, _, rfl, rfl, s1⟩
    · have h0 : 0 < nv r 6 := Nat.pos_of_ne_zero (fun y => z ((z6 hI).mpr y))
      rw [if_neg z, if_pos rfl, if_neg z, c_driveToChoose hI hR hb h0, xb, m_chosen hr1 hI (hR.useN (by omega)) h0, xb]
      exact ⟨_, _, rfl, rfl, s1⟩
theorem q_mountTime (hr : md 30 0 = r) (hI : Inv r) (hR : Rel b sd r) (hb : b < 2 ^ 29) (a : Int32) : Ans md (f_X7_mountTime sd a) (f_X8_mountTime md a) := by
  obtain ⟨m1, e1, r1, s1⟩ := thr md
  have hr1 : m1 30 0 = r := r1.trans hr
  have l7 := hI.l7
  unfold f_X7_mountTime f_X8_mountTime
  rw [c_mountProblem hI hR, xb, xl, e1, m_isPlatter hr1 hI, xb, hr1]
  rcases hasV_cases a (n := nv r 7) (by omega) with h | ⟨h, p, hp, rfl⟩
  · rw [h, if_pos rfl, if_neg (by decide), if_pos rfl]; exact ⟨_, _, rfl, rfl, s1⟩
  · rw [h, if_neg i1, if_neg i1]
    by_cases z : r 6 = 0
    · rw [if_pos z, if_neg (by decide), if_pos z]; exact ⟨_, _, rfl, rfl, s1⟩
    · have h0 : 0 < nv r 6 := Nat.pos_of_ne_zero (fun y => z ((z6 hI).mpr y))
      obtain ⟨m3, e3, s3⟩ := m_timeFor hr1 hI hR hb h0 hp
      rw [if_neg z, if_pos rfl, if_neg z, c_chosenBringTime hI hR hb h0 hp, xb, e3, xb]
      exact ⟨_, _, rfl, rfl, s1.tr s3⟩
theorem q_mountTimeIn (hr : md 30 0 = r) (hI : Inv r) (hR : Rel b sd r) (a c : Int32) : Ans md (f_X7_mountTimeIn sd a c) (f_X8_mountTimeIn md a c) := by
  obtain ⟨m1, e1, r1, s1⟩ := thr md
  have hr1 : m1 30 0 = r := r1.trans hr
  have l7 := hI.l7
  have l6 := hI.l6
  unfold f_X7_mountTimeIn f_X8_mountTimeIn
  rw [c_hasPlatter hI hR, xb, xl, e1, m_isPlatter hr1 hI, xb]
  rcases hasV_cases a (n := nv r 7) (by omega) with h | ⟨h, p, hp, rfl⟩
  · rw [h, if_pos rfl, if_pos rfl]; exact ⟨_, _, rfl, rfl, s1⟩
  · rw [h, if_neg i1, if_neg i1, c_hasDrive hI hR, xb, m_isDrive hr1 hI, xb]
    rcases hasV_cases c (n := nv r 6) (by omega) with g | ⟨g, d, hd, rfl⟩
    · rw [g, if_pos rfl, if_pos rfl]; exact ⟨_, _, rfl, rfl, s1⟩
    · rw [g, if_neg i1, if_neg i1, c_driveHolding hI hR, xb, m_inDrive hr1 hI, xb, xl, c_bringTime hI hR hp hd, xb]
      rcases holdQ_cases r (nI p) with ⟨w, hn⟩ | ⟨e, he, w, hn⟩
      · rw [w, if_pos rfl, if_neg (hn d hd), if_neg (show ¬ ((-1 : Int32) = nI d) by rw [m1n (by omega)]; exact id), if_pos rfl]
        obtain ⟨m3, e3, s3⟩ := m_bringTime hr1 hI hp hd
        rw [e3, xb]
        exact ⟨_, _, rfl, rfl, s1.tr s3⟩
      · rw [w, if_neg (by rw [nm1 (by omega)]; exact id)]
        by_cases z : e = d
        · subst z
          rw [if_pos rfl, if_pos rfl, if_pos hn]
          exact ⟨_, _, rfl, rfl, s1⟩
        · have z2 : ¬ (nI e = nI d) := by rw [nI_eq (by omega) (by omega)]; exact z
          rw [if_neg z2, if_neg z2, if_neg (by rw [nm1 (by omega)]; exact id)]
          exact ⟨_, _, rfl, rfl, s1⟩
theorem q_readTime (hr : md 30 0 = r) (hI : Inv r) (hR : Rel b sd r) (hb : b < 2 ^ 28) (a : Int32) : Ans md (f_X7_readTime sd a) (f_X8_readTime md a) := by
  obtain ⟨m1, e1, r1, s1⟩ := thr md
  have hr1 : m1 30 0 = r := r1.trans hr
  have l9 := hI.l9
  have l6 := hI.l6
  unfold f_X7_readTime f_X8_readTime
  rw [xl, e1]
  rcases hasV_cases a (n := nv r 9) (by omega) with h | ⟨h, f, hf, rfl⟩
  · have g1 : f_X7_readProblem sd a = some (-1000001) := by
      unfold f_X7_readProblem
      rw [c_hasFile hI hR, xb, h, if_pos rfl]
    have g2 : f_X8_whyNotRead m1 a = some (-1000001) := by
      unfold f_X8_whyNotRead
      rw [m_isFile hr1 hI, xb, h, if_pos rfl]
    rw [g1, xb, g2, xb, if_neg (by decide), if_neg (by decide)]
    exact ⟨_, _, rfl, rfl, s1⟩
  · rw [c_readProblem hI hR hf, xb, m_whyNotRead hr1 hI hf, xb]
    by_cases z : r 6 = 0
    · rw [if_pos z, if_neg (by decide), if_neg (by decide)]
      exact ⟨_, _, rfl, rfl, s1⟩
    · rw [if_neg z]
      by_cases y : gdV r (nv r (289 + f)) = 0
      · rw [if_pos y, if_neg (by decide), if_neg (by decide)]
        exact ⟨_, _, rfl, rfl, s1⟩
      · rw [if_neg y, if_pos rfl, if_pos rfl]
        have h0 : 0 < nv r 6 := Nat.pos_of_ne_zero (fun y => z ((z6 hI).mpr y))
        obtain ⟨x1, x2⟩ := hI.cur f hf
        obtain ⟨y1, y2⟩ := (hI.ver _ x2).2.1
        obtain ⟨sd', m3, d, hd, hq, -, g2, hX, -, -, -, hck⟩ := read_both (md := trM m1) ((trM_row m1).trans hr1) hI hR hb h0 hf
        obtain ⟨m4, e4, s4⟩ := m_back hX
        rw [c_currentVersion hI hR hf, xb, (hR.ve _ x2).2.1, y1.e, c_chosenBringTime hI hR (by omega) h0 y2, xb, c_sectors hI hR x2, xb, m_tries, xb, g2, xb, e4, xb, hck, hr1]
        have : (if holdQ r (nI (nv r (349 + nv r (289 + f)))) = -1 then nI (btm r (nv r (349 + nv r (289 + f))) d) else 0) = tmQ r (nv r (349 + nv r (289 + f))) := by
          unfold tmQ
          rw [hq, nI_clamp (by omega)]
        rw [this, i32_back3]
        exact ⟨_, _, rfl, rfl, s1.tr s4⟩
theorem m_free (hr : md 30 0 = r) (hI : Inv r) {p : Nat} (hp : p < nv r 7) : f_X8_free md (nI p) = some (r (39 + p) - r (59 + p)) := by
  have l7 := hI.l7
  unfold f_X8_free
  rw [hr]
  simp (disch := omega) only [xg, vinT, la, nI_clamp]
/-- the class's best platter and the reference's, step by step -/
theorem best_go (hI : Inv r) (hR : Rel b sd r) (hb : b < 2 ^ 29) (h0 : 0 < nv r 6) {z : Nat} (hz : z ≤ 300) : ∀ (k d n n' : Nat) (m : SD) (x y : Int32) (o : Nat) (w : Int32), d + k = nv r 7 → k < n → k < n' → m 30 0 = r → ((x = -1 ∧ y = -1000005) ∨ (o < nv r 7 ∧ x = nI o ∧ y = nI o)) → ∀ (t : Int32), Ans m (f_X7_bestPlatter_L33 sd (nI z) n x t (if x = -1 then w else r (39 + o) - r (59 + o)) (nI d)) (f_X8_bestPlatter_L41 (nI z) n' y t (nI d) m) := by
  have l7 := hI.l7
  intro k
  induction k with
  | zero =>
    intro d n n' m x y o w hd hn hn' hm ho t
    obtain ⟨n, rfl⟩ : ∃ q, n = q + 1 := ⟨n - 1, by omega⟩
    obtain ⟨n', rfl⟩ : ∃ q, n' = q + 1 := ⟨n' - 1, by omega⟩
    have : d = nv r 7 := by omega
    subst this
    rw [f_X7_bestPlatter_L33, f_X8_bestPlatter_L41, hR.s6, hm, hI.c7, if_pos (nI_le (Nat.le_refl _) (by omega)), if_pos (nI_le (Nat.le_refl _) (by omega))]
    unfold f_X7_foundOrNot
    rcases ho with ⟨h1, h2⟩ | ⟨h1, h2, h3⟩
    · rw [if_pos h1, xb, h2]
      exact ⟨_, _, rfl, rfl, MSame.rf m⟩
    · rw [if_neg (by rw [h2, nm1 (by omega)]; exact id), xb, h2, h3]
      exact ⟨_, _, rfl, rfl, MSame.rf m⟩
  | succ k ih =>
    intro d n n' m x y o w hd hn hn' hm ho t
    obtain ⟨n, rfl⟩ : ∃ q, n = q + 1 := ⟨n - 1, by omega⟩
    obtain ⟨n', rfl⟩ : ∃ q, n' = q + 1 := ⟨n' - 1, by omega⟩
    have hd7 : d < nv r 7 := by omega
    have c7 : ¬ (nI (nv r 7) ≤ nI d) := by rw [nI_leI (by omega) (by omega)]; omega
    rw [f_X7_bestPlatter_L33, f_X8_bestPlatter_L41, hR.s6, hm, hI.c7, if_neg c7, if_neg c7]
    simp (disch := omega) only [xl, xg, vinT, nI_clamp, ra]
    rw [c_canTake hI hR hd7 hz, xb, m_canWrite hm hI hd7 hz, xb]
    by_cases c : ctV r d z = 0
    · rw [if_pos c, if_pos c]
      exact ih (d + 1) n n' m x y o w (by omega) (by omega) (by omega) hm ho t
    · obtain ⟨m3, e3, s3⟩ := m_timeFor hm hI hR hb h0 hd7
      have hm3 : m3 30 0 = r := s3.row.trans hm
      rw [if_neg c, if_neg c, c_chosenBringTime hI hR hb h0 hd7, xb, e3, xb]
      unfold f_X3_unused
      rw [xb, (hR.pl d hd7).2.1, (hR.pl d hd7).2.2.2.1]
      have tk : ∀ (q : Int32), q = r (39 + d) - r (59 + d) → Ans m (f_X7_bestPlatter_L33 sd (nI z) n (nI d) (tmQ r d) q (nI (d + 1))) (f_X8_bestPlatter_L41 (nI z) n' (nI d) (tmQ r d) (nI (d + 1)) m3) := fun q hq => by
        have h := ih (d + 1) n n' m3 (nI d) (nI d) d w (by omega) (by omega) (by omega) hm3 (Or.inr ⟨hd7, rfl, rfl⟩) (tmQ r d)
        rw [if_neg (by rw [nm1 (by omega)]; exact id), ← hq] at h
        obtain ⟨v, m', a1, a2, a3⟩ := h
        exact ⟨v, m', a1, a2, s3.tr a3⟩
      have lv : Ans m (f_X7_bestPlatter_L33 sd (nI z) n x t (if x = -1 then w else r (39 + o) - r (59 + o)) (nI (d + 1))) (f_X8_bestPlatter_L41 (nI z) n' y t (nI (d + 1)) m3) := by
        obtain ⟨v, m', a1, a2, a3⟩ := ih (d + 1) n n' m3 x y o w (by omega) (by omega) (by omega) hm3 ho t
        exact ⟨v, m', a1, a2, s3.tr a3⟩
      rcases ho with ⟨h1, h2⟩ | ⟨h1, h2, h3⟩
      · subst h1 h2
        rw [if_pos rfl, if_pos (by decide), if_neg (by decide)]
        exact tk _ rfl
      · subst h2 h3
        have no : ¬ (nI o = -1) := by rw [nm1 (by omega)]; exact id
        have np : ¬ (nI o < 0) := by rw [nneg (by omega)]; exact id
        rw [if_neg no, if_neg np, m_free hm3 hI hd7, xb, m_free hm3 hI h1, xb]
        rw [if_neg no] at lv ⊢
        by_cases g1 : tmQ r d < t
        · rw [if_pos g1, if_pos g1, if_neg (by decide)]
          exact tk _ rfl
        · rw [if_neg g1, if_neg g1]
          by_cases g2 : tmQ r d = t
          · rw [if_pos g2, if_pos g2]
            by_cases g3 : r (39 + o) - r (59 + o) ≤ r (39 + d) - r (59 + d)
            · rw [if_pos g3, if_pos g3, if_pos trivial]
              exact lv
            · rw [if_neg g3, if_neg g3, if_neg (by decide)]
              exact tk _ rfl
          · rw [if_neg g2, if_neg g2, if_pos trivial]
            exact lv
theorem q_bestPlatter (hr : md 30 0 = r) (hI : Inv r) (hR : Rel b sd r) (hb : b < 2 ^ 29) (a : Int32) : Ans md (f_X7_bestPlatter sd a) (f_X8_bestPlatter md a) := by
  obtain ⟨m1, e1, r1, s1⟩ := thr md
  have hr1 : m1 30 0 = r := r1.trans hr
  have l7 := hI.l7
  unfold f_X7_bestPlatter f_X8_bestPlatter
  rw [c_isSize, xb, xl, e1, isInS, xb, hR.s3, hr1]
  rcases szV_cases a with h | ⟨h, z, hz0, hz, rfl⟩
  · rw [h, if_pos rfl, if_pos rfl]; exact ⟨_, _, rfl, rfl, s1⟩
  · rw [h, if_neg i1, if_neg i1]
    by_cases y : r 6 = 0
    · rw [if_pos y, if_pos y]; exact ⟨_, _, rfl, rfl, s1⟩
    · have h0 : 0 < nv r 6 := Nat.pos_of_ne_zero (fun w => y ((z6 hI).mpr w))
      rw [if_neg y, if_neg y]
      have h := best_go hI hR hb h0 hz (nv r 7) 0 fuel fuel m1 (-1) (-1000005) 0 0 (by omega) (by unfold fuel; omega) (by unfold fuel; omega) hr1 (Or.inl ⟨rfl, rfl⟩) 0
      rw [if_pos rfl, nI_0] at h
      obtain ⟨v, m', a1, a2, a3⟩ := h
      exact ⟨v, m', a1, a2, s1.tr a3⟩
/-- the longest clean run -/
theorem cr_go (hr : md 30 0 = r) (hI : Inv r) (hR : Rel b sd r) {p : Nat} (hp : p < nv r 7) : ∀ (k d n n' : Nat) (x y : Int32), d + k = nv r (39 + p) → k < n → k < n' → ∃ v, f_X3_longestCleanRun_L9 sd p n x y (nI d) = some v ∧ f_X8_cleanRun_L31 (nI p) md n' x y (nI d) = some (v, md) := by
  have l7 := hI.l7
  obtain ⟨w1, w2⟩ := (hI.plt p hp).2.1
  have w3 := w1.l
  intro k
  induction k with
  | zero =>
    intro d n n' x y hd hn hn'
    obtain ⟨n, rfl⟩ : ∃ q, n = q + 1 := ⟨n - 1, by omega⟩
    obtain ⟨n', rfl⟩ : ∃ q, n' = q + 1 := ⟨n' - 1, by omega⟩
    have : d = nv r (39 + p) := by omega
    subst this
    rw [f_X3_longestCleanRun_L9, f_X8_cleanRun_L31, hr, (hR.pl p hp).2.1]
    simp (disch := omega) only [xg, vinT, nI_clamp, la, w1.e]
    rw [if_pos (nI_le (Nat.le_refl _) (by omega)), if_pos (nI_le (Nat.le_refl _) (by omega))]
    exact ⟨_, rfl, rfl⟩
  | succ k ih =>
    intro d n n' x y hd hn hn'
    obtain ⟨n, rfl⟩ : ∃ q, n = q + 1 := ⟨n - 1, by omega⟩
    obtain ⟨n', rfl⟩ : ∃ q, n' = q + 1 := ⟨n' - 1, by omega⟩
    have c7 : ¬ (nI (nv r (39 + p)) ≤ nI d) := by rw [nI_leI (by omega) (by omega)]; omega
    rw [f_X3_longestCleanRun_L9, f_X8_cleanRun_L31, hr, (hR.pl p hp).2.1]
    simp (disch := omega) only [xl, xg, vinT, nI_clamp, la, ra, w1.e]
    rw [if_neg c7, if_neg c7, c_isBad sd p (show d < 300 by omega), xb, m_isBad2 hr hI hR.bd hp (show d < 300 by omega), xb]
    have go : ∀ q : Int32, ∃ v, f_X3_longestCleanRun_L9 sd p n (if x < q then q else x) q (nI (d + 1)) = some v ∧ (if q ≤ x then f_X8_cleanRun_L31 (nI p) md n' x q (nI (d + 1)) else f_X8_cleanRun_L31 (nI p) md n' q q (nI (d + 1))) = some (v, md) := fun q => by
      by_cases h : x < q
      · rw [if_pos h, if_neg (i32_le_lt.mpr h)]
        exact ih (d + 1) n n' _ _ (by omega) (by omega) (by omega)
      · rw [if_neg h, if_pos (i32_lt_le.mp h)]
        exact ih (d + 1) n n' _ _ (by omega) (by omega) (by omega)
    by_cases c : b01 (bdc sd p d) = 0
    · rw [if_pos c, if_pos c]
      exact go _
    · rw [if_neg c, if_neg c]
      exact go _
theorem q_cleanRun (hr : md 30 0 = r) (hI : Inv r) (hR : Rel b sd r) (a : Int32) : Ans md (f_X7_cleanRun sd a) (f_X8_cleanRun md a) := by
  obtain ⟨m1, e1, r1, s1⟩ := thr md
  have hr1 : m1 30 0 = r := r1.trans hr
  have l7 := hI.l7
  unfold f_X7_cleanRun f_X8_cleanRun
  rw [c_hasPlatter hI hR, xb, xl, e1, m_isPlatter hr1 hI, xb, hr1]
  rcases hasV_cases a (n := nv r 7) (by omega) with h | ⟨h, p, hp, rfl⟩
  · rw [h, if_pos rfl, if_pos rfl]; exact ⟨_, _, rfl, rfl, s1⟩
  · have w1 := (hI.plt p hp).2.1.1.l
    obtain ⟨w2, w3⟩ := (hI.plt p hp).2.2.2.1
    rw [h, if_neg i1, if_neg i1]
    unfold f_X3_longestCleanRun
    simp (disch := omega) only [xl, xg, vinT, nI_clamp, la]
    rw [(hR.pl p hp).2.2.2.1, w2.e]
    obtain ⟨v, g1, g2⟩ := cr_go hr1 hI hR hp (nv r (39 + p) - nv r (59 + p)) (nv r (59 + p)) fuel fuel 0 0 (by omega) (by unfold fuel; omega) (by unfold fuel; omega)
    rw [g1, g2, xb]
    exact ⟨_, _, rfl, rfl, s1⟩
end TIM
