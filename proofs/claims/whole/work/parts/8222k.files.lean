/-! Layer 2: files and versions -/
/-- a version's session is closed -/
def clV (r : RW) (v : Nat) : Int32 := if nv r (79 + nv r (349 + v)) = 0 then 1 else if nv r (469 + v) + 1 < nv r (69 + nv r (349 + v)) then 1 else 0
def gdV (r : RW) (v : Nat) : Int32 := if nv r (549 + v) = 0 then clV r v else 0
theorem clV_01 (r : RW) (v : Nat) : clV r v = 0 ∨ clV r v = 1 := by
  unfold clV
  split
  · exact Or.inr rfl
  · split
    · exact Or.inr rfl
    · exact Or.inl rfl
theorem gdV_01 (r : RW) (v : Nat) : gdV r v = 0 ∨ gdV r v = 1 := by
  unfold gdV
  split
  · exact clV_01 r v
  · exact Or.inl rfl
theorem if01 {x : Int32} (h : x = 0 ∨ x = 1) : (if x = 0 then some (0 : Int32) else some (1 : Int32)) = some x := by
  rcases h with rfl | rfl
  · rfl
  · rfl
section FIL
variable {b : Nat} {sd md : SD} {r : RW}
theorem c_isClosed (hI : Inv r) (hR : Rel b sd r) {v : Nat} (hv : v < nv r 10) : f_X3_isClosed sd (nv r (349 + v)) (sd 6 v 4) = some (clV r v) := by
  obtain ⟨-, ⟨p1, p2⟩, -, -, -, ⟨s1, s2⟩, -, -⟩ := hI.ver v hv
  have w := (hI.plt _ p2).2.2.2.2
  have w1 := w.1.l
  have w2 := w.2.1.l
  have w3 := s1.l
  unfold f_X3_isClosed clV
  rw [(hR.ve v hv).2.2.2.2.1, (hR.pl _ p2).2.2.2.2.2, (hR.pl _ p2).2.2.2.2.1, s1.e, w.1.e, w.2.1.e]
  simp (disch := omega) only [req, rsu, nI_eq]
  by_cases z : nv r (79 + nv r (349 + v)) = 0
  · rw [if_pos z, if_pos z]
  · rw [if_neg z, if_neg z]
    by_cases y : nv r (469 + v) = nv r (69 + nv r (349 + v)) - 1
    · rw [if_pos y, if_neg (by omega)]
    · rw [if_neg y, if_pos (by omega)]
theorem c_isGood (hI : Inv r) (hR : Rel b sd r) {v : Nat} (hv : v < nv r 10) : f_X4_isGood sd v = some (gdV r v) := by
  have l7 := hI.l7
  obtain ⟨-, ⟨p1, p2⟩, -, -, -, -, -, d1⟩ := hI.ver v hv
  have d2 := d1.l
  have hc := c_isClosed hI hR hv
  unfold f_X4_isGood gdV
  rw [(hR.ve v hv).2.2.2.2.2.2, (hR.ve v hv).2.1, p1.e, d1.e]
  simp (disch := omega) only [req, xg, vinT, nI_clamp, hc, xb, if01 (clV_01 r v)]
  by_cases z : nv r (549 + v) = 0
  · rw [if_pos z, if_pos z]
  · rw [if_neg z, if_neg z]
theorem m_isClosed (hr : md 30 0 = r) (hI : Inv r) {v : Nat} (hv : v < nv r 10) : f_X8_isClosed md (nI v) = some (clV r v) := by
  have l7 := hI.l7
  have l10 := hI.l10
  obtain ⟨-, ⟨p1, p2⟩, -, -, -, ⟨s1, s2⟩, -, -⟩ := hI.ver v hv
  have w := (hI.plt _ p2).2.2.2.2
  have w1 := w.1.l
  have w2 := w.2.1.l
  have w3 := s1.l
  unfold f_X8_isClosed clV
  rw [hr]
  simp (disch := omega) only [xl, xg, vinT, la, nI_clamp, p1.e, s1.e, w.1.e, w.2.1.e, req, rsu, nI_leI]
  by_cases z : nv r (79 + nv r (349 + v)) = 0
  · rw [if_pos z, if_pos z]
  · rw [if_neg z, if_neg z]
    by_cases y : nv r (69 + nv r (349 + v)) - 1 ≤ nv r (469 + v)
    · rw [if_pos y, if_neg (by omega)]
    · rw [if_neg y, if_pos (by omega)]
theorem m_isGood (hr : md 30 0 = r) (hI : Inv r) {v : Nat} (hv : v < nv r 10) : f_X8_isGood md (nI v) = some (gdV r v) := by
  have l10 := hI.l10
  obtain ⟨-, -, -, -, -, -, -, d1⟩ := hI.ver v hv
  have d2 := d1.l
  unfold f_X8_isGood gdV
  rw [m_isClosed hr hI hv, hr]
  simp (disch := omega) only [xg, vinT, la, nI_clamp, d1.e, req, xb, if01 (clV_01 r v)]
  by_cases z : nv r (549 + v) = 0
  · rw [if_pos z, if_pos z]
  · rw [if_neg z, if_neg z]
theorem c_isReadable (hI : Inv r) (hR : Rel b sd r) {f : Nat} (hf : f < nv r 9) : f_X4_isReadable sd (nI f) = some (gdV r (nv r (289 + f))) := by
  unfold f_X4_isReadable
  rw [c_currentVersion hI hR hf, xb, c_isGood hI hR (hI.cur f hf).2, xb]
  simp only [eq_true (gdV_01 r _), xg]
theorem m_isReadable (hr : md 30 0 = r) (hI : Inv r) {f : Nat} (hf : f < nv r 9) : f_X8_isReadable md (nI f) = some (gdV r (nv r (289 + f))) := by
  unfold f_X8_isReadable
  rw [m_version hr hI hf, xb, m_isGood hr hI (hI.cur f hf).2, xb]
  simp only [eq_true (gdV_01 r _), xg]
theorem q_fileState (hr : md 30 0 = r) (hI : Inv r) (hR : Rel b sd r) (a : Int32) : Ans md (f_X7_fileState sd a) (f_X8_fileState md a) := by
  obtain ⟨m1, e1, r1, s1⟩ := thr md
  have hr1 : m1 30 0 = r := r1.trans hr
  have hi1 : ∀ i, m1 30 0 i = r i := fun i => by rw [hr1]
  have l9 := hI.l9
  have l10 := hI.l10
  unfold f_X7_fileState f_X8_fileState
  rw [c_hasFile hI hR, xb, xl, e1, m_isFile hr1 hI, xb]
  rcases hasV_cases a (n := nv r 9) (by omega) with h | ⟨h, f, hf, rfl⟩
  · rw [h, if_pos rfl, if_pos rfl]; exact ⟨_, _, rfl, rfl, s1⟩
  · obtain ⟨x1, x2⟩ := hI.cur f hf
    have d1 := (hI.ver _ x2).2.2.2.2.2.2.2
    have d2 := d1.l
    rw [h, if_neg (by decide), if_neg (by decide), c_currentVersion hI hR hf, xb, m_version hr1 hI hf, xb, c_isReadable hI hR hf, xb, xb, m_isClosed hr1 hI x2, xb]
    simp (disch := omega) only [xg, vinT, la, nI_clamp, hi1, (hR.ve _ x2).2.2.2.2.2.2, d1.e, req]
    unfold gdV
    by_cases z : nv r (549 + nv r (289 + f)) = 0
    · have z1 : ¬ nv r (549 + nv r (289 + f)) = 1 := by omega
      simp only [if_pos z, if_neg z1]
      by_cases y : clV r (nv r (289 + f)) = 0
      · rw [if_pos y, if_pos y]; exact ⟨_, _, rfl, rfl, s1⟩
      · rw [if_neg y, if_neg y]; exact ⟨_, _, rfl, rfl, s1⟩
    · have z1 : nv r (549 + nv r (289 + f)) = 1 := by omega
      simp only [if_neg z, if_pos z1]; exact ⟨_, _, rfl, rfl, s1⟩
theorem q_versionCount (hr : md 30 0 = r) (hI : Inv r) (hR : Rel b sd r) (a : Int32) : Ans md (f_X7_versionCount sd a) (f_X8_versionCount md a) := by
  obtain ⟨m1, e1, r1, s1⟩ := thr md
  have hr1 : m1 30 0 = r := r1.trans hr
  have hi1 : ∀ i, m1 30 0 i = r i := fun i => by rw [hr1]
  have l9 := hI.l9
  have l10 := hI.l10
  unfold f_X7_versionCount f_X8_versionCount f_X4_countVersions
  rw [c_hasFile hI hR, xb, xl, e1, m_isFile hr1 hI, xb]
  have key : ∀ (k d n : Nat) (acc : Int32), d + k = nv r 10 → k < n → ∃ q, f_X4_countVersions_L4 sd a n acc (nI d) = some q ∧ f_X8_versionCount_L20 m1 a n acc (nI d) = some (q, m1) := by
    intro k
    induction k with
    | zero =>
      intro d n acc h1 h2
      obtain ⟨n, rfl⟩ : ∃ m, n = m + 1 := ⟨n - 1, by omega⟩
      rw [f_X4_countVersions_L4, f_X8_versionCount_L20, hR.s9, hi1, hI.c10]
      simp (disch := omega) only [nI_leI, if_pos]
      exact ⟨_, rfl, rfl⟩
    | succ k ih =>
      intro d n acc h1 h2
      obtain ⟨n, rfl⟩ : ∃ m, n = m + 1 := ⟨n - 1, by omega⟩
      have hd : d < nv r 10 := by omega
      rw [f_X4_countVersions_L4, f_X8_versionCount_L20, hR.s9, hi1, hI.c10]
      simp (disch := omega) only [xl, xg, vinT, nI_clamp, la, ra, nI_leI, if_neg, hi1, (hR.ve d hd).1]
      by_cases z : r (309 + d) = a
      · rw [if_pos z, if_pos z]
        exact ih (d + 1) n _ (by omega) (by omega)
      · rw [if_neg z, if_neg z]
        have e0 : acc + 0 = acc := by grind
        rw [e0]
        exact ih (d + 1) n _ (by omega) (by omega)
  obtain ⟨q, k1, k2⟩ := key (nv r 10) 0 fuel 0 (by omega) (by unfold fuel; omega)
  rw [nI_0] at k1 k2
  rw [k1, xb, k2]
  by_cases h : hasV a (nv r 9) = 0
  · rw [if_pos h, if_pos h]; exact ⟨_, _, rfl, rfl, s1⟩
  · rw [if_neg h, if_neg h]; exact ⟨_, _, rfl, rfl, s1⟩
theorem q_lastGoodVersion (hr : md 30 0 = r) (hI : Inv r) (hR : Rel b sd r) (a : Int32) : Ans md (f_X7_lastGoodVersion sd a) (f_X8_lastGoodVersion md a) := by
  obtain ⟨m1, e1, r1, s1⟩ := thr md
  have hr1 : m1 30 0 = r := r1.trans hr
  have hi1 : ∀ i, m1 30 0 i = r i := fun i => by rw [hr1]
  have l9 := hI.l9
  have l10 := hI.l10
  unfold f_X7_lastGoodVersion f_X8_lastGoodVersion f_X4_lastGood
  rw [c_hasFile hI hR, xb, xl, e1, m_isFile hr1 hI, xb]
  have key : ∀ (k d n c : Nat) (x : Int32), d + k = nv r 10 → k < n → c ≤ d → (x = -1 ∨ ∃ j, j < 100 ∧ x = nI j) → ∃ q, f_X4_lastGood_L7 sd a n (nI c) x (nI d) = some q ∧ f_X8_lastGoodVersion_L24 m1 a n (if x = -1 then -1000005 else x) (nI c) (nI d) = some (if q = -1 then -1000005 else q, m1) := by
    intro k
    induction k with
    | zero =>
      intro d n c x h1 h2 h3 h4
      obtain ⟨n, rfl⟩ : ∃ m, n = m + 1 := ⟨n - 1, by omega⟩
      rw [f_X4_lastGood_L7, f_X8_lastGoodVersion_L24, hR.s9, hi1, hI.c10]
      simp (disch := omega) only [nI_leI, if_pos]
      exact ⟨_, rfl, rfl⟩
    | succ k ih =>
      intro d n c x h1 h2 h3 h4
      obtain ⟨n, rfl⟩ : ∃ m, n = m + 1 := ⟨n - 1, by omega⟩
      have hd : d < nv r 10 := by omega
      rw [f_X4_lastGood_L7, f_X8_lastGoodVersion_L24, hR.s9, hi1, hI.c10]
      simp (disch := omega) only [xl, xg, xb, vinT, nI_clamp, la, ra, nI_leI, if_neg, hi1, (hR.ve d hd).1, c_isGood hI hR hd, m_isGood hr1 hI hd]
      by_cases z : r (309 + d) = a
      · rw [if_pos z, if_pos z]
        by_cases y : gdV r d = 0
        · rw [if_pos y, if_pos y]
          exact ih (d + 1) n (c + 1) x (by omega) (by omega) (by omega) h4
        · rw [if_neg y, if_neg y]
          have := ih (d + 1) n (c + 1) (nI c) (by omega) (by omega) (by omega) (Or.inr ⟨c, by omega, rfl⟩)
          rw [if_neg (by rw [nm1 (by omega)]; exact id)] at this
          exact this
      · rw [if_neg z, if_neg z]
        exact ih (d + 1) n c x (by omega) (by omega) (by omega) h4
  obtain ⟨q, k1, k2⟩ := key (nv r 10) 0 fuel 0 (-1) (by omega) (by unfold fuel; omega) (by omega) (Or.inl rfl)
  rw [nI_0] at k1 k2
  rw [if_pos rfl] at k2
  rw [k1, xb, k2, c_found]
  by_cases h : hasV a (nv r 9) = 0
  · rw [if_pos h, if_pos h]; exact ⟨_, _, rfl, rfl, s1⟩
  · rw [if_neg h, if_neg h]; exact ⟨_, _, rfl, rfl, s1⟩
theorem q_filesOn (hr : md 30 0 = r) (hI : Inv r) (hR : Rel b sd r) (a : Int32) : Ans md (f_X7_filesOn sd a) (f_X8_filesOn md a) := by
  obtain ⟨m1, e1, r1, s1⟩ := thr md
  have hr1 : m1 30 0 = r := r1.trans hr
  have hi1 : ∀ i, m1 30 0 i = r i := fun i => by rw [hr1]
  have l7 := hI.l7
  have l9 := hI.l9
  have l10 := hI.l10
  unfold f_X7_filesOn f_X8_filesOn f_X4_countFiles
  rw [c_hasPlatter hI hR, xb, xl, e1, m_isPlatter hr1 hI, xb]
  have key : ∀ (k d n : Nat) (acc : Int32), d + k = nv r 9 → k < n → ∃ q, f_X4_countFiles_L4 sd a n acc (nI d) = some q ∧ f_X8_filesOn_L20 m1 a n acc (nI d) = some (q, m1) := by
    intro k
    induction k with
    | zero =>
      intro d n acc h1 h2
      obtain ⟨n, rfl⟩ : ∃ m, n = m + 1 := ⟨n - 1, by omega⟩
      rw [f_X4_countFiles_L4, f_X8_filesOn_L20, hR.s11, hi1, hI.c9]
      simp (disch := omega) only [nI_leI, if_pos]
      exact ⟨_, rfl, rfl⟩
    | succ k ih =>
      intro d n acc h1 h2
      obtain ⟨n, rfl⟩ : ∃ m, n = m + 1 := ⟨n - 1, by omega⟩
      have hd : d < nv r 9 := by omega
      obtain ⟨x1, x2⟩ := hI.cur d hd
      have y1 := (hI.ver _ x2).2.1.1
      rw [f_X4_countFiles_L4, f_X8_filesOn_L20, hR.s11, hi1, hI.c9]
      simp (disch := omega) only [xl, xg, xb, vinT, nI_clamp, la, ra, nI_leI, if_neg, hi1, c_currentVersion hI hR hd, m_platterOf hr1 hI hd, (hR.ve _ x2).2.1, y1.e]
      by_cases z : nI (nv r (349 + nv r (289 + d))) = a
      · rw [if_pos z, if_pos z]
        exact ih (d + 1) n _ (by omega) (by omega)
      · rw [if_neg z, if_neg z]
        have e0 : acc + 0 = acc := by grind
        rw [e0]
        exact ih (d + 1) n _ (by omega) (by omega)
  obtain ⟨q, k1, k2⟩ := key (nv r 9) 0 fuel 0 (by omega) (by unfold fuel; omega)
  rw [nI_0] at k1 k2
  rw [k1, xb, k2]
  by_cases h : hasV a (nv r 7) = 0
  · rw [if_pos h, if_pos h]; exact ⟨_, _, rfl, rfl, s1⟩
  · rw [if_neg h, if_neg h]; exact ⟨_, _, rfl, rfl, s1⟩
/-- a version is its file's last -/
def cuV (r : RW) (v : Nat) : Int32 := if nv r (289 + nv r (309 + v)) = v then 1 else 0
theorem c_isCurrent (hI : Inv r) (hR : Rel b sd r) {v : Nat} (hv : v < nv r 10) : f_X4_isCurrent sd (nI v) = some (cuV r v) := by
  have l9 := hI.l9
  have l10 := hI.l10
  obtain ⟨f1, f2⟩ := (hI.ver v hv).1
  obtain ⟨x1, x2⟩ := hI.cur _ f2
  unfold f_X4_isCurrent cuV
  simp (disch := omega) only [xg, vinT, nI_clamp, (hR.ve v hv).1, f1.e, hR.cu _ f2, x1.e, nI_eq]
  split <;> rfl
theorem m_isCurrent (hr : md 30 0 = r) (hI : Inv r) {v : Nat} (hv : v < nv r 10) : f_X8_isCurrent md (nI v) = some (cuV r v) := by
  have l9 := hI.l9
  have l10 := hI.l10
  obtain ⟨f1, f2⟩ := (hI.ver v hv).1
  obtain ⟨x1, x2⟩ := hI.cur _ f2
  unfold f_X8_isCurrent cuV
  rw [hr]
  simp (disch := omega) only [xg, vinT, la, nI_clamp, f1.e, x1.e, nI_eq]
  split <;> rfl
theorem cuV_01 (r : RW) (v : Nat) : cuV r v = 0 ∨ cuV r v = 1 := by
  unfold cuV
  split
  · exact Or.inr rfl
  · exact Or.inl rfl
theorem q_staleSectors (hr : md 30 0 = r) (hI : Inv r) (hR : Rel b sd r) (a : Int32) : Ans md (f_X7_staleSectors sd a) (f_X8_staleSectors md a) := by
  obtain ⟨m1, e1, r1, s1⟩ := thr md
  have hr1 : m1 30 0 = r := r1.trans hr
  have hi1 : ∀ i, m1 30 0 i = r i := fun i => by rw [hr1]
  have l7 := hI.l7
  have l10 := hI.l10
  unfold f_X7_staleSectors f_X8_staleSectors f_X4_countStale
  rw [c_hasPlatter hI hR, xb, xl, e1, m_isPlatter hr1 hI, xb]
  have key : ∀ (k d n : Nat) (acc : Int32), d + k = nv r 10 → k < n → ∃ q, f_X4_countStale_L4 sd a n acc (nI d) = some q ∧ f_X8_staleSectors_L20 m1 a n acc (nI d) = some (q, m1) := by
    intro k
    induction k with
    | zero =>
      intro d n acc h1 h2
      obtain ⟨n, rfl⟩ : ∃ m, n = m + 1 := ⟨n - 1, by omega⟩
      rw [f_X4_countStale_L4, f_X8_staleSectors_L20, hR.s9, hi1, hI.c10]
      simp (disch := omega) only [nI_leI, if_pos]
      exact ⟨_, rfl, rfl⟩
    | succ k ih =>
      intro d n acc h1 h2
      obtain ⟨n, rfl⟩ : ∃ m, n = m + 1 := ⟨n - 1, by omega⟩
      have hd : d < nv r 10 := by omega
      have e0 : acc + 0 = acc := by grind
      rw [f_X4_countStale_L4, f_X8_staleSectors_L20, hR.s9, hi1, hI.c10]
      simp (disch := omega) only [xl, xg, xb, vinT, nI_clamp, la, ra, nI_leI, if_neg, hi1, (hR.ve d hd).2.1, (hR.ve d hd).2.2.2.1, c_isCurrent hI hR hd, m_isCurrent hr1 hI hd, e0]
      by_cases z : r (349 + d) = a
      · rw [if_pos z, if_pos z]
        by_cases y : cuV r d = 0
        · rw [if_pos y, if_pos y]
          exact ih (d + 1) n _ (by omega) (by omega)
        · rw [if_neg y, if_neg y]
          exact ih (d + 1) n _ (by omega) (by omega)
      · rw [if_neg z, if_neg z]
        exact ih (d + 1) n _ (by omega) (by omega)
  obtain ⟨q, k1, k2⟩ := key (nv r 10) 0 fuel 0 (by omega) (by unfold fuel; omega)
  rw [nI_0] at k1 k2
  rw [k1, xb, k2]
  by_cases h : hasV a (nv r 7) = 0
  · rw [if_pos h, if_pos h]; exact ⟨_, _, rfl, rfl, s1⟩
  · rw [if_neg h, if_neg h]; exact ⟨_, _, rfl, rfl, s1⟩
theorem q_fileOfSector (hr : md 30 0 = r) (hI : Inv r) (hR : Rel b sd r) (a c : Int32) : Ans md (f_X7_fileOfSector sd a c) (f_X8_fileOfSector md a c) := by
  obtain ⟨m1, e1, r1, s1⟩ := thr md
  have hr1 : m1 30 0 = r := r1.trans hr
  have hi1 : ∀ i, m1 30 0 i = r i := fun i => by rw [hr1]
  have l7 := hI.l7
  have l10 := hI.l10
  unfold f_X7_fileOfSector f_X8_fileOfSector
  rcases hasV_cases a (n := nv r 7) (by omega) with h | ⟨h, p, hp, rfl⟩
  · have e2 : f_X4_hasSector sd a c = some 0 := by
      unfold f_X4_hasSector
      rw [c_hasPlatter hI hR, xb, h, if_pos rfl]
    have e3 : f_X8_isSector m1 a c = some 0 := by
      unfold f_X8_isSector
      rw [m_isPlatter hr1 hI, xb, h, if_pos rfl]
    rw [e2, xb, xl, e1, e3, xb, if_pos rfl, if_pos rfl]; exact ⟨_, _, rfl, rfl, s1⟩
  · have w := (hI.plt p hp).2.1.1.l
    rw [c_hasSector hI hR hp, xb, xl, e1, m_isSector hr1 hI hp, xb]
    rcases hasV_cases c (n := nv r (39 + p)) (by omega) with g | ⟨g, s, hs, rfl⟩
    · rw [g, if_pos rfl, if_pos rfl]; exact ⟨_, _, rfl, rfl, s1⟩
    · rw [g, if_neg (by decide), if_neg (by decide), c_versionAt hI hR (by omega), xb, m_versionAt hr1 hI (by omega), xb]
      rcases verQ_cases r p s with ⟨h1, h2⟩ | ⟨v, h1, h2, h3⟩
      · rw [h1, if_pos rfl, if_pos rfl]; exact ⟨_, _, rfl, rfl, s1⟩
      · rw [h2, if_neg (by rw [nm1 (by omega)]; exact id), if_neg (by rw [nm1 (by omega)]; exact id)]
        simp (disch := omega) only [xg, vinT, la, nI_clamp, hi1, (hR.ve v h1).1]
        exact ⟨_, _, rfl, rfl, s1⟩
end FIL
