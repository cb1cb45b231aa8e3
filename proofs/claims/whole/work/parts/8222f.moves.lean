/-! Layer 2: the mechanics keep the relation -/
theorem nv_eq {r r' : RW} {i j : Nat} (h : r' i = r j) : nv r' i = nv r j := by unfold nv; rw [h]
theorem isN_eq {r r' : RW} {i m : Nat} (h : r' i = r i) (g : isN r i m) : isN r' i m := by unfold isN at g ⊢; rw [nv_eq h, h]; exact g
theorem isN_nI {r : RW} {i n m : Nat} (h : r i = nI n) (hn : n ≤ m) (hm : m < 2 ^ 31) : isN r i m := by
  have e := nv_of h (by omega)
  exact ⟨by rw [e]; exact h, by rw [e]; exact hn⟩
/-- the numbers that the mechanics touch -/
def mec (i : Nat) : Prop := (11 ≤ i ∧ i ≤ 15) ∨ (21 ≤ i ∧ i ≤ 28)
section MV
variable {F : Nat} {b b' : Nat} {sd sd' md : SD} {r r' : RW}
theorem InvF.mech (hI : InvF F r) (hf : ∀ i, ¬ mec i → r' i = r i) (hp : I_pick r') (hd : ∀ d, d < nv r 6 → r' (21 + d) = -1 ∨ (isN r' (21 + d) 9 ∧ nv r' (21 + d) < nv r 7)) (hdd : ∀ d e, d < nv r 6 → e < nv r 6 → r' (21 + d) = r' (21 + e) → d = e ∨ r' (21 + d) = -1) : InvF F r' := by
  have hn : ∀ i, ¬ mec i → nv r' i = nv r i := fun i h => nv_eq (hf i h)
  unfold mec at hf hn
  have e0 := hn 0 (by omega)
  have e6 := hn 6 (by omega)
  have e7 := hn 7 (by omega)
  have e8 := hn 8 (by omega)
  have e9 := hn 9 (by omega)
  have e10 := hn 10 (by omega)
  have e16 := hn 16 (by omega)
  have l6 := hI.l6
  refine ⟨?_, ?_, hp, ?_, ?_, ?_, ?_, ?_, ?_, ?_, ?_, ?_, hI.lF⟩
  · have h := hI.1
    unfold I_cnt isN at h ⊢
    simp (disch := omega) only [hf, hn]
    exact h
  · have h := hI.tim
    unfold I_tim isN at h ⊢
    simp (disch := omega) only [hf, hn]
    exact h
  · intro d h
    rw [e6] at h
    have g := (hI.drv d h).1
    have k := hd d h
    refine ⟨?_, ?_⟩
    · unfold isN at g ⊢
      simp (disch := omega) only [hf, hn]
      exact g
    · rw [e7]
      exact k
  · intro d e h1 h2
    rw [e6] at h1 h2
    exact hdd d e h1 h2
  · intro p h
    rw [e7] at h
    have g := hI.plt p h
    unfold isN at g ⊢
    simp (disch := omega) only [hf, hn]
    exact g
  · intro p q h1 h2 h3
    rw [e7] at h1 h2
    simp (disch := omega) only [hf] at h3
    exact hI.hom p q h1 h2 h3
  · intro k h
    rw [e8] at h
    have g := hI.bad k h
    unfold isN at g ⊢
    simp (disch := omega) only [hf, hn]
    exact g
  · intro k l h1 h2 h3 h4
    rw [e8] at h1 h2
    simp (disch := omega) only [hf] at h3 h4
    exact hI.bdd k l h1 h2 h3 h4
  · intro f h
    have g := hI.cur f h
    unfold isN at g ⊢
    simp (disch := omega) only [hf, hn]
    exact g
  · intro v h
    rw [e10] at h
    have g := hI.ver v h
    unfold isN at g ⊢
    simp (disch := omega) only [hf, hn]
    exact g
  · intro q h
    rw [e16] at h
    have g := hI.req q h
    unfold isN at g ⊢
    simp (disch := omega) only [hf, hn]
    exact g
theorem RelF.mech (hI : InvF F r) (hR : RelF F b sd r) (hf : ∀ i, ¬ mec i → r' i = r i) (hs : ∀ k j t, k ≠ 4 → k ≠ 0 → sd' k j t = sd k j t) (h4 : ∀ t, ¬ (t = 4 ∨ (14 ≤ t ∧ t ≤ 17)) → sd' 4 0 t = sd 4 0 t) (hc : sd' 4 0 14 = r' 11 ∧ sd' 4 0 15 = r' 12 ∧ sd' 4 0 16 = r' 13 ∧ sd' 4 0 17 = r' 14) (hd : ∀ d, d < nv r 6 → sd' 0 d 0 = r (17 + d) ∧ sd' 0 d 1 = r' (21 + d)) (hu : R_us b' sd' r') : RelF F b' sd' r' := by
  have hn : ∀ i, ¬ mec i → nv r' i = nv r i := fun i h => nv_eq (hf i h)
  unfold mec at hf hn
  have e6 := hn 6 (by omega)
  have e7 := hn 7 (by omega)
  have e9 := hn 9 (by omega)
  have e10 := hn 10 (by omega)
  have e16 := hn 16 (by omega)
  have l6 := hI.l6
  refine ⟨?_, ?_, ?_, hu, ?_, ?_, ?_, ?_, ?_, ?_⟩
  · have h := hR.sc
    unfold R_sc at h ⊢
    simp (disch := omega) only [hf, h4]
    exact ⟨h.1, h.2.1, h.2.2.1, h.2.2.2.1, h.2.2.2.2.1, h.2.2.2.2.2.1, h.2.2.2.2.2.2.1, hc.1, hc.2.1, hc.2.2.1, hc.2.2.2⟩
  · have h := hR.tm
    unfold R_tm at h ⊢
    simp (disch := omega) only [hf, hs]
    exact h
  · intro d h
    rw [e6] at h
    have g := hd d h
    simp (disch := omega) only [hf]
    exact g
  · intro p h
    rw [e7] at h
    have g := hR.pl p h
    simp (disch := omega) only [hf, hs]
    exact g
  · intro p s h1 h2
    rw [e7] at h1
    rw [hn (69 + p) (by omega)] at h2
    have g := hR.se p s h1 h2
    simp (disch := omega) only [hf, hs]
    exact g
  · intro p s h1 h2
    rw [e7] at h1
    have g := hR.bd p s h1 h2
    unfold bdc bdm at g ⊢
    simp (disch := omega) only [hf, hn, hs]
    exact g
  · intro f h
    have g := hR.cu f h
    simp (disch := omega) only [hf, hs]
    exact g
  · intro v h
    rw [e10] at h
    have g := hR.ve v h
    simp (disch := omega) only [hf, hs]
    exact g
  · intro q h
    rw [e16] at h
    have g := hR.rq q h
    simp (disch := omega) only [hf, hs]
    exact g
theorem us_use (h : R_us b sd r) (hD : nv r' 6 = nv r 6) {d y : Nat} (hd : d < nv r 6) (h1 : sd' 4 0 4 = sd 4 0 4 + 1) (h2 : sd' 0 d 2 = sd 4 0 4 + 1) (h3 : ∀ e, e ≠ d → sd' 0 e 2 = sd 0 e 2) (g1 : r' 15 = nI y) (g2 : r' (25 + d) = nI y) (g3 : ∀ e, e < nv r 6 → e ≠ d → r' (25 + e) = r (25 + e)) (hy : nv r 15 < y) (hy2 : y ≤ b') (hb : b + 1 ≤ b') (hb2 : b' < 2 ^ 30) : R_us b' sd' r' := by
  obtain ⟨⟨u1, u2⟩, u3, u4, u5⟩ := h
  have a1 : sd' 4 0 4 = nI (ns sd 4 0 4 + 1) := by rw [h1, u1, nI_1]
  have a2 : sd' 0 d 2 = nI (ns sd 4 0 4 + 1) := by rw [h2, ← h1]; exact a1
  have c1 : ns sd' 4 0 4 = ns sd 4 0 4 + 1 := by
    have : ns sd' 4 0 4 = (nI (ns sd 4 0 4 + 1)).toNatClampNeg := by rw [← a1]; rfl
    rw [this, nI_clamp (by omega)]
  have c2 : ns sd' 0 d 2 = ns sd 4 0 4 + 1 := by
    have : ns sd' 0 d 2 = (nI (ns sd 4 0 4 + 1)).toNatClampNeg := by rw [← a2]; rfl
    rw [this, nI_clamp (by omega)]
  have c3 : ∀ e, e ≠ d → ns sd' 0 e 2 = ns sd 0 e 2 := fun e he => by unfold ns; rw [h3 e he]
  have d1 : nv r' 15 = y := nv_of g1 (by omega)
  have d2 : nv r' (25 + d) = y := nv_of g2 (by omega)
  have d3 : ∀ e, e < nv r 6 → e ≠ d → nv r' (25 + e) = nv r (25 + e) := fun e h1 h2 => nv_eq (g3 e h1 h2)
  refine ⟨⟨by rw [c1]; exact a1, by omega⟩, isN_nI g1 hy2 (by omega), fun e he => ?_, fun e f he hf => ?_⟩
  · rw [hD] at he
    by_cases z : e = d
    · subst z
      exact ⟨⟨by rw [c2]; exact a2, by omega⟩, isN_nI g2 (by omega) (by omega)⟩
    · obtain ⟨⟨v1, v2⟩, v3⟩ := u4 e he
      have v4 := v3.l
      refine ⟨⟨by rw [h3 e z, c3 e z]; exact v1, by rw [c3 e z]; omega⟩, ?_⟩
      have := isN_eq (g3 e he z) v3
      exact ⟨this.1, by rw [d3 e he z, d1]; omega⟩
  · rw [hD] at he hf
    by_cases z : e = d
    · by_cases z2 : f = d
      · subst z; subst z2
        omega
      · subst z
        have v1 := (u4 f hf).1.2
        have v2 := (u4 f hf).2.l
        rw [c2, c3 f z2, d2, d3 f hf z2]
        omega
    · have v1 := (u4 e he).1.2
      have v2 := (u4 e he).2.l
      by_cases z2 : f = d
      · subst z2
        rw [c2, c3 e z, d2, d3 e he z]
        omega
      · rw [c3 e z, c3 f z2, d3 e he z, d3 f hf z2]
        exact u5 e f he hf
def usC (sd : SD) (d : Nat) : SD := upS (upS sd 4 0 4 (sd 4 0 4 + 1)) 0 d 2 (sd 4 0 4 + 1)
def brC (sd : SD) (p d : Nat) (tm mv : Int32) : SD := upS (upS (upS (upS (upS sd 4 0 15 (sd 4 0 15 + tm)) 4 0 17 (sd 4 0 17 + mv)) 4 0 14 (sd 0 d 0)) 0 d 1 (nI p)) 4 0 16 (sd 4 0 16 + 1)
theorem c_useDrive (sd : SD) {d : Nat} (hd : d < 4) : f_X4_useDrive sd (nI d) = some (usC sd d) := by
  unfold f_X4_useDrive usC
  simp (disch := omega) only [xl, xg, xb, vinT, nI_clamp, la, ra, lm, rmu, rsu, nI_add, pk_mul, nm1, m1n, nneg, npos, lle, rle, llt, rlt, leq, req, nI_leI, nI_ltI, nI_eq, if_pos, if_neg, if_true, if_false, i01, i10]
  simp [upS]
theorem bm_frame (sd : SD) (v a c : Int32) : f_X4_bringMoves (upS sd 4 0 15 v) a c = f_X4_bringMoves sd a c := by
  unfold f_X4_bringMoves
  simp [upS]
theorem c_bringInto (hI : InvF F r) (hR : RelF F b sd r) {p d : Nat} (hp : p < nv r 7) (hd : d < nv r 6) (hne : r (21 + d) ≠ nI p) : f_X4_bringInto sd (nI p) (nI d) = some (usC (brC sd p d (nI (btm r p d)) (nI (mvs r p d))) d) := by
  have l6 := hI.l6
  unfold f_X4_bringInto
  simp (disch := omega) only [xl, xg, vinT, nI_clamp, (hR.dr d hd).2, c_bringTime hI hR hp hd, if_neg hne, xb, bm_frame, c_bringMoves hI hR hp hd]
  have e : (upS (upS (upS (upS (upS sd 4 0 15 (sd 4 0 15 + nI (btm r p d))) 4 0 17 (upS sd 4 0 15 (sd 4 0 15 + nI (btm r p d)) 4 0 17 + nI (mvs r p d))) 4 0 14 (upS (upS sd 4 0 15 (sd 4 0 15 + nI (btm r p d))) 4 0 17 (upS sd 4 0 15 (sd 4 0 15 + nI (btm r p d)) 4 0 17 + nI (mvs r p d)) 0 d 0)) 0 d 1 (nI p)) 4 0 16 (upS (upS (upS (upS sd 4 0 15 (sd 4 0 15 + nI (btm r p d))) 4 0 17 (upS sd 4 0 15 (sd 4 0 15 + nI (btm r p d)) 4 0 17 + nI (mvs r p d))) 4 0 14 (upS (upS sd 4 0 15 (sd 4 0 15 + nI (btm r p d))) 4 0 17 (upS sd 4 0 15 (sd 4 0 15 + nI (btm r p d)) 4 0 17 + nI (mvs r p d)) 0 d 0)) 0 d 1 (nI p) 4 0 16 + 1)) = brC sd p d (nI (btm r p d)) (nI (mvs r p d)) := by
    unfold brC
    simp [upS]
  rw [e, c_useDrive _ (by omega), xb]
theorem c_bringSame (hI : InvF F r) (hR : RelF F b sd r) {p d : Nat} (hd : d < nv r 6) (he : r (21 + d) = nI p) : f_X4_bringInto sd (nI p) (nI d) = some (usC sd d) := by
  have l6 := hI.l6
  unfold f_X4_bringInto
  simp (disch := omega) only [xl, xg, vinT, nI_clamp, (hR.dr d hd).2, if_pos he, xb, c_useDrive]
end MV
