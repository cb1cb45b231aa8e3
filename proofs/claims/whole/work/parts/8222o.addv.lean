/-! Layer 2: the class writes a version -/
section ADV
variable {F F' : Nat} {b : Nat} {sd sd' md : SD} {r r' : RW}
theorem c_take {s : SD} {p n sp e c o bd : Nat} (h2 : s 3 p 2 = nI sp) (h3 : s 3 p 3 = nI e) (h4 : s 3 p 4 = nI c) (h5 : s 3 p 5 = nI o) (ho : o ≤ 1) (hc : o = 0 → c < 8) (hc1 : o ≠ 0 → 0 < c) (hc8 : c ≤ 8) (hb : bd ≤ sp) : ∃ s', f_X3_takeSectors s p (nI n) (nI bd) = some s' ∧ (∀ k j t, ¬ (k = 3 ∧ j = p) → ¬ (k = 16 ∧ j = p ∧ t = (if o = 0 then c + 1 else c) - 1) → ¬ (k = 17 ∧ j = p ∧ t = (if o = 0 then c + 1 else c) - 1) → s' k j t = s k j t) ∧ (s' 3 p 0 = s 3 p 0 ∧ s' 3 p 1 = s 3 p 1 ∧ s' 3 p 2 = nI (sp - bd) ∧ s' 3 p 3 = nI (e + n) ∧ s' 3 p 4 = nI (if o = 0 then c + 1 else c) ∧ s' 3 p 5 = nI 1) ∧ (o = 0 → s' 16 p ((if o = 0 then c + 1 else c) - 1) = nI e ∧ s' 17 p ((if o = 0 then c + 1 else c) - 1) = nI n) ∧ (o ≠ 0 → s' 16 p ((if o = 0 then c + 1 else c) - 1) = s 16 p ((if o = 0 then c + 1 else c) - 1) ∧ s' 17 p ((if o = 0 then c + 1 else c) - 1) = s 17 p ((if o = 0 then c + 1 else c) - 1) + nI n) := by
  by_cases z : o = 0
  · have hc := hc z
    simp only [z, if_true, Nat.add_sub_cancel]
    have h5' : s 3 p 5 = 0 := by rw [h5, z]; rfl
    obtain ⟨s4, hs4⟩ : ∃ s4, s4 = upS (upS (upS (upS (upS s 16 p c (nI e)) 17 p c 0) 3 p 4 (nI (c + 1))) 3 p 5 1) 3 p 2 (nI (sp - bd)) := ⟨_, rfl⟩
    have q4 : s4 3 p 4 = nI (c + 1) := by rw [hs4]; simp (disch := omega) only [upS_t, upS_hit]
    have q17 : s4 17 p c = nI 0 := by rw [hs4]; simp (disch := omega) only [upS_k, upS_hit]; rfl
    have q3 : s4 3 p 3 = nI e := by rw [hs4]; simp (disch := omega) only [upS_k, upS_t, h3]
    have ev : f_X3_takeSectors s p (nI n) (nI bd) = some (upS (upS s4 17 p c (nI (0 + n))) 3 p 3 (nI (e + n))) := by
      unfold f_X3_takeSectors
      simp (disch := omega) only [xl, xg, xb, vinT, h5', if_true, h4, h3, h2, lle, if_neg, nI_clamp, upS_k, upS_t, upS_hit, ra, pk_sub hb]
      rw [← hs4]
      unfold f_X3_extendLastSession
      simp (disch := omega) only [xl, xg, xb, vinT, q4, rle, llt, if_neg, rsu, nI_clamp, Nat.add_sub_cancel, q17, q3, upS_k, upS_t, upS_hit, nI_add]
    refine ⟨_, ev, fun k j t k1 k2 k3 => ?_, ⟨?_, ?_, ?_, ?_, ?_, ?_⟩, fun _ => ⟨?_, ?_⟩, fun h => absurd rfl h⟩
    · simp only [hs4, upS]
      rw [if_neg (by omega), if_neg (by omega), if_neg (by omega), if_neg (by omega), if_neg (by omega), if_neg (by omega), if_neg (by omega)]
    all_goals simp (disch := omega) only [upS_k, upS_t, upS_hit, hs4, Nat.zero_add]
    all_goals rfl
  · have hc1 := hc1 z
    have o1 : o = 1 := by omega
    simp only [z, if_false]
    have h5' : ¬ (s 3 p 5 = 0) := by rw [h5, o1]; decide
    have q4 : (upS s 3 p 2 (nI (sp - bd))) 3 p 4 = nI c := by rw [upS_t (by omega)]; exact h4
    have q3 : (upS s 3 p 2 (nI (sp - bd))) 3 p 3 = nI e := by rw [upS_t (by omega)]; exact h3
    have q17 : (upS s 3 p 2 (nI (sp - bd))) 17 p (c - 1) = s 17 p (c - 1) := by rw [upS_k (by omega)]
    have ev : f_X3_takeSectors s p (nI n) (nI bd) = some (upS (upS (upS s 3 p 2 (nI (sp - bd))) 17 p (c - 1) (s 17 p (c - 1) + nI n)) 3 p 3 (nI (e + n))) := by
      unfold f_X3_takeSectors
      simp (disch := omega) only [xl, if_neg h5', h2, pk_sub hb]
      unfold f_X3_extendLastSession
      simp (disch := omega) only [xl, xg, xb, vinT, q4, rle, llt, if_neg, rsu, nI_clamp, q17, q3, upS_k, upS_t, upS_hit, nI_add]
    refine ⟨_, ev, fun k j t k1 k2 k3 => ?_, ⟨?_, ?_, ?_, ?_, ?_, ?_⟩, fun h => h.elim, fun _ => ⟨?_, ?_⟩⟩
    · simp only [upS]
      rw [if_neg (by omega), if_neg (by omega), if_neg (by omega)]
    all_goals simp (disch := omega) only [upS_k, upS_t, upS_hit]
    · exact h4
    · rw [h5, o1]
theorem c_addVersion (hI : InvF F r) (hR : RelF F b sd r) {f p n : Nat} (hf : f < nv r 9) (hp : p < nv r 7) (hn : nv r (59 + p) + n ≤ 300) (hV : nv r 10 < 40) (hS : nv r (79 + p) = 0 → nv r (69 + p) < 8) (hle : ent r p (nv r (59 + p)) n ≤ nv r (49 + p)) : ∃ sd', f_X4_addVersion sd (nI f) (nI n) (nI p) = some sd' ∧ WC sd sd' r f p n := by
  have l7 := hI.l7
  have l9 := hI.l9
  obtain ⟨-, ⟨c1, c2⟩, s1, ⟨e1, e2⟩, n1, o1, o2⟩ := hI.plt p hp
  have lo := o1.l
  have ln := n1.l
  have ls := s1.l
  obtain ⟨p0, p1, p2, p3, p4, p5⟩ := hR.pl p hp
  have hc9 : sd 4 0 9 = nI (nv r 10) := by rw [hR.s9]; exact hI.c10
  have hb : bads sd p (nv r (59 + p)) n = ent r p (nv r (59 + p)) n := (ent_bads hI hR.bd hp _ n hn).symm
  obtain ⟨s8, hs8⟩ : ∃ s8, s8 = upS (upS (upS (upS sd 6 (nv r 10) 0 (nI f)) 6 (nv r 10) 1 (nI p)) 6 (nv r 10) 2 (nI (nv r (59 + p)))) 6 (nv r 10) 3 (nI n) := ⟨_, rfl⟩
  have k8 : ∀ k j t, k ≠ 6 → s8 k j t = sd k j t := fun k j t h => by rw [hs8]; simp (disch := omega) only [upS_k]
  have hq9 := c_badAmong (sd := s8) (p := p) (e := nv r (59 + p)) (n := n) (by rw [k8 _ _ _ (by omega), p3]; exact e1.e) hn
  rw [bads_congr (sd := sd) (fun t => k8 _ _ _ (by omega)), hb] at hq9
  obtain ⟨s11, hs11⟩ : ∃ s11, s11 = upS (upS s8 6 (nv r 10) 5 (nI (ent r p (nv r (59 + p)) n))) 6 (nv r 10) 6 0 := ⟨_, rfl⟩
  have k11 : ∀ k j t, k ≠ 6 → s11 k j t = sd k j t := fun k j t h => by rw [hs11]; simp (disch := omega) only [upS_k, k8]
  have q5 : s11 6 (nv r 10) 5 = nI (ent r p (nv r (59 + p)) n) := by rw [hs11]; simp (disch := omega) only [upS_t, upS_hit]
  obtain ⟨s12, e12, f0, f3, fO, fC⟩ := c_take (s := s11) (p := p) (n := n) (sp := nv r (49 + p)) (e := nv r (59 + p)) (c := nv r (69 + p)) (o := nv r (79 + p)) (bd := ent r p (nv r (59 + p)) n) (by rw [k11 _ _ _ (by omega), p2]; exact s1.e) (by rw [k11 _ _ _ (by omega), p3]; exact e1.e) (by rw [k11 _ _ _ (by omega), p4]; exact n1.e) (by rw [k11 _ _ _ (by omega), p5]; exact o1.e) lo hS (fun h => o2 (by omega)) ln hle
  have hN : (if nv r (79 + p) = 0 then nv r (69 + p) + 1 else nv r (69 + p)) = nSe r p := rfl
  rw [hN] at f0 f3 fO fC
  have hN1 : 1 ≤ nSe r p ∧ nSe r p ≤ 8 := by
    unfold nSe
    by_cases z : nv r (79 + p) = 0
    · rw [if_pos z]; have := hS z; omega
    · rw [if_neg z]; have := o2 (by omega); omega
  have k9 : s12 4 0 9 = nI (nv r 10) := by rw [f0 _ _ _ (by omega) (by omega) (by omega), k11 _ _ _ (by omega)]; exact hc9
  have ev : f_X4_addVersion sd (nI f) (nI n) (nI p) = some (upS (upS (upS s12 6 (nv r 10) 4 (nI (nSe r p - 1))) 14 0 f (nI (nv r 10))) 4 0 9 (nI (nv r 10 + 1))) := by
    unfold f_X4_addVersion
    rw [c_hasFile hI hR, xb, hasV_in hf (by omega), c_hasPlatter hI hR, xb, hasV_in hp (by omega), hc9]
    simp (disch := omega) only [lle, if_neg, i10, if_false, xg, xl, vinT, nI_clamp, upS_k, p3, e1.e]
    rw [← hs8, hq9, xb, ← hs11, q5, e12, xb, f3.2.2.2.2.1]
    simp (disch := omega) only [xl, xg, vinT, rsu, upS_k, k9, ra, nI_clamp]
  have g6 : ∀ t, s12 6 (nv r 10) t = s11 6 (nv r 10) t := fun t => f0 _ _ _ (by omega) (by omega) (by omega)
  refine ⟨_, ev, fun k j t h1 h2 h3 h4 h5 h6 => ?_, ?_, ?_, ⟨?_, ?_, ?_, ?_, ?_, ?_, ?_⟩, ⟨?_, ?_, ?_, ?_, ?_, ?_⟩, fun z => ⟨?_, ?_⟩, fun z => ⟨?_, ?_⟩⟩
  · simp only [upS]
    rw [if_neg (by omega), if_neg (by omega), if_neg (by omega), f0 _ _ _ h2 h3 h4]
    by_cases y : k = 6
    · subst y
      have hj : j ≠ nv r 10 := fun w => h1 ⟨rfl, w⟩
      rw [hs11, hs8]
      simp (disch := omega) only [upS_j]
    · exact k11 _ _ _ y
  · rw [upS_hit]
  · rw [upS_k (by omega), upS_hit]
  · simp (disch := omega) only [upS_k, upS_t, g6, hs11, hs8, upS_hit]
  · simp (disch := omega) only [upS_k, upS_t, g6, hs11, hs8, upS_hit]
  · simp (disch := omega) only [upS_k, upS_t, g6, hs11, hs8, upS_hit]
  · simp (disch := omega) only [upS_k, upS_t, g6, hs11, hs8, upS_hit]
  · simp (disch := omega) only [upS_k, upS_hit]
  · simp (disch := omega) only [upS_k, upS_t, g6, hs11, hs8, upS_hit]
  · simp (disch := omega) only [upS_k, upS_t, g6, hs11, hs8, upS_hit]
    rfl
  · rw [upS_k (by omega), upS_k (by omega), upS_k (by omega), f3.1, k11 _ _ _ (by omega)]
  · rw [upS_k (by omega), upS_k (by omega), upS_k (by omega), f3.2.1, k11 _ _ _ (by omega)]
  · rw [upS_k (by omega), upS_k (by omega), upS_k (by omega), f3.2.2.1]
  · rw [upS_k (by omega), upS_k (by omega), upS_k (by omega), f3.2.2.2.1]
  · rw [upS_k (by omega), upS_k (by omega), upS_k (by omega), f3.2.2.2.2.1]
  · rw [upS_k (by omega), upS_k (by omega), upS_k (by omega), f3.2.2.2.2.2]
  · rw [upS_k (by omega), upS_k (by omega), upS_k (by omega), (fO z).1]
  · rw [upS_k (by omega), upS_k (by omega), upS_k (by omega), (fO z).2]
  · rw [upS_k (by omega), upS_k (by omega), upS_k (by omega), (fC z).1, k11 _ _ _ (by omega)]
  · rw [upS_k (by omega), upS_k (by omega), upS_k (by omega), (fC z).2, k11 _ _ _ (by omega)]
end ADV
