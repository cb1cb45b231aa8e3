/-! One row an instruction over the world -/
section XROWS
variable {p : Program} {l : Launch} {e : Env} {R : Room} {s : State} {m : MethodId} {args : Array Value} {below : List Frame} {meth : Method} {c : Code} {H H0 : Heap} {locs : List Loc} {cells slots : Nat} {Q : State → Prop} {pc : Nat} {ls : Array Slot} {rest : List Value} {cc : ByteArray} {g : GT} {w w' : WT} {i k j t : Nat}
/-- calls of the nest mates' own constructors -/
def nst (n : Nat) : String × Nat × MethodName := ([(RX4, 39, yX0_init), (RX4, 40, yX3_init), (RX4, 41, yX6_init), (RX7, 9, yX5_init), (RX7, 28, yX1_init), (RX7, 380, yX2_init)] : List (String × Nat × MethodName)).getD n (RX4, 39, yX0_init)
/-- the String constants of the reader: their places in its pool, their texts -/
def sidx (n : Nat) : Nat := ([60, 74, 79, 84, 89, 94, 99] : List Nat).getD n 0
def stxt (n : Nat) : String := (["slots", "drive", "time", "platter", "bad", "file", "close"] : List String).getD n ""
def slen : List Nat := [5, 5, 4, 7, 3, 4, 5]
def sbyt : List (List Int32) := [[115, 108, 111, 116, 115], [100, 114, 105, 118, 101], [116, 105, 109, 101], [112, 108, 97, 116, 116, 101, 114], [98, 97, 100], [102, 105, 108, 101], [99, 108, 111, 115, 101]]
def strK (g : GT) (U : State) (H : Heap) : Prop := vk_S 7 slen sbyt (gk g) (gv g) (gA g) U H ∧ (∀ n, n < 7 → vk_R RX5 (sidx n) (stxt n) (gk g n) U) ∧ va_Z "java/lang/String" "COMPACT_STRINGS" "Z" (.int 1) (gA g) U H ∧ va_Zq "jdk/internal/util/Preconditions" "SIOOBE_FORMATTER" "Ljava/util/function/BiFunction;" (gA g) U H ∧ va_AO RX0 U ∧ va_AO RX3 U ∧ va_AO RX6 U ∧ va_AO RX4 U ∧ ∀ n, n < 6 → va_Nw (.methodLinkNest (nst n).1 (nst n).2.1 (nst n).2.2 RX7) U
/-- what the tables and the old cells say of a state -/
def wK (g : GT) (s : State) : Prop := va_K (gD g) vwCl (tyl (gy g)) s ∧ strK g s s.heap
theorem x_get (hexec : p.tables.exec = Jvm.exec) (hb : c.code = cc) {own C : String} {T : u_T} {N index : Nat} {Ts : List Cond} (hts : ∀ w ∈ Ts, w.before args s = true) (hin : ∀ w ∈ u_ws C T N, w ∈ Ts) (hown : s.vm.findClass own = some m.cls) (hK : wK g s) (hW : World g w H) (hn : wdm g w i k j) (hc : vwCl[k]? = some (C, T, N)) (hk : k < 9 ∧ t < nf k ∧ nf k = N) (hlink : (Cond.fieldLink own index (T t).1 (T t).2.1 (T t).2.2.1).before args s = true) {v : Value} (hv : sval w i k j t = v) (hdg : decode cc pc = .ok (.getfield index, 3))
    (kk : W p l e R s m args below meth c H locs cells slots Q (F0 m (pc + 3) ls (v :: rest))) : W p l e R s m args below meth c H locs cells slots Q (F0 m pc ls (.ref (adr i k j) :: rest)) := by
  have hP := hW.one hn (cell_obj hk.1)
  exact va_get (D := gD g) (ci := k) (v := v) hexec hb hts hin hown hK.1 hP 0 rfl hc t (by rw [← hk.2.2]; exact hk.2.1) hlink (fun _ h => h) (by rw [sval_at w i k j hk.2.1, hv]) hdg kk
theorem x_recv (hK : wK g s) (hW : World g w H) (hn : wdm g w i k j) {q : vw_C} (hc : vwCl[k]? = some q) (hk : k < 9) : ∃ cell : Cell, H[adr i k j]? = some cell ∧ cell.vm.isStatics = false ∧ s.vm.findClass q.1 = some cell.cls :=
  va_recv hK.1 (hW.one hn (cell_obj hk)) (ci := k) (q0 := 0) hc rfl
/-- a field of a whole number gets another: the worlds before and behind are told by FPi -/
theorem x_putV (hexec : p.tables.exec = Jvm.exec) (hb : c.code = cc) {own C : String} {T : u_T} {N index : Nat} {Ts : List Cond} (hts : ∀ w ∈ Ts, w.before args s = true) (hin : ∀ w ∈ u_ws C T N, w ∈ Ts) (ty0 : Nat → FieldType) (hty : ∀ k, k < N → parseFieldDescriptor (T k).2.2.1 = some (ty0 k)) (hnm : ∀ a, a < N → ∀ b, b < N → a ≠ b → (T a).2.1 ≠ (T b).2.1) (hown : s.vm.findClass own = some m.cls) (hK : wK g s) (hW : World g w H) (hn : wdm g w i k j) (hS : va_S (gA g) H0 H locs) (hc : vwCl[k]? = some (C, T, N)) (hk : k < 9 ∧ t < nf k ∧ nf k = N) (hlink : (Cond.fieldLink own index (T t).1 (T t).2.1 (T t).2.2.1).before args s = true) (hfin : (T t).2.2.2 = false) {ty : FieldType} {v : Value} (hd : parseFieldDescriptor (T t).2.2.1 = some ty) (hnr : narrow ty v = v) (hfit : fits ty v = true) (hdg : decode cc pc = .ok (.putfield index, 3))
    (hF : WFit g w w' i k j (.inr (k, ((List.range (nf k)).map (sval w i k j)).set t v)))
    (kk : ∀ (H1 : Heap) (locs1 : List Loc), World g w' H1 → va_S (gA g) H0 H1 locs1 → W p l e R s m args below meth c H1 locs1 cells slots Q (F0 m (pc + 3) ls rest)) : W p l e R s m args below meth c H locs cells slots Q (F0 m pc ls (v :: .ref (adr i k j) :: rest)) := by
  have hap := va_apart (own := own) hts hin ty0 hty hnm hK.1 hc
  have htN : t < N := by rw [← hk.2.2]; exact hk.2.1
  have hcell := hW.cell hn
  rw [cell_obj hk.1] at hcell
  obtain ⟨r, h1, cell, q1, q2, q3, q4⟩ := hcell
  have hr : r = (C, T, N) := Option.some.inj (h1.symm.trans hc)
  subst hr
  obtain ⟨hSl, hfc, kC, hkC, hkind⟩ := hK.1.1 k _ hc
  obtain ⟨cf, kf, fi, f, hi, hsl⟩ := hSl t htN
  have hlay := hts _ (hin _ (u_in_lay htN))
  unfold u_lay at hlay
  rw [if_neg (by rw [hfin]; decide)] at hlay
  have hst := (u_facts hfc hkC (u_lays hts hin htN) hi).1
  have h6 := u_store hfc hkC hkind hlay hi hd hnr hfit
  refine W.putK hexec hb (f := f) ⟨hown, hlink, ⟨_, _, _, hi⟩, hst⟩ (by rw [q2]; exact h6) q1 q3 (by rw [hsl]; exact k2_hasslot (q4 t htN)) rfl rfl hdg fun H' e1 e2 e3 => ?_
  rw [hsl] at e1 ⊢
  refine kk H' _ (hW.set hn hF ⟨_, hc, t_OB.to (V := updV (vp_V ((List.range (nf k)).map (sval w i k j))) t v) ⟨_, e1, q2, q3, t_set q4 hap htN v⟩ (fun j' _ => vp_updV_set (by rw [sval_len]; exact hk.2.1) v j')⟩ e2 e3) (hS.put e2 e3 (hW.A hn))
theorem x_put (hexec : p.tables.exec = Jvm.exec) (hb : c.code = cc) {own C : String} {T : u_T} {N index : Nat} {Ts : List Cond} (hts : ∀ w ∈ Ts, w.before args s = true) (hin : ∀ w ∈ u_ws C T N, w ∈ Ts) (ty0 : Nat → FieldType) (hty : ∀ k, k < N → parseFieldDescriptor (T k).2.2.1 = some (ty0 k)) (hnm : ∀ a, a < N → ∀ b, b < N → a ≠ b → (T a).2.1 ≠ (T b).2.1) (hown : s.vm.findClass own = some m.cls) (hK : wK g s) (hW : World g w H) (hn : wdm g w i k j) (hS : va_S (gA g) H0 H locs) (hc : vwCl[k]? = some (C, T, N)) (hk : k < 9 ∧ t < nf k ∧ nf k = N) (hlink : (Cond.fieldLink own index (T t).1 (T t).2.1 (T t).2.2.1).before args s = true) (hfin : (T t).2.2.2 = false) {ty : FieldType} {v : Int32} (hd : parseFieldDescriptor (T t).2.2.1 = some ty) (hnr : narrow ty (.int v) = .int v) (hfit : fits ty (.int v) = true) (hzr : zt w k t = none ∧ rt k j t = none) (hdg : decode cc pc = .ok (.putfield index, 3))
    (hF : FPi g w w' i k j t v)
    (kk : ∀ (H1 : Heap) (locs1 : List Loc), World g w' H1 → va_S (gA g) H0 H1 locs1 → W p l e R s m args below meth c H1 locs1 cells slots Q (F0 m (pc + 3) ls rest)) : W p l e R s m args below meth c H locs cells slots Q (F0 m pc ls (.int v :: .ref (adr i k j) :: rest)) :=
  x_putV hexec hb hts hin ty0 hty hnm hown hK hW hn hS hc hk hlink hfin hd hnr hfit hdg (hF.fit hW (hF.obj hk.1 hzr.1 hzr.2)) kk
theorem x_iald (hexec : p.tables.exec = Jvm.exec) (hb : c.code = cc) (hK : wK g s) (hW : World g w H) (hn : wdm g w i k j) (hk : ¬ k < 9) {f : Nat → Int32} (hc : conts w i k j = .inl f) (ht : aty k = 1) {q : Int32} (hq : vp_in q (aln k)) (hdg : decode cc pc = .ok (.iaload, 1))
    (kk : W p l e R s m args below meth c H locs cells slots Q (F0 m (pc + 1) ls (.int (f q.toNatClampNeg) :: rest))) : W p l e R s m args below meth c H locs cells slots Q (F0 m pc ls (.int q :: .ref (adr i k j) :: rest)) := by
  have hP := hW.one hn (cell_arr hk)
  rw [hc, ht] at hP
  exact va_iald hexec hb hK.1 hP 0 1 rfl rfl hq hdg kk
theorem x_bald (hexec : p.tables.exec = Jvm.exec) (hb : c.code = cc) (hK : wK g s) (hW : World g w H) (hn : wdm g w i k j) (hk : ¬ k < 9) {f : Nat → Int32} (hc : conts w i k j = .inl f) (ht : aty k = 0) {q : Int32} (hq : vp_in q (aln k)) (hdg : decode cc pc = .ok (.baload, 1))
    (kk : W p l e R s m args below meth c H locs cells slots Q (F0 m (pc + 1) ls (.int (f q.toNatClampNeg) :: rest))) : W p l e R s m args below meth c H locs cells slots Q (F0 m pc ls (.int q :: .ref (adr i k j) :: rest)) := by
  have hP := hW.one hn (cell_arr hk)
  rw [hc, ht] at hP
  exact va_bald hexec hb hK.1 hP 0 0 rfl rfl hq hdg kk
theorem x_lald (hexec : p.tables.exec = Jvm.exec) (hb : c.code = cc) (hK : wK g s) (hW : World g w H) (hn : wdm g w i k j) (hk : ¬ k < 9) {f : Nat → Int64} (hc : conts w i k j = .inr (.inl f)) (ht : aty k = 2) {q : Int32} (hq : vp_in q (aln k)) (hdg : decode cc pc = .ok (.laload, 1))
    (kk : W p l e R s m args below meth c H locs cells slots Q (F0 m (pc + 1) ls (.long (f q.toNatClampNeg) :: rest))) : W p l e R s m args below meth c H locs cells slots Q (F0 m pc ls (.int q :: .ref (adr i k j) :: rest)) := by
  have hP := hW.one hn (cell_arr hk)
  rw [hc, ht] at hP
  exact va_lald hexec hb hK.1 hP 0 2 rfl rfl hq hdg kk
theorem x_aald (hexec : p.tables.exec = Jvm.exec) (hb : c.code = cc) (hK : wK g s) (hW : World g w H) (hn : wdm g w i k j) (hk : ¬ k < 9) {f : Nat → Option Nat} (hc : conts w i k j = .inr (.inr (.inr (.inr f)))) {C : String} (ht : (tyl (gy g))[aty k]? = some (gy g (aty k), .object C)) {q : Int32} (hq : vp_in q (aln k)) (hdg : decode cc pc = .ok (.aaload, 1))
    (kk : W p l e R s m args below meth c H locs cells slots Q (F0 m (pc + 1) ls (va_rf (f q.toNatClampNeg) :: rest))) : W p l e R s m args below meth c H locs cells slots Q (F0 m pc ls (.int q :: .ref (adr i k j) :: rest)) := by
  have hP := hW.one hn (cell_arr hk)
  rw [hc] at hP
  exact va_aldq hexec hb hK.1 hP 0 (aty k) rfl ht hq hdg kk
theorem x_alen (hexec : p.tables.exec = Jvm.exec) (hb : c.code = cc) (hK : wK g s) (hW : World g w H) (hn : wdm g w i k j) (hk : ¬ k < 9) {ty : FieldType} (ht : (tyl (gy g))[aty k]? = some (gy g (aty k), ty)) {v : Int32} (hv : Int32.ofNat (aln k) = v) (hdg : decode cc pc = .ok (.arraylength, 1))
    (kk : W p l e R s m args below meth c H locs cells slots Q (F0 m (pc + 1) ls (.int v :: rest))) : W p l e R s m args below meth c H locs cells slots Q (F0 m pc ls (.ref (adr i k j) :: rest)) := by
  have hP := hW.one hn (cell_arr hk)
  exact va_alen hexec hb hK.1 hP 0 (aty k) rfl ht hv hdg kk
theorem x_iast (hexec : p.tables.exec = Jvm.exec) (hb : c.code = cc) (hK : wK g s) (hW : World g w H) (hn : wdm g w i k j) (hS : va_S (gA g) H0 H locs) (hk : ¬ k < 9) (hc : conts w i k j = .inl (wints w i k j)) (hc' : conts w' i k j = .inl (wints w' i k j)) (ht : aty k = 1) {q x : Int32} (hq : vp_in q (aln k)) (hdg : decode cc pc = .ok (.iastore, 1)) (hF : FPi g w w' i k j q.toNatClampNeg x)
    (kk : ∀ (H1 : Heap) (locs1 : List Loc), World g w' H1 → va_S (gA g) H0 H1 locs1 → W p l e R s m args below meth c H1 locs1 cells slots Q (F0 m (pc + 1) ls rest)) : W p l e R s m args below meth c H locs cells slots Q (F0 m pc ls (.int x :: .int q :: .ref (adr i k j) :: rest)) := by
  have hcell := hW.cell hn
  rw [cell_arr hk, hc] at hcell
  have hcell : H[adr i k j]? = some (vp_cell (gy g (aty k)) (aln k, .inl (wints w i k j))) := hcell
  have hty : (tyl (gy g))[1]? = some (gy g (aty k), .int) := by rw [ht]; rfl
  refine W.iast hexec hb hcell ((hK.1.2 1 _ hty).1 _ (fun j' => .int (wints w i k j j'))) (fun q => by cases q) (by show ¬ (q < 0 ∨ (arrV _ _ _).slots.size ≤ _); rw [arrV_size]; exact hq) rfl rfl hdg fun H1 e1 z oq => ?_
  refine kk H1 _ (hW.set hn (hF.fit hW (hF.arr hk hc hc')) ?_ z oq) (hS.put z oq (hW.A hn))
  show H1[adr i k j]? = some (vp_cell _ _)
  rw [e1, vp_cell_i, vp_cell_i, arrV_store]
  congr 2
  funext q'
  by_cases hq' : q' = q.toNatClampNeg
  · subst hq'
    simp [updV, upd]
  · simp [updV, upd, hq']
theorem x_bast (hexec : p.tables.exec = Jvm.exec) (hb : c.code = cc) (hK : wK g s) (hW : World g w H) (hn : wdm g w i k j) (hS : va_S (gA g) H0 H locs) (hk : ¬ k < 9) (hc : conts w i k j = .inl (wints w i k j)) (hc' : conts w' i k j = .inl (wints w' i k j)) (ht : aty k = 0) {q x : Int32} (hq : vp_in q (aln k)) (hdg : decode cc pc = .ok (.bastore, 1)) (hF : FPi g w w' i k j q.toNatClampNeg x.toInt8.toInt32)
    (kk : ∀ (H1 : Heap) (locs1 : List Loc), World g w' H1 → va_S (gA g) H0 H1 locs1 → W p l e R s m args below meth c H1 locs1 cells slots Q (F0 m (pc + 1) ls rest)) : W p l e R s m args below meth c H locs cells slots Q (F0 m pc ls (.int x :: .int q :: .ref (adr i k j) :: rest)) := by
  have hcell := hW.cell hn
  rw [cell_arr hk, hc] at hcell
  have hcell : H[adr i k j]? = some (vp_cell (gy g (aty k)) (aln k, .inl (wints w i k j))) := hcell
  have hty : (tyl (gy g))[0]? = some (gy g (aty k), .byte) := by rw [ht]; rfl
  refine W.bast hexec hb hcell ((hK.1.2 0 _ hty).1 _ (fun j' => .int (wints w i k j j'))) (fun q => by cases q) (by show ¬ (q < 0 ∨ (arrV _ _ _).slots.size ≤ _); rw [arrV_size]; exact hq) rfl rfl hdg fun H1 e1 z oq => ?_
  refine kk H1 _ (hW.set hn (hF.fit hW (hF.arr hk hc hc')) ?_ z oq) (hS.put z oq (hW.A hn))
  show H1[adr i k j]? = some (vp_cell _ _)
  rw [e1, vp_cell_i, vp_cell_i, arrV_store]
  congr 2
  funext q'
  by_cases hq' : q' = q.toNatClampNeg
  · subst hq'
    simp [updV, upd]
    rfl
  · simp [updV, upd, hq']
theorem x_last (hexec : p.tables.exec = Jvm.exec) (hb : c.code = cc) (hK : wK g s) (hW : World g w H) (hn : wdm g w i k j) (hS : va_S (gA g) H0 H locs) (hk : ¬ k < 9) {f : Nat → Int64} (hc : conts w i k j = .inr (.inl f)) (ht : aty k = 2) {q : Int32} {x : Int64} (hq : vp_in q (aln k)) (hdg : decode cc pc = .ok (.lastore, 1)) (hF : WFit g w w' i k j (.inl (gy g (aty k), aln k, .inr (.inl (vp_updL f q.toNatClampNeg x)))))
    (kk : ∀ (H1 : Heap) (locs1 : List Loc), World g w' H1 → va_S (gA g) H0 H1 locs1 → W p l e R s m args below meth c H1 locs1 cells slots Q (F0 m (pc + 1) ls rest)) : W p l e R s m args below meth c H locs cells slots Q (F0 m pc ls (.long x :: .int q :: .ref (adr i k j) :: rest)) := by
  have hcell := hW.cell hn
  rw [cell_arr hk, hc] at hcell
  have hcell : H[adr i k j]? = some (vp_cell (gy g (aty k)) (aln k, .inr (.inl f))) := hcell
  have hty : (tyl (gy g))[2]? = some (gy g (aty k), .long) := by rw [ht]; rfl
  refine W.last hexec hb hcell ((hK.1.2 2 _ hty).1 _ (fun j' => .long (f j'))) (fun q => by cases q) (by show ¬ (q < 0 ∨ (arrV _ _ _).slots.size ≤ _); rw [arrV_size]; exact hq) rfl rfl hdg fun H1 e1 z oq => ?_
  refine kk H1 _ (hW.set hn hF ?_ z oq) (hS.put z oq (hW.A hn))
  show H1[adr i k j]? = some (vp_cell _ _)
  rw [e1, vp_cell_l, vp_cell_l, arrV_store]
  congr 2
  funext q'
  by_cases hq' : q' = q.toNatClampNeg
  · subst hq'
    simp [updV, vp_updL]
  · simp [updV, vp_updL, hq']
end XROWS
