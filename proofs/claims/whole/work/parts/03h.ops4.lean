/-! steps: arrays -/
section AMO4
variable {S : State} {A0 : Array Value} {ad : Nat → Nat} {fv : Value} {dC : Nat → ClassId} {dI : Nat → Nat → Nat} {p : Program} {l : Launch} {e : Env} {R : Room} {s : State} {m : MethodId} {args : Array Value} {below : List Frame} {meth : Method} {c : Code} {k : Nat} {h0 : am_H} {Q : State → Prop}
variable {pc : Nat} {ls st : List Value} {h : am_H}
/-- an array of shape a at o -/
theorem am_arr (F : am_Fr S k p s m meth c) {H : Heap} (hr : am_HR S ad fv dC dI h H) {o a : Nat} (hs : (h.2.1 o).1 = a) (ha : 100 ≤ a) : o ≠ am_fm ∧ ∃ cell, H[ad o]? = some cell ∧ am_cf S ad fv dC dI h o cell ∧ s.isArrayOf cell (am_AT a) ∧ cell.vm ≠ .unknown ∧ cell.slots.size = (h.2.1 o).2 ∧ ∀ j, j < (h.2.1 o).2 → cell.slots[j]? = some (am_val ad fv (am_rd h (am_AK a) o j)) := by
  obtain ⟨-, ho⟩ := am_HR_in hr hs (by omega) (by omega)
  obtain ⟨cell, q1, q2⟩ := am_HR_at hr hs (by omega) (by omega)
  obtain ⟨⟨z1, -⟩, z2, z3⟩ := q2.2.2 (by rw [hs]; exact ha)
  rw [hs] at z1 z3
  exact ⟨ho, cell, q1, q2, State.isArrayOf_alike F.2.2.2.2.2.1.alike z1, q2.1.1, z2, z3⟩
theorem am_vpc {i : Int32} {n : Nat} (h : vp_in i n) : i.toNatClampNeg < n := Nat.not_le.mp fun q => h (Or.inr q)
theorem so_iald (F : am_Fr S k p s m meth c) {o : Nat} {i : Int32} (hs : (h.2.1 o).1 = 100) (hi : vp_in i (h.2.1 o).2) (hd : decode (am_B k) pc = .ok (.iaload, 1))
    (K : am_WG S ad fv dC dI k p l e R s m args below meth c h0 Q (pc + 1) ls (am_rd h 0 o i.toNatClampNeg :: st) h) : am_WG S ad fv dC dI k p l e R s m args below meth c h0 Q pc ls (.int i :: .ref o :: st) h := by
  intro H locs lr hr hl hf
  obtain ⟨ho, cell, q1, -, q3, q4, q5, q6⟩ := am_arr F hr hs (by decide)
  rw [List.map_cons, List.map_cons, am_val_ref ho]
  exact W.iald F.1 F.2.1 q1 q3 q4 (by rw [q5]; exact hi) (q6 _ (am_vpc hi)) rfl rfl hd (K H locs lr hr hl hf)
theorem so_bald (F : am_Fr S k p s m meth c) {o : Nat} {i : Int32} (hs : (h.2.1 o).1 = 101) (hi : vp_in i (h.2.1 o).2) (hd : decode (am_B k) pc = .ok (.baload, 1))
    (K : am_WG S ad fv dC dI k p l e R s m args below meth c h0 Q (pc + 1) ls (am_rd h 0 o i.toNatClampNeg :: st) h) : am_WG S ad fv dC dI k p l e R s m args below meth c h0 Q pc ls (.int i :: .ref o :: st) h := by
  intro H locs lr hr hl hf
  obtain ⟨ho, cell, q1, -, q3, q4, q5, q6⟩ := am_arr F hr hs (by decide)
  rw [List.map_cons, List.map_cons, am_val_ref ho]
  exact W.bald F.1 F.2.1 q1 q3 q4 (by rw [q5]; exact hi) (q6 _ (am_vpc hi)) rfl rfl hd (K H locs lr hr hl hf)
theorem so_zald (F : am_Fr S k p s m meth c) {o : Nat} {i : Int32} (hs : (h.2.1 o).1 = 102) (hi : vp_in i (h.2.1 o).2) (hd : decode (am_B k) pc = .ok (.baload, 1))
    (K : am_WG S ad fv dC dI k p l e R s m args below meth c h0 Q (pc + 1) ls (am_rd h 0 o i.toNatClampNeg :: st) h) : am_WG S ad fv dC dI k p l e R s m args below meth c h0 Q pc ls (.int i :: .ref o :: st) h := by
  intro H locs lr hr hl hf
  obtain ⟨ho, cell, q1, -, q3, q4, q5, q6⟩ := am_arr F hr hs (by decide)
  rw [List.map_cons, List.map_cons, am_val_ref ho]
  exact W.zald F.1 F.2.1 q1 q3 q4 (by rw [q5]; exact hi) (q6 _ (am_vpc hi)) rfl rfl hd (K H locs lr hr hl hf)
theorem so_lald (F : am_Fr S k p s m meth c) {o : Nat} {i : Int32} (hs : (h.2.1 o).1 = 103) (hi : vp_in i (h.2.1 o).2) (hd : decode (am_B k) pc = .ok (.laload, 1))
    (K : am_WG S ad fv dC dI k p l e R s m args below meth c h0 Q (pc + 1) ls (am_rd h 2 o i.toNatClampNeg :: st) h) : am_WG S ad fv dC dI k p l e R s m args below meth c h0 Q pc ls (.int i :: .ref o :: st) h := by
  intro H locs lr hr hl hf
  obtain ⟨ho, cell, q1, -, q3, q4, q5, q6⟩ := am_arr F hr hs (by decide)
  rw [List.map_cons, List.map_cons, am_val_ref ho]
  exact W.lald F.1 F.2.1 q1 q3 q4 (by rw [q5]; exact hi) (q6 _ (am_vpc hi)) rfl rfl hd (K H locs lr hr hl hf)
theorem so_aald (F : am_Fr S k p s m meth c) {o a : Nat} {i : Int32} (ha : a = 104 ∨ a = 105) (hs : (h.2.1 o).1 = a) (hi : vp_in i (h.2.1 o).2) (hd : decode (am_B k) pc = .ok (.aaload, 1))
    (K : am_WG S ad fv dC dI k p l e R s m args below meth c h0 Q (pc + 1) ls (am_rd h 1 o i.toNatClampNeg :: st) h) : am_WG S ad fv dC dI k p l e R s m args below meth c h0 Q pc ls (.int i :: .ref o :: st) h := by
  intro H locs lr hr hl hf
  obtain ⟨ho, cell, q1, -, q3, q4, q5, q6⟩ := am_arr F hr hs (by omega)
  rw [List.map_cons, List.map_cons, am_val_ref ho]
  refine W.aald (ty := am_AT a) F.1 F.2.1 q1 q3 (by rcases ha with rfl | rfl <;> rfl) q4 (by rw [q5]; exact hi) (v := am_val ad fv (am_rd h 1 o i.toNatClampNeg)) ?_ rfl rfl hd (K H locs lr hr hl hf)
  have := q6 _ (am_vpc hi)
  rcases ha with rfl | rfl <;> exact this
theorem so_alen (F : am_Fr S k p s m meth c) {o : Nat} (hs : 100 ≤ (h.2.1 o).1) (hd : decode (am_B k) pc = .ok (.arraylength, 1))
    (K : am_WG S ad fv dC dI k p l e R s m args below meth c h0 Q (pc + 1) ls (.int (Int32.ofNat (h.2.1 o).2) :: st) h) : am_WG S ad fv dC dI k p l e R s m args below meth c h0 Q pc ls (.ref o :: st) h := by
  intro H locs lr hr hl hf
  obtain ⟨ho, cell, q1, -, q3, q4, q5, q6⟩ := am_arr F hr rfl hs
  rw [List.map_cons, am_val_ref ho]
  exact W.alen F.1 F.2.1 q1 q3 (by rw [q5]) rfl rfl hd (K H locs lr hr hl hf)
/-- behind a store: the array's other places stay -/
theorem am_cf_ast {h h' : am_H} {o a j : Nat} {cell : Cell} {v : Value} (hc : am_cf S ad fv dC dI h o cell) (hs : (h.2.1 o).1 = a) (ha : 100 ≤ a) (hj : j < (h.2.1 o).2) (e2 : h'.2.1 = h.2.1) (hv : am_val ad fv (am_rd h' (am_AK a) o j) = v) (hn : ∀ i, i ≠ j → am_rd h' (am_AK a) o i = am_rd h (am_AK a) o i) : am_cf S ad fv dC dI h' o (cell.setSlot j v) := by
  obtain ⟨q1, -, q3⟩ := hc
  refine ⟨q1, fun z => ?_, fun z => ?_⟩
  · rw [e2, hs] at z
    omega
  · rw [e2] at z ⊢
    obtain ⟨⟨z1, z1'⟩, z2, z3⟩ := q3 z
    refine ⟨⟨⟨z1.1, z1.2⟩, z1'⟩, by rw [k2_slotsz]; exact z2, fun i hi => ?_⟩
    rw [hs] at z3 ⊢
    by_cases hij : i = j
    · subst hij
      rw [hv]
      exact Cell.slots_setSlot_self v (by rw [z2]; exact hi)
    · rw [slot_ne _ _ (Ne.symm hij), hn i hij]
      exact z3 i hi
/-- the end of a store -/
theorem am_ast_end (hw : am_Wd S A0 ad fv dC dI) {h' : am_H} {o a j pc' : Nat} {H : Heap} {locs : List Loc} {lr : Array Slot} {cell : Cell} {v : Value} (hr : am_HR S ad fv dC dI h H) (hl : am_LR ad fv (am_ml k) ls lr) (hf : ∀ q ∈ locs, S.heap.size ≤ q.base) (ho : 75 ≤ o) (q2 : am_cf S ad fv dC dI h o cell) (hs : (h.2.1 o).1 = a) (ha : 100 ≤ a) (hj : j < (h.2.1 o).2)
    (e1 : h'.1 = h.1) (e2 : h'.2.1 = h.2.1) (e3 : ∀ i, i ≠ o → ∀ k j, am_rd h' k i j = am_rd h k i j) (e4 : am_val ad fv (am_rd h' (am_AK a) o j) = v) (e5 : ∀ i, i ≠ j → am_rd h' (am_AK a) o i = am_rd h (am_AK a) o i)
    (K : am_WG S ad fv dC dI k p l e R s m args below meth c h0 Q pc' ls st h') : ∀ H' : Heap, H'[ad o]? = some (cell.setSlot j v) → H'.size = H.size → (∀ q, q ≠ ad o → H'[q]? = H[q]?) → W p l e R s m args below meth c H' (locs ++ [⟨ad o, j⟩]) (am_c h - am_c h0) (h.1.2.2 - h0.1.2.2) Q (F0 m pc' lr (st.map (am_val ad fv))) := by
  intro H' z1 z2 z3
  have hc : am_c h' = am_c h := by unfold am_c; rw [e1]
  have hao : S.heap.size ≤ ad o := by rw [hw.2.1 o ho]; omega
  have := K H' (locs ++ [⟨ad o, j⟩]) lr (am_HR_upd hw hr ho e1 e2 e3 z1 (am_cf_ast q2 hs ha hj e2 e4 e5) z2 z3) hl (fun q hq => by
    rcases List.mem_append.mp hq with z | z
    · exact hf q z
    · rw [List.mem_singleton.mp z]
      exact hao)
  rw [hc, e1] at this
  exact this
theorem am_rd_wI {h : am_H} {o : Nat} {f : Nat → Int32} (i d j : Nat) (hi : i ≠ o) : am_rd (am_wI h o f) d i j = am_rd h d i j := by
  unfold am_rd am_wI am_up
  simp only [if_neg hi]
theorem am_rd_wI0 {h : am_H} {o : Nat} {f : Nat → Int32} (j : Nat) : am_rd (am_wI h o f) 0 o j = .int (f j) := by
  unfold am_rd am_wI am_up
  simp only [if_true]
theorem am_rd_wL {h : am_H} {o : Nat} {f : Nat → Int64} (i d j : Nat) (hi : i ≠ o) : am_rd (am_wL h o f) d i j = am_rd h d i j := by
  unfold am_rd am_wL am_up
  simp only [if_neg hi]
theorem am_rd_wL2 {h : am_H} {o : Nat} {f : Nat → Int64} (j : Nat) : am_rd (am_wL h o f) 2 o j = .long (f j) := by
  unfold am_rd am_wL am_up
  simp only [if_true]
theorem am_rd_wR {h : am_H} {o : Nat} {f : Nat → Option Nat} (i d j : Nat) (hi : i ≠ o) : am_rd (am_wR h o f) d i j = am_rd h d i j := by
  unfold am_rd am_wR am_up
  simp only [if_neg hi]
theorem am_rd_wR1 {h : am_H} {o : Nat} {f : Nat → Option Nat} (j : Nat) : am_rd (am_wR h o f) 1 o j = am_rv (f j) := by
  unfold am_rd am_wR am_up
  simp only [if_true]
theorem so_iast (hw : am_Wd S A0 ad fv dC dI) (F : am_Fr S k p s m meth c) {o : Nat} {i x : Int32} (ho : 75 ≤ o) (hs : (h.2.1 o).1 = 100) (hi : vp_in i (h.2.1 o).2) (hd : decode (am_B k) pc = .ok (.iastore, 1))
    (K : am_WG S ad fv dC dI k p l e R s m args below meth c h0 Q (pc + 1) ls st (am_wI h o (upd (h.2.2.1 o) i.toNatClampNeg x))) : am_WG S ad fv dC dI k p l e R s m args below meth c h0 Q pc ls (.int x :: .int i :: .ref o :: st) h := by
  intro H locs lr hr hl hf
  obtain ⟨hof, cell, q1, q2, q3, q4, q5, q6⟩ := am_arr F hr hs (by decide)
  rw [List.map_cons, List.map_cons, List.map_cons, am_val_ref hof]
  refine W.iast F.1 F.2.1 q1 q3 q4 (by rw [q5]; exact hi) rfl rfl hd (am_ast_end (h' := am_wI h o (upd (h.2.2.1 o) i.toNatClampNeg x)) hw hr hl hf ho q2 hs (by decide) (am_vpc hi) rfl rfl (fun i hi d j => am_rd_wI i d j hi) ?_ ?_ K)
  · show am_val ad fv (am_rd _ 0 o _) = _
    rw [am_rd_wI0, pk_us]
    rfl
  · intro j hj
    show am_rd _ 0 o _ = am_rd _ 0 o _
    rw [am_rd_wI0, pk_un hj]
    rfl
theorem so_bast (hw : am_Wd S A0 ad fv dC dI) (F : am_Fr S k p s m meth c) {o : Nat} {i x : Int32} (ho : 75 ≤ o) (hs : (h.2.1 o).1 = 101) (hi : vp_in i (h.2.1 o).2) (hd : decode (am_B k) pc = .ok (.bastore, 1))
    (K : am_WG S ad fv dC dI k p l e R s m args below meth c h0 Q (pc + 1) ls st (am_wI h o (upd (h.2.2.1 o) i.toNatClampNeg (vp_nar .byte x)))) : am_WG S ad fv dC dI k p l e R s m args below meth c h0 Q pc ls (.int x :: .int i :: .ref o :: st) h := by
  intro H locs lr hr hl hf
  obtain ⟨hof, cell, q1, q2, q3, q4, q5, q6⟩ := am_arr F hr hs (by decide)
  rw [List.map_cons, List.map_cons, List.map_cons, am_val_ref hof]
  refine W.bast F.1 F.2.1 q1 q3 q4 (by rw [q5]; exact hi) rfl rfl hd (am_ast_end (h' := am_wI h o (upd (h.2.2.1 o) i.toNatClampNeg (vp_nar .byte x))) hw hr hl hf ho q2 hs (by decide) (am_vpc hi) rfl rfl (fun i hi d j => am_rd_wI i d j hi) ?_ ?_ K)
  · show am_val ad fv (am_rd _ 0 o _) = _
    rw [am_rd_wI0, pk_us]
    rfl
  · intro j hj
    show am_rd _ 0 o _ = am_rd _ 0 o _
    rw [am_rd_wI0, pk_un hj]
    rfl
theorem so_zast (hw : am_Wd S A0 ad fv dC dI) (F : am_Fr S k p s m meth c) {o : Nat} {i x : Int32} (ho : 75 ≤ o) (hs : (h.2.1 o).1 = 102) (hi : vp_in i (h.2.1 o).2) (hd : decode (am_B k) pc = .ok (.bastore, 1))
    (K : am_WG S ad fv dC dI k p l e R s m args below meth c h0 Q (pc + 1) ls st (am_wI h o (upd (h.2.2.1 o) i.toNatClampNeg (vp_nar .boolean x)))) : am_WG S ad fv dC dI k p l e R s m args below meth c h0 Q pc ls (.int x :: .int i :: .ref o :: st) h := by
  intro H locs lr hr hl hf
  obtain ⟨hof, cell, q1, q2, q3, q4, q5, q6⟩ := am_arr F hr hs (by decide)
  rw [List.map_cons, List.map_cons, List.map_cons, am_val_ref hof]
  refine W.zast F.1 F.2.1 q1 q3 q4 (by rw [q5]; exact hi) rfl rfl hd (am_ast_end (h' := am_wI h o (upd (h.2.2.1 o) i.toNatClampNeg (vp_nar .boolean x))) hw hr hl hf ho q2 hs (by decide) (am_vpc hi) rfl rfl (fun i hi d j => am_rd_wI i d j hi) ?_ ?_ K)
  · show am_val ad fv (am_rd _ 0 o _) = _
    rw [am_rd_wI0, pk_us]
    rfl
  · intro j hj
    show am_rd _ 0 o _ = am_rd _ 0 o _
    rw [am_rd_wI0, pk_un hj]
    rfl
theorem so_last (hw : am_Wd S A0 ad fv dC dI) (F : am_Fr S k p s m meth c) {o : Nat} {i : Int32} {x : Int64} (ho : 75 ≤ o) (hs : (h.2.1 o).1 = 103) (hi : vp_in i (h.2.1 o).2) (hd : decode (am_B k) pc = .ok (.lastore, 1))
    (K : am_WG S ad fv dC dI k p l e R s m args below meth c h0 Q (pc + 1) ls st (am_wL h o (vp_updL (h.2.2.2.1 o) i.toNatClampNeg x))) : am_WG S ad fv dC dI k p l e R s m args below meth c h0 Q pc ls (.long x :: .int i :: .ref o :: st) h := by
  intro H locs lr hr hl hf
  obtain ⟨hof, cell, q1, q2, q3, q4, q5, q6⟩ := am_arr F hr hs (by decide)
  rw [List.map_cons, List.map_cons, List.map_cons, am_val_ref hof]
  refine W.last F.1 F.2.1 q1 q3 q4 (by rw [q5]; exact hi) rfl rfl hd (am_ast_end (h' := am_wL h o (vp_updL (h.2.2.2.1 o) i.toNatClampNeg x)) hw hr hl hf ho q2 hs (by decide) (am_vpc hi) rfl rfl (fun i hi d j => am_rd_wL i d j hi) ?_ ?_ K)
  · show am_val ad fv (am_rd _ 2 o _) = _
    rw [am_rd_wL2, pk_uLs]
    rfl
  · intro j hj
    show am_rd _ 2 o _ = am_rd _ 2 o _
    rw [am_rd_wL2, pk_uLn hj]
    rfl
theorem so_aast (hw : am_Wd S A0 ad fv dC dI) (F : am_Fr S k p s m meth c) {o q : Nat} {i : Int32} (ho : 75 ≤ o) (hs : (h.2.1 o).1 = 104) (hq : (h.2.1 q).1 = 12) (hi : vp_in i (h.2.1 o).2) (hd : decode (am_B k) pc = .ok (.aastore, 1))
    (K : am_WG S ad fv dC dI k p l e R s m args below meth c h0 Q (pc + 1) ls st (am_wR h o (fun j => if j = i.toNatClampNeg then some q else h.2.2.2.2 o j))) : am_WG S ad fv dC dI k p l e R s m args below meth c h0 Q pc ls (.ref q :: .int i :: .ref o :: st) h := by
  intro H locs lr hr hl hf
  obtain ⟨hof, cell, q1, q2, q3, q4, q5, q6⟩ := am_arr F hr hs (by decide)
  obtain ⟨-, hqf⟩ := am_HR_in hr hq (by decide) (by decide)
  obtain ⟨cv, v1, v2⟩ := am_HR_at hr hq (by decide) (by decide)
  have hcv : cv.cls = dC 12 := by
    have := (v2.2.1 (by rw [hq]; decide)).1
    rw [hq] at this
    exact this
  have hRA : va_RA S cell.cls (.object "java/lang/String") := by
    have := ((q2.2.2 (by rw [hs]; decide)).1.2 ho).2.2
    rw [hs] at this
    exact this
  obtain ⟨kA, comp, r1, r2, r3, -⟩ := hRA.moved F.2.2.2.2.2.1.alike
  obtain ⟨w1, kC, w2, -⟩ := am_CA_mv F.2.2.2.2.2.1.alike (hw.2.2.2.2.1 12 (by decide))
  have w1' : s.vm.findClass "java/lang/String" = some (dC 12) := w1
  cases Option.some.inj (w1'.symm.trans r3)
  rw [List.map_cons, List.map_cons, List.map_cons, am_val_ref hof, am_val_ref hqf]
  refine W.aast F.1 F.2.1 q1 q3.1 q4 r1 r2 rfl w2 ⟨fun z => hi (Or.inl z), by rw [q5]; exact am_vpc hi⟩ v1 (fun z w => by have := v2.1.2.1; rw [w] at this; cases this) (by rw [hcv]; exact w2) (by rw [hcv]; exact va_asg _ _) rfl rfl hd (am_ast_end (h' := am_wR h o (fun j => if j = i.toNatClampNeg then some q else h.2.2.2.2 o j)) hw hr hl hf ho q2 hs (by decide) (am_vpc hi) rfl rfl (fun i hi d j => am_rd_wR i d j hi) ?_ ?_ K)
  · show am_val ad fv (am_rd _ 1 o _) = _
    rw [am_rd_wR1, if_pos rfl]
    exact am_val_ref hqf
  · intro j hj
    show am_rd _ 1 o _ = am_rd _ 1 o _
    rw [am_rd_wR1, if_neg hj]
    rfl
end AMO4
