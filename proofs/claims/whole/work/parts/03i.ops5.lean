/-! steps: new cells, copies of arrays, ends -/
section AMO5
variable {S : State} {A0 : Array Value} {ad : Nat → Nat} {fv : Value} {dC : Nat → ClassId} {dI : Nat → Nat → Nat} {p : Program} {l : Launch} {e : Env} {R : Room} {s : State} {m : MethodId} {args : Array Value} {below : List Frame} {meth : Method} {c : Code} {k : Nat} {h0 : am_H} {Q : State → Prop}
variable {pc : Nat} {ls st : List Value} {h : am_H}
theorem am_new_at {h : am_H} {q : Nat × Nat} {w : Nat} : (am_new h q w).2.1 h.1.1 = q := by
  unfold am_new am_up
  simp only [if_true]
theorem am_new_rd {h : am_H} {q : Nat × Nat} {w d j : Nat} : am_rd (am_new h q w) d h.1.1 j = (match d with | 0 => .int 0 | 1 => .null | _ => .long 0) := by
  unfold am_rd am_new am_up
  simp only [if_true]
  rfl
theorem am_c_new {h h0 : am_H} {q : Nat × Nat} {w : Nat} (hc : am_c h0 ≤ am_c h) : am_c (am_new h q w) - am_c h0 = am_c h - am_c h0 + 1 := by
  have : am_c (am_new h q w) = am_c h + 1 := by
    show h.1.1 + 1 + h.1.2.1 = h.1.1 + h.1.2.1 + 1
    omega
  omega
theorem am_s_new {h h0 : am_H} {q : Nat × Nat} {w : Nat} (hc : h0.1.2.2 ≤ h.1.2.2) : (am_new h q w).1.2.2 - h0.1.2.2 = h.1.2.2 - h0.1.2.2 + w := by
  have : (am_new h q w).1.2.2 = h.1.2.2 + w := rfl
  omega
theorem so_new (hw : am_Wd S A0 ad fv dC dI) (F : am_Fr S k p s m meth c) {i a : Nat} (ha : a < 12) (h9 : a ≠ 9) (hd : decode (am_B k) pc = .ok (.new i, 3)) (hm1 : Cond.classLink (am_Y k).cls i (am_CN a) ∈ lw_tbl) (hm2 : Cond.instantiable (am_CN a) (am_NN a) ∈ lw_tbl) (hm3 : Cond.initialized (am_CN a) ∈ lw_tbl)
    (hg : h.1.2.1 = 0) (hc : am_c h0 ≤ am_c h) (hz : h0.1.2.2 ≤ h.1.2.2) (hrc : am_c h - am_c h0 + 1 ≤ R.cells) (hrs : h.1.2.2 - h0.1.2.2 + am_NN a ≤ R.slots)
    (K : am_WG S ad fv dC dI k p l e R s m args below meth c h0 Q (pc + 3) ls (.ref h.1.1 :: st) (am_new h (a, 0) (am_NN a))) : am_WG S ad fv dC dI k p l e R s m args below meth c h0 Q pc ls st h := by
  intro H locs lr hr hl hf
  obtain ⟨hfc, kC, hkC, hkind⟩ := classAt_moved F.2.2.2.2.2.1.alike (am_CA_at (hw.2.2.2.2.1 a (by omega)) ha)
  refine W.newcK F.1 F.2.1 F.2.2.2.2.1 (am_word hw F hm1 rfl) (am_word hw F hm2 rfl) (am_word hw F hm3 rfl) rfl hd hrc hrs hfc rfl fun H' kC' hkC' z1 z2 z3 => ?_
  cases Option.some.inj (hkC.symm.trans hkC')
  have hcf : am_cf S ad fv dC dI (am_new h (a, 0) (am_NN a)) h.1.1 (blank (dC a) kC) := by
    refine ⟨⟨(fun q => nomatch q), rfl, fun _ => rfl⟩, fun _ => ?_, fun q => ?_⟩
    · rw [am_new_at]
      refine ⟨rfl, fun j hj => ?_⟩
      obtain ⟨cf, kf, fi, f, hi, h1, h2⟩ := am_fld hw F (show a < 13 by omega) hj
      have hlay := hw.1 _ (am_lay_in a ha h9 _ (u_in_lay hj))
      have hl2 : (Cond.lays (am_CN a) (am_TT a j).1 (am_TT a j).2.1 (am_TT a j).2.2.1).before A0 s = true ∨ (Cond.laysFinal (am_CN a) (am_TT a j).1 (am_TT a j).2.1 (am_TT a j).2.2.1).before A0 s = true := by
        unfold u_lay at hlay
        split at hlay
        · exact Or.inr (word_at F.2.2.2.2.2.1 (good_of_word rfl) hlay)
        · exact Or.inl (word_at F.2.2.2.2.2.1 (good_of_word rfl) hlay)
      have h3 := (u_facts hfc hkC hl2 hi).2.2
      have hkk := am_fk_ok a (by omega) j hj
      rw [am_new_rd, ← h2]
      cases hty : parseFieldDescriptor (am_TT a j).2.2.1 with
      | none =>
        rw [hty] at hkk
        exfalso
        have : ∀ a, a < 12 → a ≠ 9 → ∀ j, j < am_NN a → am_FK a j ≠ 9 := by decide +kernel
        exact this a ha h9 j hj hkk.symm
      | some ty =>
        rw [(State.fieldFound?_type hi hty).2] at h3
        refine (k2_blank h3).trans ?_
        rw [hty] at hkk
        have hfk : am_fk a j = am_k1 (am_dk (some ty)) := by unfold am_fk; rw [← hkk]
        rw [hfk]
        have h9' : am_dk (some ty) ≠ 9 := by
          have : ∀ a, a < 12 → a ≠ 9 → ∀ j, j < am_NN a → am_FK a j ≠ 9 := by decide +kernel
          rw [hkk]
          exact this a ha h9 j hj
        cases ty <;> first | rfl | exact absurd rfl h9'
    · rw [am_new_at] at q
      exact absurd q (by show ¬ 100 ≤ a; omega)
  obtain ⟨hsz, hr'⟩ := am_HR_new hw hr hg (show ((a, 0) : Nat × Nat).1 ≠ 98 by show a ≠ 98; omega) z2 z3 z1 hcf
  have := K H' locs lr hr' hl hf
  rw [am_c_new hc, am_s_new hz, List.map_cons, am_val_ref (by have := hr.2.2.1; show h.1.1 ≠ 74; omega), hsz] at this
  exact this
/-- an array's cell, by its places -/
theorem am_arrV {cell : Cell} {n : Nat} {z : Nat → Value} (h1 : cell.vm = .none) (h2 : cell.monitor = {}) (h3 : cell.hash = none) (h4 : cell.slots.size = n) (h5 : ∀ j, j < n → cell.slots[j]? = some (z j)) : cell = arrV cell.cls n z := by
  have hs : cell.slots = (arrV cell.cls n z).slots := by
    apply Array.ext_getElem?
    intro j
    by_cases hj : j < n
    · rw [h5 j hj, arrV_read _ _ hj]
    · rw [Array.getElem?_eq_none (by omega), Array.getElem?_eq_none (by rw [arrV_size]; omega)]
  cases cell
  simp only at h1 h2 h3 hs
  subst h1; subst h2; subst h3
  rw [hs]
  rfl
theorem am_cf_arr {h : am_H} {a n w : Nat} {cA : ClassId} {cell : Cell} (F : am_Fr S k p s m meth c) (ha : 100 ≤ a) (hcell : cell = arrV cA n (fun _ => am_val ad fv (am_rd (am_new h (a, n) w) (am_AK a) h.1.1 0))) (h1 : ArrOfT s cA (am_AT a)) (h2 : va_RA s cA (am_AT a)) : am_cf S ad fv dC dI (am_new h (a, n) w) h.1.1 cell := by
  subst hcell
  have hal := F.2.2.2.2.2.1.alike
  refine ⟨⟨(fun q => nomatch q), rfl, fun _ => rfl⟩, fun q => ?_, fun _ => ?_⟩
  · rw [am_new_at] at q
    exact absurd q (by show ¬ a < 99; omega)
  · rw [am_new_at]
    refine ⟨⟨State.isArrayOf_alike hal.symm (h1 _ _), fun _ => ⟨rfl, rfl, h2.moved hal.symm⟩⟩, arrV_size _ _ _, fun j hj => ?_⟩
    rw [arrV_read _ _ hj, am_new_rd, am_new_rd]
theorem so_newa (hw : am_Wd S A0 ad fv dC dI) (F : am_Fr S k p s m meth c) {a : Nat} {t : ArrayType} {n : Int32} (ha : a = 100 ∧ t = .int ∨ a = 101 ∧ t = .byte ∨ a = 102 ∧ t = .boolean ∨ a = 103 ∧ t = .long) (hd : decode (am_B k) pc = .ok (.newarray t, 2)) (hm1 : Cond.arrayClass (newarray.typeOf t) ∈ lw_tbl) (hn : ¬ n < 0) (hN : n.toNatClampNeg ≤ 100000)
    (hg : h.1.2.1 = 0) (hc : am_c h0 ≤ am_c h) (hz : h0.1.2.2 ≤ h.1.2.2) (hrc : am_c h - am_c h0 + 1 ≤ R.cells) (hrs : h.1.2.2 - h0.1.2.2 + n.toNatClampNeg ≤ R.slots)
    (K : am_WG S ad fv dC dI k p l e R s m args below meth c h0 Q (pc + 2) ls (.ref h.1.1 :: st) (am_new h (a, n.toNatClampNeg) n.toNatClampNeg)) : am_WG S ad fv dC dI k p l e R s m args below meth c h0 Q pc ls (.int n :: st) h := by
  intro H locs lr hr hl hf
  refine va_newaK F.1 F.2.1 (am_word hw F hm1 rfl) rfl hd rfl hn rfl ?_ hrc hrs rfl fun H' cA z1 z2 z3 z4 z5 => ?_
  · have : componentBytes (newarray.typeOf t) ≤ 8 := by rcases ha with ⟨-, rfl⟩ | ⟨-, rfl⟩ | ⟨-, rfl⟩ | ⟨-, rfl⟩ <;> decide
    calc n.toNatClampNeg * componentBytes (newarray.typeOf t) ≤ 100000 * 8 := Nat.mul_le_mul hN this
      _ ≤ 536870912 := by decide
  · have hcf : am_cf S ad fv dC dI (am_new h (a, n.toNatClampNeg) n.toNatClampNeg) h.1.1 (arrV cA n.toNatClampNeg (fun _ => defaultValue (newarray.typeOf t))) := by
      refine am_cf_arr (cA := cA) F (by omega) ?_ ?_ ?_
      · rw [am_new_rd]
        rcases ha with ⟨rfl, rfl⟩ | ⟨rfl, rfl⟩ | ⟨rfl, rfl⟩ | ⟨rfl, rfl⟩ <;> rfl
      · rcases ha with ⟨rfl, rfl⟩ | ⟨rfl, rfl⟩ | ⟨rfl, rfl⟩ | ⟨rfl, rfl⟩ <;> exact z4
      · rcases ha with ⟨rfl, rfl⟩ | ⟨rfl, rfl⟩ | ⟨rfl, rfl⟩ | ⟨rfl, rfl⟩ <;> exact z5
    obtain ⟨hsz, hr'⟩ := am_HR_new hw hr hg (show ((a, n.toNatClampNeg) : Nat × Nat).1 ≠ 98 by show a ≠ 98; omega) z2 z3 z1 hcf
    have := K H' locs lr hr' hl hf
    rw [am_c_new hc, am_s_new hz, List.map_cons, am_val_ref (by have := hr.2.2.1; show h.1.1 ≠ 74; omega), hsz] at this
    exact this
theorem so_anew (hw : am_Wd S A0 ad fv dC dI) (F : am_Fr S k p s m meth c) {i : Nat} {n : Int32} (hd : decode (am_B k) pc = .ok (.anewarray i, 3)) (hm1 : Cond.classLink (am_Y k).cls i "java/lang/String" ∈ lw_tbl) (hm2 : Cond.arrayOver (.object "java/lang/String") ∈ lw_tbl) (hn : ¬ n < 0) (hN : n.toNatClampNeg ≤ 100000)
    (hg : h.1.2.1 = 0) (hc : am_c h0 ≤ am_c h) (hz : h0.1.2.2 ≤ h.1.2.2) (hrc : am_c h - am_c h0 + 1 ≤ R.cells) (hrs : h.1.2.2 - h0.1.2.2 + n.toNatClampNeg ≤ R.slots)
    (K : am_WG S ad fv dC dI k p l e R s m args below meth c h0 Q (pc + 3) ls (.ref h.1.1 :: st) (am_new h (104, n.toNatClampNeg) n.toNatClampNeg)) : am_WG S ad fv dC dI k p l e R s m args below meth c h0 Q pc ls (.int n :: st) h := by
  intro H locs lr hr hl hf
  refine W.anew F.1 F.2.1 F.2.2.2.2.1 (am_word hw F hm1 rfl) (Cond.arrayOver_alike F.2.2.2.2.2.1.alike (hw.1 _ hm2)) rfl hd rfl hn (by omega) hrc hrs fun cA kA comp z1 z2 z3 z4 => ?_
  rw [arrV_new]
  have hcf : am_cf S ad fv dC dI (am_new h (104, n.toNatClampNeg) n.toNatClampNeg) h.1.1 (arrV cA n.toNatClampNeg (fun _ => .null)) := by
    refine am_cf_arr (cA := cA) F (by omega) ?_ ?_ ?_
    · rw [am_new_rd]
      rfl
    · exact fun n z => ⟨fun k h => (by cases h), kA, z2, comp, z3⟩
    · exact ⟨kA, comp, z2, z3, z4, z1⟩
  obtain ⟨hsz, hr'⟩ := am_HR_new (H' := H.push (arrV cA n.toNatClampNeg (fun _ => .null))) hw hr hg (show ((104, n.toNatClampNeg) : Nat × Nat).1 ≠ 98 by show (104 : Nat) ≠ 98; decide) (by simp) (fun q hq => by rw [Array.getElem?_push, if_neg (Nat.ne_of_lt hq)]) (by simp) hcf
  have := K _ locs lr hr' hl hf
  rw [am_c_new hc, am_s_new hz, List.map_cons, am_val_ref (by have := hr.2.2.1; show h.1.1 ≠ 74; omega), hsz] at this
  exact this
theorem so_copy (hw : am_Wd S A0 ad fv dC dI) (F : am_Fr S k p s m meth c) {i o t : Nat} {sp dp n : Int32} (hd : decode (am_B k) pc = .ok (.invokestatic i, 3)) (hm1 : Cond.methodLink (am_Y k).cls i arraycopyName ∈ lw_tbl) (hm2 : Cond.native arraycopyName ∈ lw_tbl) (hm3 : Cond.static arraycopyName ∈ lw_tbl) (hm4 : Cond.initialized "java/lang/System" ∈ lw_tbl)
    (ho : 75 ≤ o) (ht : 75 ≤ t) (hso : (h.2.1 o).1 = 100) (hst : (h.2.1 t).1 = 100) (h1 : ¬ sp < 0) (h2 : ¬ dp < 0) (h3 : ¬ n < 0) (h4 : sp.toNatClampNeg + n.toNatClampNeg ≤ (h.2.1 o).2) (h5 : dp.toNatClampNeg + n.toNatClampNeg ≤ (h.2.1 t).2) (hfr : 1 ≤ R.frames) (hlo : 8 + (nativeFrameWords "java/lang/System" "arraycopy" 5 + 11) ≤ R.locals) (hwt : ((st.map (am_val ad fv)).map fun v => v.category).sum ≤ 8)
    (K : am_WG S ad fv dC dI k p l e R s m args below meth c h0 Q (pc + 3) ls st (am_wI h t (va_cpy (h.2.2.1 o) (h.2.2.1 t) sp.toNatClampNeg dp.toNatClampNeg n.toNatClampNeg))) : am_WG S ad fv dC dI k p l e R s m args below meth c h0 Q pc ls (.int n :: .int dp :: .ref t :: .int sp :: .ref o :: st) h := by
  intro H locs lr hr hl hf
  have nn : ∀ z : Int32, ¬ z < 0 → z.toInt = (z.toNatClampNeg : Int) := by
    intro z hz
    have hz0 : (0 : Int) ≤ z.toInt := by
      have := Int32.not_lt.mp hz
      simpa using Int32.le_iff_toInt_le.mp this
    show z.toInt = ((z.toInt.toNat : Nat) : Int)
    omega
  obtain ⟨hof, co, o1, o2, o3, o4, o5, o6⟩ := am_arr F hr hso (by decide)
  obtain ⟨htf, ct, t1, t2, t3, t4, t5, t6⟩ := am_arr F hr hst (by decide)
  obtain ⟨m1, m2, m3⟩ := (o2.2.2 (by rw [hso]; decide)).1.2 ho
  obtain ⟨m1', m2', m3'⟩ := (t2.2.2 (by rw [hst]; decide)).1.2 ht
  have eo : co = vp_cell co.cls ((h.2.1 o).2, .inl (h.2.2.1 o)) := (am_arrV (o2.1.2.2 ho) m1 m2 o5 (z := fun j => .int (h.2.2.1 o j)) o6).trans (vp_cell_i _ _ _).symm
  have et : ct = vp_cell ct.cls ((h.2.1 t).2, .inl (h.2.2.1 t)) := (am_arrV (t2.1.2.2 ht) m1' m2' t5 (z := fun j => .int (h.2.2.1 t j)) t6).trans (vp_cell_i _ _ _).symm
  obtain ⟨-, k0, hk0, cm0, hkk0⟩ := o3
  obtain ⟨-, k1, hk1, cm1, hkk1⟩ := t3
  intro T hT X
  rw [List.map_cons, List.map_cons, List.map_cons, List.map_cons, List.map_cons, am_val_ref hof, am_val_ref htf]
  obtain ⟨vm', X', step⟩ := X.arraycopy F.1 F.2.2.2.2.1 (am_word hw F hm1 rfl) (am_word hw F hm2 rfl) (am_word hw F hm3 rfl) (am_word hw F hm4 rfl) (src := ad o) (dst := ad t) (cs := co) (cd := ct) (srcPos := sp) (destPos := dp) (n := n) (by rw [hT]; exact o1) (by rw [hT]; exact t1)
    (fun z w => by have := o2.1.2.1; rw [w] at this; cases this) (fun z w => by have := t2.1.2.1; rw [w] at this; cases this) o4 t4 hk0 hk1 hkk0 hkk1 rfl h1 h2 h3
    (by rw [nn sp h1, nn n h3, o5]; omega) (by rw [nn dp h2, nn n h3, t5]; omega)
    (fun vm₁ _ j hj => by
      have e : co.slots.getD (sp.toNatClampNeg + j) .null = .int (h.2.2.1 o (sp.toNatClampNeg + j)) := by
        rw [Array.getD_eq_getD_getElem?, o6 _ (by omega)]
        rfl
      rw [e]
      exact ⟨rfl, trivial⟩)
    (g := F0 m pc lr (.int n :: .int dp :: .ref (ad t) :: .int sp :: .ref (ad o) :: st.map (am_val ad fv))) rfl (by rw [F.2.2.1]; exact hl.1) (rest := st.map (am_val ad fv)) rfl (by rw [F.2.1]; exact hd) hfr (by show 2 * 0 + _ + _ ≤ _; omega)
  have e1 : copied co ct sp dp n = vp_cell ct.cls ((h.2.1 t).2, .inl (va_cpy (h.2.2.1 o) (h.2.2.1 t) sp.toNatClampNeg dp.toNatClampNeg n.toNatClampNeg)) := by
    rw [eo, et]
    exact va_copied (fun z => .int z) co.cls ct.cls (h.2.2.1 o) (h.2.2.1 t) h4
  rw [e1] at X' step
  have hlt : ad t < H.size := (Array.getElem?_eq_some_iff.mp t1).1
  have hheap : ((T.setVm vm').setCell (ad t) (vp_cell ct.cls ((h.2.1 t).2, .inl (va_cpy (h.2.2.1 o) (h.2.2.1 t) sp.toNatClampNeg dp.toNatClampNeg n.toNatClampNeg)))).heap = H.setIfInBounds (ad t) (vp_cell ct.cls ((h.2.1 t).2, .inl (va_cpy (h.2.2.1 o) (h.2.2.1 t) sp.toNatClampNeg dp.toNatClampNeg n.toNatClampNeg))) := by rw [← hT]; rfl
  have hcf : am_cf S ad fv dC dI (am_wI h t (va_cpy (h.2.2.1 o) (h.2.2.1 t) sp.toNatClampNeg dp.toNatClampNeg n.toNatClampNeg)) t (vp_cell ct.cls ((h.2.1 t).2, .inl (va_cpy (h.2.2.1 o) (h.2.2.1 t) sp.toNatClampNeg dp.toNatClampNeg n.toNatClampNeg))) := by
    obtain ⟨-, -, w3⟩ := t2
    refine ⟨⟨(fun q => nomatch q), rfl, fun _ => rfl⟩, fun q => ?_, fun q => ?_⟩
    · have : (h.2.1 t).1 < 99 := q
      omega
    · obtain ⟨⟨v1, v1'⟩, v2, v3⟩ := w3 q
      show (_ ∧ _) ∧ _
      refine ⟨⟨⟨(fun z w => nomatch w), v1.2⟩, fun _ => ⟨rfl, rfl, m3'⟩⟩, by rw [vp_cell_i]; exact arrV_size _ _ _, fun j hj => ?_⟩
      rw [vp_cell_i]
      refine (arrV_read _ _ (show j < (h.2.1 t).2 from hj)).trans ?_
      show some _ = some (am_val ad fv (am_rd (am_wI h t _) (am_AK (h.2.1 t).1) t j))
      rw [hst]
      show some _ = some (am_val ad fv (am_rd (am_wI h t _) 0 t j))
      rw [am_rd_wI0]
      rfl
  have hr' := am_HR_upd (h' := am_wI h t (va_cpy (h.2.2.1 o) (h.2.2.1 t) sp.toNatClampNeg dp.toNatClampNeg n.toNatClampNeg)) (H' := H.setIfInBounds (ad t) (vp_cell ct.cls ((h.2.1 t).2, .inl (va_cpy (h.2.2.1 o) (h.2.2.1 t) sp.toNatClampNeg dp.toNatClampNeg n.toNatClampNeg)))) hw hr ht rfl rfl (fun i hi d j => am_rd_wI i d j hi) (by simp [Array.getElem?_setIfInBounds, hlt]) hcf (by simp) (fun q hq => by simp [Array.getElem?_setIfInBounds, Ne.symm hq])
  have hao : S.heap.size ≤ ad t := by rw [hw.2.1 t ht]; omega
  obtain ⟨tt, a1, b1⟩ := K _ (locs ++ (co.stretch sp.toNatClampNeg n.toNatClampNeg).zipIdx.map fun q => ⟨ad t, dp.toNatClampNeg + q.2⟩) lr hr' hl (fun q hq => by
    rcases List.mem_append.mp hq with z | z
    · exact hf q z
    · obtain ⟨w, -, hw'⟩ := List.mem_map.mp z
      rw [← hw']
      exact hao) _ hheap X'
  exact ⟨tt, step tt a1, b1⟩
end AMO5
