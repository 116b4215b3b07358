/-! steps: fields, arrays, new cells -/
section AMO3
variable {S : State} {A0 : Array Value} {ad : Nat → Nat} {fv : Value} {dC : Nat → ClassId} {dI : Nat → Nat → Nat} {p : Program} {l : Launch} {e : Env} {R : Room} {s : State} {m : MethodId} {args : Array Value} {below : List Frame} {meth : Method} {c : Code} {k : Nat} {h0 : am_H} {Q : State → Prop}
variable {pc : Nat} {ls st : List Value} {h : am_H}
theorem am_fld (hw : am_Wd S A0 ad fv dC dI) (F : am_Fr S k p s m meth c) {a j : Nat} (ha : a < 13) (hj : j < am_NN a) : ∃ cf kf fi f, s.fieldFound? (am_TT a j).1 (am_TT a j).2.1 (am_TT a j).2.2.1 = some (cf, kf, fi, f) ∧ f.isStatic = false ∧ f.slot = dI a j := by
  obtain ⟨cf, kf, fi, f, hi, h1, h2⟩ := hw.2.2.2.1 a j ha hj
  obtain ⟨kf', hi', -⟩ := State.fieldFound?_setVm (s := S) F.2.2.2.2.2.1.alike hi
  exact ⟨cf, kf', fi, f, by simpa only [State.fieldFound?, State.vm_setVm] using hi', h1, h2⟩
theorem am_nest (hw : am_Wd S A0 ad fv dC dI) (F : am_Fr S k p s m meth c) {a : String} {i : Nat} {b n d g : String} (hm : Cond.fieldLinkNest a i b n d g ∈ lw_tbl) : (Cond.fieldLinkNest a i b n d g).before args s = true :=
  va_Nw.use rfl (va_Nw.warmF F.2.2.2.2.2.1 (va_Nw.of rfl (hw.1 _ hm)))
theorem am_nestM (hw : am_Wd S A0 ad fv dC dI) (F : am_Fr S k p s m meth c) {a : String} {i : Nat} {x : MethodName} {g : String} (hm : Cond.methodLinkNest a i x g ∈ lw_tbl) : va_Nw (.methodLinkNest a i x g) s :=
  va_Nw.warmM F.2.2.2.2.2.1 (va_Nw.of rfl (hw.1 _ hm))
theorem so_getf (hw : am_Wd S A0 ad fv dC dI) (F : am_Fr S k p s m meth c) {i a j d o : Nat} (ha : a < 13) (hj : j < am_NN a) (hd : decode (am_B k) pc = .ok (.getfield i, 3)) (hfk : am_fk a j = d)
    (hm : Cond.fieldLink (am_Y k).cls i (am_TT a j).1 (am_TT a j).2.1 (am_TT a j).2.2.1 ∈ lw_tbl ∨ ∃ g, Cond.fieldLinkNest (am_Y k).cls i (am_TT a j).1 (am_TT a j).2.1 (am_TT a j).2.2.1 g ∈ lw_tbl) (hs : (h.2.1 o).1 = a)
    (K : am_WG S ad fv dC dI k p l e R s m args below meth c h0 Q (pc + 3) ls (am_rd h d o j :: st) h) : am_WG S ad fv dC dI k p l e R s m args below meth c h0 Q pc ls (.ref o :: st) h := by
  intro H locs lr hr hl hf
  obtain ⟨-, ho⟩ := am_HR_in hr hs (by omega) (by omega)
  obtain ⟨cell, q1, ⟨q2, -⟩, q3, -⟩ := am_HR_at hr hs (by omega) (by omega)
  rw [hs] at q3
  obtain ⟨-, q4⟩ := q3 (by omega)
  have q5 := q4 j hj
  rw [hfk] at q5
  obtain ⟨cf, kf, fi, f, hi, h1, h2⟩ := am_fld hw F ha hj
  rw [← h2] at q5
  have K' := K H locs lr hr hl hf
  rw [List.map_cons] at K'
  rw [List.map_cons, am_val_ref ho]
  rcases hm with hm | ⟨g, hm⟩
  · exact W.getf F.1 F.2.1 F.2.2.2.2.1 (am_word hw F hm rfl) hi h1 q1 q2 q5 rfl rfl hd K'
  · exact va_Wgetf F.1 F.2.1 F.2.2.2.2.1 (am_nest hw F hm) hi h1 q1 q2 q5 rfl rfl hd K'
/-- behind a put: the cell's other fields stay -/
theorem am_cf_put (hw : am_Wd S A0 ad fv dC dI) {h h' : am_H} {o a j : Nat} {cell : Cell} {v : Value} (hc : am_cf S ad fv dC dI h o cell) (hs : (h.2.1 o).1 = a) (ha : a < 13) (hj : j < am_NN a) (e2 : h'.2.1 = h.2.1) (hv : am_val ad fv (am_rd h' (am_fk a j) o j) = v) (hn : ∀ i, i ≠ j → ∀ d, am_rd h' d o i = am_rd h d o i) : am_cf S ad fv dC dI h' o (cell.setSlot (dI a j) v) := by
  obtain ⟨q1, q3, -⟩ := hc
  refine ⟨q1, fun z => ?_, fun z => ?_⟩
  · rw [e2] at z ⊢
    obtain ⟨z1, z2⟩ := q3 z
    refine ⟨z1, fun i hi => ?_⟩
    rw [hs] at hi ⊢
    rw [hs] at z2
    by_cases hij : i = j
    · subst hij
      rw [hv]
      exact Cell.slots_setSlot_self v (k2_hasslot (z2 i hi))
    · rw [slot_ne _ _ (hw.2.2.2.2.2.1 a j i ha hj hi (Ne.symm hij)), hn i hij]
      exact z2 i hi
  · rw [e2, hs] at z
    omega
theorem am_store_facts (hw : am_Wd S A0 ad fv dC dI) (F : am_Fr S k p s m meth c) {a j : Nat} (ha : a < 12) (h9 : a ≠ 9) (hj : j < am_NN a) {ty : FieldType} {v : Value} (hd : parseFieldDescriptor (am_TT a j).2.2.1 = some ty) (hn : narrow ty v = v) (hv : fits ty v = true) {cf fi : Nat} {kf : Class} {f : Field} (hi : s.fieldFound? (am_TT a j).1 (am_TT a j).2.1 (am_TT a j).2.2.1 = some (cf, kf, fi, f)) :
    (((am_TT a j).2.2.2 = false → k2_Sd s f (dC a) v) ∧ (narrow f.type v = v ∧ s.fitsSlot (dC a) .none f.slot v = true)) ∧ ((am_TT a j).2.2.2 = true → (am_TT a j).1 = (am_Y k).cls → m.cls = cf) := by
  have hlay := hw.1 _ (am_lay_in a ha h9 _ (u_in_lay hj))
  obtain ⟨hfc, kC, hkC, hkind⟩ := classAt_moved F.2.2.2.2.2.1.alike (am_CA_at (hw.2.2.2.2.1 a (by omega)) ha)
  unfold u_lay at hlay
  constructor
  · split at hlay
    · rename_i hfin
      have hl : (Cond.laysFinal (am_CN a) (am_TT a j).1 (am_TT a j).2.1 (am_TT a j).2.2.1).before A0 s = true := word_at F.2.2.2.2.2.1 (good_of_word rfl) hlay
      exact ⟨fun q => (by rw [hfin] at q; cases q), u_fits hfc hkC hkind (Or.inr hl) hi hd hn hv⟩
    · have hl : (Cond.lays (am_CN a) (am_TT a j).1 (am_TT a j).2.1 (am_TT a j).2.2.1).before A0 s = true := word_at F.2.2.2.2.2.1 (good_of_word rfl) hlay
      exact ⟨fun _ => u_store hfc hkC hkind hl hi hd hn hv, u_fits hfc hkC hkind (Or.inl hl) hi hd hn hv⟩
  · intro hfin hdecl
    rw [if_pos hfin] at hlay
    have hl : (Cond.laysFinal (am_CN a) (am_TT a j).1 (am_TT a j).2.1 (am_TT a j).2.2.1).before A0 s = true := word_at F.2.2.2.2.2.1 (good_of_word rfl) hlay
    obtain ⟨_, _, c', _, _, _, -, -, hf', -, -, -, hown2, -⟩ := Cond.laysFinal_spec hl
    have e1 : c' = cf := by have := hi.symm.trans hf'; simp at this; exact this.1.symm
    rw [hdecl] at hown2
    rw [← e1]
    exact Option.some.inj (F.2.2.2.2.1.symm.trans hown2)
/-- a put, in any of its three ways -/
theorem so_put (hw : am_Wd S A0 ad fv dC dI) (F : am_Fr S k p s m meth c) {i a j o : Nat} (ha : a < 12) (h9 : a ≠ 9) (hj : j < am_NN a) (ho : 75 ≤ o) (hd : decode (am_B k) pc = .ok (.putfield i, 3))
    (hm : (Cond.fieldLink (am_Y k).cls i (am_TT a j).1 (am_TT a j).2.1 (am_TT a j).2.2.1 ∈ lw_tbl ∧ ((am_TT a j).2.2.2 = true → (am_Y k).name = "<init>" ∧ (am_TT a j).1 = (am_Y k).cls)) ∨ ((am_TT a j).2.2.2 = false ∧ ∃ g, Cond.fieldLinkNest (am_Y k).cls i (am_TT a j).1 (am_TT a j).2.1 (am_TT a j).2.2.1 g ∈ lw_tbl)) (hs : (h.2.1 o).1 = a)
    {h' : am_H} {v : Value} (e1 : h'.1 = h.1) (e2 : h'.2.1 = h.2.1) (e3 : ∀ i, i ≠ o → ∀ k j, am_rd h' k i j = am_rd h k i j) (e4 : am_rd h' (am_fk a j) o j = v) (e5 : ∀ i, i ≠ j → ∀ d, am_rd h' d o i = am_rd h d o i)
    {ty : FieldType} (hty : parseFieldDescriptor (am_TT a j).2.2.1 = some ty) (hn : narrow ty (am_val ad fv v) = am_val ad fv v) (hv : fits ty (am_val ad fv v) = true)
    (K : am_WG S ad fv dC dI k p l e R s m args below meth c h0 Q (pc + 3) ls st h') : am_WG S ad fv dC dI k p l e R s m args below meth c h0 Q pc ls (v :: .ref o :: st) h := by
  intro H locs lr hr hl hf
  obtain ⟨-, hof⟩ := am_HR_in hr hs (by omega) (by omega)
  obtain ⟨cell, q1, q2⟩ := am_HR_at hr hs (by omega) (by omega)
  obtain ⟨cf, kf, fi, f, hi, h1, h2⟩ := am_fld hw F (show a < 13 by omega) hj
  obtain ⟨⟨s1, s2⟩, s3⟩ := am_store_facts hw F ha h9 hj hty hn hv hi
  have hcls : cell.cls = dC a := by
    have := (q2.2.1 (by rw [hs]; omega)).1
    rw [hs] at this
    exact this
  have hvm : cell.vm = .none := q2.1.2.2 ho
  have hlt : f.slot < cell.slots.size := by
    have := (q2.2.1 (by rw [hs]; omega)).2 j (by rw [hs]; exact hj)
    rw [hs, ← h2] at this
    exact k2_hasslot this
  have hao : S.heap.size ≤ ad o := by rw [hw.2.1 o ho]; omega
  have hend : ∀ H' : Heap, H'[ad o]? = some (cell.setSlot f.slot (am_val ad fv v)) → H'.size = H.size → (∀ q, q ≠ ad o → H'[q]? = H[q]?) → W p l e R s m args below meth c H' (locs ++ [⟨ad o, f.slot⟩]) (am_c h - am_c h0) (h.1.2.2 - h0.1.2.2) Q (F0 m (pc + 3) lr (st.map (am_val ad fv))) := by
    intro H' z1 z2 z3
    have hc : am_c h' = am_c h := by unfold am_c; rw [e1]
    have := K H' (locs ++ [⟨ad o, f.slot⟩]) lr (am_HR_upd hw hr ho e1 e2 e3 z1 (by rw [h2]; exact am_cf_put hw q2 hs (by omega) hj e2 (by rw [e4]) e5) z2 z3) hl (fun q hq => by
      rcases List.mem_append.mp hq with z | z
      · exact hf q z
      · rw [List.mem_singleton.mp z]
        exact hao)
    rw [hc, e1] at this
    exact this
  rw [List.map_cons, List.map_cons, am_val_ref hof]
  rcases hm with ⟨hm, hfin⟩ | ⟨hnf, g, hm⟩
  · cases hff : (am_TT a j).2.2.2 with
    | false => exact W.putK F.1 F.2.1 (f := f) ⟨F.2.2.2.2.1, am_word hw F hm rfl, ⟨_, _, _, hi⟩, h1⟩ (by rw [hcls]; exact s1 hff) q1 hvm hlt rfl rfl hd hend
    | true =>
      obtain ⟨hin, hdecl⟩ := hfin hff
      exact W.putFinK F.1 F.2.1 F.2.2.2.2.1 (am_word hw F hm rfl) hi h1 (s3 hff hdecl) (F.2.2.2.2.2.2.2.1.trans hin) (by rw [hcls]; exact s2) q1 hvm hlt rfl rfl hd hend
  · exact va_WputK F.1 F.2.1 F.2.2.2.2.1 (am_nest hw F hm) hi h1 (by rw [hcls]; exact s1 hnf) q1 hvm hlt rfl rfl hd hend
end AMO3
