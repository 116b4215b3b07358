/-! THE WORLD at the law's entry: addresses, classes, slots, cells -/
section WORLD
variable {s : State} {b N : Nat} {xs : Nat → Int32}
abbrev wEv (s : State) (b : Nat) (t : Term) : Option Value := t.eval #[Value.ref b] s none [] s
def wTm (i : Nat) : Term := cond (Nat.beq i 0) (.arg 0) (cond (Nat.ble i 15) (tmW i) (cond (Nat.beq (i % 2) 0) (tmS i) (tmV (i - 1))))
def wRf : Option Value → Nat
  | some (.ref a) => a
  | _ => 0
def wad (s : State) (b i : Nat) : Nat := cond (Nat.ble 75 i) (s.heap.size + (i - 75)) (wRf (wEv s b (wTm i)))
def wfv (s : State) (b : Nat) : Value := (wEv s b (tmW 17)).getD .null
def wdC (s : State) (c : Nat) : ClassId := (s.vm.findClass (am_CN c)).getD 0
def wdI (s : State) (c k : Nat) : Nat := match s.fieldFound? (am_TT c k).1 (am_TT c k).2.1 (am_TT c k).2.2.1 with
  | some x => x.2.2.2.slot
  | none => 0
theorem wdI_of {c k cf fi : Nat} {kf : Class} {f : Field} (h : s.fieldFound? (am_TT c k).1 (am_TT c k).2.1 (am_TT c k).2.2.1 = some (cf, kf, fi, f)) : wdI s c k = f.slot := by
  unfold wdI
  rw [h]
theorem wdC_of {c : Nat} {d : ClassId} (h : s.vm.findClass (am_CN c) = some d) : wdC s c = d := by
  unfold wdC
  rw [h]
  rfl
theorem wad_of {i a : Nat} (hi : i < 75) (h : wEv s b (wTm i) = some (.ref a)) : wad s b i = a := by
  unfold wad
  rw [k_blf (by omega : ¬ 75 ≤ i), h]
  rfl
theorem wad_hi {i : Nat} (h : 75 ≤ i) : wad s b i = s.heap.size + (i - 75) := by
  unfold wad
  rw [k_ble h]
  rfl
theorem w_eqr {t u : Term} {a : Nat} (h : (Cond.eq t u).before #[Value.ref b] s = true) (hu : wEv s b u = some (.ref a)) : wEv s b t = some (.ref a) := by
  have hu' : u.eval #[Value.ref b] s none [] s = some (.ref a) := hu
  show t.eval #[Value.ref b] s none [] s = some (.ref a)
  cases hv : t.eval #[Value.ref b] s none [] s with
  | none => simp [Cond.before, Cond.holds, Cond.value, hv] at h
  | some w =>
    simp only [Cond.before, Cond.holds, Cond.value, hv, hu'] at h
    cases w <;> simp_all
/-- an array that the start gives -/
theorem w_A {tm : Term} {ty : FieldType} {n : Nat} {f : Nat → Value} (harr : (Cond.arrayOf tm ty).before #[Value.ref b] s = true) (hlen : (Cond.eq (.length tm) (.int (Int32.ofNat n))).before #[Value.ref b] s = true) (hn : n < 1000) (hel : ∀ j, j < n → wEv s b (.elem tm (.int (Int32.ofNat j))) = some (f j)) : ∃ t cell, wEv s b tm = some (.ref t) ∧ s.heap[t]? = some cell ∧ s.isArrayOf cell ty ∧ (cell.vm ≠ .unknown ∧ cell.vm.isStatics = false) ∧ cell.slots.size = n ∧ ∀ j, j < n → cell.slots[j]? = some (f j) := by
  have hl := va_eqt hlen
  obtain ⟨t, cell, ht, hat, hv⟩ := Term.length_spec hl
  obtain ⟨hcell, hkn, hst, -⟩ := State.arrayAt?_spec hat
  obtain ⟨hof, -⟩ := Cond.arrayOf_spec harr ht hcell
  have hsz : cell.slots.size < 2 ^ 31 := by
    simp only [Term.eval, ht, hat, Option.bind_eq_bind, Option.bind_some] at hl
    by_cases hlt : cell.slots.size < 2147483648
    · exact hlt
    · simp [hlt] at hl
  have hse : cell.slots.size = n := by
    have e := Value.int.inj hv
    have e2 := congrArg Int32.toInt e
    rw [Int32.toInt_ofNat_of_lt (by omega : n < 2 ^ 31), show cell.slots.size.toInt32 = Int32.ofNat cell.slots.size from rfl, Int32.toInt_ofNat_of_lt hsz] at e2
    omega
  refine ⟨t, cell, ht, hcell, hof, ⟨hkn, hst⟩, hse, fun j hj => ?_⟩
  obtain ⟨a, i, cell2, h1, h2, h3, h4, h5⟩ := Term.elem_spec (hel j hj)
  cases ht.symm.trans h1
  cases hat.symm.trans h3
  have hi : i = Int32.ofNat j := by
    have e : (Term.int (Int32.ofNat j)).eval #[Value.ref b] s none [] s = some (.int (Int32.ofNat j)) := rfl
    cases h2.symm.trans e
    rfl
  rw [hi, nb_tn (by omega)] at h5
  exact h5
/-- a field of an object that the start gives -/
theorem w_F {t : Term} {a : Nat} {v : Value} {o n d : String} (ht : wEv s b t = some (.ref a)) (hv : wEv s b (.field t o n d) = some v) : ∃ cf kf fi f cell, s.fieldFound? o n d = some (cf, kf, fi, f) ∧ f.isStatic = false ∧ s.heap[a]? = some cell ∧ cell.vm ≠ .unknown ∧ cell.slots[f.slot]? = some v := by
  have ht' : t.eval #[Value.ref b] s none [] s = some (.ref a) := ht
  have hv' : (Term.field t o n d).eval #[Value.ref b] s none [] s = some v := hv
  cases hfo : s.fieldFound? o n d with
  | none =>
    rw [va_fe ht'] at hv'
    simp [State.fieldOf?, State.fieldNamed?, hfo] at hv'
  | some x =>
    obtain ⟨cf, k, fi, f⟩ := x
    obtain ⟨g1, cell, g2, g3, -, -, g6⟩ := Term.field_spec hfo ht' hv'
    exact ⟨cf, k, fi, f, cell, rfl, g1, g2, g3, g6⟩
/-- a text -/
theorem w_S (hs : ∀ c ∈ wL, c.before #[Value.ref b] s = true) {i : Nat} (hi : i < 29) : ∃ a v cell cellV, wEv s b (tmS (16 + 2 * i)) = some (.ref a) ∧ wEv s b (tmV (16 + 2 * i)) = some (.ref v) ∧ (s.heap[a]? = some cell ∧ (cell.vm ≠ .unknown ∧ cell.vm.isStatics = false) ∧ s.vm.findClass "java/lang/String" = some cell.cls ∧ (∃ k, s.vm.classes[cell.cls]? = some k) ∧ (∃ cf kf fi f, s.fieldFound? "java/lang/String" "value" "[B" = some (cf, kf, fi, f) ∧ f.isStatic = false ∧ cell.slots[f.slot]? = some (.ref v)) ∧ ∃ cf kf fi f, s.fieldFound? "java/lang/String" "coder" "B" = some (cf, kf, fi, f) ∧ f.isStatic = false ∧ cell.slots[f.slot]? = some (.int 0)) ∧ s.heap[v]? = some cellV ∧ s.isArrayOf cellV .byte ∧ (cellV.vm ≠ .unknown ∧ cellV.vm.isStatics = false) ∧ cellV.slots.size = (st_l (16 + 2 * i)).length ∧ ∀ j, j < (st_l (16 + 2 * i)).length → cellV.slots[j]? = some (.int (Int32.ofNat ((st_l (16 + 2 * i)).getD j 0))) := by
  have hex := hs _ (wm_1 i hi)
  obtain ⟨a, c, cell, k, q1, q2, q3, q4, q5, q6, -⟩ := Cond.exactly_spec (args := #[Value.ref b]) (first := s) (o := none) (s := s) (idx := []) (t := tmS (16 + 2 * i)) (cls := "java/lang/String") hex
  have hl10 := ws_3 i hi
  obtain ⟨v, cellV, v1, v2, v3, v4, v5, v6⟩ := w_A (f := fun j => .int (Int32.ofNat ((st_l (16 + 2 * i)).getD j 0))) (hs _ (wm_3 i hi)) (hs _ (wm_4 i hi)) (by omega) (fun j hj => va_eqt (hs _ (wm_5 i hi j hj)))
  have q1' : wEv s b (tmS (16 + 2 * i)) = some (.ref a) := q1
  have v1' : wEv s b (.field (tmS (16 + 2 * i)) "java/lang/String" "value" "[B") = some (.ref v) := v1
  obtain ⟨cf, kf, fi, f, cell2, f1, f2, f3, f4, f5⟩ := w_F q1' v1'
  cases Option.some.inj (q3.symm.trans f3)
  obtain ⟨cf', kf', fi', f', cell3, g1, g2, g3, g4, g5⟩ := w_F q1' (va_eqt (hs _ (wm_2 i hi)))
  cases Option.some.inj (q3.symm.trans g3)
  exact ⟨a, v, cell, cellV, q1, v1, ⟨q3, ⟨f4, q5⟩, by rw [q6]; exact q2, ⟨k, by rw [q6]; exact q4⟩, ⟨cf, kf, fi, f, f1, f2, f5⟩, ⟨cf', kf', fi', f', g1, g2, g5⟩⟩, v2, v3, v4, v5, v6⟩
/-- a word -/
theorem w_W (hs : ∀ c ∈ wL, c.before #[Value.ref b] s = true) {j : Nat} (hj : j < 14) {u : Nat} (hu : wEv s b (tmS (am_tx (j + 1))) = some (.ref u)) : ∃ a cell, wEv s b (tmW (j + 1)) = some (.ref a) ∧ s.heap[a]? = some cell ∧ (cell.vm ≠ .unknown ∧ cell.vm.isStatics = false) ∧ s.vm.findClass "AlmondCabinet$Word" = some cell.cls ∧ (∃ cf kf fi f, s.fieldFound? "AlmondCabinet$Word" "text" "Ljava/lang/String;" = some (cf, kf, fi, f) ∧ f.isStatic = false ∧ cell.slots[f.slot]? = some (.ref u)) ∧ ∃ cf kf fi f, s.fieldFound? "AlmondCabinet$Word" "place" "I" = some (cf, kf, fi, f) ∧ f.isStatic = false ∧ cell.slots[f.slot]? = some (.int (st_w (j + 1))) := by
  have hex := hs _ (wm_6 j hj)
  obtain ⟨a, c, cell, k, q1, q2, q3, q4, q5, q6, -⟩ := Cond.exactly_spec (args := #[Value.ref b]) (first := s) (o := none) (s := s) (idx := []) (t := tmW (j + 1)) (cls := "AlmondCabinet$Word") hex
  have q1' : wEv s b (tmW (j + 1)) = some (.ref a) := q1
  obtain ⟨cf, kf, fi, f, cell2, f1, f2, f3, f4, f5⟩ := w_F q1' (w_eqr (hs _ (wm_7 j hj)) hu)
  cases Option.some.inj (q3.symm.trans f3)
  obtain ⟨cf', kf', fi', f', cell3, g1, g2, g3, g4, g5⟩ := w_F q1' (va_eqt (hs _ (wm_8 j hj)))
  cases Option.some.inj (q3.symm.trans g3)
  exact ⟨a, cell, q1, q3, ⟨f4, q5⟩, by rw [q6]; exact q2, ⟨cf, kf, fi, f, f1, f2, f5⟩, ⟨cf', kf', fi', f', g1, g2, g5⟩⟩
theorem wtx : ∀ j, j < 14 → ∃ i, i < 29 ∧ am_tx (j + 1) = 16 + 2 * i := by decide +kernel
theorem wTm_W {j : Nat} (h : j < 15) : wTm (j + 1) = tmW (j + 1) := by
  unfold wTm
  rw [beq_f (by omega : j + 1 ≠ 0), k_ble (by omega : j + 1 ≤ 15)]
  rfl
theorem wTm_S {i : Nat} : wTm (16 + 2 * i) = tmS (16 + 2 * i) := by
  unfold wTm
  rw [beq_f (by omega : 16 + 2 * i ≠ 0), k_blf (by omega : ¬ 16 + 2 * i ≤ 15), show (16 + 2 * i) % 2 = 0 by omega]
  rfl
theorem wTm_V {i : Nat} : wTm (17 + 2 * i) = tmV (16 + 2 * i) := by
  unfold wTm
  rw [beq_f (by omega : 17 + 2 * i ≠ 0), k_blf (by omega : ¬ 17 + 2 * i ≤ 15), show (17 + 2 * i) % 2 = 1 by omega, show 17 + 2 * i - 1 = 16 + 2 * i by omega]
  rfl
/-- the start, in the abstract -/
def wH (N : Nat) (xs : Nat → Int32) : am_H := ((75, 0, 0), kS 75 N, kB xs, (fun _ _ => 0), kR 75)
theorem w_val {i : Nat} (h : i ≠ 74) : am_val (wad s b) (wfv s b) (.ref i) = .ref (wad s b i) := by
  show (if i = 74 then wfv s b else .ref (wad s b i)) = _
  rw [if_neg h]
/-- the cells below -/
theorem w_cell (hs : ∀ c ∈ wL, c.before #[Value.ref b] s = true) (hX : va_X b N xs s s.heap) : ∀ i, i < 75 → i ≠ 74 → ∃ cell, s.heap[wad s b i]? = some cell ∧ am_cf s (wad s b) (wfv s b) (wdC s) (wdI s) (wH N xs) i cell := by
  intro i hi h74
  have hc : i = 0 ∨ (∃ j, j < 14 ∧ i = j + 1) ∨ i = 15 ∨ (∃ j, j < 29 ∧ i = 16 + 2 * j) ∨ ∃ j, j < 29 ∧ i = 17 + 2 * j := by
    by_cases h0 : i = 0
    · exact Or.inl h0
    by_cases h1 : i < 15
    · exact Or.inr (Or.inl ⟨i - 1, by omega, by omega⟩)
    by_cases h2 : i = 15
    · exact Or.inr (Or.inr (Or.inl h2))
    by_cases h3 : i % 2 = 0
    · exact Or.inr (Or.inr (Or.inr (Or.inl ⟨(i - 16) / 2, by omega, by omega⟩)))
    · exact Or.inr (Or.inr (Or.inr (Or.inr ⟨(i - 17) / 2, by omega, by omega⟩)))
  rcases hc with rfl | ⟨j, hj, rfl⟩ | rfl | ⟨j, hj, rfl⟩ | ⟨j, hj, rfl⟩
  · obtain ⟨scr, x1, x2, x3, x4, x5⟩ := hX
    have e0 : wEv s b (wTm 0) = some (.ref b) := rfl
    rw [wad_of (by decide) e0]
    have hst : scr.vm.isStatics = false := by
      have hle := hs _ wm_b.2.2.2.2.2
      cases hv : (Term.length (.arg 0)).eval #[Value.ref b] s none [] s with
      | none => simp [Cond.before, Cond.holds, Cond.value, hv] at hle
      | some w =>
        obtain ⟨t, cell, ht, hat, -⟩ := Term.length_spec hv
        have ht' : (some (Value.ref b) : Option Value) = some (.ref t) := ht
        cases ht'
        obtain ⟨hcell, -, hst, -⟩ := State.arrayAt?_spec hat
        cases Option.some.inj (x1.symm.trans hcell)
        exact hst
    refine ⟨scr, x1, ⟨x3, hst, fun h => by omega⟩, fun h => ?_, fun _ => ⟨⟨x2, fun h => by omega⟩, x4, x5⟩⟩
    have h' : 100 < 99 := h
    omega
  · obtain ⟨i, hi29, ei⟩ := wtx j hj
    obtain ⟨u, v, cellS, cellV, u1, -⟩ := w_S hs hi29
    have u1' : wEv s b (tmS (am_tx (j + 1))) = some (.ref u) := by rw [ei]; exact u1
    obtain ⟨a, cell, a1, a2, a3, a4, ⟨cf, kf, fi, f, f1, f2, f3⟩, ⟨cf', kf', fi', f', g1, g2, g3⟩⟩ := w_W hs hj u1'
    rw [wad_of (by omega) (by rw [wTm_W (by omega)]; exact a1)]
    obtain ⟨z1, z2⟩ := ws_1 N xs hj
    have z1' : (wH N xs).2.1 (j + 1) = (9, 0) := z1
    obtain ⟨r1, r2, r3⟩ := wr_1 j hj
    refine ⟨cell, a2, ⟨a3.1, a3.2, fun h => by omega⟩, fun _ => ?_, fun h => ?_⟩
    · rw [z1']
      refine ⟨(wdC_of (c := 9) a4).symm, fun k hk => ?_⟩
      have hk' : k < 2 := hk
      have hk2 : k = 0 ∨ k = 1 := by omega
      rcases hk2 with rfl | rfl
      · rw [wdI_of (c := 9) (k := 0) f1]
        have e : am_rd (wH N xs) (am_fk 9 0) (j + 1) 0 = .ref (am_tx (j + 1)) := by
          show am_rv (kR 75 (j + 1) 0) = _
          rw [r1]
          rfl
        show cell.slots[f.slot]? = some (am_val (wad s b) (wfv s b) (am_rd (wH N xs) (am_fk 9 0) (j + 1) 0))
        rw [e, w_val r2, wad_of r3 (by rw [ei, wTm_S]; exact u1)]
        exact f3
      · rw [wdI_of (c := 9) (k := 1) g1]
        have e : am_rd (wH N xs) (am_fk 9 1) (j + 1) 1 = .int (st_w (j + 1)) := by
          show Value.int (kB xs (j + 1) 1) = _
          rw [z2]
        show cell.slots[f'.slot]? = some (am_val (wad s b) (wfv s b) (am_rd (wH N xs) (am_fk 9 1) (j + 1) 1))
        rw [e]
        exact g3
    · rw [z1'] at h
      exact absurd h (by decide)
  · have hw : ∀ j, j < 14 → wEv s b (tmW (j + 1)) = some (.ref (wad s b (j + 1))) := fun j hj => by
      obtain ⟨i, hi29, ei⟩ := wtx j hj
      obtain ⟨u, v, cellS, cellV, u1, -⟩ := w_S hs hi29
      obtain ⟨a, cell, a1, -⟩ := w_W hs hj (show wEv s b (tmS (am_tx (j + 1))) = some (.ref u) by rw [ei]; exact u1)
      rw [wad_of (by omega) (by rw [wTm_W (by omega)]; exact a1)]
      exact a1
    obtain ⟨t, cell, t1, t2, t3, t4, t5, t6⟩ := w_A (f := fun j => .ref (wad s b (j + 1))) (hs _ wm_9.1) (hs _ wm_9.2) (by decide) (fun j hj => w_eqr (hs _ (wm_a j hj)) (hw j hj))
    rw [wad_of (by decide) (show wEv s b (wTm 15) = some (.ref t) from t1)]
    refine ⟨cell, t2, ⟨t4.1, t4.2, fun h => by omega⟩, fun h => ?_, fun _ => ⟨⟨t3, fun h => by omega⟩, t5, fun j hj => ?_⟩⟩
    · have h' : 105 < 99 := h
      omega
    · have hj' : j < 14 := hj
      rw [t6 j hj']
      have e : am_rd (wH N xs) (am_AK ((wH N xs).2.1 15).1) 15 j = .ref (j + 1) := by
        show am_rv (kR 75 15 j) = _
        rw [wr_2 j hj']
        rfl
      rw [e, w_val (by omega)]
  · obtain ⟨a, v, cell, cellV, a1, a2, ⟨a3, a4, a5, a6, ⟨cf, kf, fi, f, f1, f2, f3⟩, ⟨cf', kf', fi', f', g1, g2, g3⟩⟩, -⟩ := w_S hs hj
    rw [wad_of (by omega) (by rw [wTm_S]; exact a1)]
    obtain ⟨z1, z2, z3, z4⟩ := ws_2 N xs hj
    have z1' : (wH N xs).2.1 (16 + 2 * j) = (12, 0) := z1
    refine ⟨cell, a3, ⟨a4.1, a4.2, fun h => by omega⟩, fun _ => ?_, fun h => ?_⟩
    · rw [z1']
      refine ⟨(wdC_of (c := 12) a5).symm, fun k hk => ?_⟩
      have hk' : k < 2 := hk
      have hk2 : k = 0 ∨ k = 1 := by omega
      rcases hk2 with rfl | rfl
      · rw [wdI_of (c := 12) (k := 0) f1]
        have e : am_rd (wH N xs) (am_fk 12 0) (16 + 2 * j) 0 = .ref (17 + 2 * j) := by
          show am_rv (kR 75 (16 + 2 * j) 0) = _
          rw [wr_3 j hj]
          rfl
        show cell.slots[f.slot]? = some (am_val (wad s b) (wfv s b) (am_rd (wH N xs) (am_fk 12 0) (16 + 2 * j) 0))
        rw [e, w_val (by omega), wad_of (by omega) (by rw [wTm_V]; exact a2)]
        exact f3
      · rw [wdI_of (c := 12) (k := 1) g1]
        have e : am_rd (wH N xs) (am_fk 12 1) (16 + 2 * j) 1 = .int 0 := by
          show Value.int (kB xs (16 + 2 * j) 1) = _
          rw [z2]
        show cell.slots[f'.slot]? = some (am_val (wad s b) (wfv s b) (am_rd (wH N xs) (am_fk 12 1) (16 + 2 * j) 1))
        rw [e]
        exact g3
    · rw [z1'] at h
      exact absurd h (by decide)
  · obtain ⟨a, v, cell, cellV, a1, a2, -, b1, b2, b3, b4, b5⟩ := w_S hs hj
    rw [wad_of (by omega) (by rw [wTm_V]; exact a2)]
    obtain ⟨z1, z2, z3, z4⟩ := ws_2 N xs hj
    have z3' : (wH N xs).2.1 (17 + 2 * j) = (101, (st_l (16 + 2 * j)).length) := z3
    refine ⟨cellV, b1, ⟨b3.1, b3.2, fun h => by omega⟩, fun h => ?_, fun _ => ?_⟩
    · rw [z3'] at h
      exact absurd h (show ¬ 101 < 99 by decide)
    · rw [z3']
      refine ⟨⟨b2, fun h => by omega⟩, b4, fun k hk => ?_⟩
      rw [b5 k hk]
      show _ = some (Value.int (kB xs (17 + 2 * j) k))
      rw [z4]
end WORLD
