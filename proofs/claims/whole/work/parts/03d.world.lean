/-! THE WORLD OF THE ABSTRACT MACHINE IN THE REAL ONE: values, cells, the heap, locals -/
def am_val (ad : Nat → Nat) (fv : Value) : Value → Value
  | .ref i => if i = am_fm then fv else .ref (ad i)
  | v => v
def am_AT : Nat → FieldType
  | 100 => .int
  | 101 => .byte
  | 102 => .boolean
  | 103 => .long
  | 104 => .object "java/lang/String"
  | _ => .object "AlmondCabinet$Word"
def am_AK : Nat → Nat
  | 103 => 2
  | 104 => 1
  | 105 => 1
  | _ => 0
def am_fk (c k : Nat) : Nat := am_k1 (am_FK c k)
def am_c (h : am_H) : Nat := h.1.1 + h.1.2.1
/-- what a cell of the heap is, by its abstract picture -/
def am_cf (S : State) (ad : Nat → Nat) (fv : Value) (dC : Nat → ClassId) (dI : Nat → Nat → Nat) (h : am_H) (i : Nat) (cell : Cell) : Prop :=
  (cell.vm ≠ .unknown ∧ cell.vm.isStatics = false ∧ (75 ≤ i → cell.vm = .none)) ∧
  ((h.2.1 i).1 < 99 → cell.cls = dC (h.2.1 i).1 ∧ ∀ k, k < am_NN (h.2.1 i).1 → cell.slots[dI (h.2.1 i).1 k]? = some (am_val ad fv (am_rd h (am_fk (h.2.1 i).1 k) i k))) ∧
  (100 ≤ (h.2.1 i).1 → (S.isArrayOf cell (am_AT (h.2.1 i).1) ∧ (75 ≤ i → cell.monitor = {} ∧ cell.hash = none ∧ va_RA S cell.cls (am_AT (h.2.1 i).1))) ∧ cell.slots.size = (h.2.1 i).2 ∧ ∀ j, j < (h.2.1 i).2 → cell.slots[j]? = some (am_val ad fv (am_rd h (am_AK (h.2.1 i).1) i j)))
def am_HR (S : State) (ad : Nat → Nat) (fv : Value) (dC : Nat → ClassId) (dI : Nat → Nat → Nat) (h : am_H) (H : Heap) : Prop :=
  (∀ q, q < S.heap.size → H[q]? = S.heap[q]?) ∧ ((h.1.2.1 = 0 → H.size + 75 = S.heap.size + h.1.1) ∧ S.heap.size + h.1.1 ≤ H.size + 75) ∧ 75 ≤ h.1.1 ∧ (∀ i, h.1.1 ≤ i → (h.2.1 i).1 = 98) ∧ (h.2.1 am_fm).1 = 99 ∧
  ∀ i, i < h.1.1 → i ≠ am_fm → ∃ cell, H[ad i]? = some cell ∧ am_cf S ad fv dC dI h i cell
/-- a class: its number, its row; of those that are made: an ordinary one -/
def am_CA (S : State) (c : Nat) (d : ClassId) : Prop := S.vm.findClass (am_CN c) = some d ∧ ∃ kC : Class, S.vm.classes[d]? = some kC ∧ (c < 12 → kC.kind = .ordinary)
theorem am_CA_mv {u E : State} {c : Nat} {d : ClassId} (hvm : u.vm.Alike E.vm) (h : am_CA u c d) : am_CA E c d := by
  obtain ⟨h3, kC, hk, hkind⟩ := h
  obtain ⟨k', hk', he⟩ := hvm.2.2 _ _ hk
  exact ⟨by first | (rw [← hvm.findClass]; exact h3) | (rw [hvm.findClass]; exact h3), k', hk', fun q => by rw [he]; exact hkind q⟩
theorem am_CA_at {u : State} {c : Nat} {d : ClassId} (h : am_CA u c d) (hc : c < 12) : ClassAt u (am_CN c) d := by
  obtain ⟨h3, kC, hk, hkind⟩ := h
  exact ⟨h3, kC, hk, hkind hc⟩
/-- what is fixed: the tables' words at the law's start, addresses, classes and slots -/
def am_Wd (S : State) (A0 : Array Value) (ad : Nat → Nat) (fv : Value) (dC : Nat → ClassId) (dI : Nat → Nat → Nat) : Prop :=
  (∀ w ∈ lw_tbl, w.before A0 S = true) ∧ (∀ i, 75 ≤ i → ad i = S.heap.size + (i - 75)) ∧ (∀ i, i < 75 → i ≠ am_fm → ad i < S.heap.size) ∧
  (∀ c k, c < 13 → k < am_NN c → ∃ cf kf fi f, S.fieldFound? (am_TT c k).1 (am_TT c k).2.1 (am_TT c k).2.2.1 = some (cf, kf, fi, f) ∧ f.isStatic = false ∧ f.slot = dI c k) ∧
  (∀ c, c < 13 → am_CA S c (dC c)) ∧
  (∀ c k k', c < 13 → k < am_NN c → k' < am_NN c → k ≠ k' → dI c k ≠ dI c k') ∧
  (fv = .null ∨ ∃ a, fv = .ref a)
theorem am_inb_iff {i : Int32} {n : Nat} : am_inb i n = true ↔ vp_in i n := by
  unfold am_inb vp_in
  exact decide_eq_true_iff
section AMW
variable {S : State} {A0 : Array Value} {ad : Nat → Nat} {fv : Value} {dC : Nat → ClassId} {dI : Nat → Nat → Nat}
theorem am_val_ref {o : Nat} (h : o ≠ am_fm) : am_val ad fv (.ref o) = .ref (ad o) := by simp only [am_val, if_neg h]
theorem am_val_int (x : Int32) : am_val ad fv (.int x) = .int x := rfl
theorem am_val_long (x : Int64) : am_val ad fv (.long x) = .long x := rfl
theorem am_val_cat (hf : fv = .null ∨ ∃ a, fv = .ref a) (v : Value) : (am_val ad fv v).category = v.category := by
  cases v with
  | ref i =>
    show (if i = am_fm then fv else .ref (ad i)).category = _
    by_cases hi : i = am_fm
    · rw [if_pos hi]
      rcases hf with rfl | ⟨a, rfl⟩ <;> rfl
    · rw [if_neg hi]
      rfl
  | _ => rfl
/-- a thing with a shape is there, and isn't the one handed on -/
theorem am_HR_in {h : am_H} {H : Heap} (hr : am_HR S ad fv dC dI h H) {o a : Nat} (hs : (h.2.1 o).1 = a) (h1 : a ≠ 98) (h2 : a ≠ 99) : o < h.1.1 ∧ o ≠ am_fm := by
  obtain ⟨-, -, -, h4, h5, -⟩ := hr
  constructor
  · rcases Nat.lt_or_ge o h.1.1 with q | q
    · exact q
    · exact absurd ((h4 o q).symm.trans hs).symm h1
  · intro e
    subst e
    exact h2 (hs.symm.trans h5)
theorem am_HR_at {h : am_H} {H : Heap} (hr : am_HR S ad fv dC dI h H) {o a : Nat} (hs : (h.2.1 o).1 = a) (h1 : a ≠ 98) (h2 : a ≠ 99) : ∃ cell, H[ad o]? = some cell ∧ am_cf S ad fv dC dI h o cell := by
  obtain ⟨q1, q2⟩ := am_HR_in hr hs h1 h2
  exact hr.2.2.2.2.2 o q1 q2
/-- one cell changes, the others stay -/
theorem am_HR_upd {h h' : am_H} {H H' : Heap} (hw : am_Wd S A0 ad fv dC dI) (hr : am_HR S ad fv dC dI h H) {o : Nat} (ho : 75 ≤ o) (e1 : h'.1 = h.1) (e2 : h'.2.1 = h.2.1)
    (e3 : ∀ i, i ≠ o → ∀ k j, am_rd h' k i j = am_rd h k i j) {cell : Cell} (hc : H'[ad o]? = some cell) (hf : am_cf S ad fv dC dI h' o cell) (hz : H'.size = H.size) (hk : ∀ q, q ≠ ad o → H'[q]? = H[q]?) : am_HR S ad fv dC dI h' H' := by
  obtain ⟨h1, h2, h3, h4, h5, h6⟩ := hr
  obtain ⟨-, w1, w2, -⟩ := hw
  have hao := w1 o ho
  refine ⟨fun q hq => ?_, by rw [hz, e1]; exact h2, by rw [e1]; exact h3, by rw [e1, e2]; exact h4, by rw [e2]; exact h5, fun i hi hn => ?_⟩
  · rw [hk q (by omega)]
    exact h1 q hq
  · rw [e1] at hi
    by_cases hio : i = o
    · subst hio
      exact ⟨cell, hc, hf⟩
    · obtain ⟨ci, q1, q2, q3, q4⟩ := h6 i hi hn
      have hne : ad i ≠ ad o := by
        rcases Nat.lt_or_ge i 75 with q | q
        · have := w2 i q hn
          omega
        · have := w1 i q
          omega
      refine ⟨ci, by rw [hk _ hne]; exact q1, q2, ?_, ?_⟩
      · rw [e2]
        intro z
        obtain ⟨z1, z2⟩ := q3 z
        exact ⟨z1, fun k hk' => by rw [e3 i hio]; exact z2 k hk'⟩
      · rw [e2]
        intro z
        obtain ⟨z1, z2, z3⟩ := q4 z
        exact ⟨z1, z2, fun k hk' => by rw [e3 i hio]; exact z3 k hk'⟩
/-- a new cell -/
theorem am_HR_new {h : am_H} {H H' : Heap} (hw : am_Wd S A0 ad fv dC dI) (hr : am_HR S ad fv dC dI h H) {q : Nat × Nat} {w : Nat} (hg : h.1.2.1 = 0) (hq1 : q.1 ≠ 98) {cell : Cell} (hz : H'.size = H.size + 1) (hk : ∀ a, a < H.size → H'[a]? = H[a]?)
    (hc : H'[H.size]? = some cell) (hf : am_cf S ad fv dC dI (am_new h q w) h.1.1 cell) : ad h.1.1 = H.size ∧ am_HR S ad fv dC dI (am_new h q w) H' := by
  obtain ⟨h1, h2, h3, h4, h5, h6⟩ := hr
  obtain ⟨-, w1, w2, -⟩ := hw
  have hn := w1 h.1.1 h3
  have hsz : ad h.1.1 = H.size := by have := h2.1 hg; omega
  refine ⟨hsz, fun a ha => ?_, ⟨fun _ => ?_, ?_⟩, ?_, fun i hi => ?_, ?_, fun i hi hne => ?_⟩
  · rw [hk a (by omega)]
    exact h1 a ha
  · have := h2.1 hg
    show H'.size + 75 = S.heap.size + (h.1.1 + 1)
    omega
  · show S.heap.size + (h.1.1 + 1) ≤ H'.size + 75
    omega
  · show 75 ≤ h.1.1 + 1
    omega
  · simp only [am_new] at hi
    have : i ≠ h.1.1 := by omega
    simp only [am_new, am_up, if_neg this]
    exact h4 i (by omega)
  · have : am_fm ≠ h.1.1 := by
      have : am_fm < 75 := by decide
      omega
    simp only [am_new, am_up, if_neg this]
    exact h5
  · simp only [am_new] at hi
    by_cases hin : i = h.1.1
    · subst hin
      exact ⟨cell, by rw [hsz]; exact hc, hf⟩
    · obtain ⟨ci, q1, q2, q3, q4⟩ := h6 i (by omega) hne
      have hlt : ad i < H.size := (Array.getElem?_eq_some_iff.mp q1).1
      have hrd : ∀ k j, am_rd (am_new h q w) k i j = am_rd h k i j := by
        intro k j
        unfold am_rd am_new am_up
        simp only [if_neg hin]
      refine ⟨ci, by rw [hk _ hlt]; exact q1, q2, ?_, ?_⟩
      · simp only [am_new, am_up, if_neg hin]
        intro z
        obtain ⟨z1, z2⟩ := q3 z
        refine ⟨z1, fun k hk' => ?_⟩
        have := hrd (am_fk (h.2.1 i).1 k) k
        simp only [am_new, am_up] at this
        rw [this]
        exact z2 k hk'
      · simp only [am_new, am_up, if_neg hin]
        intro z
        obtain ⟨z1, z2, z3⟩ := q4 z
        refine ⟨z1, z2, fun k hk' => ?_⟩
        have := hrd (am_AK (h.2.1 i).1) k
        simp only [am_new, am_up] at this
        rw [this]
        exact z3 k hk'
/-- one cell more that nobody follows -/
theorem am_HR_gc {h : am_H} {H H' : Heap} (hr : am_HR S ad fv dC dI h H) {w : Nat} (hz : H.size ≤ H'.size) (hk : ∀ a, a < H.size → H'[a]? = H[a]?) : am_HR S ad fv dC dI (am_gc h w) H' := by
  obtain ⟨h1, h2, h3, h4, h5, h6⟩ := hr
  refine ⟨fun a ha => ?_, ⟨fun q => absurd q (Nat.succ_ne_zero _), ?_⟩, h3, h4, h5, fun i hi hne => ?_⟩
  · rw [hk a (by omega)]
    exact h1 a ha
  · show S.heap.size + h.1.1 ≤ H'.size + 75
    omega
  · obtain ⟨ci, q1, q2⟩ := h6 i hi hne
    exact ⟨ci, by rw [hk _ (Array.getElem?_eq_some_iff.mp q1).1]; exact q1, q2⟩
/-- locals -/
def am_LR (ad : Nat → Nat) (fv : Value) (nL : Nat) (ls : List Value) (lr : Array Slot) : Prop :=
  lr.size = nL ∧ lv_wf lr ∧ ls.length = nL ∧ ∀ (i : Nat) (v : Value), ls[i]? = some v → v ≠ am_u → lr[i]? = some (Slot.val (am_val ad fv v))
def am_lvl (ad : Nat → Nat) (fv : Value) (ls : List Value) : List (Nat × Value) := (List.range ls.length).filterMap (fun i => match ls[i]? with
  | some v => if v = am_u then none else some (i, am_val ad fv v)
  | none => none)
theorem am_lvl_mem {ls : List Value} {q : Nat × Value} : q ∈ am_lvl ad fv ls ↔ ∃ v, ls[q.1]? = some v ∧ v ≠ am_u ∧ q.2 = am_val ad fv v := by
  unfold am_lvl
  rw [List.mem_filterMap]
  constructor
  · rintro ⟨i, -, hi⟩
    cases hv : ls[i]? with
    | none => simp only [hv] at hi; cases hi
    | some v =>
      simp only [hv] at hi
      split at hi
      · cases hi
      · rename_i hne
        cases hi
        exact ⟨v, hv, hne, rfl⟩
  · rintro ⟨v, hv, hne, hq⟩
    refine ⟨q.1, List.mem_range.mpr (List.getElem?_eq_some_iff.mp hv).1, ?_⟩
    simp only [hv, if_neg hne]
    rw [← hq]
theorem am_LR_has {nL : Nat} {ls : List Value} {lr : Array Slot} (h : am_LR ad fv nL ls lr) : lv_has lr nL (am_lvl ad fv ls) := by
  refine ⟨h.1, h.2.1, fun q hq => ?_⟩
  obtain ⟨v, h1, h2, h3⟩ := am_lvl_mem.mp hq
  rw [h3]
  exact h.2.2.2 _ _ h1 h2
theorem am_set_some {ls l : List Value} {i : Nat} {v : Value} (h : am_set ls i v = some l) : i < ls.length ∧ l = ls.set i v ∧ (1 ≤ i → am_isl (ls.getD (i - 1) am_u) = false) := by
  unfold am_set at h
  cases hi : ls[i]? with
  | none => rw [hi] at h; cases h
  | some w =>
    rw [hi] at h
    refine ⟨(List.getElem?_eq_some_iff.mp hi).1, ?_⟩
    dsimp only at h
    cases hb : Nat.ble 1 i with
    | false =>
      rw [hb] at h
      cases h
      exact ⟨rfl, fun q => absurd (Nat.le_of_ble_eq_true (Nat.ble_eq_true_of_le q)) (by rw [Nat.ble_eq_true_of_le q] at hb; cases hb)⟩
    | true =>
      rw [hb] at h
      simp only [cond_true] at h
      cases hl : am_isl (ls.getD (i - 1) am_u) with
      | true => rw [hl] at h; cases h
      | false => rw [hl] at h; cases h; exact ⟨rfl, fun _ => rfl⟩
/-- a local is set: what the real locals are then -/
theorem am_LR_set (hf : fv = .null ∨ ∃ a, fv = .ref a) {nL : Nat} {ls l : List Value} {lr lr' : Array Slot} (h : am_LR ad fv nL ls lr) {i : Nat} {v w : Value} (hs : am_set ls i v = some l) (hw : v = am_u ∨ w = am_val ad fv v)
    (h' : lv_has lr' nL ((i, w) :: (am_lvl ad fv ls).filter (fun q => !(q.1 == i) && !(q.1 + 1 == i && q.2.category == 2)))) : am_LR ad fv nL l lr' := by
  obtain ⟨q1, rfl, q3⟩ := am_set_some hs
  refine ⟨h'.1, h'.2.1, by rw [List.length_set]; exact h.2.2.1, fun j x hj hx => ?_⟩
  by_cases hji : j = i
  · subst hji
    rw [List.getElem?_set_self q1] at hj
    cases hj
    rcases hw with e | rfl
    · exact absurd e hx
    · exact h'.2.2 _ List.mem_cons_self
  · rw [List.getElem?_set_ne (Ne.symm hji)] at hj
    refine h'.2.2 (j, am_val ad fv x) (List.mem_cons_of_mem _ (List.mem_filter.mpr ⟨am_lvl_mem.mpr ⟨x, hj, hx, rfl⟩, ?_⟩))
    simp only [Bool.and_eq_true, Bool.not_eq_true', beq_eq_false_iff_ne, ne_eq, hji, not_false_eq_true, true_and, Bool.and_eq_false_iff]
    by_cases hj1 : j + 1 = i
    · right
      have h1 := q3 (by omega)
      rw [show i - 1 = j by omega, List.getD_eq_getElem?_getD, hj, Option.getD_some] at h1
      rw [am_val_cat hf]
      unfold am_isl at h1
      intro e
      rw [e] at h1
      cases h1
    · exact Or.inl hj1
theorem am_LR_set2 (hf : fv = .null ∨ ∃ a, fv = .ref a) {nL : Nat} {ls l : List Value} {lr lr' : Array Slot} (h : am_LR ad fv nL ls lr) {i : Nat} {x : Int64} (hs : am_set ls i (.long x) = some l)
    (h' : lv_has lr' nL ((i, .long x) :: (am_lvl ad fv ls).filter (fun q => !(q.1 == i) && (!(q.1 == i + 1) && !(q.1 + 1 == i && q.2.category == 2))))) : am_LR ad fv nL (l.set (i + 1) am_u) lr' := by
  obtain ⟨q1, rfl, q3⟩ := am_set_some hs
  refine ⟨h'.1, h'.2.1, by rw [List.length_set, List.length_set]; exact h.2.2.1, fun j y hj hx => ?_⟩
  by_cases hj1 : j = i + 1
  · subst hj1
    by_cases hlt : i + 1 < (ls.set i (Value.long x)).length
    · rw [List.getElem?_set_self hlt] at hj
      cases hj
      exact absurd rfl hx
    · rw [List.getElem?_eq_none (by rw [List.length_set]; omega)] at hj
      cases hj
  · rw [List.getElem?_set_ne (Ne.symm hj1)] at hj
    by_cases hji : j = i
    · subst hji
      rw [List.getElem?_set_self q1] at hj
      cases hj
      exact h'.2.2 _ List.mem_cons_self
    · rw [List.getElem?_set_ne (Ne.symm hji)] at hj
      refine h'.2.2 (j, am_val ad fv y) (List.mem_cons_of_mem _ (List.mem_filter.mpr ⟨am_lvl_mem.mpr ⟨y, hj, hx, rfl⟩, ?_⟩))
      simp only [Bool.and_eq_true, Bool.not_eq_true', beq_eq_false_iff_ne, ne_eq, hji, hj1, not_false_eq_true, true_and, Bool.and_eq_false_iff]
      by_cases hj2 : j + 1 = i
      · right
        have h1 := q3 (by omega)
        rw [show i - 1 = j by omega, List.getD_eq_getElem?_getD, hj, Option.getD_some] at h1
        rw [am_val_cat hf]
        unfold am_isl at h1
        intro e
        rw [e] at h1
        cases h1
      · exact Or.inl hj2
end AMW
