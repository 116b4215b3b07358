/-! ONE STEP OF THE ABSTRACT MACHINE IS A WALK OF THE REAL ONE: the instructions that leave the heap as it is -/
/-- a frame of method k in the real machine -/
def am_Fr (S : State) (k : Nat) (p : Program) (s : State) (m : MethodId) (meth : Method) (c : Code) : Prop :=
  p.tables.exec = Jvm.exec ∧ c.code = am_B k ∧ c.maxLocals = am_ml k ∧ meth.sig.returnType = am_rt k ∧ s.vm.findClass (am_Y k).cls = some m.cls ∧ S.WarmedH s.vm ∧ meth.locks = false ∧ meth.name = (am_Y k).name ∧ c.exceptionTable.toList = tableOf (am_hh k) ∧ S.heap.size ≤ s.heap.size ∧ ∀ q, q < S.heap.size → s.heap[q]? = S.heap[q]?
def am_WG (S : State) (ad : Nat → Nat) (fv : Value) (dC : Nat → ClassId) (dI : Nat → Nat → Nat) (k : Nat) (p : Program) (l : Launch) (e : Env) (R : Room) (s : State) (m : MethodId) (args : Array Value) (below : List Frame) (meth : Method) (c : Code) (h0 : am_H) (Q : State → Prop) (pc : Nat) (ls st : List Value) (h : am_H) : Prop :=
  ∀ (H : Heap) (locs : List Loc) (lr : Array Slot), am_HR S ad fv dC dI h H → am_LR ad fv (am_ml k) ls lr → (∀ q ∈ locs, S.heap.size ≤ q.base) →
    W p l e R s m args below meth c H locs (am_c h - am_c h0) (h.1.2.2 - h0.1.2.2) Q (F0 m pc lr (st.map (am_val ad fv)))
section AMO
variable {S : State} {A0 : Array Value} {ad : Nat → Nat} {fv : Value} {dC : Nat → ClassId} {dI : Nat → Nat → Nat} {p : Program} {l : Launch} {e : Env} {R : Room} {s : State} {m : MethodId} {args : Array Value} {below : List Frame} {meth : Method} {c : Code} {k : Nat} {h0 : am_H} {Q : State → Prop}
variable {pc : Nat} {ls st : List Value} {h : am_H}
theorem so_push_iconst (F : am_Fr S k p s m meth c) {n : Int} (hd : decode (am_B k) pc = .ok (.iconst n, 1)) {v : Value} (hv : v = .int (Int32.ofInt n)) (K : am_WG S ad fv dC dI k p l e R s m args below meth c h0 Q (pc + 1) ls (v :: st) h) : am_WG S ad fv dC dI k p l e R s m args below meth c h0 Q pc ls st h := by
  subst hv
  exact fun H locs lr hr hl hf => lv_iconst F.1 F.2.1 hd rfl (K H locs lr hr hl hf)
theorem so_push_bipush (F : am_Fr S k p s m meth c) {n : Int} (hd : decode (am_B k) pc = .ok (.bipush n, 2)) {v : Value} (hv : v = .int (Int8.ofInt n).toInt32) (K : am_WG S ad fv dC dI k p l e R s m args below meth c h0 Q (pc + 2) ls (v :: st) h) : am_WG S ad fv dC dI k p l e R s m args below meth c h0 Q pc ls st h := by
  subst hv
  exact fun H locs lr hr hl hf => lv_bipush F.1 F.2.1 hd rfl (K H locs lr hr hl hf)
theorem so_push_sipush (F : am_Fr S k p s m meth c) {n : Int} (hd : decode (am_B k) pc = .ok (.sipush n, 3)) {v : Value} (hv : v = .int (Int16.ofInt n).toInt32) (K : am_WG S ad fv dC dI k p l e R s m args below meth c h0 Q (pc + 3) ls (v :: st) h) : am_WG S ad fv dC dI k p l e R s m args below meth c h0 Q pc ls st h := by
  subst hv
  exact fun H locs lr hr hl hf => lv_sipush F.1 F.2.1 hd rfl (K H locs lr hr hl hf)
theorem so_push_lconst (F : am_Fr S k p s m meth c) {n : Fin 2} (hd : decode (am_B k) pc = .ok (.lconst n, 1)) {v : Value} (hv : v = .long (Int64.ofNat n)) (K : am_WG S ad fv dC dI k p l e R s m args below meth c h0 Q (pc + 1) ls (v :: st) h) : am_WG S ad fv dC dI k p l e R s m args below meth c h0 Q pc ls st h := by
  subst hv
  exact fun H locs lr hr hl hf => lv_lconst F.1 F.2.1 hd rfl (K H locs lr hr hl hf)
/-- a word of the tables, at any frame -/
theorem am_word (hw : am_Wd S A0 ad fv dC dI) (F : am_Fr S k p s m meth c) {w : Cond} (hm : w ∈ lw_tbl) (hg : goodWord w = true) : w.before args s = true := word_at F.2.2.2.2.2.1 (good_of_word hg) (hw.1 w hm)
theorem so_push_ldc (hw : am_Wd S A0 ad fv dC dI) (F : am_Fr S k p s m meth c) {i : Nat} (hd : decode (am_B k) pc = .ok (.ldc i, 2)) {x : Int32} (hm : Cond.constant (am_Y k).cls i x ∈ lw_tbl) (K : am_WG S ad fv dC dI k p l e R s m args below meth c h0 Q (pc + 2) ls (.int x :: st) h) : am_WG S ad fv dC dI k p l e R s m args below meth c h0 Q pc ls st h :=
  fun H locs lr hr hl hf => lv_ldc F.1 F.2.1 F.2.2.2.2.1 (am_word hw F hm rfl) hd (K H locs lr hr hl hf)
theorem so_push_ldcw (hw : am_Wd S A0 ad fv dC dI) (F : am_Fr S k p s m meth c) {i : Nat} (hd : decode (am_B k) pc = .ok (.ldc_w i, 3)) {x : Int32} (hm : Cond.constant (am_Y k).cls i x ∈ lw_tbl) (K : am_WG S ad fv dC dI k p l e R s m args below meth c h0 Q (pc + 3) ls (.int x :: st) h) : am_WG S ad fv dC dI k p l e R s m args below meth c h0 Q pc ls st h :=
  fun H locs lr hr hl hf => lv_ldcw F.1 F.2.1 F.2.2.2.2.1 (am_word hw F hm rfl) hd (K H locs lr hr hl hf)
theorem so_push_ldc2 (hw : am_Wd S A0 ad fv dC dI) (F : am_Fr S k p s m meth c) {i : Nat} (hd : decode (am_B k) pc = .ok (.ldc2_w i, 3)) {x : Int64} (hm : Cond.constantLong (am_Y k).cls i x ∈ lw_tbl) (K : am_WG S ad fv dC dI k p l e R s m args below meth c h0 Q (pc + 3) ls (.long x :: st) h) : am_WG S ad fv dC dI k p l e R s m args below meth c h0 Q pc ls st h :=
  fun H locs lr hr hl hf => lv_ldc2 F.1 F.2.1 F.2.2.2.2.1 (am_word hw F hm rfl) hd (K H locs lr hr hl hf)
theorem so_push_str (F : am_Fr S k p s m meth c) {i q : Nat} {tx : String} (hq : q ≠ am_fm) (hR : vk_R (am_Y k).cls i tx (ad q) S) (hd : decode (am_B k) pc = .ok (.ldc i, 2)) (K : am_WG S ad fv dC dI k p l e R s m args below meth c h0 Q (pc + 2) ls (.ref q :: st) h) : am_WG S ad fv dC dI k p l e R s m args below meth c h0 Q pc ls st h := by
  intro H locs lr hr hl hf
  refine va_ldcS F.1 F.2.1 F.2.2.2.2.1 (hR.warm F.2.2.2.2.2.1) hd ?_
  have := K H locs lr hr hl hf
  rw [List.map_cons, am_val_ref hq] at this
  exact this
theorem so_push_strw (F : am_Fr S k p s m meth c) {i q : Nat} {tx : String} (hq : q ≠ am_fm) (hR : vk_R (am_Y k).cls i tx (ad q) S) (hd : decode (am_B k) pc = .ok (.ldc_w i, 3)) (K : am_WG S ad fv dC dI k p l e R s m args below meth c h0 Q (pc + 3) ls (.ref q :: st) h) : am_WG S ad fv dC dI k p l e R s m args below meth c h0 Q pc ls st h := by
  intro H locs lr hr hl hf T hT X
  have hZ := hR.warm F.2.2.2.2.2.1
  have := K H locs lr hr hl hf
  rw [List.map_cons, am_val_ref hq] at this
  obtain ⟨t, a1, b1⟩ := this T hT X
  obtain ⟨k0, cf, j, a', hk, hcf, hcp, -, hr0, hev'⟩ := Cond.stringRef_spec F.2.2.2.2.1 hZ.1
  cases hZ.2.symm.trans hev'
  obtain ⟨k', hk', he⟩ := X.warmed.alike.2.2 _ _ hk
  have hr' : k'.resolved[i]? = some (some (.string (ad q))) := by
    rcases X.warmed.entry hk hk' i with h | ⟨h, -⟩
    · rw [h]; exact hr0
    · rw [hr0] at h; cases h
  have hd' : decode c.code pc = .ok (.ldc_w i, 3) := by rw [F.2.1]; exact hd
  refine ⟨t, ?_, b1⟩
  jvm_step X.here [F.1, hd', ldc_w.wp_string (e := e) (s := T) (f := F0 m pc lr (st.map (am_val ad fv))) X.here.top hk' (by rw [he]; exact hcf) hcp hr']
  exact a1
/-- the rest of the world, as the rows of statics want it -/
theorem am_vaS (F : am_Fr S k p s m meth c) {H : Heap} {locs : List Loc} (hr : am_HR S ad fv dC dI h H) (hsz : s.heap.size ≤ H.size) (hf : ∀ q ∈ locs, S.heap.size ≤ q.base) : va_S (fun q => S.heap.size ≤ q) s.heap H locs := by
  obtain ⟨-, -, -, -, -, -, -, -, -, h1, h2⟩ := F
  exact ⟨hsz, fun q _ hq => by rw [hr.1 q (Nat.not_le.mp hq), h2 q (Nat.not_le.mp hq)], hf⟩
theorem am_vaZ (F : am_Fr S k p s m meth c) {C n d : String} {v : Value} (hZ : va_Z C n d v (fun q => S.heap.size ≤ q) S S.heap) : va_Z C n d v (fun q => S.heap.size ≤ q) s s.heap := by
  have h1 := va_Z.moved (U := s) F.2.2.2.2.2.1.alike hZ
  exact h1.kept (fun a ha hq => F.2.2.2.2.2.2.2.2.2.2 a ha)
theorem so_load {i pc' : Nat} {v : Value} (row : ∀ {H : Heap} {locs : List Loc} {lr : Array Slot} {rest : List Value} {cells slots : Nat}, lr[i]? = some (Slot.val (am_val ad fv v)) → W p l e R s m args below meth c H locs cells slots Q (F0 m pc' lr (am_val ad fv v :: rest)) → W p l e R s m args below meth c H locs cells slots Q (F0 m pc lr rest)) (hi : ls[i]? = some v) (hu : v ≠ am_u)
    (K : am_WG S ad fv dC dI k p l e R s m args below meth c h0 Q pc' ls (v :: st) h) : am_WG S ad fv dC dI k p l e R s m args below meth c h0 Q pc ls st h :=
  fun H locs lr hr hl hf => row (hl.2.2.2 i v hi hu) (K H locs lr hr hl hf)
end AMO
