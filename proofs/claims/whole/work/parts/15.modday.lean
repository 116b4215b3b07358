/-! the reference: a day -/
/-- the rule at sg gives f -/
def wM (sg j : Nat) (f : (Nat → Int32) → Int32) (I : Nat → Nat → Int32) : Prop := ∀ (g N : Nat) (sw lv : Bool) (L : Nat → Nat → Int64) (I' : Nat → Nat → Int32), (∀ i, i < 700 → I' sg i = I sg i) → I' 151 j = I 151 j →
  ∃ I'', am_R 196 2 0 [.ref 147, .ref sg, .int (I' 151 j), am_u, am_u, am_u] [] (am_hp g N sw lv I' L) = some (.inl (some (.int (f (I' 168)))), am_hp g N sw lv I'' L) ∧ ∀ a, a ≠ 169 → I'' a = I' a
/-- the reference's tables tell E -/
def qM (E : e_E) (I : Nat → Nat → Int32) : Prop := (∀ h, h < 8 → Int32.ofNat h < I 151 0 → I 154 h = e_al E h) ∧ (I 151 1 = Int32.ofNat (e_hc E) ∧ e_hc E ≤ 8 ∧ ∀ j, j < e_hc E → I 157 j = e_ht E j) ∧
  (decide (I 151 2 ≤ 0) = !(e_me E).isSome ∧ ∀ f, e_me E = some f → (∀ k k' : Nat → Int32, (∀ j, j < 5 → k j = k' j) → f k = f k') ∧ wM 158 2 f I) ∧
  (decide (I 151 3 ≤ 0) = !(e_ln E).isSome ∧ ∀ f, e_ln E = some f → (∀ k k' : Nat → Int32, (∀ j, j < 7 → k j = k' j) → f k = f k') ∧ wM 159 3 f I)
theorem wM_fr {sg j : Nat} {f : (Nat → Int32) → Int32} {I I' : Nat → Nat → Int32} (h : wM sg j f I) (e : ∀ i, i < 700 → I' sg i = I sg i) (e2 : I' 151 j = I 151 j) : wM sg j f I' :=
  fun g N sw lv L I2 h1 h2 => h g N sw lv L I2 (fun i q => (h1 i q).trans (e i q)) (h2.trans e2)
theorem qM_fr {E : e_E} {I I' : Nat → Nat → Int32} (h : qM E I) (e : ∀ a, 151 ≤ a → a ≤ 159 → I' a = I a) : qM E I' := by
  have e5 := e 151 (by omega) (by omega)
  have e6 := e 158 (by omega) (by omega)
  have e7 := e 159 (by omega) (by omega)
  unfold qM
  rw [e 154 (by omega) (by omega), e 151 (by omega) (by omega), e 157 (by omega) (by omega)]
  exact ⟨h.1, h.2.1, ⟨h.2.2.1.1, fun f hf => ⟨(h.2.2.1.2 f hf).1, wM_fr (h.2.2.1.2 f hf).2 (fun i _ => by rw [e6]) (by rw [e5])⟩⟩, ⟨h.2.2.2.1, fun f hf => ⟨(h.2.2.2.2 f hf).1, wM_fr (h.2.2.2.2 f hf).2 (fun i _ => by rw [e7]) (by rw [e5])⟩⟩⟩
/-- the heat of now is w -/
def hM (w : Int32) (I : Nat → Nat → Int32) : Prop := g_Mo_heatOf I = true ∧ v_Mo_heatOf I = w
theorem hM_fr {w : Int32} {I I' : Nat → Nat → Int32} (h : hM w I) (e1 : I' 147 37 = I 147 37) (e2 : I' 147 33 = I 147 33) (e3 : I' 151 = I 151) (e4 : I' 157 = I 157) : hM w I' := by
  unfold hM g_Mo_heatOf v_Mo_heatOf at h ⊢
  rw [e1, e2, e3, e4]
  exact h
/-- what a day leaves: all but these, and of 147 all but the day and who has fallen -/
def fM (I I' : Nat → Nat → Int32) : Prop := (∀ a, a ≠ 147 → a ≠ 162 → a ≠ 163 → a ≠ 168 → a ≠ 169 → a ≠ 170 → I' a = I a) ∧ ∀ j, j ≠ 33 → j ≠ 34 → I' 147 j = I 147 j
theorem fM_rfl {I : Nat → Nat → Int32} : fM I I := ⟨fun _ _ _ _ _ _ _ => rfl, fun _ _ _ => rfl⟩
theorem fM_tr {I I' I'' : Nat → Nat → Int32} (h1 : fM I I') (h2 : fM I' I'') : fM I I'' := ⟨fun a q1 q2 q3 q4 q5 q6 => (h2.1 a q1 q2 q3 q4 q5 q6).trans (h1.1 a q1 q2 q3 q4 q5 q6), fun j q1 q2 => (h2.2 j q1 q2).trans (h1.2 j q1 q2)⟩
section MODD
variable {g N : Nat} {sw lv : Bool} {I : Nat → Nat → Int32} {L : Nat → Nat → Int64} {T : tr_T} {E : e_E} {w : Int32}
theorem rM_fr {I' : Nat → Nat → Int32} (hr : rM T I) (h : ∀ a, a = 151 ∨ a = 162 ∨ a = 163 ∨ a = 164 ∨ a = 165 ∨ a = 166 → I' a = I a) (h1 : I' 147 33 = I 147 33) (h2 : I' 147 34 = I 147 34) : rM T I' := by
  unfold rM
  rw [h 151 (by omega), h 162 (by omega), h 163 (by omega), h 164 (by omega), h 165 (by omega), h 166 (by omega), h1, h2]
  exact hr
theorem rM_wS (hr : rM T I) {s x : Nat} (hx : x = b_no (t_n T) s) : rM (t_put T s (t_su T) (t_le T)) (am_up I 147 (upd (I 147) 34 (Int32.ofNat x))) := by
  obtain ⟨h0, h1, h2, h3, h4⟩ := hr
  refine ⟨?_, ?_, ?_, fun h hh => ?_, fun k hk => ?_⟩
  · rw [up_ne (by decide)]
    exact h0
  · rw [up_same, upd_ne (by decide)]
    exact h1
  · rw [up_same, upd_same, hx]
    rfl
  · rw [up_ne (by decide), up_ne (by decide), up_ne (by decide), up_ne (by decide)]
    exact h3 h hh
  · rw [up_ne (by decide)]
    exact h4 k hk
theorem rM_w1 (hr : rM T I) (h : Nat) (v : Int32) : rM (t_put T (t_s T) (upd (t_su T) h v) (t_le T)) (am_up I 162 (upd (I 162) h v)) := by
  obtain ⟨h0, h1, h2, h3, h4⟩ := hr
  refine ⟨?_, ?_, ?_, fun j hj => ?_, fun k hk => ?_⟩
  · rw [up_ne (by decide)]
    exact h0
  · rw [up_ne (by decide)]
    exact h1
  · rw [up_ne (by decide)]
    exact h2
  · rw [up_same, up_ne (by decide), up_ne (by decide), up_ne (by decide)]
    refine ⟨?_, (h3 j hj).2⟩
    show upd (I 162) h v j = upd (t_su T) h v j
    by_cases e : j = h
    · rw [e, upd_same, upd_same]
    · rw [upd_ne e, upd_ne e]
      exact (h3 j hj).1
  · rw [up_ne (by decide)]
    exact h4 k hk
theorem rM_w2 (hr : rM T I) (h : Nat) (v : Int32) : rM (t_put T (t_s T) (t_su T) (upd (t_le T) h v)) (am_up I 163 (upd (I 163) h v)) := by
  obtain ⟨h0, h1, h2, h3, h4⟩ := hr
  refine ⟨?_, ?_, ?_, fun j hj => ?_, fun k hk => ?_⟩
  · rw [up_ne (by decide)]
    exact h0
  · rw [up_ne (by decide)]
    exact h1
  · rw [up_ne (by decide)]
    exact h2
  · rw [up_ne (by decide), up_same, up_ne (by decide), up_ne (by decide)]
    refine ⟨(h3 j hj).1, ?_, (h3 j hj).2.2⟩
    show upd (I 163) h v j = upd (t_le T) h v j
    by_cases e : j = h
    · rw [e, upd_same, upd_same]
    · rw [upd_ne e, upd_ne e]
      exact (h3 j hj).2.1
  · rw [up_ne (by decide)]
    exact h4 k hk
theorem rM_ask (hr : rM T I) (ht : t_ok T) (hq : qM E I) (hw : hM w I) {h : Nat} (hh : h < t_n T) : ∃ I', am_R 195 2 0 [.ref 147, .int (Int32.ofNat h)] [] (am_hp g N sw lv I L) = some (.inl none, am_hp g N sw lv I' L) ∧ (∀ a, a ≠ 168 → I' a = I a) ∧ ∀ j, j < 5 → I' 168 j = t_kn E w T h 0 0 j := by
  have hn := ht.1
  have hi : am_inb (Int32.ofNat h) 8 = true := nb_inb (by omega) (by omega)
  have hi2 : am_inb (Int32.ofNat h) 16 = true := nb_inb (by omega) (by omega)
  have hf := hr.2.2.2.1 h hh
  have e0 := y_Mo_askOf_0 (g := g) (N := N) (sw := sw) (lv := lv) (I := I) (L := L) (Int32.ofNat h)
  rw [hi, hi2, nb_tn (by omega)] at e0
  obtain ⟨w1, w2⟩ : hM w (am_up (am_up I 168 (upd (I 168) 0 (I 162 h))) 168 (upd (upd (I 168) 0 (I 162 h)) 1 (I 154 h))) := hM_fr hw (by rw [up_ne (by decide), up_ne (by decide)]) (by rw [up_ne (by decide), up_ne (by decide)]) (by rw [up_ne (by decide), up_ne (by decide)]) (by rw [up_ne (by decide), up_ne (by decide)])
  rw [w1, w2] at e0
  simp only [cond_true] at e0
  refine ⟨_, e0, ?_, ?_⟩
  · intro a h
    rw [up_ne h, up_ne h, up_ne h, up_ne h, up_ne h]
  · intro j hj
    rw [up_same, hf.1, hf.2.1, hr.2.1, hq.1 h (by omega) (by rw [hr.1]; exact (nb_lt (by omega) (by omega)).mpr hh)]
    have : j = 0 ∨ j = 1 ∨ j = 2 ∨ j = 3 ∨ j = 4 := by omega
    rcases this with rfl | rfl | rfl | rfl | rfl <;> rfl
theorem rM_melts (hr : rM T I) (ht : t_ok T) (hq : qM E I) (hw : hM w I) {h : Nat} (hh : h < t_n T) : ∃ I', am_R 194 3 0 [.ref 147, .int (Int32.ofNat h), am_u] [] (am_hp g N sw lv I L) = some (.inl (some (.int (v_Rw_within (t_less E w T h) 0 20))), am_hp g N sw lv I' L) ∧ ∀ a, a ≠ 168 → a ≠ 169 → I' a = I a := by
  have hn := ht.1
  have hi2 : am_inb (Int32.ofNat h) 16 = true := nb_inb (by omega) (by omega)
  have e0 := y_Mo_meltsOf_0 (g := g) (N := N) (sw := sw) (lv := lv) (I := I) (L := L) (Int32.ofNat h)
  rw [hw.1, hw.2, hi2, nb_tn (by omega), hq.1 h (by omega) (by rw [hr.1]; exact (nb_lt (by omega) (by omega)).mpr hh), hq.2.2.1.1] at e0
  simp only [cond_true] at e0
  unfold t_less
  cases hm : e_me E with
  | none =>
    rw [hm, show (!(none : Option ((Nat → Int32) → Int32)).isSome) = true from rfl, cond_true, y_Mo_meltsOf_41 _ _] at e0
    exact ⟨I, e0, fun _ _ _ => rfl⟩
  | some f =>
    rw [hm, show (!(some f).isSome) = false from rfl, cond_false] at e0
    obtain ⟨I1, b1, b2, b3⟩ := rM_ask (g := g) (N := N) (sw := sw) (lv := lv) (L := L) hr ht hq hw hh
    obtain ⟨f1, f2⟩ := hq.2.2.1.2 f hm
    obtain ⟨I2, c1, c2⟩ := f2 g N sw lv L I1 (fun i _ => by rw [b2 158 (by omega)]) (by rw [b2 151 (by omega)])
    rw [b1, am_bd_ok, am_tn, y_Mo_meltsOf_26 _ _, c1, am_bd_ok, am_tl, y_Mo_meltsOf_40 _ _ _, y_Mo_meltsOf_41 _ _, f1 _ _ b3] at e0
    exact ⟨I2, e0, fun a h1 h2 => by rw [c2 a h2, b2 a h1]⟩
theorem rM_sugarOn (hr : rM T I) (ht : t_ok T) (b : Bool) {h : Nat} (hh : h < t_n T) : am_R 199 4 0 [.ref 147, .int (Int32.ofNat h), .int (sd b), am_u] [] (am_hp g N sw lv I L) = some (.inl (some (.int (t_sn T b h))), am_hp g N sw lv I L) := by
  have hn := ht.1
  rw [y_Mo_sugarOn_0 _ _, rM_next hr ht b hh, am_bd_ok, am_tl, y_Mo_sugarOn_6 _ _ _]
  unfold t_sn
  cases e : t_nx T b h with
  | none => rfl
  | some j =>
    have hj := (t_nx_lt ht hh e).1
    show cond (decide (Int32.ofNat j = (-1))) _ (cond (am_inb (Int32.ofNat j) 8) (some (Sum.inl (some (Value.int (I 162 (Int32.toNatClampNeg (Int32.ofNat j))))), _)) none) = _
    rw [d_f (nb_n1 (by omega)), c_t (nb_inb (by omega) (by omega)), nb_tn (by omega), (hr.2.2.2.1 j hj).1]
theorem m_cmp {x y : Int32} : v_Rw_within (cond (decide (x = y)) 0 (cond (decide (x ≤ y)) (-1) 1)) (-3) 3 = v_In_compare x y := by
  unfold v_In_compare
  by_cases h : x = y
  · rw [d_t h, h, d_t (Int32.le_refl y), d_t rfl]
    decide
  · rw [d_f h]
    by_cases h2 : x ≤ y
    · rw [d_t h2, d_f (show ¬ y ≤ x from fun q => h (Int32.le_antisymm h2 q))]
      decide
    · rw [d_f h2, d_t (show y ≤ x from (Int32.le_total x y).resolve_left h2), d_f h]
      decide
theorem rM_leans (hr : rM T I) (ht : t_ok T) (hq : qM E I) (hw : hM w I) {h : Nat} (hh : h < t_n T) : ∃ I', am_R 198 5 0 [.ref 147, .int (Int32.ofNat h), am_u, am_u, am_u] [] (am_hp g N sw lv I L) = some (.inl (some (.int (t_sw E w T h))), am_hp g N sw lv I' L) ∧ ∀ a, a ≠ 168 → a ≠ 169 → I' a = I a := by
  have hn := ht.1
  have e0 : am_R 198 5 0 [.ref 147, .int (Int32.ofNat h), am_u, am_u, am_u] [] (am_hp g N sw lv I L) = am_R 198 5 43 [.ref 147, .int (Int32.ofNat h), .int (t_sn T false h), .int (t_sn T true h), .int (cond (decide (w < 5)) 0 (cond (decide (t_sn T false h = t_sn T true h)) 0 (cond (decide (t_sn T false h ≤ t_sn T true h)) (-1) 1)))] [] (am_hp g N sw lv I L) := by
    rw [y_Mo_leansOf_0 _, show (.int (-1) : Value) = .int (sd false) from rfl, rM_sugarOn hr ht false hh, am_bd_ok, am_tl, y_Mo_leansOf_6 _ _, show (.int 1 : Value) = .int (sd true) from rfl, rM_sugarOn hr ht true hh, am_bd_ok, am_tl, y_Mo_leansOf_13 _ _ _, hw.1, hw.2]
    cases decide (w < 5) <;> cases decide (t_sn T false h = t_sn T true h) <;> cases decide (t_sn T false h ≤ t_sn T true h) <;> rfl
  rw [y_Mo_leansOf_43 _ _ _ _, hq.2.2.2.1] at e0
  unfold t_sw
  cases hm : e_ln E with
  | none =>
    rw [hm, show (!(none : Option ((Nat → Int32) → Int32)).isSome) = true from rfl, cond_true, y_Mo_leansOf_88 _ _ _ _] at e0
    refine ⟨I, ?_, fun _ _ _ => rfl⟩
    rw [e0]
    show some (Sum.inl (some (Value.int (v_Rw_within _ (-3) 3))), _) = some (Sum.inl (some (Value.int (cond (decide (w < 5)) 0 (v_In_compare (t_sn T false h) (t_sn T true h))))), _)
    cases decide (w < 5) with
    | true => rfl
    | false =>
      rw [cond_false, cond_false, m_cmp]
  | some f =>
    rw [hm, show (!(some f).isSome) = false from rfl, cond_false] at e0
    obtain ⟨I1, b1, b2, b3⟩ := rM_ask (g := g) (N := N) (sw := sw) (lv := lv) (L := L) hr ht hq hw hh
    obtain ⟨f1, f2⟩ := hq.2.2.2.2 f hm
    obtain ⟨I2, c1, c2⟩ := f2 g N sw lv L (am_up (am_up I1 168 (upd (I1 168) 5 (t_sn T false h))) 168 (upd (upd (I1 168) 5 (t_sn T false h)) 6 (t_sn T true h))) (fun i _ => by rw [up_ne (by omega), up_ne (by omega), b2 159 (by omega)]) (by rw [up_ne (by omega), up_ne (by omega), b2 151 (by omega)])
    rw [up_ne (show 151 ≠ 168 by decide), up_ne (show 151 ≠ 168 by decide)] at c1
    refine ⟨I2, ?_, fun a h1 h2 => by rw [c2 a h2, up_ne h1, up_ne h1, b2 a h1]⟩
    rw [b1, am_bd_ok, am_tn, y_Mo_leansOf_57 _ _ _ _, c1, am_bd_ok, am_tl, y_Mo_leansOf_86 _ _ _ _ _, y_Mo_leansOf_88 _ _ _ _, up_same] at e0
    rw [e0, f1 _ (t_kn E w T h (t_sn T false h) (t_sn T true h))]
    · rfl
    · intro j hj
      have : j < 5 ∨ j = 5 ∨ j = 6 := by omega
      rcases this with h5 | rfl | rfl
      · rw [upd_ne (by omega), upd_ne (by omega), b3 j h5]
        have : j = 0 ∨ j = 1 ∨ j = 2 ∨ j = 3 ∨ j = 4 := by omega
        rcases this with rfl | rfl | rfl | rfl | rfl <;> rfl
      · rfl
      · rfl
/-- a day's steps, the day itself not yet gone by -/
def fN (I I' : Nat → Nat → Int32) : Prop := fM I I' ∧ I' 147 33 = I 147 33
theorem fN_rfl {I : Nat → Nat → Int32} : fN I I := ⟨fM_rfl, rfl⟩
theorem fN_tr {I I' I'' : Nat → Nat → Int32} (h1 : fN I I') (h2 : fN I' I'') : fN I I'' := ⟨fM_tr h1.1 h2.1, h2.2.trans h1.2⟩
theorem fN_of {I I' : Nat → Nat → Int32} (h : ∀ a, a ≠ 162 → a ≠ 163 → a ≠ 168 → a ≠ 169 → a ≠ 170 → I' a = I a) : fN I I' := ⟨⟨fun a _ q2 q3 q4 q5 q6 => h a q2 q3 q4 q5 q6, fun j _ _ => by rw [h 147 (by decide) (by decide) (by decide) (by decide) (by decide)]⟩, by rw [h 147 (by decide) (by decide) (by decide) (by decide) (by decide)]⟩
theorem fN_34 (x : Int32) : fN I (am_up I 147 (upd (I 147) 34 x)) := ⟨⟨fun a h _ _ _ _ _ => up_ne h, fun j _ h => by rw [up_same, upd_ne h]⟩, by rw [up_same, upd_ne (by decide)]⟩
theorem hM_fN {I' : Nat → Nat → Int32} (h : hM w I) (e : fN I I') : hM w I' := hM_fr h (e.1.2 37 (by decide) (by decide)) e.2 (e.1.1 151 (by decide) (by decide) (by decide) (by decide) (by decide) (by decide)) (e.1.1 157 (by decide) (by decide) (by decide) (by decide) (by decide) (by decide))
theorem qM_fN {I' : Nat → Nat → Int32} (h : qM E I) (e : fM I I') : qM E I' := qM_fr h (fun a h1 h2 => e.1 a (by omega) (by omega) (by omega) (by omega) (by omega) (by omega))
theorem rM_off (hr : rM T I) (ht : t_ok T) {h : Nat} (hh : h < t_n T) : rM (t_off T h) (am_up I 147 (upd (I 147) 34 ((I 147 34) ||| (1 <<< (Int32.ofNat h &&& 31))))) := by
  have hn := ht.1
  rw [hr.2.2.1, bt_on _ (b_no_lt _ (by omega) _ ht.2.1) _ (by omega)]
  exact rM_wS hr (b_no_on _ (by omega) _ ht.2.1 _ hh)
theorem rM_dayA (ht : t_ok T) : ∀ c k (I : Nat → Nat → Int32), k + c = t_n T → rM (fd k (t_m1 E w) T) I → qM E I → hM w I → ∃ I', am_R 193 6 2 [.ref 147, .int (Int32.ofNat k), am_u] [] (am_hp g N sw lv I L) = am_R 193 6 74 [.ref 147, .int 0, am_u] [] (am_hp g N sw lv I' L) ∧ rM (fd (t_n T) (t_m1 E w) T) I' ∧ fN I I'
  | 0, k, I, hk, hr, hq, hw => ⟨I, by
    have hn := ht.1
    obtain ⟨-, m2⟩ := t_mm_ok (E := E) (w := w) ht k (by omega)
    rw [y_Mo_aDay_2 _, hr.1, m2, nb_dle (by omega) (by omega), d_t (by omega : t_n T ≤ k)], by rw [show t_n T = k by omega]; exact hr, fN_rfl⟩
  | c + 1, k, I, hk, hr, hq, hw => by
    have hn := ht.1
    obtain ⟨m1, m2⟩ := t_mm_ok (E := E) (w := w) ht k (by omega)
    have hh : k < t_n (fd k (t_m1 E w) T) := by omega
    have hi : am_inb (Int32.ofNat k) 8 = true := nb_inb (by omega) (by omega)
    have e0 := y_Mo_aDay_2 (g := g) (N := N) (sw := sw) (lv := lv) (I := I) (L := L) (Int32.ofNat k)
    rw [hr.1, m2, nb_dle (by omega) (by omega), d_f (by omega : ¬ t_n T ≤ k), rM_stands hr m1 hh, hi, cond_true, nb_tn (by omega)] at e0
    cases hu : t_up (fd k (t_m1 E w) T) k with
    | false =>
      rw [hu, cond_false, d_t rfl, nb_s] at e0
      obtain ⟨I', a1, a2, a3⟩ := rM_dayA ht c (k + 1) I (by omega) (by
        show rM (t_m1 E w k (fd k (t_m1 E w) T)) I
        have : t_m1 E w k (fd k (t_m1 E w) T) = fd k (t_m1 E w) T := c_f hu
        rw [this]
        exact hr) hq hw
      exact ⟨I', e0.trans a1, a2, a3⟩
    | true =>
      obtain ⟨I1, b1, b2⟩ := rM_melts (g := g) (N := N) (sw := sw) (lv := lv) (L := L) hr m1 hq hw hh
      have f1 : fN I I1 := fN_of (fun a q1 q2 q3 q4 q5 => b2 a q3 q4)
      have hr1 : rM (fd k (t_m1 E w) T) I1 := rM_fr hr (fun a q => b2 a (by omega) (by omega)) (by rw [b2 147 (by decide) (by decide)]) (by rw [b2 147 (by decide) (by decide)])
      rw [hu, cond_true, d_f (by decide : ¬ (1 : Int32) = 0), b1, am_bd_ok, am_tl, y_Mo_aDay_40 _ _ _ _ _, hi, nb_tn (by omega), upd_same] at e0
      simp only [cond_true] at e0
      rw [(hr.2.2.2.1 k hh).1, show v_Ma_max 0 (t_su (fd k (t_m1 E w) T) k - v_Rw_within (t_less E w (fd k (t_m1 E w) T) k) 0 20) = t_mv E w (fd k (t_m1 E w) T) k from rfl] at e0
      have em : t_m1 E w k (fd k (t_m1 E w) T) = t_put (fd k (t_m1 E w) T) (cond (decide (t_mv E w (fd k (t_m1 E w) T) k = 0)) (b_off (t_s (fd k (t_m1 E w) T)) k) (t_s (fd k (t_m1 E w) T))) (upd (t_su (fd k (t_m1 E w) T)) k (t_mv E w (fd k (t_m1 E w) T) k)) (t_le (fd k (t_m1 E w) T)) := c_t hu
      have w1 := rM_w1 hr1 k (t_mv E w (fd k (t_m1 E w) T) k)
      have g1 : fN I1 (am_up I1 162 (upd (I1 162) k (t_mv E w (fd k (t_m1 E w) T) k))) := fN_of (fun a q1 q2 q3 q4 q5 => up_ne q1)
      by_cases hz : t_mv E w (fd k (t_m1 E w) T) k = 0
      · rw [d_t hz, nb_s] at e0
        have w2 := rM_wS (s := b_off (t_s (fd k (t_m1 E w) T)) k) w1 (b_no_on _ (by omega) _ m1.2.1 _ hh)
        rw [← bt_on _ (b_no_lt _ (by omega) _ m1.2.1) _ (by omega), ← hr1.2.2.1] at w2
        rw [up_ne (show 147 ≠ 162 by decide)] at w2
        have g2 := fN_34 (I := am_up I1 162 (upd (I1 162) k (t_mv E w (fd k (t_m1 E w) T) k))) ((I1 147 34) ||| (1 <<< (Int32.ofNat k &&& 31)))
        rw [up_ne (show 147 ≠ 162 by decide)] at g2
        have f2 := fN_tr f1 (fN_tr g1 g2)
        obtain ⟨I', a1, a2, a3⟩ := rM_dayA ht c (k + 1) _ (by omega) (by
          show rM (t_m1 E w k (fd k (t_m1 E w) T)) _
          rw [em, d_t hz]
          exact w2) (qM_fN hq f2.1) (hM_fN hw f2)
        exact ⟨I', e0.trans a1, a2, fN_tr f2 a3⟩
      · rw [d_f hz, nb_s] at e0
        have f2 := fN_tr f1 g1
        obtain ⟨I', a1, a2, a3⟩ := rM_dayA ht c (k + 1) _ (by omega) (by
          show rM (t_m1 E w k (fd k (t_m1 E w) T)) _
          rw [em, d_f hz]
          exact w1) (qM_fN hq f2.1) (hM_fN hw f2)
        exact ⟨I', e0.trans a1, a2, fN_tr f2 a3⟩
theorem rM_dayB (ht : t_ok T) : ∀ c k (I : Nat → Nat → Int32), k + c = t_n T → rM T I → qM E I → hM w I → (∀ h, h < k → I 170 h = t_sv E w T h) → ∃ I', am_R 193 6 74 [.ref 147, .int (Int32.ofNat k), am_u] [] (am_hp g N sw lv I L) = am_R 193 6 115 [.ref 147, .int 0, am_u] [] (am_hp g N sw lv I' L) ∧ (∀ a, a ≠ 168 → a ≠ 169 → a ≠ 170 → I' a = I a) ∧ ∀ h, h < t_n T → I' 170 h = t_sv E w T h
  | 0, k, I, hk, hr, hq, hw, hz => ⟨I, by
    have hn := ht.1
    rw [y_Mo_aDay_74 _, hr.1, nb_dle (by omega) (by omega), d_t (by omega : t_n T ≤ k)], fun _ _ _ _ => rfl, fun h hh => hz h (by omega)⟩
  | c + 1, k, I, hk, hr, hq, hw, hz => by
    have hn := ht.1
    have hh : k < t_n T := by omega
    have hi : am_inb (Int32.ofNat k) 8 = true := nb_inb (by omega) (by omega)
    have key : ∃ I1, am_R 193 6 74 [.ref 147, .int (Int32.ofNat k), am_u] [] (am_hp g N sw lv I L) = am_R 193 6 74 [.ref 147, .int (Int32.ofNat (k + 1)), am_u] [] (am_hp g N sw lv (am_up I1 170 (upd (I1 170) k (t_sv E w T k))) L) ∧ ∀ a, a ≠ 168 → a ≠ 169 → I1 a = I a := by
      rw [y_Mo_aDay_74 _, hr.1, nb_dle (by omega) (by omega), d_f (by omega : ¬ t_n T ≤ k), rM_stands hr ht hh]
      unfold t_sv
      cases hu : t_up T k with
      | false =>
        refine ⟨I, ?_, fun _ _ _ => rfl⟩
        rw [cond_false, d_t rfl, hi, cond_true, nb_tn (by omega), nb_s]
        rfl
      | true =>
        obtain ⟨I1, b1, b2⟩ := rM_leans (g := g) (N := N) (sw := sw) (lv := lv) (L := L) hr ht hq hw hh
        refine ⟨I1, ?_, b2⟩
        rw [cond_true, d_f (by decide : ¬ (1 : Int32) = 0), b1, am_bd_ok, am_tl, y_Mo_aDay_102 _ _ _, hi, cond_true, nb_tn (by omega), nb_s]
        rfl
    obtain ⟨I1, k1, k2⟩ := key
    have f1 : fN I (am_up I1 170 (upd (I1 170) k (t_sv E w T k))) := fN_of (fun a q1 q2 q3 q4 q5 => by rw [up_ne q5]; exact k2 a q3 q4)
    obtain ⟨I2, a1, a2, a3⟩ := rM_dayB ht c (k + 1) (am_up I1 170 (upd (I1 170) k (t_sv E w T k))) (by omega)
      (rM_fr hr (fun a q => by rw [up_ne (by omega)]; exact k2 a (by omega) (by omega)) (by rw [up_ne (by decide), k2 147 (by decide) (by decide)]) (by rw [up_ne (by decide), k2 147 (by decide) (by decide)]))
      (qM_fN hq f1.1) (hM_fN hw f1)
      (fun h h2 => by
        rw [up_same]
        by_cases e : h = k
        · rw [e, upd_same]
        · rw [upd_ne e, k2 170 (by decide) (by decide)]
          exact hz h (by omega))
    exact ⟨I2, k1.trans a1, fun a h1 h2 h3 => by rw [a2 a h1 h2 h3, up_ne h3, k2 a h1 h2], a3⟩
theorem t_syk_s (ht : t_ok T) {k : Nat} (hk : k < t_n T) : t_put (t_syk E w T k) (t_s (t_syk E w T k)) (t_su (t_syk E w T k)) (upd (t_le (t_syk E w T k)) k (v_Rw_within (t_le T k + t_sv E w T k) (-9) 9)) = t_syk E w T (k + 1) := by
  show t_put T _ _ _ = t_put T _ _ _
  congr 1
  funext h
  show upd (fun h => cond (decide (h < k)) _ _) k _ h = cond (decide (h < k + 1)) _ _
  by_cases e : h = k
  · rw [e, upd_same, d_t (Nat.lt_succ_self k)]
  · rw [upd_ne e, decide_eq_decide.mpr (show h < k + 1 ↔ h < k by omega)]
theorem t_syk_n (ht : t_ok T) {k : Nat} (hk : k < t_n T) (hu : t_up T k = false) : t_syk E w T (k + 1) = t_syk E w T k := by
  show t_put T _ _ _ = t_put T _ _ _
  congr 1
  funext h
  show cond (decide (h < k + 1)) _ _ = cond (decide (h < k)) _ _
  by_cases e : h = k
  · subst e
    have h9 := (ht.2.2.2.1 h hk).2.1
    have : t_sv E w T h = 0 := c_f hu
    rw [d_t (Nat.lt_succ_self h), d_f (Nat.lt_irrefl h), this, Int32.add_zero]
    exact i_wid h9.1 h9.2
  · rw [decide_eq_decide.mpr (show h < k + 1 ↔ h < k by omega)]
theorem rM_dayC (ht : t_ok T) : ∀ c k (I : Nat → Nat → Int32), k + c = t_n T → rM (t_syk E w T k) I → (∀ h, h < t_n T → I 170 h = t_sv E w T h) → ∃ I', am_R 193 6 115 [.ref 147, .int (Int32.ofNat k), am_u] [] (am_hp g N sw lv I L) = am_R 193 6 163 [.ref 147, .int 0, am_u] [] (am_hp g N sw lv I' L) ∧ rM (t_sy E w T) I' ∧ ∀ a, a ≠ 163 → I' a = I a
  | 0, k, I, hk, hr, hz => ⟨I, by
    have hn := ht.1
    rw [y_Mo_aDay_115 _, hr.1, show t_n (t_syk E w T k) = t_n T from rfl, nb_dle (by omega) (by omega), d_t (by omega : t_n T ≤ k)], by
      have : k = t_n T := by omega
      subst this
      exact hr, fun _ _ => rfl⟩
  | c + 1, k, I, hk, hr, hz => by
    have hn := ht.1
    have hh : k < t_n T := by omega
    have hi : am_inb (Int32.ofNat k) 8 = true := nb_inb (by omega) (by omega)
    have e2 : I 163 k = t_le T k := by
      rw [(hr.2.2.2.1 k hh).2.1]
      exact d_f (Nat.lt_irrefl k)
    have est : v_Mo_stands I (Int32.ofNat k) = cond (t_up T k) 1 0 := by
      unfold v_Mo_stands
      rw [hr.2.2.1, show b_no (t_n (t_syk E w T k)) (t_s (t_syk E w T k)) = b_no (t_n T) (t_s T) from rfl, m_isof _ (b_no_lt _ (by omega) _ ht.2.1) _ (by omega), b_no_at (t_n T) (by omega) (t_s T) ht.2.1 k hh]
      show _ = cond ((t_s T).testBit k) 1 0
      cases (t_s T).testBit k <;> rfl
    have e0 := y_Mo_aDay_115 (g := g) (N := N) (sw := sw) (lv := lv) (I := I) (L := L) (Int32.ofNat k)
    rw [hr.1, show t_n (t_syk E w T k) = t_n T from rfl, nb_dle (by omega) (by omega), d_f (by omega : ¬ t_n T ≤ k), est, hi, nb_tn (by omega), e2, hz k hh, nb_s] at e0
    simp only [cond_true] at e0
    cases hu : t_up T k with
    | false =>
      rw [hu, cond_false, d_t rfl] at e0
      obtain ⟨I', a1, a2, a3⟩ := rM_dayC ht c (k + 1) I (by omega) (by rw [t_syk_n ht hh hu]; exact hr) hz
      exact ⟨I', e0.trans a1, a2, a3⟩
    | true =>
      rw [hu, cond_true, d_f (by decide : ¬ (1 : Int32) = 0)] at e0
      have w2 := rM_w2 hr k (v_Rw_within (t_le T k + t_sv E w T k) (-9) 9)
      rw [t_syk_s ht hh] at w2
      obtain ⟨I', a1, a2, a3⟩ := rM_dayC ht c (k + 1) _ (by omega) w2 (fun h h2 => by rw [up_ne (by decide)]; exact hz h h2)
      exact ⟨I', e0.trans a1, a2, fun a h => by rw [a3 a h, up_ne h]⟩
theorem t_nx_st (ht : t_ok T) {b : Bool} {h j : Nat} (hh : h < t_n T) (e : t_nx T b h = some j) : cond b (t_n T - t_st T j) (t_st T j + 1) + 1 ≤ cond b (t_n T - t_st T h) (t_st T h + 1) := by
  unfold t_nx at e
  rw [Option.map_eq_some_iff] at e
  obtain ⟨k, e, rfl⟩ := e
  have h1 := (ht.2.2.2.1 h hh).2.2.2.2.1
  cases b with
  | true =>
    obtain ⟨a, b, c⟩ := fs_some e
    have := (ht.2.2.2.2 k (by omega)).2
    show t_n T - t_st T (t_hd T k) + 1 ≤ t_n T - t_st T h
    omega
  | false =>
    obtain ⟨a, c⟩ := ls_some e
    have := (ht.2.2.2.2 k (by omega)).2
    show t_st T (t_hd T k) + 1 + 1 ≤ t_st T h + 1
    omega
theorem rM_fallL (x : Int32) (b : Bool) : ∀ (f h : Nat) (T : tr_T) (w4 : Value) (I : Nat → Nat → Int32), h < t_n T → cond b (t_n T - t_st T h) (t_st T h + 1) ≤ f → rM T I → t_ok T → ∃ I', am_R 201 4 2 [.ref 147, .int x, .int (sd b), .int (Int32.ofNat h), w4] [] (am_hp g N sw lv I L) = some (.inl none, am_hp g N sw lv I' L) ∧ rM (t_tp f b h T) I' ∧ fN I I'
  | 0, h, T, w4, I, hh, hm, hr, ht => by
    have h1 := (ht.2.2.2.1 h hh).2.2.2.2.1
    cases b with
    | true =>
      have : t_n T - t_st T h ≤ 0 := hm
      omega
    | false =>
      have : t_st T h + 1 ≤ 0 := hm
      omega
  | f + 1, h, T, w4, I, hh, hm, hr, ht => by
    have hn := ht.1
    have hr1 := rM_off hr ht hh
    have ht1 := t_off_ok ht h
    have hh1 : h < t_n (t_off T h) := hh
    have f1 := fN_34 (I := I) ((I 147 34) ||| (1 <<< (Int32.ofNat h &&& 31)))
    have e0 := y_Mo_fall_2 (g := g) (N := N) (sw := sw) (lv := lv) (I := I) (L := L) x (sd b) (Int32.ofNat h) w4
    rw [d_f (nb_n1 (by omega)), rM_next hr1 ht1 b hh1, am_bd_ok, am_tl, y_Mo_fall_25 _ _ _ _ _] at e0
    have fin : ∀ (w4 : Value) (I : Nat → Nat → Int32), am_R 201 4 2 [.ref 147, .int x, .int (sd b), .int (-1), w4] [] (am_hp g N sw lv I L) = some (.inl none, am_hp g N sw lv I L) := by
      intro w4 I
      rw [y_Mo_fall_2 _ _ _ _, d_t rfl]
    unfold t_tp
    cases e : t_nx (t_off T h) b h with
    | none =>
      rw [e, show oi none = -1 from rfl, d_t rfl, d_t rfl, fin] at e0
      exact ⟨_, e0, hr1, f1⟩
    | some j =>
      obtain ⟨hj, -⟩ := t_nx_lt ht1 hh1 e
      have hj' : j < t_n T := hj
      have hm2 : cond b (t_n T - t_st T j) (t_st T j + 1) + 1 ≤ cond b (t_n T - t_st T h) (t_st T h + 1) := t_nx_st ht1 hh1 e
      have hi : am_inb (Int32.ofNat j) 8 = true := nb_inb (by omega) (by omega)
      rw [e, show oi (some j) = Int32.ofNat j from rfl, d_f (nb_n1 (by omega)), d_f (nb_n1 (by omega)), hi, nb_tn (by omega), upd_same] at e0
      simp only [cond_true] at e0
      rw [(hr1.2.2.2.1 j hj).2.1, show t_le (t_off T h) j = t_le T j from rfl, show v_Mo_kept (t_le T j + 2 * sd b) = v_Rw_within (t_le T j + 2 * sd b) (-9) 9 from rfl, Int32.mul_comm (sd b) 9] at e0
      have hr2 : rM (t_kick b (t_off T h) j) _ := rM_w2 hr1 j (v_Rw_within (t_le T j + 2 * sd b) (-9) 9)
      have ht2 := t_kick_ok ht1 b j
      have f2 : fN I _ := fN_tr f1 (fN_of (I' := am_up (am_up I 147 (upd (I 147) 34 ((I 147 34) ||| (1 <<< (Int32.ofNat h &&& 31))))) 163 (upd (am_up I 147 (upd (I 147) 34 ((I 147 34) ||| (1 <<< (Int32.ofNat h &&& 31)))) 163) j (v_Rw_within (t_le T j + 2 * sd b) (-9) 9))) (fun a q1 q2 q3 q4 q5 => up_ne q2))
      show ∃ I', _ ∧ rM (cond _ _ _) I' ∧ _
      by_cases hd : v_Rw_within (t_le T j + 2 * sd b) (-9) 9 = 9 * sd b
      · rw [d_t hd] at e0
        rw [d_t hd]
        obtain ⟨I', a1, a2, a3⟩ := rM_fallL x b f j (t_kick b (t_off T h) j) (.int (Int32.ofNat j)) _ hj (by show cond b (t_n T - t_st T j) (t_st T j + 1) ≤ f; omega) hr2 ht2
        exact ⟨I', e0.trans a1, a2, fN_tr f2 a3⟩
      · rw [d_f hd] at e0
        rw [d_f hd]
        rw [fin] at e0
        exact ⟨_, e0, hr2, f2⟩
theorem rM_fall (hr : rM T I) (ht : t_ok T) (b : Bool) {h : Nat} (hh : h < t_n T) : ∃ I', am_R 201 4 0 [.ref 147, .int (Int32.ofNat h), .int (sd b), am_u, am_u] [] (am_hp g N sw lv I L) = some (.inl none, am_hp g N sw lv I' L) ∧ rM (t_tp (t_n T) b h T) I' ∧ fN I I' := by
  have h1 := (ht.2.2.2.1 h hh).2.2.2.2.1
  obtain ⟨I', a1, a2, a3⟩ := rM_fallL (g := g) (N := N) (sw := sw) (lv := lv) (L := L) (Int32.ofNat h) b (t_n T) h T am_u I hh (by cases b <;> simp only [cond_true, cond_false] <;> omega) hr ht
  refine ⟨I', ?_, a2, a3⟩
  rw [y_Mo_fall_0 _ _]
  exact a1
theorem m_abs {x : Int32} (h : v_Ma_abs x = 9) : x / 9 = sd (!decide (x ≤ 0)) := by
  have : x = 9 ∨ x = -9 := by
    unfold v_Ma_abs at h
    by_cases h0 : 0 ≤ x
    · rw [d_t h0] at h
      exact Or.inl h
    · rw [d_f h0] at h
      right
      rw [← h, Int32.neg_neg]
  rcases this with rfl | rfl <;> decide
theorem rM_dayD (ht : t_ok T) : ∀ c k (w2 : Value) (I : Nat → Nat → Int32), k + c = t_n T → rM (fd k t_f1 T) I → ∃ I', am_R 193 6 163 [.ref 147, .int (Int32.ofNat k), w2] [] (am_hp g N sw lv I L) = some (.inl none, am_hp g N sw lv (am_up I' 147 (upd (I' 147) 33 (I' 147 33 + 1))) L) ∧ rM (fd (t_n T) t_f1 T) I' ∧ fN I I'
  | 0, k, w2, I, hk, hr => ⟨I, by
    have hn := ht.1
    obtain ⟨-, m2⟩ := t_ff_ok ht k
    rw [y_Mo_aDay_163 _ _, hr.1, m2, nb_dle (by omega) (by omega), d_t (by omega : t_n T ≤ k)], by rw [show t_n T = k by omega]; exact hr, fN_rfl⟩
  | c + 1, k, w2, I, hk, hr => by
    have hn := ht.1
    obtain ⟨m1, m2⟩ := t_ff_ok ht k
    have hh : k < t_n (fd k t_f1 T) := by omega
    have hi : am_inb (Int32.ofNat k) 8 = true := nb_inb (by omega) (by omega)
    have hd := m1.2.2.2.2 k hh
    have hi2 : am_inb (Int32.ofNat (t_hd (fd k t_f1 T) k)) 8 = true := nb_inb (by omega) (by omega)
    have e0 := y_Mo_aDay_163 (g := g) (N := N) (sw := sw) (lv := lv) (I := I) (L := L) (Int32.ofNat k) w2
    rw [hr.1, m2, nb_dle (by omega) (by omega), d_f (by omega : ¬ t_n T ≤ k), hi, nb_tn (by omega), hr.2.2.2.2 k hh, rM_stands hr m1 hd.1, hi2, nb_tn (by omega), (hr.2.2.2.1 _ hd.1).2.1] at e0
    simp only [cond_true] at e0
    have fin : ∀ I1, am_R 193 6 216 [.ref 147, .int (Int32.ofNat k), .int (Int32.ofNat (t_hd (fd k t_f1 T) k))] [] (am_hp g N sw lv I1 L) = am_R 193 6 163 [.ref 147, .int (Int32.ofNat (k + 1)), .int (Int32.ofNat (t_hd (fd k t_f1 T) k))] [] (am_hp g N sw lv I1 L) := by
      intro I1
      rw [y_Mo_aDay_216 _ _, nb_s]
    have key : ∃ I1, am_R 193 6 163 [.ref 147, .int (Int32.ofNat k), w2] [] (am_hp g N sw lv I L) = am_R 193 6 163 [.ref 147, .int (Int32.ofNat (k + 1)), .int (Int32.ofNat (t_hd (fd k t_f1 T) k))] [] (am_hp g N sw lv I1 L) ∧ rM (t_f1 k (fd k t_f1 T)) I1 ∧ fN I I1 := by
      cases hu : t_up (fd k t_f1 T) (t_hd (fd k t_f1 T) k) with
      | false =>
        rw [hu, cond_false, d_t rfl, fin] at e0
        refine ⟨I, e0, ?_, fN_rfl⟩
        have : t_f1 k (fd k t_f1 T) = fd k t_f1 T := c_f (by rw [hu]; rfl)
        rw [this]
        exact hr
      | true =>
        rw [hu, cond_true, d_f (by decide : ¬ (1 : Int32) = 0)] at e0
        by_cases h9 : v_Ma_abs (t_le (fd k t_f1 T) (t_hd (fd k t_f1 T) k)) = 9
        · obtain ⟨I1, b1, b2, b3⟩ := rM_fall (g := g) (N := N) (sw := sw) (lv := lv) (L := L) hr m1 (!decide (t_le (fd k t_f1 T) (t_hd (fd k t_f1 T) k) ≤ 0)) hd.1
          rw [d_t h9, m_abs h9, b1, am_bd_ok, am_tn, fin] at e0
          refine ⟨I1, e0, ?_, b3⟩
          have : t_f1 k (fd k t_f1 T) = t_tp (t_n (fd k t_f1 T)) (!decide (t_le (fd k t_f1 T) (t_hd (fd k t_f1 T) k) ≤ 0)) (t_hd (fd k t_f1 T) k) (fd k t_f1 T) := c_t (by rw [hu, decide_eq_true h9]; rfl)
          rw [this]
          exact b2
        · rw [d_f h9, fin] at e0
          refine ⟨I, e0, ?_, fN_rfl⟩
          have : t_f1 k (fd k t_f1 T) = fd k t_f1 T := c_f (by rw [hu, decide_eq_false h9]; rfl)
          rw [this]
          exact hr
    obtain ⟨I1, k1, k2, k3⟩ := key
    obtain ⟨I2, a1, a2, a3⟩ := rM_dayD ht c (k + 1) _ I1 (by omega) k2
    exact ⟨I2, k1.trans a1, a2, fN_tr k3 a3⟩
theorem rM_wD (hr : rM T I) : rM (t_dd T) (am_up I 147 (upd (I 147) 33 (I 147 33 + 1))) := by
  obtain ⟨h0, h1, h2, h3, h4⟩ := hr
  refine ⟨?_, ?_, ?_, fun h hh => ?_, fun k hk => ?_⟩
  · rw [up_ne (by decide)]
    exact h0
  · rw [up_same, upd_same, h1]
    rfl
  · rw [up_same, upd_ne (by decide)]
    exact h2
  · rw [up_ne (by decide), up_ne (by decide), up_ne (by decide), up_ne (by decide)]
    exact h3 h hh
  · rw [up_ne (by decide)]
    exact h4 k hk
/-- a day of the reference -/
theorem rM_day (hr : rM T I) (ht : t_ok T) (hq : qM E I) (hw : hM w I) : ∃ I', am_R 193 6 0 [.ref 147, am_u, am_u] [] (am_hp g N sw lv I L) = some (.inl none, am_hp g N sw lv I' L) ∧ rM (t_day E w T) I' ∧ fM I I' := by
  obtain ⟨I1, a1, a2, a3⟩ := rM_dayA (g := g) (N := N) (sw := sw) (lv := lv) (L := L) ht (t_n T) 0 I (by omega) hr hq hw
  obtain ⟨m1, m2⟩ := t_mm_ok (E := E) (w := w) ht (t_n T) (Nat.le_refl _)
  obtain ⟨I2, b1, b2, b3⟩ := rM_dayB (g := g) (N := N) (sw := sw) (lv := lv) (L := L) m1 (t_n (fd (t_n T) (t_m1 E w) T)) 0 I1 (by omega) a2 (qM_fN hq a3.1) (hM_fN hw a3) (fun h hh => by omega)
  have f2 : fN I1 I2 := fN_of (fun a q1 q2 q3 q4 q5 => b2 a q3 q4 q5)
  obtain ⟨I3, c1, c2, c3⟩ := rM_dayC (g := g) (N := N) (sw := sw) (lv := lv) (L := L) (E := E) (w := w) m1 (t_n (fd (t_n T) (t_m1 E w) T)) 0 I2 (by omega) (rM_fr a2 (fun a q => b2 a (by omega) (by omega) (by omega)) (by rw [b2 147 (by decide) (by decide) (by decide)]) (by rw [b2 147 (by decide) (by decide) (by decide)])) b3
  have f3 : fN I2 I3 := fN_of (fun a q1 q2 q3 q4 q5 => c3 a q2)
  obtain ⟨s1, s2⟩ := t_sy_ok (E := E) (w := w) m1
  obtain ⟨I4, d1, d2, d3⟩ := rM_dayD (g := g) (N := N) (sw := sw) (lv := lv) (L := L) s1 (t_n (t_sy E w (fd (t_n T) (t_m1 E w) T))) 0 am_u I3 (by omega) c2
  have e0 : am_R 193 6 0 [.ref 147, am_u, am_u] [] (am_hp g N sw lv I L) = some (.inl none, am_hp g N sw lv (am_up I4 147 (upd (I4 147) 33 (I4 147 33 + 1))) L) := by
    rw [y_Mo_aDay_0]
    exact a1.trans (b1.trans (c1.trans d1))
  refine ⟨_, e0, ?_, fM_tr (fN_tr a3 (fN_tr f2 (fN_tr f3 d3))).1 ⟨fun a h _ _ _ _ _ => up_ne h, fun j h _ => by rw [up_same, upd_ne h]⟩⟩
  have := rM_wD d2
  rw [s2, m2] at this
  exact this
end MODD
