/-! the class's row: a day -/
/-- the rule at rc + m gives f -/
def wC (rc m : Nat) (f : (Nat → Int32) → Int32) (I : Nat → Nat → Int32) : Prop := ∀ (r g N : Nat) (sw lv : Bool) (L : Nat → Nat → Int64) (I' : Nat → Nat → Int32), am_isr r → (∀ a, a = rc ∨ a = rc + m ∨ a = rc + 8 → I' a = I a) →
  ∃ I'', am_R 22 2 0 [.ref rc, .ref (rc + m), .ref (r + 8), am_u, am_u, am_u, am_u] [] (am_hp g N sw lv I' L) = some (.inl (some (.int (f (I' (r + 8))))), am_hp g N sw lv I'' L) ∧ ∀ a, a ≠ rc + 9 → I'' a = I' a
/-- a recipe of the class at rc tells E -/
def qC (rc : Nat) (E : e_E) (I : Nat → Nat → Int32) : Prop := (∀ h, h < 8 → I (rc + 2) h = e_al E h) ∧ (I rc 6 = Int32.ofNat (e_hc E) ∧ e_hc E ≤ 8 ∧ ∀ j, j < e_hc E → I (rc + 5) j = e_ht E j) ∧
  (I (rc + 6) 1 = cond (e_me E).isSome 1 0 ∧ ∀ f, e_me E = some f → (∀ k k' : Nat → Int32, (∀ j, j < 5 → k j = k' j) → f k = f k') ∧ wC rc 6 f I) ∧
  (I (rc + 7) 1 = cond (e_ln E).isSome 1 0 ∧ ∀ f, e_ln E = some f → (∀ k k' : Nat → Int32, (∀ j, j < 7 → k j = k' j) → f k = f k') ∧ wC rc 7 f I)
theorem wC_fr {rc m : Nat} {f : (Nat → Int32) → Int32} {I I' : Nat → Nat → Int32} (h : wC rc m f I) (e : ∀ a, a = rc ∨ a = rc + m ∨ a = rc + 8 → I' a = I a) : wC rc m f I' :=
  fun r g N sw lv L I2 ha h2 => h r g N sw lv L I2 ha (fun a q => (h2 a q).trans (e a q))
theorem qC_fr {rc : Nat} {E : e_E} {I I' : Nat → Nat → Int32} (h : qC rc E I) (e : ∀ a, rc ≤ a → a ≤ rc + 8 → I' a = I a) : qC rc E I' := by
  have e6 : ∀ a, a = rc ∨ a = rc + 6 ∨ a = rc + 8 → I' a = I a := fun a q => e a (by omega) (by omega)
  have e7 : ∀ a, a = rc ∨ a = rc + 7 ∨ a = rc + 8 → I' a = I a := fun a q => e a (by omega) (by omega)
  refine ⟨?_, ?_, ⟨?_, fun f hf => ?_⟩, ⟨?_, fun f hf => ?_⟩⟩
  · rw [e (rc + 2) (by omega) (by omega)]
    exact h.1
  · rw [e rc (by omega) (by omega), e (rc + 5) (by omega) (by omega)]
    exact h.2.1
  · rw [e (rc + 6) (by omega) (by omega)]
    exact h.2.2.1.1
  · exact ⟨(h.2.2.1.2 f hf).1, wC_fr (h.2.2.1.2 f hf).2 e6⟩
  · rw [e (rc + 7) (by omega) (by omega)]
    exact h.2.2.2.1
  · exact ⟨(h.2.2.2.2 f hf).1, wC_fr (h.2.2.2.2 f hf).2 e7⟩
/-- rows and recipes are apart -/
theorem am_apart {r rc : Nat} (ha : am_isr r) (hc : am_isc rc) : rc + 9 < r := by
  rcases ha with rfl | rfl <;> rcases hc with rfl | rfl <;> decide
section ROWD
variable {g N : Nat} {sw lv : Bool} {I : Nat → Nat → Int32} {L : Nat → Nat → Int64} {r rc : Nat} {T : tr_T} {E : e_E} {w : Int32}
theorem rC_wS (hr : rC r T I) (s : Nat) : rC r (t_put T s (t_su T) (t_le T)) (am_up I r (upd (I r) 2 (Int32.ofNat s))) := by
  obtain ⟨h0, h1, h2, h3, h4⟩ := hr
  refine ⟨?_, ?_, ?_, fun h hh => ?_, fun k hk => ?_⟩
  · rw [up_same, upd_ne (by decide)]
    exact h0
  · rw [up_same, upd_ne (by decide)]
    exact h1
  · rw [up_same, upd_same]
    rfl
  · rw [up_ne (by omega), up_ne (by omega), up_ne (by omega), up_ne (by omega), up_ne (by omega)]
    exact h3 h hh
  · rw [up_ne (by omega)]
    exact h4 k hk
theorem rC_w1 (hr : rC r T I) (h : Nat) (v : Int32) : rC r (t_put T (t_s T) (upd (t_su T) h v) (t_le T)) (am_up I (r + 1) (upd (I (r + 1)) h v)) := by
  obtain ⟨h0, h1, h2, h3, h4⟩ := hr
  refine ⟨?_, ?_, ?_, fun j hj => ?_, fun k hk => ?_⟩
  · rw [up_ne (by omega)]
    exact h0
  · rw [up_ne (by omega)]
    exact h1
  · rw [up_ne (by omega)]
    exact h2
  · rw [up_same, up_ne (by omega), up_ne (by omega), up_ne (by omega), up_ne (by omega)]
    refine ⟨?_, (h3 j hj).2⟩
    show upd (I (r + 1)) h v j = upd (t_su T) h v j
    by_cases e : j = h
    · rw [e, upd_same, upd_same]
    · rw [upd_ne e, upd_ne e]
      exact (h3 j hj).1
  · rw [up_ne (by omega)]
    exact h4 k hk
theorem rC_w2 (hr : rC r T I) (h : Nat) (v : Int32) : rC r (t_put T (t_s T) (t_su T) (upd (t_le T) h v)) (am_up I (r + 2) (upd (I (r + 2)) h v)) := by
  obtain ⟨h0, h1, h2, h3, h4⟩ := hr
  refine ⟨?_, ?_, ?_, fun j hj => ?_, fun k hk => ?_⟩
  · rw [up_ne (by omega)]
    exact h0
  · rw [up_ne (by omega)]
    exact h1
  · rw [up_ne (by omega)]
    exact h2
  · rw [up_ne (by omega), up_same, up_ne (by omega), up_ne (by omega), up_ne (by omega)]
    refine ⟨(h3 j hj).1, ?_, (h3 j hj).2.2⟩
    show upd (I (r + 2)) h v j = upd (t_le T) h v j
    by_cases e : j = h
    · rw [e, upd_same, upd_same]
    · rw [upd_ne e, upd_ne e]
      exact (h3 j hj).2.1
  · rw [up_ne (by omega)]
    exact h4 k hk
theorem rC_know (ha : am_isr r) (hc : am_isc rc) (hr : rC r T I) (ht : t_ok T) (hq : qC rc E I) {h : Nat} (hh : h < t_n T) : ∃ I', am_R 21 1 0 [.ref r, .ref rc, .int (Int32.ofNat h), .int w] [] (am_hp g N sw lv I L) = some (.inl none, am_hp g N sw lv I' L) ∧ (∀ a, a ≠ r + 8 → I' a = I a) ∧ ∀ j, j < 5 → I' (r + 8) j = t_kn E w T h 0 0 j := by
  have hn := ht.1
  have hi : am_inb (Int32.ofNat h) 8 = true := nb_inb (by omega) (by omega)
  have hf := hr.2.2.2.1 h hh
  have e0 := y_Rw_know_0 (g := g) (N := N) (sw := sw) (lv := lv) (I := I) (L := L) (Int32.ofNat h) w ha hc
  rw [hi, nb_tn (by omega)] at e0
  simp only [cond_true] at e0
  refine ⟨_, e0, ?_, ?_⟩
  · intro a h
    rw [up_ne h, up_ne h, up_ne h, up_ne h, up_ne h]
  · intro j hj
    rw [up_same, hf.1, hf.2.1, hr.2.1, hq.1 h (by omega)]
    have : j = 0 ∨ j = 1 ∨ j = 2 ∨ j = 3 ∨ j = 4 := by omega
    rcases this with rfl | rfl | rfl | rfl | rfl <;> rfl
theorem rC_melt62 (ha : am_isr r) (hc : am_isc rc) (hr : rC r T I) (ht : t_ok T) {h : Nat} (hh : h < t_n T) (hu : t_up T h = true) (y : Int32) : ∃ I', am_R 19 3 62 [.ref r, .ref rc, .int y, .int (Int32.ofNat h), .int (t_less E w T h)] [] (am_hp g N sw lv I L) = am_R 19 3 2 [.ref r, .ref rc, .int y, .int (Int32.ofNat (h + 1)), .int (t_less E w T h)] [] (am_hp g N sw lv I' L) ∧ rC r (t_m1 E w h T) I' ∧ ∀ a, a ≠ r → a ≠ r + 1 → I' a = I a := by
  have hn := ht.1
  have hi : am_inb (Int32.ofNat h) 8 = true := nb_inb (by omega) (by omega)
  have e1 := y_Rw_melt_62 (g := g) (N := N) (sw := sw) (lv := lv) (I := I) (L := L) y (Int32.ofNat h) (t_less E w T h) ha hc
  rw [hi, nb_tn (by omega), (hr.2.2.2.1 h hh).1, upd_same] at e1
  simp only [cond_true] at e1
  rw [show v_Ma_max 0 (t_su T h - v_Rw_within (t_less E w T h) 0 20) = t_mv E w T h from rfl] at e1
  unfold t_m1
  rw [hu, cond_true]
  have w1 := rC_w1 hr h (t_mv E w T h)
  by_cases hz : t_mv E w T h = 0
  · rw [d_t hz, hr.2.2.1, bt_off _ (b_256 hn ht.2.1) _ (by omega), y_Rw_melt_110 _ _ _ ha hc, nb_s] at e1
    refine ⟨_, e1, ?_, fun a h1 h2 => by rw [up_ne h1, up_ne h2]⟩
    have w2 := rC_wS w1 (b_off (t_s T) h)
    rw [up_ne (show r ≠ r + 1 by omega)] at w2
    rw [d_t hz]
    exact w2
  · rw [d_f hz, y_Rw_melt_110 _ _ _ ha hc, nb_s] at e1
    refine ⟨_, e1, ?_, fun a h1 h2 => by rw [up_ne h2]⟩
    rw [d_f hz]
    exact w1
theorem rC_meltL (ha : am_isr r) (hc : am_isc rc) (ht : t_ok T) : ∀ c k (w4 : Value) (I : Nat → Nat → Int32), k + c = t_n T → rC r (fd k (t_m1 E w) T) I → qC rc E I → ∃ I', am_R 19 3 2 [.ref r, .ref rc, .int w, .int (Int32.ofNat k), w4] [] (am_hp g N sw lv I L) = some (.inl none, am_hp g N sw lv I' L) ∧ rC r (fd (t_n T) (t_m1 E w) T) I' ∧ ∀ a, a ≠ r → a ≠ r + 1 → a ≠ r + 8 → a ≠ rc + 9 → I' a = I a
  | 0, k, w4, I, hk, hr, hq => ⟨I, by
    have hn := ht.1
    obtain ⟨-, m2⟩ := t_mm_ok (E := E) (w := w) ht k (by omega)
    rw [y_Rw_melt_2 _ _ _ ha hc, hr.1, m2, nb_dle (by omega) (by omega), d_t (by omega : t_n T ≤ k)], by rw [show t_n T = k by omega]; exact hr, fun _ _ _ _ _ => rfl⟩
  | c + 1, k, w4, I, hk, hr, hq => by
    have hn := ht.1
    have hap := am_apart ha hc
    obtain ⟨m1, m2⟩ := t_mm_ok (E := E) (w := w) ht k (by omega)
    have hh : k < t_n (fd k (t_m1 E w) T) := by omega
    have hi : am_inb (Int32.ofNat k) 8 = true := nb_inb (by omega) (by omega)
    have e0 := y_Rw_melt_2 (g := g) (N := N) (sw := sw) (lv := lv) (I := I) (L := L) w (Int32.ofNat k) w4 ha hc
    rw [hr.1, m2, nb_dle (by omega) (by omega), d_f (by omega : ¬ t_n T ≤ k), rC_stands hr m1 hh, hi, cond_true, nb_tn (by omega), hq.2.2.1.1, hq.1 k (by omega)] at e0
    cases hu : t_up (fd k (t_m1 E w) T) k with
    | false =>
      rw [hu, cond_false, d_t rfl, y_Rw_melt_110 _ _ _ ha hc, nb_s] at e0
      obtain ⟨I', a1, a2, a3⟩ := rC_meltL ha hc ht c (k + 1) w4 I (by omega) (by
        show rC r (t_m1 E w k (fd k (t_m1 E w) T)) I
        unfold t_m1
        rw [show t_up (fd k (fun h T => cond (t_up T h) _ T) T) k = t_up (fd k (t_m1 E w) T) k from rfl, hu]
        exact hr) hq
      exact ⟨I', e0.trans a1, a2, a3⟩
    | true =>
      rw [hu, cond_true, d_f (by decide : ¬ (1 : Int32) = 0)] at e0
      -- the rule or none
      have key : ∃ I1, am_R 19 3 2 [.ref r, .ref rc, .int w, .int (Int32.ofNat k), w4] [] (am_hp g N sw lv I L) = am_R 19 3 62 [.ref r, .ref rc, .int w, .int (Int32.ofNat k), .int (t_less E w (fd k (t_m1 E w) T) k)] [] (am_hp g N sw lv I1 L) ∧ ∀ a, a ≠ r + 8 → a ≠ rc + 9 → I1 a = I a := by
        cases hm : e_me E with
        | none =>
          rw [hm] at e0
          refine ⟨I, ?_, fun _ _ _ => rfl⟩
          unfold t_less
          rw [hm]
          exact e0
        | some f =>
          rw [hm] at e0
          obtain ⟨I1, b1, b2, b3⟩ := rC_know (g := g) (N := N) (sw := sw) (lv := lv) (L := L) (w := w) ha hc hr m1 hq hh
          obtain ⟨f1, f2⟩ := hq.2.2.1.2 f hm
          obtain ⟨I2, c1, c2⟩ := f2 r g N sw lv L I1 ha (fun a q => b2 a (by omega))
          refine ⟨I2, ?_, fun a h1 h2 => by rw [c2 a h2, b2 a h1]⟩
          rw [show decide ((cond (some f).isSome 1 0 : Int32) = 0) = false from rfl, cond_false, b1, am_bd_ok, am_tn, y_Rw_melt_48 _ _ _ ha hc, c1, am_bd_ok, am_tl, y_Rw_melt_60 _ _ _ _ ha hc] at e0
          unfold t_less
          rw [hm]
          show _ = am_R 19 3 62 [.ref r, .ref rc, .int w, .int (Int32.ofNat k), .int (f (t_kn E w (fd k (t_m1 E w) T) k 0 0))] [] _
          rw [← f1 (I1 (r + 8)) _ b3]
          exact e0
      obtain ⟨I1, k1, k2⟩ := key
      have hr1 : rC r (fd k (t_m1 E w) T) I1 := rC_fr hr (fun a h1 h2 => k2 a (by omega) (by omega))
      obtain ⟨I2, d1, d2, d3⟩ := rC_melt62 (g := g) (N := N) (sw := sw) (lv := lv) (L := L) (E := E) (w := w) ha hc hr1 m1 hh hu w
      have hq2 : qC rc E I2 := qC_fr hq (fun a h1 h2 => by rw [d3 a (by omega) (by omega), k2 a (by omega) (by omega)])
      obtain ⟨I3, a1, a2, a3⟩ := rC_meltL ha hc ht c (k + 1) (.int (t_less E w (fd k (t_m1 E w) T) k)) I2 (by omega) d2 hq2
      exact ⟨I3, k1.trans (d1.trans a1), a2, fun a h1 h2 h3 h4 => by rw [a3 a h1 h2 h3 h4, d3 a h1 h2, k2 a h3 h4]⟩
theorem rC_melt (ha : am_isr r) (hc : am_isc rc) (hr : rC r T I) (ht : t_ok T) (hq : qC rc E I) : ∃ I', am_R 19 3 0 [.ref r, .ref rc, .int w, am_u, am_u] [] (am_hp g N sw lv I L) = some (.inl none, am_hp g N sw lv I' L) ∧ rC r (fd (t_n T) (t_m1 E w) T) I' ∧ ∀ a, a ≠ r → a ≠ r + 1 → a ≠ r + 8 → a ≠ rc + 9 → I' a = I a := by
  obtain ⟨I', h1, h2, h3⟩ := rC_meltL (g := g) (N := N) (sw := sw) (lv := lv) (L := L) (w := w) ha hc ht (t_n T) 0 am_u I (by omega) hr hq
  refine ⟨I', ?_, h2, h3⟩
  rw [y_Rw_melt_0 _ ha hc]
  exact h1
theorem rC_sn (hr : rC r T I) (ht : t_ok T) (b : Bool) {h : Nat} (hh : h < t_n T) (A : Int32 → Option am_Res) : cond (decide (oi (t_nx T b h) = (-1))) (A 0) (cond (am_inb (oi (t_nx T b h)) 8) (A (I (r + 1) (Int32.toNatClampNeg (oi (t_nx T b h))))) none) = A (t_sn T b h) := by
  have hn := ht.1
  unfold t_sn
  cases e : t_nx T b h with
  | none => rfl
  | some j =>
    have hj := (t_nx_lt ht hh e).1
    show cond (decide (Int32.ofNat j = (-1))) (A 0) (cond (am_inb (Int32.ofNat j) 8) (A (I (r + 1) (Int32.toNatClampNeg (Int32.ofNat j)))) none) = A (t_su T j)
    rw [d_f (nb_n1 (by omega)), c_t (nb_inb (by omega) (by omega)), nb_tn (by omega), (hr.2.2.2.1 j hj).1]
theorem rC_swayOf (ha : am_isr r) (hc : am_isc rc) (hr : rC r T I) (ht : t_ok T) (hq : qC rc E I) {h : Nat} (hh : h < t_n T) : ∃ I', am_R 26 3 0 [.ref r, .ref rc, .int (Int32.ofNat h), .int w, am_u, am_u, am_u, am_u] [] (am_hp g N sw lv I L) = some (.inl (some (.int (t_sw E w T h))), am_hp g N sw lv I' L) ∧ ∀ a, a ≠ r + 8 → a ≠ rc + 9 → I' a = I a := by
  have hap := am_apart ha hc
  have e0 : am_R 26 3 0 [.ref r, .ref rc, .int (Int32.ofNat h), .int w, am_u, am_u, am_u, am_u] [] (am_hp g N sw lv I L) = am_R 26 3 54 [.ref r, .ref rc, .int (Int32.ofNat h), .int w, .int (oi (t_nx T false h)), .int (oi (t_nx T true h)), .int (t_sn T false h), .int (t_sn T true h)] [] (am_hp g N sw lv I L) := by
    rw [y_Rw_swayOf_0 _ _ ha hc, show (.int (-1) : Value) = .int (sd false) from rfl, rC_next ha hr ht false hh, am_bd_ok, am_tl, y_Rw_swayOf_6 _ _ _ ha hc, show (.int 1 : Value) = .int (sd true) from rfl, rC_next ha hr ht true hh, am_bd_ok, am_tl]
    refine (y_Rw_swayOf_14 _ _ _ _ ha hc).trans ((rC_sn hr ht false hh (fun v => am_R 26 3 35 [.ref r, .ref rc, .int (Int32.ofNat h), .int w, .int (oi (t_nx T false h)), .int (oi (t_nx T true h)), .int v, am_u] [] (am_hp g N sw lv I L))).trans ?_)
    exact (y_Rw_swayOf_35 _ _ _ _ _ ha hc).trans (rC_sn hr ht true hh (fun v => am_R 26 3 54 [.ref r, .ref rc, .int (Int32.ofNat h), .int w, .int (oi (t_nx T false h)), .int (oi (t_nx T true h)), .int (t_sn T false h), .int v] [] (am_hp g N sw lv I L)))
  rw [y_Rw_swayOf_54 _ _ _ _ _ _ ha hc, hq.2.2.2.1] at e0
  unfold t_sw
  cases hm : e_ln E with
  | none =>
    refine ⟨I, ?_, fun _ _ _ => rfl⟩
    rw [e0, hm]
    cases decide (w < 5) <;> rfl
  | some f =>
    rw [hm, show decide ((cond (some f).isSome 1 0 : Int32) = 0) = false from rfl, cond_false] at e0
    obtain ⟨I1, b1, b2, b3⟩ := rC_know (g := g) (N := N) (sw := sw) (lv := lv) (L := L) (w := w) ha hc hr ht hq hh
    obtain ⟨f1, f2⟩ := hq.2.2.2.2 f hm
    obtain ⟨I2, c1, c2⟩ := f2 r g N sw lv L (am_up (am_up I1 (r + 8) (upd (I1 (r + 8)) 5 (t_sn T false h))) (r + 8) (upd (upd (I1 (r + 8)) 5 (t_sn T false h)) 6 (t_sn T true h))) ha (fun a q => by rw [up_ne (by omega), up_ne (by omega)]; exact b2 a (by omega))
    refine ⟨I2, ?_, fun a h1 h2 => by rw [c2 a h2, up_ne h1, up_ne h1, b2 a h1]⟩
    rw [b1, am_bd_ok, am_tn, y_Rw_swayOf_71 _ _ _ _ _ _ ha hc, c1, am_bd_ok, am_tl, y_Rw_swayOf_100 _ _ _ _ _ _ _ ha hc, up_same] at e0
    rw [e0, f1 _ (t_kn E w T h (t_sn T false h) (t_sn T true h))]
    intro j hj
    have : j < 5 ∨ j = 5 ∨ j = 6 := by omega
    rcases this with h5 | rfl | rfl
    · rw [upd_ne (by omega), upd_ne (by omega), b3 j h5]
      have : j = 0 ∨ j = 1 ∨ j = 2 ∨ j = 3 ∨ j = 4 := by omega
      rcases this with rfl | rfl | rfl | rfl | rfl <;> rfl
    · rfl
    · rfl
def t_sv (E : e_E) (w : Int32) (T : tr_T) (h : Nat) : Int32 := cond (t_up T h) (t_sw E w T h) 0
theorem rC_swayA (ha : am_isr r) (hc : am_isc rc) (ht : t_ok T) : ∀ c k (I : Nat → Nat → Int32), k + c = t_n T → rC r T I → qC rc E I → (∀ h, h < k → I (r + 7) h = t_sv E w T h) → ∃ I', am_R 25 4 2 [.ref r, .ref rc, .int w, .int (Int32.ofNat k)] [] (am_hp g N sw lv I L) = am_R 25 4 43 [.ref r, .ref rc, .int w, .int 0] [] (am_hp g N sw lv I' L) ∧ (∀ a, a ≠ r + 7 → a ≠ r + 8 → a ≠ rc + 9 → I' a = I a) ∧ ∀ h, h < t_n T → I' (r + 7) h = t_sv E w T h
  | 0, k, I, hk, hr, hq, hz => ⟨I, by
    have hn := ht.1
    rw [y_Rw_sway_2 _ _ ha hc, hr.1, nb_dle (by omega) (by omega), d_t (by omega : t_n T ≤ k)], fun _ _ _ _ => rfl, fun h hh => hz h (by omega)⟩
  | c + 1, k, I, hk, hr, hq, hz => by
    have hn := ht.1
    have hap := am_apart ha hc
    have hh : k < t_n T := by omega
    have hi : am_inb (Int32.ofNat k) 8 = true := nb_inb (by omega) (by omega)
    have key : ∃ I1, am_R 25 4 2 [.ref r, .ref rc, .int w, .int (Int32.ofNat k)] [] (am_hp g N sw lv I L) = am_R 25 4 2 [.ref r, .ref rc, .int w, .int (Int32.ofNat (k + 1))] [] (am_hp g N sw lv (am_up I1 (r + 7) (upd (I1 (r + 7)) k (t_sv E w T k))) L) ∧ ∀ a, a ≠ r + 8 → a ≠ rc + 9 → I1 a = I a := by
      rw [y_Rw_sway_2 _ _ ha hc, hr.1, nb_dle (by omega) (by omega), d_f (by omega : ¬ t_n T ≤ k), rC_stands hr ht hh]
      unfold t_sv
      cases hu : t_up T k with
      | false =>
        refine ⟨I, ?_, fun _ _ _ => rfl⟩
        rw [cond_false, d_t rfl, hi, cond_true, nb_tn (by omega), nb_s]
        rfl
      | true =>
        obtain ⟨I1, b1, b2⟩ := rC_swayOf (g := g) (N := N) (sw := sw) (lv := lv) (L := L) (w := w) ha hc hr ht hq hh
        refine ⟨I1, ?_, b2⟩
        rw [cond_true, d_f (by decide : ¬ (1 : Int32) = 0), b1, am_bd_ok, am_tl, y_Rw_sway_30 _ _ _ _ ha hc, hi, cond_true, nb_tn (by omega), nb_s]
        rfl
    obtain ⟨I1, k1, k2⟩ := key
    obtain ⟨I2, a1, a2, a3⟩ := rC_swayA ha hc ht c (k + 1) (am_up I1 (r + 7) (upd (I1 (r + 7)) k (t_sv E w T k))) (by omega)
      (rC_fr hr (fun a h1 h2 => by rw [up_ne (by omega)]; exact k2 a (by omega) (by omega)))
      (qC_fr hq (fun a h1 h2 => by rw [up_ne (by omega)]; exact k2 a (by omega) (by omega)))
      (fun h h2 => by
        rw [up_same]
        by_cases e : h = k
        · rw [e, upd_same]
        · rw [upd_ne e, k2 (r + 7) (by omega) (by omega)]
          exact hz h (by omega))
    exact ⟨I2, k1.trans a1, fun a h1 h2 h3 => by rw [a2 a h1 h2 h3, up_ne h1, k2 a h2 h3], a3⟩
def t_syk (E : e_E) (w : Int32) (T : tr_T) (k : Nat) : tr_T := t_put T (t_s T) (t_su T) (fun h => cond (decide (h < k)) (v_Rw_within (t_le T h + t_sv E w T h) (-9) 9) (t_le T h))
theorem rC_swayB (ha : am_isr r) (hc : am_isc rc) (ht : t_ok T) : ∀ c k (I : Nat → Nat → Int32), k + c = t_n T → rC r (t_syk E w T k) I → (∀ h, h < t_n T → I (r + 7) h = t_sv E w T h) → ∃ I', am_R 25 4 43 [.ref r, .ref rc, .int w, .int (Int32.ofNat k)] [] (am_hp g N sw lv I L) = some (.inl none, am_hp g N sw lv I' L) ∧ rC r (t_sy E w T) I' ∧ ∀ a, a ≠ r + 2 → I' a = I a
  | 0, k, I, hk, hr, hz => ⟨I, by
    have hn := ht.1
    rw [y_Rw_sway_43 _ _ ha hc, hr.1, show t_n (t_syk E w T k) = t_n T from rfl, nb_dle (by omega) (by omega), d_t (by omega : t_n T ≤ k)], by
      have : k = t_n T := by omega
      subst this
      exact hr, fun _ _ => rfl⟩
  | c + 1, k, I, hk, hr, hz => by
    have hn := ht.1
    have hh : k < t_n T := by omega
    have hi : am_inb (Int32.ofNat k) 8 = true := nb_inb (by omega) (by omega)
    have e2 : I (r + 2) k = t_le T k := by
      rw [(hr.2.2.2.1 k hh).2.1]
      exact d_f (Nat.lt_irrefl k)
    have e0 := y_Rw_sway_43 (g := g) (N := N) (sw := sw) (lv := lv) (I := I) (L := L) w (Int32.ofNat k) ha hc
    rw [hr.1, show t_n (t_syk E w T k) = t_n T from rfl, nb_dle (by omega) (by omega), d_f (by omega : ¬ t_n T ≤ k), hi, nb_tn (by omega), e2, hz k hh, nb_s] at e0
    simp only [cond_true] at e0
    have w2 := rC_w2 hr k (v_Rw_within (t_le T k + t_sv E w T k) (-9) 9)
    have et : t_put (t_syk E w T k) (t_s (t_syk E w T k)) (t_su (t_syk E w T k)) (upd (t_le (t_syk E w T k)) k (v_Rw_within (t_le T k + t_sv E w T k) (-9) 9)) = t_syk E w T (k + 1) := by
      show t_put T _ _ _ = t_put T _ _ _
      congr 1
      funext h
      show upd (fun h => cond (decide (h < k)) _ _) k _ h = cond (decide (h < k + 1)) _ _
      by_cases e : h = k
      · rw [e, upd_same, d_t (Nat.lt_succ_self k)]
      · rw [upd_ne e, decide_eq_decide.mpr (show h < k + 1 ↔ h < k by omega)]
    rw [et] at w2
    obtain ⟨I', a1, a2, a3⟩ := rC_swayB ha hc ht c (k + 1) _ (by omega) w2 (fun h h2 => by rw [up_ne (by omega)]; exact hz h h2)
    exact ⟨I', e0.trans a1, a2, fun a h => by rw [a3 a h, up_ne h]⟩
theorem rC_sway (ha : am_isr r) (hc : am_isc rc) (hr : rC r T I) (ht : t_ok T) (hq : qC rc E I) : ∃ I', am_R 25 4 0 [.ref r, .ref rc, .int w, am_u] [] (am_hp g N sw lv I L) = some (.inl none, am_hp g N sw lv I' L) ∧ rC r (t_sy E w T) I' ∧ ∀ a, a ≠ r + 2 → a ≠ r + 7 → a ≠ r + 8 → a ≠ rc + 9 → I' a = I a := by
  have hap := am_apart ha hc
  obtain ⟨I1, a1, a2, a3⟩ := rC_swayA (g := g) (N := N) (sw := sw) (lv := lv) (L := L) (w := w) ha hc ht (t_n T) 0 I (by omega) hr hq (fun h hh => by omega)
  obtain ⟨I2, b1, b2, b3⟩ := rC_swayB (g := g) (N := N) (sw := sw) (lv := lv) (L := L) (E := E) (w := w) ha hc ht (t_n T) 0 I1 (by omega) (rC_fr hr (fun a h1 h2 => a2 a (by omega) (by omega) (by omega))) a3
  refine ⟨I2, ?_, b2, fun a h1 h2 h3 h4 => by rw [b3 a h1, a2 a h2 h3 h4]⟩
  rw [y_Rw_sway_0 _ ha hc]
  exact a1.trans b1
theorem rC_off (hr : rC r T I) (ht : t_ok T) {h : Nat} (hh : h < t_n T) : rC r (t_off T h) (am_up I r (upd (I r) 2 ((I r 2) &&& ((1 <<< (Int32.ofNat h &&& 31)) ^^^ (-1))))) := by
  have hn := ht.1
  rw [hr.2.2.1, bt_off _ (b_256 hn ht.2.1) _ (by omega)]
  exact rC_wS hr _
theorem rC_tpL (ha : am_isr r) (x : Int32) (b : Bool) : ∀ (f k h : Nat) (T : tr_T) (w5 : Value) (I : Nat → Nat → Int32), k + f = t_n T → h < t_n T → rC r T I → t_ok T → ∃ I', am_R 28 3 5 [.ref r, .int x, .int (sd b), .int (Int32.ofNat h), .int (Int32.ofNat k), w5] [] (am_hp g N sw lv I L) = some (.inl none, am_hp g N sw lv I' L) ∧ rC r (t_tp f b h T) I' ∧ ∀ a, a ≠ r → a ≠ r + 2 → I' a = I a
  | 0, k, h, T, w5, I, hk, hh, hr, ht => ⟨I, by
    have hn := ht.1
    rw [y_Rw_topple_5 _ _ _ _ _ ha, hr.1, nb_dle (by omega) (by omega), d_t (by omega : t_n T ≤ k)], hr, fun _ _ _ => rfl⟩
  | f + 1, k, h, T, w5, I, hk, hh, hr, ht => by
    have hn := ht.1
    have hr1 := rC_off hr ht hh
    have ht1 := t_off_ok ht h
    have hh1 : h < t_n (t_off T h) := hh
    have e0 := y_Rw_topple_5 (g := g) (N := N) (sw := sw) (lv := lv) (I := I) (L := L) x (sd b) (Int32.ofNat h) (Int32.ofNat k) w5 ha
    rw [hr.1, nb_dle (by omega) (by omega), d_f (by omega : ¬ t_n T ≤ k), d_f (nb_n1 (by omega)), rC_next ha hr1 ht1 b hh1, am_bd_ok, am_tl, y_Rw_topple_39 _ _ _ _ _ _ ha] at e0
    have fin : ∀ (w5 : Value) (I : Nat → Nat → Int32) (n : Nat), n < 100000 → I r 0 = Int32.ofNat n → am_R 28 3 5 [.ref r, .int x, .int (sd b), .int (-1), .int (Int32.ofNat k + 1), w5] [] (am_hp g N sw lv I L) = some (.inl none, am_hp g N sw lv I L) := by
      intro w5 I n _ _
      rw [y_Rw_topple_5 _ _ _ _ _ ha]
      cases decide (I r 0 ≤ Int32.ofNat k + 1) <;> rfl
    unfold t_tp
    cases e : t_nx (t_off T h) b h with
    | none =>
      rw [e, show oi none = -1 from rfl, d_t rfl, fin _ _ (t_n T) (by omega) hr1.1] at e0
      exact ⟨_, e0, hr1, fun a h1 h2 => up_ne h1⟩
    | some j =>
      obtain ⟨hj, -⟩ := t_nx_lt ht1 hh1 e
      have hj' : j < t_n T := hj
      have hi : am_inb (Int32.ofNat j) 8 = true := nb_inb (by omega) (by omega)
      rw [e, show oi (some j) = Int32.ofNat j from rfl, d_f (nb_n1 (by omega)), hi, nb_tn (by omega), upd_same] at e0
      simp only [cond_true] at e0
      rw [(hr1.2.2.2.1 j hj).2.1, show t_le (t_off T h) j = t_le T j from rfl] at e0
      have hr2 : rC r (t_kick b (t_off T h) j) _ := rC_w2 hr1 j (v_Rw_within (t_le T j + 2 * sd b) (-9) 9)
      have ht2 := t_kick_ok ht1 b j
      show ∃ I', _ ∧ rC r (cond _ _ _) I' ∧ _
      by_cases hd : v_Rw_within (t_le T j + 2 * sd b) (-9) 9 = 9 * sd b
      · rw [d_t hd, nb_s] at e0
        rw [d_t hd]
        obtain ⟨I', a1, a2, a3⟩ := rC_tpL ha x b f (k + 1) j (t_kick b (t_off T h) j) (.int (Int32.ofNat j)) _ (by show k + 1 + f = t_n T; omega) hj hr2 ht2
        exact ⟨I', e0.trans a1, a2, fun a h1 h2 => by rw [a3 a h1 h2, up_ne h2, up_ne h1]⟩
      · rw [d_f hd] at e0
        rw [d_f hd]
        rw [fin _ _ (t_n T) (by omega) hr2.1] at e0
        exact ⟨_, e0, hr2, fun a h1 h2 => by rw [up_ne h2, up_ne h1]⟩
theorem rC_tp (ha : am_isr r) (hr : rC r T I) (ht : t_ok T) (b : Bool) {h : Nat} (hh : h < t_n T) : ∃ I', am_R 28 3 0 [.ref r, .int (Int32.ofNat h), .int (sd b), am_u, am_u, am_u] [] (am_hp g N sw lv I L) = some (.inl none, am_hp g N sw lv I' L) ∧ rC r (t_tp (t_n T) b h T) I' ∧ ∀ a, a ≠ r → a ≠ r + 2 → I' a = I a := by
  obtain ⟨I', a1, a2, a3⟩ := rC_tpL (g := g) (N := N) (sw := sw) (lv := lv) (L := L) ha (Int32.ofNat h) b (t_n T) 0 h T am_u I (by omega) hh hr ht
  refine ⟨I', ?_, a2, a3⟩
  rw [y_Rw_topple_0 _ _ ha]
  exact a1
theorem rC_dayL (ha : am_isr r) (hc : am_isc rc) (ht : t_ok T) : ∀ c k (w4 : Value) (I : Nat → Nat → Int32), k + c = t_n T → rC r (fd k t_f1 T) I → ∃ I', am_R 18 5 14 [.ref r, .ref rc, .int w, .int (Int32.ofNat k), w4] [] (am_hp g N sw lv I L) = some (.inl none, am_hp g N sw lv (am_up I' r (upd (I' r) 1 (I' r 1 + 1))) L) ∧ rC r (fd (t_n T) t_f1 T) I' ∧ ∀ a, a ≠ r → a ≠ r + 2 → I' a = I a
  | 0, k, w4, I, hk, hr => ⟨I, by
    have hn := ht.1
    obtain ⟨-, m2⟩ := t_ff_ok ht k
    rw [y_Rw_passDay_14 _ _ _ ha hc, hr.1, m2, nb_dle (by omega) (by omega), d_t (by omega : t_n T ≤ k)], by rw [show t_n T = k by omega]; exact hr, fun _ _ _ => rfl⟩
  | c + 1, k, w4, I, hk, hr => by
    have hn := ht.1
    obtain ⟨m1, m2⟩ := t_ff_ok ht k
    have hh : k < t_n (fd k t_f1 T) := by omega
    have hi : am_inb (Int32.ofNat k) 8 = true := nb_inb (by omega) (by omega)
    have hd := m1.2.2.2.2 k hh
    have hi2 : am_inb (Int32.ofNat (t_hd (fd k t_f1 T) k)) 8 = true := nb_inb (by omega) (by omega)
    have e0 := y_Rw_passDay_14 (g := g) (N := N) (sw := sw) (lv := lv) (I := I) (L := L) w (Int32.ofNat k) w4 ha hc
    rw [hr.1, m2, nb_dle (by omega) (by omega), d_f (by omega : ¬ t_n T ≤ k), hi, nb_tn (by omega), hr.2.2.2.2 k hh, rC_stands hr m1 hd.1, hi2, nb_tn (by omega), (hr.2.2.2.1 _ hd.1).2.1] at e0
    simp only [cond_true] at e0
    have key : ∃ I1, am_R 18 5 14 [.ref r, .ref rc, .int w, .int (Int32.ofNat k), w4] [] (am_hp g N sw lv I L) = am_R 18 5 14 [.ref r, .ref rc, .int w, .int (Int32.ofNat (k + 1)), .int (Int32.ofNat (t_hd (fd k t_f1 T) k))] [] (am_hp g N sw lv I1 L) ∧ rC r (t_f1 k (fd k t_f1 T)) I1 ∧ ∀ a, a ≠ r → a ≠ r + 2 → I1 a = I a := by
      have fin : ∀ I1, am_R 18 5 75 [.ref r, .ref rc, .int w, .int (Int32.ofNat k), .int (Int32.ofNat (t_hd (fd k t_f1 T) k))] [] (am_hp g N sw lv I1 L) = am_R 18 5 14 [.ref r, .ref rc, .int w, .int (Int32.ofNat (k + 1)), .int (Int32.ofNat (t_hd (fd k t_f1 T) k))] [] (am_hp g N sw lv I1 L) := by
        intro I1
        rw [y_Rw_passDay_75 _ _ _ ha hc, nb_s]
      unfold t_f1
      cases hu : t_up (fd k t_f1 T) (t_hd (fd k t_f1 T) k) with
      | false =>
        rw [hu, cond_false, d_t rfl, fin] at e0
        refine ⟨I, e0, ?_, fun _ _ _ => rfl⟩
        show rC r (cond (t_up (fd k t_f1 T) (t_hd (fd k t_f1 T) k) && _) _ _) I
        rw [hu]
        exact hr
      | true =>
        rw [hu, cond_true, d_f (by decide : ¬ (1 : Int32) = 0)] at e0
        by_cases h9 : v_Ma_abs (t_le (fd k t_f1 T) (t_hd (fd k t_f1 T) k)) = 9
        · rw [d_t h9] at e0
          have hs : ∃ I1, am_R 18 5 14 [.ref r, .ref rc, .int w, .int (Int32.ofNat k), w4] [] (am_hp g N sw lv I L) = am_R 18 5 75 [.ref r, .ref rc, .int w, .int (Int32.ofNat k), .int (Int32.ofNat (t_hd (fd k t_f1 T) k))] [] (am_hp g N sw lv I1 L) ∧ rC r (t_tp (t_n (fd k t_f1 T)) (!decide (t_le (fd k t_f1 T) (t_hd (fd k t_f1 T) k) ≤ 0)) (t_hd (fd k t_f1 T) k) (fd k t_f1 T)) I1 ∧ ∀ a, a ≠ r → a ≠ r + 2 → I1 a = I a := by
            cases hz : decide (t_le (fd k t_f1 T) (t_hd (fd k t_f1 T) k) ≤ 0) with
            | true =>
              obtain ⟨I1, b1, b2, b3⟩ := rC_tp (g := g) (N := N) (sw := sw) (lv := lv) (L := L) ha hr m1 false hd.1
              rw [hz, cond_true, show (.int (-1) : Value) = .int (sd false) from rfl, b1, am_bd_ok, am_tn] at e0
              exact ⟨I1, e0, b2, b3⟩
            | false =>
              obtain ⟨I1, b1, b2, b3⟩ := rC_tp (g := g) (N := N) (sw := sw) (lv := lv) (L := L) ha hr m1 true hd.1
              rw [hz, cond_false, show (.int 1 : Value) = .int (sd true) from rfl, b1, am_bd_ok, am_tn] at e0
              exact ⟨I1, e0, b2, b3⟩
          obtain ⟨I1, c1, c2, c3⟩ := hs
          rw [fin] at c1
          refine ⟨I1, c1, ?_, c3⟩
          show rC r (cond (t_up (fd k t_f1 T) (t_hd (fd k t_f1 T) k) && decide (v_Ma_abs (t_le (fd k t_f1 T) (t_hd (fd k t_f1 T) k)) = 9)) _ _) I1
          rw [hu, decide_eq_true h9]
          exact c2
        · rw [d_f h9, fin] at e0
          refine ⟨I, e0, ?_, fun _ _ _ => rfl⟩
          show rC r (cond (t_up (fd k t_f1 T) (t_hd (fd k t_f1 T) k) && decide (v_Ma_abs (t_le (fd k t_f1 T) (t_hd (fd k t_f1 T) k)) = 9)) _ _) I
          rw [hu, decide_eq_false h9]
          exact hr
    obtain ⟨I1, k1, k2, k3⟩ := key
    obtain ⟨I2, a1, a2, a3⟩ := rC_dayL ha hc ht c (k + 1) _ I1 (by omega) k2
    exact ⟨I2, k1.trans a1, a2, fun a h1 h2 => by rw [a3 a h1 h2, k3 a h1 h2]⟩
theorem rC_wD (hr : rC r T I) : rC r (t_dd T) (am_up I r (upd (I r) 1 (I r 1 + 1))) := by
  obtain ⟨h0, h1, h2, h3, h4⟩ := hr
  refine ⟨?_, ?_, ?_, fun h hh => ?_, fun k hk => ?_⟩
  · rw [up_same, upd_ne (by decide)]
    exact h0
  · rw [up_same, upd_same, h1]
    rfl
  · rw [up_same, upd_ne (by decide)]
    exact h2
  · rw [up_ne (by omega), up_ne (by omega), up_ne (by omega), up_ne (by omega), up_ne (by omega)]
    exact h3 h hh
  · rw [up_ne (by omega)]
    exact h4 k hk
/-- a day of the class's row -/
theorem rC_day (ha : am_isr r) (hc : am_isc rc) (hr : rC r T I) (ht : t_ok T) (hq : qC rc E I) : ∃ I', am_R 18 5 0 [.ref r, .ref rc, .int w, am_u, am_u] [] (am_hp g N sw lv I L) = some (.inl none, am_hp g N sw lv I' L) ∧ rC r (t_day E w T) I' ∧ ∀ a, a ≠ r → a ≠ r + 1 → a ≠ r + 2 → a ≠ r + 7 → a ≠ r + 8 → a ≠ rc + 9 → I' a = I a := by
  have hap := am_apart ha hc
  obtain ⟨I1, a1, a2, a3⟩ := rC_melt (g := g) (N := N) (sw := sw) (lv := lv) (L := L) (w := w) ha hc hr ht hq
  obtain ⟨m1, m2⟩ := t_mm_ok (E := E) (w := w) ht (t_n T) (Nat.le_refl _)
  have hq1 : qC rc E I1 := qC_fr hq (fun a h1 h2 => a3 a (by omega) (by omega) (by omega) (by omega))
  obtain ⟨I2, b1, b2, b3⟩ := rC_sway (g := g) (N := N) (sw := sw) (lv := lv) (L := L) (w := w) ha hc a2 m1 hq1
  obtain ⟨s1, s2⟩ := t_sy_ok (E := E) (w := w) m1
  obtain ⟨I3, c1, c2, c3⟩ := rC_dayL (g := g) (N := N) (sw := sw) (lv := lv) (L := L) (w := w) ha hc s1 (t_n (t_sy E w (fd (t_n T) (t_m1 E w) T))) 0 am_u I2 (by omega) b2
  have e0 : am_R 18 5 0 [.ref r, .ref rc, .int w, am_u, am_u] [] (am_hp g N sw lv I L) = some (.inl none, am_hp g N sw lv (am_up I3 r (upd (I3 r) 1 (I3 r 1 + 1))) L) := by
    rw [y_Rw_passDay_0 _ ha hc, a1, am_bd_ok, am_tn, y_Rw_passDay_6 _ ha hc, b1, am_bd_ok, am_tn, y_Rw_passDay_12 _ ha hc]
    exact c1
  refine ⟨_, e0, ?_, ?_⟩
  · have := rC_wD c2
    rw [s2, m2] at this
    exact this
  · intro a h1 h2 h3 h4 h5 h6
    rw [up_ne h1, c3 a h1 h3, b3 a h3 h4 h5 h6, a3 a h1 h2 h5 h6]
end ROWD
