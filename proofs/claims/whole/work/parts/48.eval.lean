/-! EVALUATION of codes -/
def vv (V : Nat → Int32) (x : Int32) : Int32 := cond (decide (x < 0)) (V (Int32.toNatClampNeg (-1 - x))) x
def nt (a : Int32) : Int32 := cond (decide (a = 0)) 1 0
def rn1 (V : Nat → Int32) (x : Int32) (s : List Int32) : List Int32 := cond (decide (-8 < x)) (vv V x :: s) (cond (decide (x = -8)) (match s with
  | [] => []
  | a :: t => nt a :: t) (match s with
  | b :: a :: t => v_Ru_joined x a b :: t
  | _ => []))
def rn (V : Nat → Int32) : List Int32 → List Int32 → List Int32
  | [], s => s
  | x :: l, s => rn V l (rn1 V x s)
def rf (cs : List Int32) (V : Nat → Int32) : Int32 := (rn V cs []).headD 0
def stk : List Int32 → (Nat → Int32) → Prop
  | [], _ => True
  | a :: t, A => A t.length = a ∧ stk t A
theorem stk_up : ∀ {s : List Int32} {A : Nat → Int32} {i : Nat} {v : Int32}, stk s A → s.length ≤ i → stk s (upd A i v)
  | [], _, _, _, _, _ => trivial
  | a :: t, A, i, v, h, hi => by
    have hi2 : t.length + 1 ≤ i := hi
    refine ⟨?_, stk_up h.2 (by omega)⟩
    rw [upd_ne (by omega)]
    exact h.1
theorem stk_ps {s : List Int32} {A : Nat → Int32} {v : Int32} (h : stk s A) : stk (v :: s) (upd A s.length v) := ⟨upd_same, stk_up h (Nat.le_refl _)⟩
/-- what a code asks of a stack -/
theorem bl_c {w : Bool} {m : Nat} {x : Int32} {l : List Int32} {s : Nat} {t : Nat} (h : bl w m (x :: l) s = some t) : (-8 < x ∧ s + 1 ≤ m ∧ (0 ≤ x ∨ -1 - x < Int32.ofNat (cond w 7 5)) ∧ bl w m l (s + 1) = some t) ∨ (¬ -8 < x ∧ x = -8 ∧ 1 ≤ s ∧ bl w m l s = some t) ∨ (¬ -8 < x ∧ x ≠ -8 ∧ 2 ≤ s ∧ bl w m l (s - 1) = some t) := by
  unfold bl at h
  by_cases a : -8 < x
  · rw [d_t a] at h
    cases c : (decide (s + 1 ≤ m) && (decide (0 ≤ x) || decide (-1 - x < Int32.ofNat (cond w 7 5)))) with
    | false =>
      rw [c] at h
      cases h
    | true =>
      rw [c] at h
      rw [Bool.and_eq_true, Bool.or_eq_true, decide_eq_true_iff, decide_eq_true_iff, decide_eq_true_iff] at c
      exact Or.inl ⟨a, c.1, c.2, h⟩
  · rw [d_f a] at h
    by_cases b : x = -8
    · rw [d_t b] at h
      by_cases c : 1 ≤ s
      · rw [d_t c] at h
        exact Or.inr (Or.inl ⟨a, b, c, h⟩)
      · rw [d_f c] at h
        cases h
    · rw [d_f b] at h
      by_cases c : 2 ≤ s
      · rw [d_t c] at h
        exact Or.inr (Or.inr ⟨a, b, c, h⟩)
      · rw [d_f c] at h
        cases h
theorem xs_i {x : Int32} (h : -8 < x) : (-1 - x).toInt = -1 - x.toInt := by
  have h1 := Int32.lt_iff_toInt_lt.mp h
  have h2 : (-8 : Int32).toInt = -8 := by decide
  have h3 := x.toInt_lt
  rw [h2] at h1
  rw [Int32.toInt_sub, show (-1 : Int32).toInt = -1 from by decide]
  refine Int.bmod_eq_of_le ?_ ?_ <;> omega
/-- a value's place -/
theorem xs_v {x : Int32} {w : Bool} (h : -8 < x) (hw : 0 ≤ x ∨ -1 - x < Int32.ofNat (cond w 7 5)) : ¬ (Int32.ofNat 7 ≤ -1 - x) ∧ (x < 0 → ∃ n, n < cond w 7 5 ∧ -1 - x = Int32.ofNat n) := by
  have e := xs_i h
  have h1 := Int32.lt_iff_toInt_lt.mp h
  have h2 : (-8 : Int32).toInt = -8 := by decide
  have h0 : (0 : Int32).toInt = 0 := by decide
  rw [h2] at h1
  have hc : (Int32.ofNat (cond w 7 5)).toInt = ((cond w 7 5 : Nat) : Int) := by cases w <;> decide
  have hc7 : ((cond w 7 5 : Nat) : Int) ≤ 7 := by cases w <;> decide
  refine ⟨fun q => ?_, fun q => ?_⟩
  · have q1 := Int32.le_iff_toInt_le.mp q
    rw [e, show (Int32.ofNat 7).toInt = 7 from by decide] at q1
    omega
  · have q1 := Int32.lt_iff_toInt_lt.mp q
    rw [h0] at q1
    have hn : ¬ (0 ≤ x) := fun z => by
      have := Int32.le_iff_toInt_le.mp z
      omega
    have hl := Int32.lt_iff_toInt_lt.mp (hw.resolve_left hn)
    rw [e, hc] at hl
    refine ⟨(-1 - x.toInt).toNat, by omega, ?_⟩
    refine Int32.toInt_inj.mp ?_
    rw [e, nb_ti (by omega)]
    omega
theorem jn_e (x a b : Int32) (h : ¬ -8 < x) (h8 : x ≠ -8) : (g_Ru_joined x a b = true ∧ g_Mo_reckon (mc x) a b = true ∧ v_Mo_reckon (mc x) a b = v_Ru_joined x a b) ∧ mc x ≤ -20 ∧ mc x ≠ -28 := by
  unfold mc
  rw [d_f h, d_f h8]
  by_cases e9 : x = -9
  · subst e9
    exact ⟨⟨rfl, rfl, rfl⟩, by decide, by decide⟩
  · rw [d_f e9]
    by_cases e10 : x = -10
    · subst e10
      exact ⟨⟨rfl, rfl, rfl⟩, by decide, by decide⟩
    · rw [d_f e10]
      by_cases e11 : x = -11
      · subst e11
        exact ⟨⟨rfl, rfl, rfl⟩, by decide, by decide⟩
      · rw [d_f e11]
        by_cases e12 : x = -12
        · subst e12
          exact ⟨⟨rfl, rfl, rfl⟩, by decide, by decide⟩
        · rw [d_f e12]
          by_cases e13 : x = -13
          · subst e13
            exact ⟨⟨rfl, rfl, rfl⟩, by decide, by decide⟩
          · rw [d_f e13]
            by_cases e14 : x = -14
            · subst e14
              exact ⟨⟨rfl, rfl, rfl⟩, by decide, by decide⟩
            · rw [d_f e14]
              by_cases e15 : x = -15
              · subst e15
                exact ⟨⟨rfl, rfl, rfl⟩, by decide, by decide⟩
              · rw [d_f e15]
                refine ⟨⟨?_, ?_, ?_⟩, by decide, by decide⟩
                · unfold g_Ru_joined
                  rw [d_f e15, d_f e14, d_f e13, d_f e12, d_f e11, d_f e10, d_f e9]
                  cases decide (b = 0) <;> rfl
                · unfold g_Mo_reckon
                  cases decide (b = 0) <;> rfl
                · unfold v_Ru_joined
                  rw [d_f e15, d_f e14, d_f e13, d_f e12, d_f e11, d_f e10, d_f e9]
                  rfl
theorem sb1 (a : Nat) : Int32.ofNat (a + 1) - 1 = Int32.ofNat a := (Int32.ofNat_sub (a + 1) 1 (by omega)).symm
theorem sb2 (a : Nat) : Int32.ofNat (a + 2) - 2 = Int32.ofNat a := (Int32.ofNat_sub (a + 2) 2 (by omega)).symm
theorem sb21 (a : Nat) : Int32.ofNat (a + 2) - 1 = Int32.ofNat (a + 1) := sb1 (a + 1)
theorem mc_8 : mc (-8) = -28 := by decide
/-- only what is asked for is looked at -/
theorem rn_cg {w : Bool} {m : Nat} {V V' : Nat → Int32} (hV : ∀ j, j < cond w 7 5 → V j = V' j) : ∀ (cs s : List Int32) (t : Nat), bl w m cs s.length = some t → rn V cs s = rn V' cs s
  | [], _, _, _ => rfl
  | x :: l, s, t, h => by
    show rn V l (rn1 V x s) = rn V' l (rn1 V' x s)
    have e : rn1 V x s = rn1 V' x s := by
      unfold rn1
      rcases bl_c h with ⟨h1, h2, h3, h4⟩ | ⟨h1, h2, h3, h4⟩ | ⟨h1, h2, h3, h4⟩
      · rw [d_t h1, d_t h1]
        unfold vv
        by_cases hn : x < 0
        · obtain ⟨n, hn1, hn2⟩ := (xs_v h1 h3).2 hn
          have h75 := w75 w
          rw [d_t hn, d_t hn, hn2, nb_tn (by omega), hV n hn1]
        · rw [d_f hn, d_f hn]
      · rw [d_f h1, d_f h1]
      · rw [d_f h1, d_f h1]
    rw [← e]
    refine rn_cg (m := m) hV l _ t ?_
    rcases bl_c h with ⟨h1, h2, h3, h4⟩ | ⟨h1, h2, h3, h4⟩ | ⟨h1, h2, h3, h4⟩
    · unfold rn1
      rw [d_t h1]
      exact h4
    · unfold rn1
      rw [d_f h1, d_t h2]
      match s, h3, h4 with
      | a :: s, h3, h4 => exact h4
    · unfold rn1
      rw [d_f h1, d_f h2]
      match s, h3, h4 with
      | [a], h3, h4 => exact absurd (show 2 ≤ 1 from h3) (by decide)
      | b :: a :: s, h3, h4 => exact h4
theorem WM_run {g N : Nat} {sw lv : Bool} {L : Nat → Nat → Int64} {r rc : Nat} {w : Bool} {mm : Nat} (hr : am_isr r) (hc : am_isc rc) (hm : mm ≤ 40) : ∀ (cs s : List Int32) (p to n : Nat) (I : Nat → Nat → Int32) (w5 w6 : Value), p + cs.length = to → to ≤ n → n ≤ 700 → I (rc + 6) 3 = Int32.ofNat to → I rc 11 = Int32.ofNat n → (∀ i, i < cs.length → I (rc + 8) (p + i) = cs.getD i 0) → stk s (I (rc + 9)) → s.length ≤ mm → bl w mm cs s.length = some 1 → ∃ I'', am_R 22 2 8 [.ref rc, .ref (rc + 6), .ref (r + 8), .int (Int32.ofNat s.length), .int (Int32.ofNat p), w5, w6] [] (am_hp g N sw lv I L) = some (.inl (some (.int ((rn (I (r + 8)) cs s).headD 0))), am_hp g N sw lv I'' L) ∧ ∀ a, a ≠ rc + 9 → I'' a = I a
  | [], s, p, to, n, I, w5, w6, hp, ht, hn, e3, e11, ec, hs, hsl, hb => by
    have hp2 : p + 0 = to := hp
    refine ⟨I, ?_, fun _ _ => rfl⟩
    rw [y_Rc_worthM_8 _ _ _ _ hr hc, e3, nb_dle (by omega) (by omega), d_t (by omega), y_Rc_worthM_168 _ _ _ _ hr hc]
    have hl : s.length = 1 := Option.some.inj hb
    match s, hl, hs with
    | [a], _, hs =>
      have : I (rc + 9) 0 = a := hs.1
      rw [this]
      rfl
  | x :: l, s, p, to, n, I, w5, w6, hp, ht, hn, e3, e11, ec, hs, hsl, hb => by
    have hp2 : p + (l.length + 1) = to := hp
    have hrn : r + 8 ≠ rc + 9 ∧ rc + 6 ≠ rc + 9 ∧ rc ≠ rc + 9 ∧ rc + 8 ≠ rc + 9 := by rcases hr with rfl | rfl <;> rcases hc with rfl | rfl <;> decide
    have ex : I (rc + 8) p = x := ec 0 (Nat.succ_pos _)
    have el : ∀ i, i < l.length → I (rc + 8) (p + 1 + i) = l.getD i 0 := fun i hi => by
      have := ec (i + 1) (Nat.succ_lt_succ hi)
      rw [show p + (i + 1) = p + 1 + i by omega] at this
      exact this
    have go : ∀ (J : Nat → Nat → Int32) (A : Nat → Int32) (s' : List Int32) (w5 w6 : Value), J = am_up I (rc + 9) A → stk s' A → s'.length ≤ mm → bl w mm l s'.length = some 1 → ∃ I'', am_R 22 2 8 [.ref rc, .ref (rc + 6), .ref (r + 8), .int (Int32.ofNat s'.length), .int (Int32.ofNat (p + 1)), w5, w6] [] (am_hp g N sw lv J L) = some (.inl (some (.int ((rn (I (r + 8)) l s').headD 0))), am_hp g N sw lv I'' L) ∧ ∀ a, a ≠ rc + 9 → I'' a = I a := by
      intro J A s' w5 w6 hJ h1 h2 h3
      subst hJ
      obtain ⟨I'', a1, a2⟩ := WM_run (w := w) (mm := mm) hr hc hm l s' (p + 1) to n (am_up I (rc + 9) A) w5 w6 (by omega) ht hn (by rw [up_ne hrn.2.1]; exact e3) (by rw [up_ne hrn.2.2.1]; exact e11) (fun i hi => by rw [up_ne hrn.2.2.2]; exact el i hi) (by rw [up_same]; exact h1) h2 h3
      rw [up_ne hrn.1] at a1
      exact ⟨I'', a1, fun a ha => (a2 a ha).trans (up_ne ha)⟩
    have st : am_R 22 2 8 [.ref rc, .ref (rc + 6), .ref (r + 8), .int (Int32.ofNat s.length), .int (Int32.ofNat p), w5, w6] [] (am_hp g N sw lv I L) = am_R 22 2 35 [.ref rc, .ref (rc + 6), .ref (r + 8), .int (Int32.ofNat s.length), .int (Int32.ofNat p), .int x, w6] [] (am_hp g N sw lv I L) := by
      rw [y_Rc_worthM_8 _ _ _ _ hr hc, e3, nb_dle (by omega) (by omega), d_f (by omega), e11, nb_dle (by omega) (by omega), d_f (by omega), nb_inb (by omega : p < 700) (by omega), cond_true, nb_tn (by omega), ex]
    rw [show rn (I (r + 8)) (x :: l) s = rn (I (r + 8)) l (rn1 (I (r + 8)) x s) from rfl]
    rw [st]
    unfold rn1
    rcases bl_c hb with ⟨h1, h2, h3, h4⟩ | ⟨h1, h2, h3, h4⟩ | ⟨h1, h2, h3, h4⟩
    · have hx8 : ¬ x ≤ -8 := fun z => by
        have z1 := Int32.le_iff_toInt_le.mp z
        have z2 := Int32.lt_iff_toInt_lt.mp h1
        omega
      obtain ⟨v1, v2⟩ := xs_v h1 h3
      rw [d_t h1]
      obtain ⟨I'', a1, a2⟩ := go _ _ (vv (I (r + 8)) x :: s) (.int x) (.int (-1 - x)) rfl (stk_ps hs) h2 h4
      refine ⟨I'', ?_, a2⟩
      have a1' : am_R 22 2 8 [.ref rc, .ref (rc + 6), .ref (r + 8), .int (Int32.ofNat (s.length + 1)), .int (Int32.ofNat (p + 1)), .int x, .int (-1 - x)] [] (am_hp g N sw lv (am_up I (rc + 9) (upd (I (rc + 9)) s.length (vv (I (r + 8)) x))) L) = _ := a1
      rw [y_Rc_worthM_35 _ _ _ _ hr hc, d_f hx8, y_Rc_worthM_42 _ _ _ _ hr hc, y_Rc_worthM_48 _ _ _ _ hr hc, nb_ge40 (by omega), d_f (by omega), y_Rc_worthM_54 _ _ _ _ hr hc, d_f v1, y_Rc_worthM_61 _ _ _ _ hr hc, nb_inb (by omega : s.length < 40) (by omega), cond_true, nb_tn (by omega : s.length < 100000), nb_s]
      by_cases hneg : x < 0
      · obtain ⟨k, hk1, hk2⟩ := v2 hneg
        have h75 := w75 w
        rw [d_t hneg, hk2, nb_inb (by omega : k < 7) (by omega), cond_true, ← hk2, y_Rc_worthM_84 _ _ _ _ hr hc, y_Rc_worthM_162 _ _ _ _ hr hc, nb_s]
        have ev : vv (I (r + 8)) x = (I (r + 8)) (Int32.toNatClampNeg (-1 - x)) := by
          unfold vv
          rw [d_t hneg]
        rw [ev] at a1' ⊢
        exact a1'
      · rw [d_f hneg, cond_true, y_Rc_worthM_84 _ _ _ _ hr hc, y_Rc_worthM_162 _ _ _ _ hr hc, nb_s]
        have ev : vv (I (r + 8)) x = x := by
          unfold vv
          rw [d_f hneg]
        rw [ev] at a1' ⊢
        exact a1'
    · rw [d_f h1, d_t h2]
      match s, hs, h3, h4, hsl with
      | a :: s, hs, _, h4, hsl =>
        have hsl2 : s.length + 1 ≤ mm := hsl
        have ea : I (rc + 9) s.length = a := hs.1
        obtain ⟨I'', a1, a2⟩ := go _ _ (nt a :: s) (.int x) w6 rfl (stk_ps hs.2) hsl h4
        refine ⟨I'', ?_, a2⟩
        have a1' : am_R 22 2 8 [.ref rc, .ref (rc + 6), .ref (r + 8), .int (Int32.ofNat (s.length + 1)), .int (Int32.ofNat (p + 1)), .int x, w6] [] (am_hp g N sw lv (am_up I (rc + 9) (upd (I (rc + 9)) s.length (nt a))) L) = _ := a1
        show am_R 22 2 35 [.ref rc, .ref (rc + 6), .ref (r + 8), .int (Int32.ofNat (s.length + 1)), .int (Int32.ofNat p), .int x, w6] [] (am_hp g N sw lv I L) = _
        rw [y_Rc_worthM_35 _ _ _ _ hr hc, d_t (by rw [h2]; decide), y_Rc_worthM_87 _ _ _ _ hr hc, d_t h2, y_Rc_worthM_94 _ _ _ _ hr hc, show decide (Int32.ofNat (s.length + 1) ≤ 0) = decide (s.length + 1 ≤ 0) from nb_dle (b := 0) (by omega) (by decide), d_f (by omega), y_Rc_worthM_98 _ _ _ _ hr hc, sb1, nb_inb (by omega : s.length < 40) (by omega), cond_true, cond_true, cond_true, nb_tn (by omega : s.length < 100000), ea, y_Rc_worthM_162 _ _ _ _ hr hc, y_Rc_worthM_162 _ _ _ _ hr hc, nb_s]
        have fin : ∀ z, z = nt a → am_R 22 2 8 [.ref rc, .ref (rc + 6), .ref (r + 8), .int (Int32.ofNat (s.length + 1)), .int (Int32.ofNat (p + 1)), .int x, w6] [] (am_hp g N sw lv (am_up I (rc + 9) (upd (I (rc + 9)) s.length z)) L) = some (.inl (some (.int ((rn (I (r + 8)) l (nt a :: s)).headD 0))), am_hp g N sw lv I'' L) := fun z hz => by
          rw [hz]
          exact a1'
        cases hz : decide (a = 0) with
        | true => exact fin 1 (by unfold nt; rw [hz]; rfl)
        | false => exact fin 0 (by unfold nt; rw [hz]; rfl)
    · rw [d_f h1, d_f h2]
      match s, hs, h3, h4, hsl with
      | [a], _, h3, _, _ => exact absurd (show 2 ≤ 1 from h3) (by decide)
      | b :: a :: s, hs, _, h4, hsl =>
        have hsl2 : s.length + 2 ≤ mm := hsl
        have eb : I (rc + 9) (s.length + 1) = b := hs.1
        have ea : I (rc + 9) s.length = a := hs.2.1
        have hx8 : x ≤ -8 := Int32.not_lt.mp h1
        obtain ⟨I'', a1, a2⟩ := go _ _ (v_Ru_joined x a b :: s) (.int x) w6 rfl (stk_ps hs.2.2) (by show s.length + 1 ≤ mm; omega) h4
        refine ⟨I'', ?_, a2⟩
        have a1' : am_R 22 2 8 [.ref rc, .ref (rc + 6), .ref (r + 8), .int (Int32.ofNat (s.length + 1)), .int (Int32.ofNat (p + 1)), .int x, w6] [] (am_hp g N sw lv (am_up I (rc + 9) (upd (I (rc + 9)) s.length (v_Ru_joined x a b))) L) = _ := a1
        show am_R 22 2 35 [.ref rc, .ref (rc + 6), .ref (r + 8), .int (Int32.ofNat (s.length + 2)), .int (Int32.ofNat p), .int x, w6] [] (am_hp g N sw lv I L) = _
        rw [y_Rc_worthM_35 _ _ _ _ hr hc, d_t hx8, y_Rc_worthM_87 _ _ _ _ hr hc, d_f h2, y_Rc_worthM_125 _ _ _ _ hr hc, show decide (Int32.ofNat (s.length + 2) ≤ 1) = decide (s.length + 2 ≤ 1) from nb_dle (b := 1) (by omega) (by decide), d_f (by omega), y_Rc_worthM_130 _ _ _ _ hr hc, sb2, sb21, nb_inb (by omega : s.length < 40) (by omega), cond_true, nb_inb (by omega : s.length + 1 < 40) (by omega), cond_true, nb_tn (by omega : s.length < 100000), nb_tn (by omega : s.length + 1 < 100000), ea, eb, (jn_e x a b h1 h2).1.1, cond_true, cond_true, show Int32.ofNat (s.length + 2) + (-1) = Int32.ofNat (s.length + 1) from nb_pred, y_Rc_worthM_162 _ _ _ _ hr hc, nb_s]
        exact a1'
theorem WL_run {g N : Nat} {sw lv : Bool} {L : Nat → Nat → Int64} {r rc : Nat} {w : Bool} {mm : Nat} (hr : am_isr r) (hc : am_isc rc) (hm : mm ≤ 40) : ∀ (cs s : List Int32) (p to n : Nat) (I : Nat → Nat → Int32) (w5 w6 : Value), p + cs.length = to → to ≤ n → n ≤ 700 → I (rc + 7) 3 = Int32.ofNat to → I rc 11 = Int32.ofNat n → (∀ i, i < cs.length → I (rc + 8) (p + i) = cs.getD i 0) → stk s (I (rc + 9)) → s.length ≤ mm → bl w mm cs s.length = some 1 → ∃ I'', am_R 22 2 8 [.ref rc, .ref (rc + 7), .ref (r + 8), .int (Int32.ofNat s.length), .int (Int32.ofNat p), w5, w6] [] (am_hp g N sw lv I L) = some (.inl (some (.int ((rn (I (r + 8)) cs s).headD 0))), am_hp g N sw lv I'' L) ∧ ∀ a, a ≠ rc + 9 → I'' a = I a
  | [], s, p, to, n, I, w5, w6, hp, ht, hn, e3, e11, ec, hs, hsl, hb => by
    have hp2 : p + 0 = to := hp
    refine ⟨I, ?_, fun _ _ => rfl⟩
    rw [y_Rc_worthL_8 _ _ _ _ hr hc, e3, nb_dle (by omega) (by omega), d_t (by omega), y_Rc_worthL_168 _ _ _ _ hr hc]
    have hl : s.length = 1 := Option.some.inj hb
    match s, hl, hs with
    | [a], _, hs =>
      have : I (rc + 9) 0 = a := hs.1
      rw [this]
      rfl
  | x :: l, s, p, to, n, I, w5, w6, hp, ht, hn, e3, e11, ec, hs, hsl, hb => by
    have hp2 : p + (l.length + 1) = to := hp
    have hrn : r + 8 ≠ rc + 9 ∧ rc + 7 ≠ rc + 9 ∧ rc ≠ rc + 9 ∧ rc + 8 ≠ rc + 9 := by rcases hr with rfl | rfl <;> rcases hc with rfl | rfl <;> decide
    have ex : I (rc + 8) p = x := ec 0 (Nat.succ_pos _)
    have el : ∀ i, i < l.length → I (rc + 8) (p + 1 + i) = l.getD i 0 := fun i hi => by
      have := ec (i + 1) (Nat.succ_lt_succ hi)
      rw [show p + (i + 1) = p + 1 + i by omega] at this
      exact this
    have go : ∀ (J : Nat → Nat → Int32) (A : Nat → Int32) (s' : List Int32) (w5 w6 : Value), J = am_up I (rc + 9) A → stk s' A → s'.length ≤ mm → bl w mm l s'.length = some 1 → ∃ I'', am_R 22 2 8 [.ref rc, .ref (rc + 7), .ref (r + 8), .int (Int32.ofNat s'.length), .int (Int32.ofNat (p + 1)), w5, w6] [] (am_hp g N sw lv J L) = some (.inl (some (.int ((rn (I (r + 8)) l s').headD 0))), am_hp g N sw lv I'' L) ∧ ∀ a, a ≠ rc + 9 → I'' a = I a := by
      intro J A s' w5 w6 hJ h1 h2 h3
      subst hJ
      obtain ⟨I'', a1, a2⟩ := WL_run (w := w) (mm := mm) hr hc hm l s' (p + 1) to n (am_up I (rc + 9) A) w5 w6 (by omega) ht hn (by rw [up_ne hrn.2.1]; exact e3) (by rw [up_ne hrn.2.2.1]; exact e11) (fun i hi => by rw [up_ne hrn.2.2.2]; exact el i hi) (by rw [up_same]; exact h1) h2 h3
      rw [up_ne hrn.1] at a1
      exact ⟨I'', a1, fun a ha => (a2 a ha).trans (up_ne ha)⟩
    have st : am_R 22 2 8 [.ref rc, .ref (rc + 7), .ref (r + 8), .int (Int32.ofNat s.length), .int (Int32.ofNat p), w5, w6] [] (am_hp g N sw lv I L) = am_R 22 2 35 [.ref rc, .ref (rc + 7), .ref (r + 8), .int (Int32.ofNat s.length), .int (Int32.ofNat p), .int x, w6] [] (am_hp g N sw lv I L) := by
      rw [y_Rc_worthL_8 _ _ _ _ hr hc, e3, nb_dle (by omega) (by omega), d_f (by omega), e11, nb_dle (by omega) (by omega), d_f (by omega), nb_inb (by omega : p < 700) (by omega), cond_true, nb_tn (by omega), ex]
    rw [show rn (I (r + 8)) (x :: l) s = rn (I (r + 8)) l (rn1 (I (r + 8)) x s) from rfl]
    rw [st]
    unfold rn1
    rcases bl_c hb with ⟨h1, h2, h3, h4⟩ | ⟨h1, h2, h3, h4⟩ | ⟨h1, h2, h3, h4⟩
    · have hx8 : ¬ x ≤ -8 := fun z => by
        have z1 := Int32.le_iff_toInt_le.mp z
        have z2 := Int32.lt_iff_toInt_lt.mp h1
        omega
      obtain ⟨v1, v2⟩ := xs_v h1 h3
      rw [d_t h1]
      obtain ⟨I'', a1, a2⟩ := go _ _ (vv (I (r + 8)) x :: s) (.int x) (.int (-1 - x)) rfl (stk_ps hs) h2 h4
      refine ⟨I'', ?_, a2⟩
      have a1' : am_R 22 2 8 [.ref rc, .ref (rc + 7), .ref (r + 8), .int (Int32.ofNat (s.length + 1)), .int (Int32.ofNat (p + 1)), .int x, .int (-1 - x)] [] (am_hp g N sw lv (am_up I (rc + 9) (upd (I (rc + 9)) s.length (vv (I (r + 8)) x))) L) = _ := a1
      rw [y_Rc_worthL_35 _ _ _ _ hr hc, d_f hx8, y_Rc_worthL_42 _ _ _ _ hr hc, y_Rc_worthL_48 _ _ _ _ hr hc, nb_ge40 (by omega), d_f (by omega), y_Rc_worthL_54 _ _ _ _ hr hc, d_f v1, y_Rc_worthL_61 _ _ _ _ hr hc, nb_inb (by omega : s.length < 40) (by omega), cond_true, nb_tn (by omega : s.length < 100000), nb_s]
      by_cases hneg : x < 0
      · obtain ⟨k, hk1, hk2⟩ := v2 hneg
        have h75 := w75 w
        rw [d_t hneg, hk2, nb_inb (by omega : k < 7) (by omega), cond_true, ← hk2, y_Rc_worthL_84 _ _ _ _ hr hc, y_Rc_worthL_162 _ _ _ _ hr hc, nb_s]
        have ev : vv (I (r + 8)) x = (I (r + 8)) (Int32.toNatClampNeg (-1 - x)) := by
          unfold vv
          rw [d_t hneg]
        rw [ev] at a1' ⊢
        exact a1'
      · rw [d_f hneg, cond_true, y_Rc_worthL_84 _ _ _ _ hr hc, y_Rc_worthL_162 _ _ _ _ hr hc, nb_s]
        have ev : vv (I (r + 8)) x = x := by
          unfold vv
          rw [d_f hneg]
        rw [ev] at a1' ⊢
        exact a1'
    · rw [d_f h1, d_t h2]
      match s, hs, h3, h4, hsl with
      | a :: s, hs, _, h4, hsl =>
        have hsl2 : s.length + 1 ≤ mm := hsl
        have ea : I (rc + 9) s.length = a := hs.1
        obtain ⟨I'', a1, a2⟩ := go _ _ (nt a :: s) (.int x) w6 rfl (stk_ps hs.2) hsl h4
        refine ⟨I'', ?_, a2⟩
        have a1' : am_R 22 2 8 [.ref rc, .ref (rc + 7), .ref (r + 8), .int (Int32.ofNat (s.length + 1)), .int (Int32.ofNat (p + 1)), .int x, w6] [] (am_hp g N sw lv (am_up I (rc + 9) (upd (I (rc + 9)) s.length (nt a))) L) = _ := a1
        show am_R 22 2 35 [.ref rc, .ref (rc + 7), .ref (r + 8), .int (Int32.ofNat (s.length + 1)), .int (Int32.ofNat p), .int x, w6] [] (am_hp g N sw lv I L) = _
        rw [y_Rc_worthL_35 _ _ _ _ hr hc, d_t (by rw [h2]; decide), y_Rc_worthL_87 _ _ _ _ hr hc, d_t h2, y_Rc_worthL_94 _ _ _ _ hr hc, show decide (Int32.ofNat (s.length + 1) ≤ 0) = decide (s.length + 1 ≤ 0) from nb_dle (b := 0) (by omega) (by decide), d_f (by omega), y_Rc_worthL_98 _ _ _ _ hr hc, sb1, nb_inb (by omega : s.length < 40) (by omega), cond_true, cond_true, cond_true, nb_tn (by omega : s.length < 100000), ea, y_Rc_worthL_162 _ _ _ _ hr hc, y_Rc_worthL_162 _ _ _ _ hr hc, nb_s]
        have fin : ∀ z, z = nt a → am_R 22 2 8 [.ref rc, .ref (rc + 7), .ref (r + 8), .int (Int32.ofNat (s.length + 1)), .int (Int32.ofNat (p + 1)), .int x, w6] [] (am_hp g N sw lv (am_up I (rc + 9) (upd (I (rc + 9)) s.length z)) L) = some (.inl (some (.int ((rn (I (r + 8)) l (nt a :: s)).headD 0))), am_hp g N sw lv I'' L) := fun z hz => by
          rw [hz]
          exact a1'
        cases hz : decide (a = 0) with
        | true => exact fin 1 (by unfold nt; rw [hz]; rfl)
        | false => exact fin 0 (by unfold nt; rw [hz]; rfl)
    · rw [d_f h1, d_f h2]
      match s, hs, h3, h4, hsl with
      | [a], _, h3, _, _ => exact absurd (show 2 ≤ 1 from h3) (by decide)
      | b :: a :: s, hs, _, h4, hsl =>
        have hsl2 : s.length + 2 ≤ mm := hsl
        have eb : I (rc + 9) (s.length + 1) = b := hs.1
        have ea : I (rc + 9) s.length = a := hs.2.1
        have hx8 : x ≤ -8 := Int32.not_lt.mp h1
        obtain ⟨I'', a1, a2⟩ := go _ _ (v_Ru_joined x a b :: s) (.int x) w6 rfl (stk_ps hs.2.2) (by show s.length + 1 ≤ mm; omega) h4
        refine ⟨I'', ?_, a2⟩
        have a1' : am_R 22 2 8 [.ref rc, .ref (rc + 7), .ref (r + 8), .int (Int32.ofNat (s.length + 1)), .int (Int32.ofNat (p + 1)), .int x, w6] [] (am_hp g N sw lv (am_up I (rc + 9) (upd (I (rc + 9)) s.length (v_Ru_joined x a b))) L) = _ := a1
        show am_R 22 2 35 [.ref rc, .ref (rc + 7), .ref (r + 8), .int (Int32.ofNat (s.length + 2)), .int (Int32.ofNat p), .int x, w6] [] (am_hp g N sw lv I L) = _
        rw [y_Rc_worthL_35 _ _ _ _ hr hc, d_t hx8, y_Rc_worthL_87 _ _ _ _ hr hc, d_f h2, y_Rc_worthL_125 _ _ _ _ hr hc, show decide (Int32.ofNat (s.length + 2) ≤ 1) = decide (s.length + 2 ≤ 1) from nb_dle (b := 1) (by omega) (by decide), d_f (by omega), y_Rc_worthL_130 _ _ _ _ hr hc, sb2, sb21, nb_inb (by omega : s.length < 40) (by omega), cond_true, nb_inb (by omega : s.length + 1 < 40) (by omega), cond_true, nb_tn (by omega : s.length < 100000), nb_tn (by omega : s.length + 1 < 100000), ea, eb, (jn_e x a b h1 h2).1.1, cond_true, cond_true, show Int32.ofNat (s.length + 2) + (-1) = Int32.ofNat (s.length + 1) from nb_pred, y_Rc_worthL_162 _ _ _ _ hr hc, nb_s]
        exact a1'
theorem VN_run {g N : Nat} {sw lv : Bool} {L : Nat → Nat → Int64} {sg : Nat} {w : Bool} {mm : Nat} (hg : am_isg sg) (hm : mm ≤ 40) : ∀ (cs s : List Int32) (p n : Nat) (I : Nat → Nat → Int32) (w5 : Value), p + cs.length = n → n ≤ 700 → (∀ i, i < cs.length → I sg (p + i) = mc (cs.getD i 0)) → stk s (I 169) → s.length ≤ mm → bl w mm cs s.length = some 1 → ∃ I'', am_R 196 2 5 [.ref 147, .ref sg, .int (Int32.ofNat n), .int (Int32.ofNat s.length), .int (Int32.ofNat p), w5] [] (am_hp g N sw lv I L) = some (.inl (some (.int ((rn (I 168) cs s).headD 0))), am_hp g N sw lv I'' L) ∧ ∀ a, a ≠ 169 → I'' a = I a
  | [], s, p, n, I, w5, hp, hn, ec, hs, hsl, hb => by
    have hp2 : p + 0 = n := hp
    refine ⟨I, ?_, fun _ _ => rfl⟩
    rw [y_Mo_valueNow_5 _ _ _ _ hg, nb_dle (by omega) (by omega), d_t (by omega), y_Mo_valueNow_125 _ _ _ _ hg]
    have hl : s.length = 1 := Option.some.inj hb
    match s, hl, hs with
    | [a], _, hs =>
      have : I 169 0 = a := hs.1
      rw [this]
      rfl
  | x :: l, s, p, n, I, w5, hp, hn, ec, hs, hsl, hb => by
    have hp2 : p + (l.length + 1) = n := hp
    have hsg : sg ≠ 169 := by rcases hg with rfl | rfl <;> decide
    have ex : I sg p = mc x := ec 0 (Nat.succ_pos _)
    have el : ∀ i, i < l.length → I sg (p + 1 + i) = mc (l.getD i 0) := fun i hi => by
      have := ec (i + 1) (Nat.succ_lt_succ hi)
      rw [show p + (i + 1) = p + 1 + i by omega] at this
      exact this
    have go : ∀ (J : Nat → Nat → Int32) (A : Nat → Int32) (s' : List Int32) (w5 : Value), J = am_up I 169 A → stk s' A → s'.length ≤ mm → bl w mm l s'.length = some 1 → ∃ I'', am_R 196 2 5 [.ref 147, .ref sg, .int (Int32.ofNat n), .int (Int32.ofNat s'.length), .int (Int32.ofNat (p + 1)), w5] [] (am_hp g N sw lv J L) = some (.inl (some (.int ((rn (I 168) l s').headD 0))), am_hp g N sw lv I'' L) ∧ ∀ a, a ≠ 169 → I'' a = I a := by
      intro J A s' w5 hJ h1 h2 h3
      subst hJ
      obtain ⟨I'', a1, a2⟩ := VN_run (w := w) (mm := mm) hg hm l s' (p + 1) n (am_up I 169 A) w5 (by omega) hn (fun i hi => by rw [up_ne hsg]; exact el i hi) (by rw [up_same]; exact h1) h2 h3
      rw [up_ne (by decide)] at a1
      exact ⟨I'', a1, fun a ha => (a2 a ha).trans (up_ne ha)⟩
    have st : ∀ b, decide (mc x ≤ -20) = b → am_R 196 2 5 [.ref 147, .ref sg, .int (Int32.ofNat n), .int (Int32.ofNat s.length), .int (Int32.ofNat p), w5] [] (am_hp g N sw lv I L) = cond b (am_R 196 2 55 [.ref 147, .ref sg, .int (Int32.ofNat n), .int (Int32.ofNat s.length), .int (Int32.ofNat p), .int (mc x)] [] (am_hp g N sw lv I L)) (am_R 196 2 24 [.ref 147, .ref sg, .int (Int32.ofNat n), .int (Int32.ofNat s.length), .int (Int32.ofNat p), .int (mc x)] [] (am_hp g N sw lv I L)) := by
      intro b hb
      rw [y_Mo_valueNow_5 _ _ _ _ hg, nb_dle (by omega) (by omega), d_f (by omega), y_Mo_valueNow_11 _ _ _ _ hg, nb_inb (by omega : p < 1400) (by omega), cond_true, nb_tn (by omega : p < 100000), ex, hb]
    rw [show rn (I 168) (x :: l) s = rn (I 168) l (rn1 (I 168) x s) from rfl]
    unfold rn1
    rcases bl_c hb with ⟨h1, h2, h3, h4⟩ | ⟨h1, h2, h3, h4⟩ | ⟨h1, h2, h3, h4⟩
    · have hmx : mc x = x := by
        unfold mc
        rw [d_t h1]
      have hx20 : ¬ x ≤ -20 := fun z => by
        have z1 := Int32.le_iff_toInt_le.mp z
        have z2 := Int32.lt_iff_toInt_lt.mp h1
        have z3 : (-20 : Int32).toInt = -20 := by decide
        have z4 : (-8 : Int32).toInt = -8 := by decide
        omega
      obtain ⟨v1, v2⟩ := xs_v h1 h3
      rw [d_t h1, st false (by rw [hmx]; exact decide_eq_false hx20), cond_false, hmx]
      obtain ⟨I'', a1, a2⟩ := go _ _ (vv (I 168) x :: s) (.int x) rfl (stk_ps hs) h2 h4
      refine ⟨I'', ?_, a2⟩
      have a1' : am_R 196 2 5 [.ref 147, .ref sg, .int (Int32.ofNat n), .int (Int32.ofNat (s.length + 1)), .int (Int32.ofNat (p + 1)), .int x] [] (am_hp g N sw lv (am_up I 169 (upd (I 169) s.length (vv (I 168) x))) L) = _ := a1
      rw [y_Mo_valueNow_24 _ _ _ _ hg]
      by_cases hneg : x < 0
      · obtain ⟨k, hk1, hk2⟩ := v2 hneg
        have h75 := w75 w
        rw [d_t hneg, y_Mo_valueNow_47 _ _ _ _ _ _ hg, hk2, nb_inb (by omega : k < 7) (by omega), cond_true, ← hk2, nb_inb (by omega : s.length < 64) (by omega), cond_true, nb_tn (by omega : s.length < 100000), nb_s, y_Mo_valueNow_119 _ _ _ _ hg, nb_s]
        have ev : vv (I 168) x = (I 168) (Int32.toNatClampNeg (-1 - x)) := by
          unfold vv
          rw [d_t hneg]
        rw [ev] at a1' ⊢
        exact a1'
      · rw [d_f hneg, nb_inb (by omega : s.length < 64) (by omega), cond_true, nb_tn (by omega : s.length < 100000), nb_s, y_Mo_valueNow_119 _ _ _ _ hg, nb_s]
        have ev : vv (I 168) x = x := by
          unfold vv
          rw [d_f hneg]
        rw [ev] at a1' ⊢
        exact a1'
    · rw [d_f h1, d_t h2, st true (by rw [h2, mc_8]; decide), cond_true, h2, mc_8]
      match s, hs, h3, h4, hsl with
      | a :: s, hs, _, h4, hsl =>
        have hsl2 : s.length + 1 ≤ mm := hsl
        have ea : I 169 s.length = a := hs.1
        obtain ⟨I'', a1, a2⟩ := go _ _ (nt a :: s) (.int (-28)) rfl (stk_ps hs.2) hsl h4
        refine ⟨I'', ?_, a2⟩
        have a1' : am_R 196 2 5 [.ref 147, .ref sg, .int (Int32.ofNat n), .int (Int32.ofNat (s.length + 1)), .int (Int32.ofNat (p + 1)), .int (-28)] [] (am_hp g N sw lv (am_up I 169 (upd (I 169) s.length (nt a))) L) = _ := a1
        show am_R 196 2 55 [.ref 147, .ref sg, .int (Int32.ofNat n), .int (Int32.ofNat (s.length + 1)), .int (Int32.ofNat p), .int (-28)] [] (am_hp g N sw lv I L) = _
        rw [y_Mo_valueNow_55 _ _ _ _ hg, d_t rfl, y_Mo_valueNow_62 _ _ _ _ hg, sb1, nb_inb (by omega : s.length < 64) (by omega), cond_true, cond_true, cond_true, nb_tn (by omega : s.length < 100000), ea, y_Mo_valueNow_119 _ _ _ _ hg, y_Mo_valueNow_119 _ _ _ _ hg, nb_s]
        have fin : ∀ z, z = nt a → am_R 196 2 5 [.ref 147, .ref sg, .int (Int32.ofNat n), .int (Int32.ofNat (s.length + 1)), .int (Int32.ofNat (p + 1)), .int (-28)] [] (am_hp g N sw lv (am_up I 169 (upd (I 169) s.length z)) L) = some (.inl (some (.int ((rn (I 168) l (nt a :: s)).headD 0))), am_hp g N sw lv I'' L) := fun z hz => by
          rw [hz]
          exact a1'
        cases hz : decide (a = 0) with
        | true => exact fin 1 (by unfold nt; rw [hz]; rfl)
        | false => exact fin 0 (by unfold nt; rw [hz]; rfl)
    · match s, hs, h3, h4, hsl, st with
      | [a], _, h3, _, _, _ => exact absurd (show 2 ≤ 1 from h3) (by decide)
      | b :: a :: s, hs, _, h4, hsl, st =>
        obtain ⟨⟨j1, j2, j3⟩, j4, j5⟩ := jn_e x a b h1 h2
        rw [d_f h1, d_f h2, st true (decide_eq_true j4), cond_true]
        have hsl2 : s.length + 2 ≤ mm := hsl
        have eb : I 169 (s.length + 1) = b := hs.1
        have ea : I 169 s.length = a := hs.2.1
        obtain ⟨I'', a1, a2⟩ := go _ _ (v_Ru_joined x a b :: s) (.int (mc x)) rfl (stk_ps hs.2.2) (by show s.length + 1 ≤ mm; omega) h4
        refine ⟨I'', ?_, a2⟩
        have a1' : am_R 196 2 5 [.ref 147, .ref sg, .int (Int32.ofNat n), .int (Int32.ofNat (s.length + 1)), .int (Int32.ofNat (p + 1)), .int (mc x)] [] (am_hp g N sw lv (am_up I 169 (upd (I 169) s.length (v_Ru_joined x a b))) L) = _ := a1
        show am_R 196 2 55 [.ref 147, .ref sg, .int (Int32.ofNat n), .int (Int32.ofNat (s.length + 2)), .int (Int32.ofNat p), .int (mc x)] [] (am_hp g N sw lv I L) = _
        rw [y_Mo_valueNow_55 _ _ _ _ hg, d_f j5, y_Mo_valueNow_89 _ _ _ _ hg, show Int32.ofNat (s.length + 2) + (-1) = Int32.ofNat (s.length + 1) from nb_pred, y_Mo_valueNow_92 _ _ _ _ hg, sb1, nb_inb (by omega : s.length < 64) (by omega), cond_true, nb_inb (by omega : s.length + 1 < 64) (by omega), cond_true, nb_tn (by omega : s.length < 100000), nb_tn (by omega : s.length + 1 < 100000), ea, eb, j2, cond_true, cond_true, j3, y_Mo_valueNow_119 _ _ _ _ hg, nb_s]
        exact a1'
