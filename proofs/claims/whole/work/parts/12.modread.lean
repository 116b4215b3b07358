/-! the reference's row: what only reads -/
theorem l_lt {x y : Int64} : decide (lg_cmp x y < 0) = decide (x < y) := by
  unfold lg_cmp
  by_cases h : x > y
  · rw [if_pos h, decide_eq_false (fun q => by cases q), decide_eq_false (fun q => Int64.lt_irrefl (Int64.lt_trans h q))]
  · rw [if_neg h]
    by_cases e : x = y
    · rw [if_pos e, e, decide_eq_false (fun q => by cases q), decide_eq_false Int64.lt_irrefl]
    · rw [if_neg e, decide_eq_true (by decide)]
      refine (decide_eq_true ?_).symm
      rw [Int64.lt_iff_toInt_lt]
      have h1 : ¬ y.toInt < x.toInt := fun q => h (Int64.lt_iff_toInt_lt.mpr q)
      have h2 : x.toInt ≠ y.toInt := fun q => e (Int64.toInt_inj.mp q)
      omega
theorem l_gt {x y : Int64} : decide (0 < lg_cmp x y) = decide (y < x) := by
  unfold lg_cmp
  by_cases h : x > y
  · rw [if_pos h, decide_eq_true (by decide), decide_eq_true (show y < x from h)]
  · rw [if_neg h]
    have : ¬ y < x := h
    by_cases e : x = y
    · rw [if_pos e, decide_eq_false (by decide), decide_eq_false this]
    · rw [if_neg e, decide_eq_false (by decide), decide_eq_false this]
theorem l_i {x y : Int32} : x.toInt64 < y.toInt64 ↔ x < y := by
  rw [Int64.lt_iff_toInt_lt, Int32.toInt_toInt64, Int32.toInt_toInt64, Int32.lt_iff_toInt_lt]
/-- between two -/
theorem m_in (x a b : Int32) : v_Mo_isIn x.toInt64 a.toInt64 b.toInt64 = cond (decide (a ≤ x) && decide (x ≤ b)) 1 0 := by
  unfold v_Mo_isIn
  rw [l_lt, l_gt, decide_eq_decide.mpr l_i, decide_eq_decide.mpr l_i, i_dnlt, i_dnlt]
  cases decide (a ≤ x) <;> cases decide (x ≤ b) <;> rfl
theorem m_p1 : ∀ n, n < 9 → (Int32.ofNat n - 1).toInt = (n : Int) - 1 := by decide +kernel
theorem m_hd {n : Nat} (hn : n ≤ 8) (x : Int32) : v_Mo_isIn x.toInt64 0 (Int32.toInt64 (Int32.ofNat n - 1)) = cond (decide (0 ≤ x) && decide (x < Int32.ofNat n)) 1 0 := by
  have e := m_in x 0 (Int32.ofNat n - 1)
  rw [show (Int32.toInt64 0) = 0 by decide] at e
  rw [e]
  have : decide (x ≤ Int32.ofNat n - 1) = decide (x < Int32.ofNat n) := by
    refine decide_eq_decide.mpr ?_
    rw [Int32.le_iff_toInt_le, Int32.lt_iff_toInt_lt, m_p1 n (by omega), nb_ti (by omega)]
    omega
  rw [this]
theorem nb_of {x : Int32} (h : 0 ≤ x) : Int32.ofNat x.toNatClampNeg = x := by
  rw [Int32.le_iff_toInt_le] at h
  have h0 : (0 : Int32).toInt = 0 := by decide
  refine Int32.toInt_inj.mp ?_
  have hl := Int32.toNatClampNeg_lt x
  rw [Int32.toInt_ofNat_of_lt hl]
  unfold Int32.toNatClampNeg
  omega
theorem m_head {n : Nat} (hn : n ≤ 8) {x : Int32} (h : (decide (0 ≤ x) && decide (x < Int32.ofNat n)) = true) : ∃ k, k < n ∧ x = Int32.ofNat k := by
  rw [Bool.and_eq_true, decide_eq_true_iff, decide_eq_true_iff] at h
  refine ⟨x.toNatClampNeg, ?_, (nb_of h.1).symm⟩
  have h1 := h.2
  rw [Int32.lt_iff_toInt_lt, nb_ti (by omega)] at h1
  have h0 := h.1
  rw [Int32.le_iff_toInt_le] at h0
  have : (0 : Int32).toInt = 0 := by decide
  unfold Int32.toNatClampNeg
  omega
theorem m_head' {n k : Nat} (hn : n ≤ 8) (h : k < n) : (decide ((0 : Int32) ≤ Int32.ofNat k) && decide (Int32.ofNat k < Int32.ofNat n)) = true := by
  rw [nb_dlt (by omega) (by omega), decide_eq_true h, show decide ((0 : Int32) ≤ Int32.ofNat k) = true from decide_eq_true ((nb_le (a := 0) (by omega) (by omega)).mpr (Nat.zero_le _))]
  rfl
theorem m_not {n : Nat} (hn : n ≤ 8) : (decide ((0 : Int32) ≤ Int32.ofNat n) && decide (Int32.ofNat n < Int32.ofNat n)) = false := by
  rw [nb_dlt (by omega) (by omega), decide_eq_false (Nat.lt_irrefl n), Bool.and_false]
theorem m_isof : ∀ v, v < 256 → ∀ q, q < 8 → v_Mo_isOf (Int32.ofNat v) (Int32.ofNat q) = cond (v.testBit q) 1 0 := by decide +kernel
section MODR
variable {g N : Nat} {sw lv : Bool} {I : Nat → Nat → Int32} {L : Nat → Nat → Int64} {T : tr_T}
theorem rM_stands (hr : rM T I) (ht : t_ok T) {h : Nat} (hh : h < t_n T) : v_Mo_stands I (Int32.ofNat h) = cond (t_up T h) 1 0 := by
  have hn := ht.1
  unfold v_Mo_stands
  rw [hr.2.2.1, m_isof _ (b_no_lt _ (by omega) _ ht.2.1) _ (by omega), b_no_at _ (by omega) _ ht.2.1 _ hh]
  show _ = cond ((t_s T).testBit h) 1 0
  cases (t_s T).testBit h <;> rfl
theorem rM_standing (hr : rM T I) (ht : t_ok T) : v_Mo_standing I = Int32.ofNat (t_s T) := by
  have hn := ht.1
  unfold v_Mo_standing
  rw [hr.1, hr.2.2.1]
  exact b_stand _ (by omega) _ ht.2.1
theorem rM_seatL (hr : rM T I) (ht : t_ok T) {h : Nat} (hh : h < t_n T) : ∀ c k, k + c = t_st T h → am_R 180 1 2 [.ref 147, .int (Int32.ofNat h), .int (Int32.ofNat k)] [] (am_hp g N sw lv I L) = some (.inl (some (.int (Int32.ofNat (t_st T h)))), am_hp g N sw lv I L)
  | 0, k, hc => by
    have hn := ht.1
    have hs := (ht.2.2.2.1 h hh).2.2.2.2
    rw [y_Mo_seatOf_2 _ _, hr.1, nb_dle (by omega) (by omega), d_f (by omega : ¬ t_n T ≤ k), c_t (nb_inb (by omega) (by omega)), nb_tn (by omega), hr.2.2.2.2 k (by omega), show k = t_st T h by omega, hs.2, d_t rfl]
  | c + 1, k, hc => by
    have hn := ht.1
    have hs := (ht.2.2.2.1 h hh).2.2.2.2
    have hk := ht.2.2.2.2 k (by omega)
    rw [y_Mo_seatOf_2 _ _, hr.1, nb_dle (by omega) (by omega), d_f (by omega : ¬ t_n T ≤ k), c_t (nb_inb (by omega) (by omega)), nb_tn (by omega), hr.2.2.2.2 k (by omega), nb_deq (by omega) (by omega), d_f (show ¬ t_hd T k = h by intro e; rw [e] at hk; omega), nb_s]
    exact rM_seatL hr ht hh c (k + 1) (by omega)
theorem rM_seat (hr : rM T I) (ht : t_ok T) {h : Nat} (hh : h < t_n T) : am_R 180 1 0 [.ref 147, .int (Int32.ofNat h), am_u] [] (am_hp g N sw lv I L) = some (.inl (some (.int (Int32.ofNat (t_st T h)))), am_hp g N sw lv I L) := by
  rw [y_Mo_seatOf_0 _]
  exact rM_seatL hr ht hh (t_st T h) 0 (by omega)
theorem rM_nextR (hr : rM T I) (ht : t_ok T) (x : Int32) : ∀ (c k : Nat), k + c = t_n T → am_R 179 3 8 [.ref 147, .int x, .int 1, .int (Int32.ofNat k)] [] (am_hp g N sw lv I L) = some (.inl (some (.int (oi ((fs (fun k => t_up T (t_hd T k)) c k).map (t_hd T))))), am_hp g N sw lv I L)
  | 0, k, hc => by
    have hn := ht.1
    rw [y_Mo_nextOn_8 _ _ _, hr.1, m_hd hn, show k = t_n T by omega, m_not hn]
    rfl
  | c + 1, k, hc => by
    have hn := ht.1
    have hk := ht.2.2.2.2 k (by omega)
    rw [y_Mo_nextOn_8 _ _ _, hr.1, m_hd hn, m_head' hn (show k < t_n T by omega), cond_true, d_f (by decide : ¬ (1 : Int32) = 0), c_t (nb_inb (by omega) (by omega)), nb_tn (by omega), hr.2.2.2.2 k (by omega), rM_stands hr ht hk.1]
    unfold fs
    cases hp : t_up T (t_hd T k) with
    | true =>
      rw [nb_inb (show k < 8 by omega) (by omega)]
      rfl
    | false =>
      rw [nb_s]
      exact rM_nextR hr ht x c (k + 1) (by omega)
theorem rM_nextL (hr : rM T I) (ht : t_ok T) (x : Int32) : ∀ (k : Nat), k ≤ t_n T → am_R 179 3 8 [.ref 147, .int x, .int (-1), .int (Int32.ofNat k + (-1))] [] (am_hp g N sw lv I L) = some (.inl (some (.int (oi ((ls_ (fun k => t_up T (t_hd T k)) k).map (t_hd T))))), am_hp g N sw lv I L)
  | 0, hc => by
    have hn := ht.1
    rw [y_Mo_nextOn_8 _ _ _, hr.1, m_hd hn, show decide ((0 : Int32) ≤ Int32.ofNat 0 + (-1)) = false by decide]
    rfl
  | k + 1, hc => by
    have hn := ht.1
    have hk := ht.2.2.2.2 k (by omega)
    rw [y_Mo_nextOn_8 _ _ _, hr.1, m_hd hn, nb_pred, m_head' hn (show k < t_n T by omega), cond_true, d_f (by decide : ¬ (1 : Int32) = 0), c_t (nb_inb (by omega) (by omega)), nb_tn (by omega), hr.2.2.2.2 k (by omega), rM_stands hr ht hk.1]
    unfold ls_
    cases hp : t_up T (t_hd T k) with
    | true =>
      rw [nb_inb (show k < 8 by omega) (by omega)]
      rfl
    | false => exact rM_nextL hr ht x k (by omega)
theorem rM_next (hr : rM T I) (ht : t_ok T) (w : Bool) {h : Nat} (hh : h < t_n T) : am_R 179 3 0 [.ref 147, .int (Int32.ofNat h), .int (sd w), am_u] [] (am_hp g N sw lv I L) = some (.inl (some (.int (oi (t_nx T w h)))), am_hp g N sw lv I L) := by
  have hn := ht.1
  have hs := (ht.2.2.2.1 h hh).2.2.2.2.1
  rw [y_Mo_nextOn_0 _ _, rM_seat hr ht hh, am_bd_ok, am_tl, y_Mo_nextOn_5 _ _ _]
  cases w with
  | true =>
    show am_R 179 3 8 [.ref 147, .int (Int32.ofNat h), .int 1, .int (Int32.ofNat (t_st T h) + 1)] [] _ = _
    rw [nb_s]
    have := rM_nextR (g := g) (N := N) (sw := sw) (lv := lv) (L := L) hr ht (Int32.ofNat h) (t_n T - 1 - t_st T h) (t_st T h + 1) (by omega)
    exact this
  | false => exact rM_nextL hr ht _ (t_st T h) (by omega)
theorem m_op1 : ∀ a, a < 64 → ∀ b, b < 64 → (Int32.ofNat a &&& Int32.ofNat b) ||| ((Int32.ofNat a ^^^ Int32.ofNat b) &&& Int32.ofNat b) = Int32.ofNat b := by decide +kernel
theorem m_op2 : ∀ a, a < 64 → ∀ b, b < 64 → (Int32.ofNat a &&& Int32.ofNat b) ||| ((Int32.ofNat a ^^^ Int32.ofNat b) &&& Int32.ofNat a) = Int32.ofNat a := by decide +kernel
theorem rM_op (hr : rM T I) (ht : t_ok T) {h : Nat} (hh : h < t_n T) : g_Mo_opinions I (Int32.ofNat h) = true ∧ v_Mo_opinions I (Int32.ofNat h) = Int32.ofNat (t_op T h) := by
  have hn := ht.1
  have hi : am_inb (Int32.ofNat h) 8 = true := nb_inb (by omega) (by omega)
  have hf := hr.2.2.2.1 h hh
  have ho := ht.2.2.2.1 h hh
  unfold g_Mo_opinions v_Mo_opinions t_op
  rw [hi, nb_tn (by omega), hf.2.1, hf.2.2.1, hf.2.2.2, i_dnlt, m_op1 _ ho.2.2.1 _ ho.2.2.2.1, m_op2 _ ho.2.2.1 _ ho.2.2.2.1]
  cases decide (0 ≤ t_le T h) <;> exact ⟨rfl, rfl⟩
theorem rM_votes (hr : rM T I) (ht : t_ok T) {h : Nat} (hh : h < t_n T) : am_R 178 4 0 [.ref 147, .int (Int32.ofNat h), am_u] [] (am_hp g N sw lv I L) = some (.inl (some (.int (Int32.ofNat (t_ba T h)))), am_hp g N sw lv I L) := by
  have hn := ht.1
  have hi : am_inb (Int32.ofNat h) 8 = true := nb_inb (by omega) (by omega)
  have hf := hr.2.2.2.1 h hh
  have e0 := rM_op hr ht hh
  have key : ∀ w, cond (decide (oi (t_nx T w h) = (-1))) (cond (g_Mo_opinions I (Int32.ofNat h)) (some ((.inl (some (.int (v_Mo_opinions I (Int32.ofNat h)))) : Option Value ⊕ Nat), am_hp g N sw lv I L)) none) (cond (g_Mo_opinions I (oi (t_nx T w h))) (some (.inl (some (.int (v_Mo_opinions I (oi (t_nx T w h))))), am_hp g N sw lv I L)) none) = some (.inl (some (.int (Int32.ofNat (t_op T ((t_nx T w h).getD h))))), am_hp g N sw lv I L) := by
    intro w
    cases e : t_nx T w h with
    | none =>
      rw [show oi none = -1 from rfl, d_t rfl, e0.1, e0.2]
      rfl
    | some j =>
      have hj := (t_nx_lt ht hh e).1
      have ej := rM_op hr ht hj
      rw [show oi (some j) = Int32.ofNat j from rfl, d_f (nb_n1 (by omega)), ej.1, ej.2]
      rfl
  rw [y_Mo_votesOf_0 _, hi, nb_tn (by omega), hf.2.1, i_dnlt]
  unfold t_ba t_fo
  cases decide (5 ≤ t_le T h) with
  | true =>
    show am_bd (am_R 179 3 0 [.ref 147, .int (Int32.ofNat h), .int (sd true), am_u] [] _) _ _ = _
    rw [rM_next hr ht true hh, am_bd_ok, am_tl, y_Mo_votesOf_16 _ _]
    exact key true
  | false =>
    show cond (decide ((-5) < t_le T h)) _ _ = _
    rw [i_dnlt]
    cases decide (t_le T h ≤ (-5)) with
    | true =>
      show am_bd (am_R 179 3 0 [.ref 147, .int (Int32.ofNat h), .int (sd false), am_u] [] _) _ _ = _
      rw [rM_next hr ht false hh, am_bd_ok, am_tl, y_Mo_votesOf_36 _ _]
      exact key false
    | false =>
      show cond (g_Mo_opinions I (Int32.ofNat h)) _ none = _
      rw [e0.1, e0.2]
      rfl
theorem rM_forL (hr : rM T I) (ht : t_ok T) {q : Nat} (hq : q < 8) : ∀ c k, k + c = t_n T → am_R 175 5 4 [.ref 147, .int (Int32.ofNat q), .int (Int32.ofNat (bs k (fun h => t_up T h && (t_ba T h).testBit q))), .int (Int32.ofNat k)] [] (am_hp g N sw lv I L) = some (.inl (some (.int (Int32.ofNat (t_for T q)))), am_hp g N sw lv I L)
  | 0, k, hc => by
    have hn := ht.1
    rw [y_Mo_forIt_4 _ _ _, hr.1, nb_dle (by omega) (by omega), d_t (by omega : t_n T ≤ k), show k = t_n T by omega]
    rfl
  | c + 1, k, hc => by
    have hn := ht.1
    have hk : k < t_n T := by omega
    have ih := rM_forL hr ht hq c (k + 1) (by omega)
    have hba : t_ba T k < 64 := t_op_lt ht (t_fo_lt ht hk)
    rw [y_Mo_forIt_4 _ _ _, hr.1, nb_dle (by omega) (by omega), d_f (by omega : ¬ t_n T ≤ k), rM_stands hr ht hk]
    cases hu : t_up T k with
    | false =>
      rw [bs_f (P := fun h => t_up T h && (t_ba T h).testBit q) (show (t_up T k && _) = false by rw [hu]; rfl), ← nb_s] at ih
      rw [cond_false, d_t rfl, Int32.or_zero]
      exact ih
    | true =>
      rw [cond_true, d_f (by decide : ¬ (1 : Int32) = 0), rM_votes hr ht hk, am_bd_ok, am_tl, y_Mo_forIt_28 _ _ _ _ _, m_isof _ (by omega) _ hq]
      cases hb : (t_ba T k).testBit q with
      | false =>
        rw [bs_f (P := fun h => t_up T h && (t_ba T h).testBit q) (show (t_up T k && (t_ba T k).testBit q) = false by rw [hu, hb]; rfl), ← nb_s] at ih
        rw [cond_false, d_t rfl, Int32.or_zero]
        exact ih
      | true =>
        rw [bs_t (P := fun h => t_up T h && (t_ba T h).testBit q) (show (t_up T k && (t_ba T k).testBit q) = true by rw [hu, hb]; rfl), ← nb_s] at ih
        rw [cond_true, d_f (by decide : ¬ (1 : Int32) = 0), bt_on _ (bs_256 (by omega)) _ (by omega)]
        exact ih
theorem rM_for (hr : rM T I) (ht : t_ok T) {q : Nat} (hq : q < 8) : am_R 175 5 0 [.ref 147, .int (Int32.ofNat q), am_u, am_u] [] (am_hp g N sw lv I L) = some (.inl (some (.int (Int32.ofNat (t_for T q)))), am_hp g N sw lv I L) := by
  rw [y_Mo_forIt_0 _]
  exact rM_forL hr ht hq (t_n T) 0 (by omega)
theorem m_bo : ∀ v, v < 256 → v ≠ 0 → Int32.ofNat v &&& (Int32.ofNat v - 1) = Int32.ofNat (v &&& (v - 1)) ∧ v &&& (v - 1) < v ∧ b_pc v = b_pc (v &&& (v - 1)) + 1 := by decide +kernel
theorem m_bitsL (x : Int32) : ∀ c v a, v ≤ c → v < 256 → am_R 183 1 4 [.int x, .int (Int32.ofNat a), .int (Int32.ofNat v)] [] (am_hp g N sw lv I L) = some (.inl (some (.int (Int32.ofNat (a + b_pc v)))), am_hp g N sw lv I L)
  | 0, v, a, hc, hv => by
    obtain rfl : v = 0 := by omega
    rw [y_Mo_bitsOf_4 _ _ _, d_t (by decide)]
    rfl
  | c + 1, v, a, hc, hv => by
    by_cases h0 : v = 0
    · subst h0
      rw [y_Mo_bitsOf_4 _ _ _, d_t (by decide)]
      rfl
    · obtain ⟨e1, e2, e3⟩ := m_bo v hv h0
      rw [y_Mo_bitsOf_4 _ _ _, d_f (show ¬ Int32.ofNat v = 0 from fun q => h0 ((nb_eq (by omega) (by decide)).mp q)), e1, nb_s, m_bitsL x c _ (a + 1) (by omega) (by omega), e3, show a + 1 + b_pc (v &&& (v - 1)) = a + (b_pc (v &&& (v - 1)) + 1) by omega]
theorem m_bits {v : Nat} (hv : v < 256) : am_R 183 1 0 [.int (Int32.ofNat v), am_u, am_u] [] (am_hp g N sw lv I L) = some (.inl (some (.int (Int32.ofNat (b_pc v)))), am_hp g N sw lv I L) := by
  rw [y_Mo_bitsOf_0 _]
  have := m_bitsL (g := g) (N := N) (sw := sw) (lv := lv) (I := I) (L := L) (Int32.ofNat v) v v 0 (Nat.le_refl _) hv
  rw [Nat.zero_add] at this
  exact this
theorem rM_pass (hr : rM T I) (ht : t_ok T) {q : Nat} (hq : q < 8) : am_R 174 6 0 [.ref 147, .int (Int32.ofNat q)] [] (am_hp g N sw lv I L) = some (.inl (some (.int (cond (t_ps T q) 1 0))), am_hp g N sw lv I L) := by
  have hn := ht.1
  have h1 := b_pc_le (t_s T)
  have h2 := b_pc_le (t_for T q)
  rw [y_Mo_passes_0 _, rM_for hr ht hq, am_bd_ok, am_tl, y_Mo_passes_6 _ _ _, m_bits (v := t_for T q) (bs_256 hn), am_bd_ok, am_tl, y_Mo_passes_9 _ _ _, rM_standing hr ht, m_bits (b_256 hn ht.2.1), am_bd_ok, am_tl, y_Mo_passes_17 _ _ _, nb_two, nb_dle (by omega) (by omega)]
  unfold t_ps
  by_cases h : 2 * b_pc (t_for T q) ≤ b_pc (t_s T)
  · rw [d_t h, d_f (by omega : ¬ b_pc (t_s T) < 2 * b_pc (t_for T q))]
  · rw [d_f h, d_t (by omega : b_pc (t_s T) < 2 * b_pc (t_for T q))]
theorem rM_pgL (hr : rM T I) (ht : t_ok T) : ∀ c k, k + c = 6 → am_R 173 7 4 [.ref 147, .int (Int32.ofNat (bs k (t_ps T))), .int (Int32.ofNat k)] [] (am_hp g N sw lv I L) = some (.inl (some (.int (Int32.ofNat (t_pg T)))), am_hp g N sw lv I L)
  | 0, k, hc => by
    obtain rfl : k = 6 := by omega
    rw [y_Mo_passing_4 _ _, d_t (by decide)]
    rfl
  | c + 1, k, hc => by
    have ih := rM_pgL hr ht c (k + 1) (by omega)
    rw [y_Mo_passing_4 _ _, d_f (show ¬ (6 : Int32) ≤ Int32.ofNat k from fun q => by have := (nb_le (a := 6) (by decide) (by omega)).mp q; omega), rM_pass hr ht (by omega), am_bd_ok, am_tl, y_Mo_passing_16 _ _ _ _]
    cases hp : t_ps T k with
    | false =>
      rw [bs_f hp, ← nb_s] at ih
      rw [cond_false, d_t rfl, Int32.or_zero]
      exact ih
    | true =>
      rw [bs_t hp, ← nb_s] at ih
      rw [cond_true, d_f (by decide : ¬ (1 : Int32) = 0), bt_on _ (bs_256 (by omega)) _ (by omega)]
      exact ih
theorem rM_pg (hr : rM T I) (ht : t_ok T) : am_R 173 7 0 [.ref 147, am_u, am_u] [] (am_hp g N sw lv I L) = some (.inl (some (.int (Int32.ofNat (t_pg T)))), am_hp g N sw lv I L) := by
  rw [y_Mo_passing_0]
  exact rM_pgL hr ht 6 0 (by omega)
end MODR
