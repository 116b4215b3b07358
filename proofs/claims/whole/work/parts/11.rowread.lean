/-! the class's row: what only reads -/
section ROWR
variable {g N : Nat} {sw lv : Bool} {I : Nat → Nat → Int32} {L : Nat → Nat → Int64} {r : Nat} {T : tr_T}
theorem rC_stand (hr : rC r T I) (ht : t_ok T) {h : Nat} (hh : h < t_n T) : decide (((I r 2 >>> (Int32.ofNat h &&& 31)) &&& 1) = 0) = !(t_up T h) := by
  rw [hr.2.2.1]
  exact bt_a _ (b_256 ht.1 ht.2.1) h (Nat.lt_of_lt_of_le hh ht.1)
theorem rC_stands (hr : rC r T I) (ht : t_ok T) {h : Nat} (hh : h < t_n T) : v_Rw_stands I r (Int32.ofNat h) = cond (t_up T h) 1 0 := by
  unfold v_Rw_stands
  rw [rC_stand hr ht hh]
  cases t_up T h <;> rfl
theorem rC_nextR (ha : am_isr r) (hr : rC r T I) (ht : t_ok T) (x : Int32) : ∀ (c k j : Nat), k + c + 1 = t_n T → 1 ≤ j → j ≤ k + 1 → am_R 27 1 10 [.ref r, .int x, .int 1, .int (Int32.ofNat k), .int (Int32.ofNat j)] [] (am_hp g N sw lv I L) = some (.inl (some (.int (oi ((fs (fun k => t_up T (t_hd T k)) c (k + 1)).map (t_hd T))))), am_hp g N sw lv I L)
  | 0, k, j, hc, h1, h2 => by
    have hn := ht.1
    rw [y_Rw_nextTo_10 _ _ _ _ ha, hr.1, nb_s]
    simp (disch := omega) only [nb_dle, nb_dlt]
    by_cases hj : t_n T ≤ j
    · rw [d_t hj]
      rfl
    · rw [d_f hj, d_f (nb_nn (by omega)), d_f (by omega : ¬ k + 1 < t_n T)]
      rfl
  | c + 1, k, j, hc, h1, h2 => by
    have hn := ht.1
    have hk := ht.2.2.2.2 (k + 1) (by omega)
    rw [y_Rw_nextTo_10 _ _ _ _ ha, hr.1, nb_s]
    simp (disch := omega) only [nb_dle, nb_dlt]
    rw [d_f (by omega : ¬ t_n T ≤ j), d_f (nb_nn (by omega)), d_t (by omega : k + 1 < t_n T), c_t (nb_inb (by omega) (by omega)), nb_tn (by omega), hr.2.2.2.2 (k + 1) (by omega), rC_stand hr ht hk.1]
    unfold fs
    cases hp : t_up T (t_hd T (k + 1)) with
    | true =>
      rw [nb_inb (show k + 1 < 8 by omega) (by omega)]
      rfl
    | false =>
      rw [nb_s]
      exact rC_nextR ha hr ht x c (k + 1) (j + 1) (by omega) (by omega) (by omega)
theorem rC_nextL (ha : am_isr r) (hr : rC r T I) (ht : t_ok T) (x : Int32) : ∀ (k j : Nat), k < t_n T → 1 ≤ j → j + k ≤ t_n T → am_R 27 1 10 [.ref r, .int x, .int (-1), .int (Int32.ofNat k), .int (Int32.ofNat j)] [] (am_hp g N sw lv I L) = some (.inl (some (.int (oi ((ls_ (fun k => t_up T (t_hd T k)) k).map (t_hd T))))), am_hp g N sw lv I L)
  | 0, j, hc, h1, h2 => by
    have hn := ht.1
    rw [y_Rw_nextTo_10 _ _ _ _ ha, hr.1]
    simp (disch := omega) only [nb_dle]
    by_cases hj : t_n T ≤ j
    · rw [d_t hj]
      rfl
    · rw [d_f hj, d_t (by decide : (Int32.ofNat 0 + (-1) : Int32) < 0)]
      rfl
  | k + 1, j, hc, h1, h2 => by
    have hn := ht.1
    have hk := ht.2.2.2.2 k (by omega)
    rw [y_Rw_nextTo_10 _ _ _ _ ha, hr.1, nb_pred]
    simp (disch := omega) only [nb_dle, nb_dlt]
    rw [d_f (by omega : ¬ t_n T ≤ j), d_f (nb_nn (by omega)), d_t (by omega : k < t_n T), c_t (nb_inb (by omega) (by omega)), nb_tn (by omega), hr.2.2.2.2 k (by omega), rC_stand hr ht hk.1]
    unfold ls_
    cases hp : t_up T (t_hd T k) with
    | true =>
      rw [nb_inb (show k < 8 by omega) (by omega)]
      rfl
    | false =>
      rw [nb_s]
      exact rC_nextL ha hr ht x k (j + 1) (by omega) (by omega) (by omega)
theorem rC_next (ha : am_isr r) (hr : rC r T I) (ht : t_ok T) (w : Bool) {h : Nat} (hh : h < t_n T) : am_R 27 1 0 [.ref r, .int (Int32.ofNat h), .int (sd w), am_u, am_u] [] (am_hp g N sw lv I L) = some (.inl (some (.int (oi (t_nx T w h)))), am_hp g N sw lv I L) := by
  have hn := ht.1
  have hs := (ht.2.2.2.1 h hh).2.2.2.2.1
  rw [y_Rw_nextTo_0 _ _ ha, c_t (nb_inb (by omega) (by omega)), nb_tn (by omega), (hr.2.2.2.1 h hh).2.2.2.2]
  cases w with
  | true => exact rC_nextR ha hr ht _ (t_n T - 1 - t_st T h) (t_st T h) 1 (by omega) (by omega) (by omega)
  | false => exact rC_nextL ha hr ht _ (t_st T h) 1 (by omega) (by omega) (by omega)
theorem rC_op (hr : rC r T I) (ht : t_ok T) {h : Nat} (hh : h < t_n T) : g_Rw_opinionOf I r (Int32.ofNat h) = true ∧ v_Rw_opinionOf I r (Int32.ofNat h) = Int32.ofNat (t_op T h) := by
  have hn := ht.1
  have hi : am_inb (Int32.ofNat h) 8 = true := nb_inb (by omega) (by omega)
  have hf := hr.2.2.2.1 h hh
  unfold g_Rw_opinionOf v_Rw_opinionOf t_op
  rw [hi, nb_tn (by omega), hf.2.1, hf.2.2.1, hf.2.2.2.1, i_dnlt]
  cases decide (0 ≤ t_le T h) <;> exact ⟨rfl, rfl⟩
theorem oi_getD (o : Option Nat) (h : Nat) (ho : ∀ j, o = some j → j < 100000) : cond (decide (oi o = (-1))) (Int32.ofNat h) (oi o) = Int32.ofNat (o.getD h) := by
  cases o with
  | none => rfl
  | some j => exact d_f (nb_n1 (ho j rfl))
theorem rC_follow (ha : am_isr r) (hr : rC r T I) (ht : t_ok T) {h : Nat} (hh : h < t_n T) : am_R 39 2 0 [.ref r, .int (Int32.ofNat h), am_u] [] (am_hp g N sw lv I L) = some (.inl (some (.int (Int32.ofNat (t_fo T h)))), am_hp g N sw lv I L) := by
  have hn := ht.1
  have hi : am_inb (Int32.ofNat h) 8 = true := nb_inb (by omega) (by omega)
  have hf := hr.2.2.2.1 h hh
  have push : ∀ (c : Bool) (x y : Int32) (H : am_H), cond c (some ((.inl (some (.int x)) : Option Value ⊕ Nat), H)) (some (.inl (some (.int y)), H)) = some (.inl (some (.int (cond c x y))), H) := by intro c x y H; cases c <;> rfl
  have ho : ∀ w j, t_nx T w h = some j → j < 100000 := fun w j e => by have := (t_nx_lt ht hh e).1; omega
  rw [y_Rw_followedBy_0 _ ha, hi, nb_tn (by omega), hf.2.1, i_dnlt]
  unfold t_fo
  cases decide (5 ≤ t_le T h) with
  | true =>
    show am_bd (am_R 27 1 0 [.ref r, .int (Int32.ofNat h), .int (sd true), am_u, am_u] [] _) _ _ = _
    rw [rC_next ha hr ht true hh, am_bd_ok, am_tl, y_Rw_followedBy_18 _ _ _ ha, push, oi_getD _ _ (ho true)]
    rfl
  | false =>
    show cond (decide ((-5) < t_le T h)) _ _ = _
    rw [i_dnlt]
    cases decide (t_le T h ≤ (-5)) with
    | true =>
      show am_bd (am_R 27 1 0 [.ref r, .int (Int32.ofNat h), .int (sd false), am_u, am_u] [] _) _ _ = _
      rw [rC_next ha hr ht false hh, am_bd_ok, am_tl, y_Rw_followedBy_39 _ _ _ ha, push, oi_getD _ _ (ho false)]
      rfl
    | false => rfl
theorem rC_ballot (ha : am_isr r) (hr : rC r T I) (ht : t_ok T) {h : Nat} (hh : h < t_n T) : am_R 38 3 0 [.ref r, .int (Int32.ofNat h)] [] (am_hp g N sw lv I L) = some (.inl (some (.int (Int32.ofNat (t_ba T h)))), am_hp g N sw lv I L) := by
  obtain ⟨e1, e2⟩ := rC_op hr ht (t_fo_lt ht hh)
  rw [y_Rw_ballotOf_0 _ ha, rC_follow ha hr ht hh, am_bd_ok, am_tl, y_Rw_ballotOf_6 _ _ ha, e1, e2]
  rfl
theorem rC_opsOnL (ha : am_isr r) (hr : rC r T I) (ht : t_ok T) {q : Nat} (hq : q < 8) : ∀ c k, k + c = t_n T → am_R 44 2 4 [.ref r, .int (Int32.ofNat q), .int (Int32.ofNat (bs k (fun h => (t_op T h).testBit q))), .int (Int32.ofNat k)] [] (am_hp g N sw lv I L) = some (.inl (some (.int (Int32.ofNat (bs (t_n T) (fun h => (t_op T h).testBit q))))), am_hp g N sw lv I L)
  | 0, k, hc => by
    have hn := ht.1
    rw [y_Rw_opinionsOn_4 _ _ _ ha, hr.1, nb_dle (by omega) (by omega), d_t (by omega : t_n T ≤ k), show k = t_n T by omega]
  | c + 1, k, hc => by
    have hn := ht.1
    obtain ⟨e1, e2⟩ := rC_op hr ht (show k < t_n T by omega)
    have h64 := t_op_lt ht (show k < t_n T by omega)
    rw [y_Rw_opinionsOn_4 _ _ _ ha, hr.1, nb_dle (by omega) (by omega), d_f (by omega : ¬ t_n T ≤ k), e1, e2, cond_true, bt_bit _ (by omega) _ hq _ (by omega), bt_or _ (bs_256 (by omega)) _ (b_c2 (by omega)), nb_s]
    exact rC_opsOnL ha hr ht hq c (k + 1) (by omega)
theorem rC_opsOn (ha : am_isr r) (hr : rC r T I) (ht : t_ok T) {q : Nat} (hq : q < 8) : am_R 44 2 0 [.ref r, .int (Int32.ofNat q), am_u, am_u] [] (am_hp g N sw lv I L) = some (.inl (some (.int (Int32.ofNat (bs (t_n T) (fun h => (t_op T h).testBit q))))), am_hp g N sw lv I L) := by
  rw [y_Rw_opinionsOn_0 _ ha]
  exact rC_opsOnL ha hr ht hq (t_n T) 0 (by omega)
/-- who votes for it, if these are for it -/
def t_vw (T : tr_T) (o : Nat) : Nat := bs (t_n T) (fun h => t_up T h && o.testBit (t_fo T h))
theorem rC_votWL (ha : am_isr r) (hr : rC r T I) (ht : t_ok T) {o : Nat} (ho : o < 256) : ∀ c k, k + c = t_n T → am_R 45 3 4 [.ref r, .int (Int32.ofNat o), .int (Int32.ofNat (bs k (fun h => t_up T h && o.testBit (t_fo T h)))), .int (Int32.ofNat k)] [] (am_hp g N sw lv I L) = some (.inl (some (.int (Int32.ofNat (t_vw T o)))), am_hp g N sw lv I L)
  | 0, k, hc => by
    have hn := ht.1
    rw [y_Rw_votersWith_4 _ _ _ ha, hr.1, nb_dle (by omega) (by omega), d_t (by omega : t_n T ≤ k), show k = t_n T by omega]
    rfl
  | c + 1, k, hc => by
    have hn := ht.1
    have hk : k < t_n T := by omega
    have ih := rC_votWL ha hr ht ho c (k + 1) (by omega)
    have hfo := t_fo_lt ht hk
    rw [y_Rw_votersWith_4 _ _ _ ha, hr.1, nb_dle (by omega) (by omega), d_f (by omega : ¬ t_n T ≤ k), rC_stands hr ht hk]
    cases hu : t_up T k with
    | false =>
      rw [bs_f (P := fun h => t_up T h && o.testBit (t_fo T h)) (show (t_up T k && _) = false by rw [hu]; rfl), ← nb_s] at ih
      exact ih
    | true =>
      have e2 : bs (k + 1) (fun h => t_up T h && o.testBit (t_fo T h)) = bs k (fun h => t_up T h && o.testBit (t_fo T h)) ||| cond (o.testBit (t_fo T k)) (2 ^ k) 0 := by
        show _ ||| cond (t_up T k && _) _ _ = _
        rw [hu]
        rfl
      rw [e2] at ih
      rw [cond_true, d_f (by decide : ¬ (1 : Int32) = 0), rC_follow ha hr ht hk, am_bd_ok, am_tl, y_Rw_votersWith_27 _ _ _ _ _ _ ha, bt_bit _ ho _ (by omega) _ (by omega), bt_or _ (bs_256 (by omega)) _ (b_c2 (by omega)), nb_s]
      exact ih
theorem rC_votW (ha : am_isr r) (hr : rC r T I) (ht : t_ok T) {o : Nat} (ho : o < 256) : am_R 45 3 0 [.ref r, .int (Int32.ofNat o), am_u, am_u] [] (am_hp g N sw lv I L) = some (.inl (some (.int (Int32.ofNat (t_vw T o)))), am_hp g N sw lv I L) := by
  rw [y_Rw_votersWith_0 _ ha]
  exact rC_votWL ha hr ht ho (t_n T) 0 (by omega)
theorem t_vw_for (ht : t_ok T) (q : Nat) : t_vw T (bs (t_n T) (fun h => (t_op T h).testBit q)) = t_for T q := by
  refine bs_congr fun h hh => ?_
  rw [bs_at, decide_eq_true (t_fo_lt ht hh)]
  rfl
theorem rC_votF (ha : am_isr r) (hr : rC r T I) (ht : t_ok T) {q : Nat} (hq : q < 8) : am_R 43 4 0 [.ref r, .int (Int32.ofNat q)] [] (am_hp g N sw lv I L) = some (.inl (some (.int (Int32.ofNat (t_for T q)))), am_hp g N sw lv I L) := by
  have hn := ht.1
  rw [y_Rw_votersFor_0 _ ha, rC_opsOn ha hr ht hq, am_bd_ok, am_tl, y_Rw_votersFor_6 _ _ ha, rC_votW ha hr ht (bs_256 hn), am_bd_ok, am_tl, y_Rw_votersFor_9 _ _ ha, t_vw_for ht]
theorem rC_passW (ha : am_isr r) (hr : rC r T I) (ht : t_ok T) {o : Nat} (ho : o < 256) : am_R 105 4 0 [.ref r, .int (Int32.ofNat o)] [] (am_hp g N sw lv I L) = some (.inl (some (.int (cond (decide (b_pc (t_s T) < 2 * b_pc (t_vw T o))) 1 0))), am_hp g N sw lv I L) := by
  have hn := ht.1
  have h1 := b_pc_le (t_s T)
  have h2 := b_pc_le (t_vw T o)
  rw [y_Rw_passesWith_0 _ ha, rC_votW ha hr ht ho, am_bd_ok, am_tl, y_Rw_passesWith_6 _ _ _ ha, b_pc_c (t_vw T o) (bs_256 hn), hr.2.2.1, b_pc_c _ (b_256 hn ht.2.1), nb_two, nb_dle (by omega) (by omega)]
  by_cases h : 2 * b_pc (t_vw T o) ≤ b_pc (t_s T)
  · rw [d_t h, d_f (by omega : ¬ b_pc (t_s T) < 2 * b_pc (t_vw T o))]
  · rw [d_f h, d_t (by omega : b_pc (t_s T) < 2 * b_pc (t_vw T o))]
theorem rC_pass (ha : am_isr r) (hr : rC r T I) (ht : t_ok T) {q : Nat} (hq : q < 8) : am_R 104 5 0 [.ref r, .int (Int32.ofNat q)] [] (am_hp g N sw lv I L) = some (.inl (some (.int (cond (t_ps T q) 1 0))), am_hp g N sw lv I L) := by
  have hn := ht.1
  rw [y_Rw_passes_0 _ ha, rC_opsOn ha hr ht hq, am_bd_ok, am_tl, y_Rw_passes_6 _ _ ha, rC_passW ha hr ht (bs_256 hn), am_bd_ok, am_tl, y_Rw_passes_9 _ _ ha, t_vw_for ht, c_t (narrowZ _)]
  rfl
/-- the sugar of some -/
def t_sg (T : tr_T) (b : Nat) : Int32 := fd (t_n T) (fun h a => cond (b.testBit h) (a + t_su T h) a) 0
theorem rC_sgL (ha : am_isr r) (hr : rC r T I) (ht : t_ok T) {b : Nat} (hb : b < 256) : ∀ c k, k + c = t_n T → am_R 87 1 4 [.ref r, .int (Int32.ofNat b), .int (fd k (fun h a => cond (b.testBit h) (a + t_su T h) a) 0), .int (Int32.ofNat k)] [] (am_hp g N sw lv I L) = some (.inl (some (.int (t_sg T b))), am_hp g N sw lv I L)
  | 0, k, hc => by
    have hn := ht.1
    rw [y_Rw_sugarOf_4 _ _ _ ha, hr.1, nb_dle (by omega) (by omega), d_t (by omega : t_n T ≤ k), show k = t_n T by omega]
    rfl
  | c + 1, k, hc => by
    have hn := ht.1
    have ih := rC_sgL ha hr ht hb c (k + 1) (by omega)
    rw [y_Rw_sugarOf_4 _ _ _ ha, hr.1, nb_dle (by omega) (by omega), d_f (by omega : ¬ t_n T ≤ k), c_t (nb_inb (by omega) (by omega)), nb_tn (by omega), (hr.2.2.2.1 k (by omega)).1, bt_v _ hb _ (by omega), nb_s]
    rw [fd] at ih
    cases hq : b.testBit k with
    | true =>
      rw [hq] at ih
      rw [cond_true, Int32.one_mul]
      exact ih
    | false =>
      rw [hq] at ih
      rw [cond_false, Int32.zero_mul, Int32.add_zero]
      exact ih
theorem rC_sg (ha : am_isr r) (hr : rC r T I) (ht : t_ok T) {b : Nat} (hb : b < 256) : am_R 87 1 0 [.ref r, .int (Int32.ofNat b), am_u, am_u] [] (am_hp g N sw lv I L) = some (.inl (some (.int (t_sg T b))), am_hp g N sw lv I L) := by
  rw [y_Rw_sugarOf_0 _ ha]
  exact rC_sgL ha hr ht hb (t_n T) 0 (by omega)
theorem b_all : ∀ n, n < 9 → (1 <<< (Int32.ofNat n &&& 31)) - 1 = Int32.ofNat (2 ^ n - 1) := by decide +kernel
theorem rC_allSg (ha : am_isr r) (hr : rC r T I) (ht : t_ok T) : am_R 86 2 0 [.ref r] [] (am_hp g N sw lv I L) = some (.inl (some (.int (t_sg T (2 ^ t_n T - 1)))), am_hp g N sw lv I L) := by
  have hn := ht.1
  have h8 : (2 : Nat) ^ t_n T ≤ 2 ^ 8 := Nat.pow_le_pow_right (by decide) hn
  have h1 : 0 < (2 : Nat) ^ t_n T := Nat.two_pow_pos _
  rw [y_Rw_allSugar_0 ha, hr.1, b_all _ (by omega), rC_sg ha hr ht (by omega), am_bd_ok, am_tl, y_Rw_allSugar_12 _ ha]
theorem rC_fr {I' : Nat → Nat → Int32} (hr : rC r T I) (h : ∀ a, r ≤ a → a ≤ r + 6 → I' a = I a) : rC r T I' := by
  unfold rC
  rw [h r (by omega) (by omega), h (r + 1) (by omega) (by omega), h (r + 2) (by omega) (by omega), h (r + 3) (by omega) (by omega), h (r + 4) (by omega) (by omega), h (r + 5) (by omega) (by omega), h (r + 6) (by omega) (by omega)]
  exact hr
theorem rC_pgA (ha : am_isr r) : ∀ c k (I : Nat → Nat → Int32), k + c = 6 → (∀ q, q < k → I (r + 9) q = 0) → ∃ I', am_R 37 4 2 [.ref r, .int (Int32.ofNat k), am_u, am_u] [] (am_hp g N sw lv I L) = am_R 37 4 23 [.ref r, .int 0, am_u, am_u] [] (am_hp g N sw lv I' L) ∧ (∀ a, a ≠ r + 9 → I' a = I a) ∧ ∀ q, q < 6 → I' (r + 9) q = 0
  | 0, k, I, hc, hz => ⟨I, by
    obtain rfl : k = 6 := by omega
    rw [y_Rw_passing_2 _ ha, d_t (by decide)], fun _ _ => rfl, fun q hq => hz q (by omega)⟩
  | c + 1, k, I, hc, hz => by
    obtain ⟨I', e1, e2, e3⟩ := rC_pgA ha c (k + 1) (am_up I (r + 9) (upd (I (r + 9)) k 0)) (by omega) (fun q hq => by
      rw [up_same]
      by_cases e : q = k
      · rw [e, upd_same]
      · rw [upd_ne e]
        exact hz q (by omega))
    refine ⟨I', ?_, fun a h => by rw [e2 a h, up_ne h], e3⟩
    rw [y_Rw_passing_2 _ ha, d_f (show ¬ (6 : Int32) ≤ Int32.ofNat k from fun q => by have := (nb_le (a := 6) (by decide) (by omega)).mp q; omega), c_t (nb_inb (by omega) (by omega)), nb_tn (by omega), nb_s]
    exact e1
theorem rC_pgB (ha : am_isr r) (x : Int32) {v : Nat} (hv : v < 256) : ∀ c k (I : Nat → Nat → Int32), k + c = 6 → ∃ I', am_R 37 4 51 [.ref r, .int x, .int (Int32.ofNat v), .int (Int32.ofNat k)] [] (am_hp g N sw lv I L) = am_R 37 4 23 [.ref r, .int (x + 1), .int (Int32.ofNat v), .int 6] [] (am_hp g N sw lv I' L) ∧ (∀ a, a ≠ r + 9 → I' a = I a) ∧ ∀ q, q < 6 → I' (r + 9) q = I (r + 9) q + cond (decide (k ≤ q) && v.testBit q) 1 0
  | 0, k, I, hc => ⟨I, by
    obtain rfl : k = 6 := by omega
    rw [y_Rw_passing_51 _ _ _ ha, d_t (by decide)]
    rfl, fun _ _ => rfl, fun q hq => by
      rw [decide_eq_false (by omega : ¬ k ≤ q), Bool.false_and, cond_false, Int32.add_zero]⟩
  | c + 1, k, I, hc => by
    obtain ⟨I', e1, e2, e3⟩ := rC_pgB ha x hv c (k + 1) (am_up I (r + 9) (upd (I (r + 9)) k (I (r + 9) k + cond (v.testBit k) 1 0))) (by omega)
    refine ⟨I', ?_, fun a h => by rw [e2 a h, up_ne h], fun q hq => ?_⟩
    · rw [y_Rw_passing_51 _ _ _ ha, d_f (show ¬ (6 : Int32) ≤ Int32.ofNat k from fun q => by have := (nb_le (a := 6) (by decide) (by omega)).mp q; omega), c_t (nb_inb (by omega) (by omega)), c_t (nb_inb (by omega) (by omega)), nb_tn (by omega), bt_v _ hv _ (by omega), nb_s]
      exact e1
    · rw [e3 q hq, up_same]
      by_cases e : q = k
      · subst e
        rw [upd_same, decide_eq_false (by omega : ¬ q + 1 ≤ q), decide_eq_true (Nat.le_refl q), Bool.false_and, cond_false, Bool.true_and, Int32.add_zero]
      · rw [upd_ne e, decide_eq_decide.mpr (show k + 1 ≤ q ↔ k ≤ q by omega)]
theorem rC_pgC (ha : am_isr r) (ht : t_ok T) : ∀ c k (w2 w3 : Value) (I : Nat → Nat → Int32), k + c = t_n T → rC r T I → (∀ q, q < 6 → I (r + 9) q = Int32.ofNat (ct k (fun h => t_up T h && (t_ba T h).testBit q))) → ∃ I', am_R 37 4 23 [.ref r, .int (Int32.ofNat k), w2, w3] [] (am_hp g N sw lv I L) = am_R 37 4 95 [.ref r, .int (Int32.ofNat (b_pc (t_s T))), .int 0, .int 0] [] (am_hp g N sw lv I' L) ∧ (∀ a, a ≠ r + 9 → I' a = I a) ∧ ∀ q, q < 6 → I' (r + 9) q = Int32.ofNat (b_pc (t_for T q))
  | 0, k, w2, w3, I, hc, hr, hz => ⟨I, by
    have hn := ht.1
    rw [y_Rw_passing_23 _ _ _ ha, hr.1, nb_dle (by omega) (by omega), d_t (by omega : t_n T ≤ k), hr.2.2.1, b_pc_c _ (b_256 hn ht.2.1)], fun _ _ => rfl, fun q hq => by
      have hn := ht.1
      rw [hz q hq]
      unfold t_for
      rw [b_pc_bs hn, show k = t_n T by omega]⟩
  | c + 1, k, w2, w3, I, hc, hr, hz => by
    have hn := ht.1
    have hk : k < t_n T := by omega
    have hba : t_ba T k < 64 := t_op_lt ht (t_fo_lt ht hk)
    -- what is added
    have step : ∀ v, v < 256 → (∀ q, q < 6 → v.testBit q = (t_up T k && (t_ba T k).testBit q)) → ∃ I', am_R 37 4 51 [.ref r, .int (Int32.ofNat k), .int (Int32.ofNat v), .int 0] [] (am_hp g N sw lv I L) = am_R 37 4 95 [.ref r, .int (Int32.ofNat (b_pc (t_s T))), .int 0, .int 0] [] (am_hp g N sw lv I' L) ∧ (∀ a, a ≠ r + 9 → I' a = I a) ∧ ∀ q, q < 6 → I' (r + 9) q = Int32.ofNat (b_pc (t_for T q)) := by
      intro v hv hq
      obtain ⟨I1, a1, a2, a3⟩ := rC_pgB (g := g) (N := N) (sw := sw) (lv := lv) (L := L) ha (Int32.ofNat k) hv 6 0 I (by omega)
      obtain ⟨I2, b1, b2, b3⟩ := rC_pgC ha ht c (k + 1) (.int (Int32.ofNat v)) (.int 6) I1 (by omega) (rC_fr hr (fun a h1 h2 => a2 a (by omega))) (fun q hq6 => by
        rw [a3 q hq6, hz q hq6, decide_eq_true (Nat.zero_le q), Bool.true_and, hq q hq6]
        show _ = Int32.ofNat (ct k _ + cond (t_up T k && (t_ba T k).testBit q) 1 0)
        rw [← nb_add]
        cases (t_up T k && (t_ba T k).testBit q) <;> rfl)
      refine ⟨I2, ?_, fun a h => by rw [b2 a h, a2 a h], b3⟩
      rw [nb_s] at a1
      exact a1.trans b1
    rw [y_Rw_passing_23 _ _ _ ha, hr.1, nb_dle (by omega) (by omega), d_f (by omega : ¬ t_n T ≤ k), rC_stands hr ht hk]
    cases hu : t_up T k with
    | false =>
      rw [cond_false, d_t rfl]
      exact step 0 (by decide) (fun q _ => by rw [hu, Nat.zero_testBit]; rfl)
    | true =>
      rw [cond_true, d_f (by decide : ¬ (1 : Int32) = 0), rC_ballot ha hr ht hk, am_bd_ok, am_tl, y_Rw_passing_44 _ _ _ _ ha]
      exact step _ (by omega) (fun q _ => by rw [hu]; rfl)
theorem rC_pgD (ha : am_isr r) {s : Nat} (hs : s ≤ 8) {f : Nat → Nat} (hf : ∀ q, f q ≤ 8) (hz : ∀ q, q < 6 → I (r + 9) q = Int32.ofNat (f q)) : ∀ c k, k + c = 6 → am_R 37 4 95 [.ref r, .int (Int32.ofNat s), .int (Int32.ofNat (bs k (fun q => decide (s < 2 * f q)))), .int (Int32.ofNat k)] [] (am_hp g N sw lv I L) = some (.inl (some (.int (Int32.ofNat (bs 6 (fun q => decide (s < 2 * f q)))))), am_hp g N sw lv I L)
  | 0, k, hc => by
    obtain rfl : k = 6 := by omega
    rw [y_Rw_passing_95 _ _ _ ha, d_t (by decide)]
  | c + 1, k, hc => by
    have ih := rC_pgD ha hs hf hz c (k + 1) (by omega)
    have hk := hf k
    rw [y_Rw_passing_95 _ _ _ ha, d_f (show ¬ (6 : Int32) ≤ Int32.ofNat k from fun q => by have := (nb_le (a := 6) (by decide) (by omega)).mp q; omega), c_t (nb_inb (by omega) (by omega)), nb_tn (by omega), hz k (by omega), nb_two, nb_dle (by omega) (by omega)]
    by_cases h : 2 * f k ≤ s
    · rw [bs_f (P := fun q => decide (s < 2 * f q)) (decide_eq_false (by omega : ¬ s < 2 * f k)), ← nb_s] at ih
      rw [d_t h]
      exact ih
    · rw [bs_t (P := fun q => decide (s < 2 * f q)) (decide_eq_true (by omega : s < 2 * f k)), ← nb_s] at ih
      rw [d_f h, bt_on _ (bs_256 (by omega)) _ (by omega)]
      exact ih
theorem rC_pg (ha : am_isr r) (hr : rC r T I) (ht : t_ok T) : ∃ I', am_R 37 4 0 [.ref r, am_u, am_u, am_u] [] (am_hp g N sw lv I L) = some (.inl (some (.int (Int32.ofNat (t_pg T)))), am_hp g N sw lv I' L) ∧ ∀ a, a ≠ r + 9 → I' a = I a := by
  obtain ⟨I1, a1, a2, a3⟩ := rC_pgA (g := g) (N := N) (sw := sw) (lv := lv) (L := L) ha 6 0 I (by omega) (fun q h => by omega)
  obtain ⟨I2, b1, b2, b3⟩ := rC_pgC (g := g) (N := N) (sw := sw) (lv := lv) (L := L) ha ht (t_n T) 0 am_u am_u I1 (by omega) (rC_fr hr (fun a h1 h2 => a2 a (by omega))) (fun q hq => a3 q hq)
  have c1 := rC_pgD (g := g) (N := N) (sw := sw) (lv := lv) (L := L) (I := I2) ha (b_pc_le (t_s T)) (fun q => b_pc_le (t_for T q)) b3 6 0 (by omega)
  refine ⟨I2, ?_, fun a h => by rw [b2 a h, a2 a h]⟩
  rw [y_Rw_passing_0 ha]
  exact a1.trans (b1.trans c1)
end ROWR
